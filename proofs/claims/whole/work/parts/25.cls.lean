/-! THE CLASS'S OWN METHODS; printed by wip/whole/cls.py -/
set_option maxRecDepth 20000 in
theorem s_isWithin (v a b : Int32) (M : hd_M) (N : hd_N) : hd_Ret mX5_isWithin [.int v, .int a, .int b] M N (hd_is (.int (hd_b (wi v a b))) M N) := by
  change hd_Go mX5_isWithin 0 [some (.int v), some (.int a), some (.int b)] [] M N _
  repeat' first
    | refine hd_ju kX5_isWithin (fun _ => rfl) (fun c => ?_) (fun c => ?_)
    | refine hd_en_ kX5_isWithin (fun _ => rfl) ?_ ?_
    | refine hd_go kX5_isWithin 999 (fun _ => rfl) rfl ?_ ?_
  all_goals first
    | trivial
    | exact Or.inl rfl
    | exact Or.inr rfl
    | exact hd_b01
    | (refine ⟨?_, rfl, rfl⟩; simp_all [-Int32.not_lt, -Int32.not_le, le_n, hd_b])
set_option maxRecDepth 20000 in
theorem s_isMood (v : Int32) (M : hd_M) (N : hd_N) : hd_Ret mX5_isMood [.int v] M N (hd_is (.int (hd_b (wi v 0 99))) M N) := by
  change hd_Go mX5_isMood 0 [some (.int v)] [] M N _
  repeat' first
    | refine hd_ju kX5_isMood (fun _ => rfl) (fun c => ?_) (fun c => ?_)
    | refine hd_en_ kX5_isMood (fun _ => rfl) ?_ ?_
    | refine hd_ci kX5_isMood qX5_isMood (fun _ => rfl) (s_isWithin _ _ _ M N) ?_
    | refine hd_go kX5_isMood 999 (fun _ => rfl) rfl ?_ ?_
  all_goals first
    | trivial
    | exact hd_b01
    | exact ⟨rfl, rfl, rfl⟩
set_option maxRecDepth 20000 in
theorem s_isSpan (v : Int32) (M : hd_M) (N : hd_N) : hd_Ret mX5_isSpan [.int v] M N (hd_is (.int (hd_b (wi v 0 60))) M N) := by
  change hd_Go mX5_isSpan 0 [some (.int v)] [] M N _
  repeat' first
    | refine hd_ju kX5_isSpan (fun _ => rfl) (fun c => ?_) (fun c => ?_)
    | refine hd_en_ kX5_isSpan (fun _ => rfl) ?_ ?_
    | refine hd_ci kX5_isSpan qX5_isSpan (fun _ => rfl) (s_isWithin _ _ _ M N) ?_
    | refine hd_go kX5_isSpan 999 (fun _ => rfl) rfl ?_ ?_
  all_goals first
    | trivial
    | exact hd_b01
    | exact ⟨rfl, rfl, rfl⟩
set_option maxRecDepth 20000 in
theorem s_isSheet (v : Int32) (M : hd_M) (N : hd_N) : hd_Ret mX5_isSheet [.int v] M N (hd_is (.int (hd_b (wi v 0 3))) M N) := by
  change hd_Go mX5_isSheet 0 [some (.int v)] [] M N _
  repeat' first
    | refine hd_ju kX5_isSheet (fun _ => rfl) (fun c => ?_) (fun c => ?_)
    | refine hd_en_ kX5_isSheet (fun _ => rfl) ?_ ?_
    | refine hd_ci kX5_isSheet qX5_isSheet (fun _ => rfl) (s_isWithin _ _ _ M N) ?_
    | refine hd_go kX5_isSheet 999 (fun _ => rfl) rfl ?_ ?_
  all_goals first
    | trivial
    | exact hd_b01
    | exact ⟨rfl, rfl, rfl⟩
set_option maxRecDepth 20000 in
theorem s_isLane (v : Int32) (M : hd_M) (N : hd_N) : hd_Ret mX5_isLane [.int v] M N (hd_is (.int (hd_b (wi v 0 2))) M N) := by
  change hd_Go mX5_isLane 0 [some (.int v)] [] M N _
  repeat' first
    | refine hd_ju kX5_isLane (fun _ => rfl) (fun c => ?_) (fun c => ?_)
    | refine hd_en_ kX5_isLane (fun _ => rfl) ?_ ?_
    | refine hd_ci kX5_isLane qX5_isLane (fun _ => rfl) (s_isWithin _ _ _ M N) ?_
    | refine hd_go kX5_isLane 999 (fun _ => rfl) rfl ?_ ?_
  all_goals first
    | trivial
    | exact hd_b01
    | exact ⟨rfl, rfl, rfl⟩
set_option maxRecDepth 20000 in
theorem s_isOdds (v n : Int32) (M : hd_M) (N : hd_N) : hd_Ret mX5_isOdds [.int v, .int n] M N (hd_is (.int (hd_b (wi v 0 10 ∧ wi n 0 8))) M N) := by
  change hd_Go mX5_isOdds 0 [some (.int v), some (.int n)] [] M N _
  repeat' first
    | refine hd_ju kX5_isOdds (fun _ => rfl) (fun c => ?_) (fun c => ?_)
    | refine hd_en_ kX5_isOdds (fun _ => rfl) ?_ ?_
    | refine hd_ci kX5_isOdds qX5_isOdds (fun _ => rfl) (s_isWithin _ _ _ M N) ?_
    | refine hd_go kX5_isOdds 999 (fun _ => rfl) rfl ?_ ?_
  all_goals first
    | trivial
    | exact Or.inl rfl
    | exact Or.inr rfl
    | (refine ⟨?_, rfl, rfl⟩; simp only [hd_b0, hd_b1] at *; simp_all [-Int32.not_lt, -Int32.not_le, le_n, hd_b])
set_option maxRecDepth 20000 in
theorem s_isThing (i : Int32) (M : hd_M) (N : hd_N) : hd_Ret mX5_isThing [.ref 0, .int i] M N (hd_is (.int (hd_b (¬ i < 0 ∧ i < M 1 5))) M N) := by
  change hd_Go mX5_isThing 0 [some (.ref 0), some (.int i)] [] M N _
  repeat' first
    | refine hd_ju kX5_isThing (fun _ => rfl) (fun c => ?_) (fun c => ?_)
    | refine hd_en_ kX5_isThing (fun _ => rfl) ?_ ?_
    | refine hd_go kX5_isThing 999 (fun _ => rfl) rfl ?_ ?_
  all_goals first
    | trivial
    | exact Or.inl rfl
    | exact Or.inr rfl
    | exact hd_b01
    | (refine ⟨?_, rfl, rfl⟩; simp_all [-Int32.not_lt, -Int32.not_le, le_n, hd_b])
set_option maxRecDepth 20000 in
theorem s_isTrait (w v : Int32) (M : hd_M) (N : hd_N) : hd_Ret mX5_isTrait [.int w, .int v] M N (hd_is (.int (hd_b (tra w v))) M N) := by
  change hd_Go mX5_isTrait 0 [some (.int w), some (.int v)] [] M N _
  repeat' first
    | refine hd_ju kX5_isTrait (fun _ => rfl) (fun c => ?_) (fun c => ?_)
    | refine hd_en_ kX5_isTrait (fun _ => rfl) ?_ ?_
    | refine hd_ci kX5_isTrait qX5_isTrait (fun _ => rfl) (s_isWithin _ _ _ M N) ?_
    | refine hd_sc kX5_isTrait (fun _ => rfl) ⟨fun c => ?_, fun c => ⟨fun c => ?_, fun c => ⟨fun c => ?_, fun c => ?_⟩⟩⟩
    | refine hd_go kX5_isTrait 999 (fun _ => rfl) rfl ?_ ?_
  all_goals first
    | trivial
    | exact hd_b01
    | exact Or.inl rfl
    | (refine ⟨?_, rfl, rfl⟩; simp_all [-Int32.not_lt, -Int32.not_le, tra, hd_b])
set_option maxRecDepth 20000 in
theorem s_fob (o b w : Int32) (M : hd_M) (N : hd_N) : hd_Ret mX5_foundOrBest [.int o, .int b, .int w] M N (hd_is (.int (dy_fob o b w)) M N) := by
  change hd_Go mX5_foundOrBest 0 [some (.int o), some (.int b), some (.int w)] [] M N _
  repeat' first
    | refine hd_ju kX5_foundOrBest (fun _ => rfl) (fun c => ?_) (fun c => ?_)
    | refine hd_en_ kX5_foundOrBest (fun _ => rfl) ?_ ?_
    | refine hd_go kX5_foundOrBest 999 (fun _ => rfl) rfl ?_ ?_
  all_goals first
    | trivial
    | (refine ⟨?_, rfl, rfl⟩; simp_all [dy_fob])
set_option maxRecDepth 20000 in
theorem s_startTrial (M : hd_M) (N : hd_N) (d : dy_T) (hd : hm M 1 d) (hn : d.1 ≤ 7) : hd_Ret mX5_startTrial [.ref 0] M N (fun r M1 N1 => r = none ∧ N1 = N ∧ fr (fun c _ => 7 ≤ c ∧ c ≤ 12) M M1 ∧ hm M1 7 d ∧ ∀ i, i < d.1 → M1 12 i = dy_ch d i) := by
  change hd_Go mX5_startTrial 0 [some (.ref 0)] [] M N _
  refine hd_go kX5_startTrial 999 (fun _ => rfl) rfl trivial ?_
  refine hd_ca kX5_startTrial qX5_startTrial (fun _ => rfl) (s_copyFrom_7_1 M N d hd hn) ?_
  rintro r M1 N1 ⟨rfl, rfl, hf1, hd1⟩
  refine hd_go kX5_startTrial 999 (fun _ => rfl) rfl trivial ?_
  refine hd_ca kX5_startTrial qX5_startTrial (fun _ => rfl) (s_tally_7 M1 N1 d hd1 hn) ?_
  rintro r M2 N2 ⟨rfl, rfl, hf2, hc2⟩
  refine hd_en_ kX5_startTrial (fun _ => rfl) trivial ⟨rfl, rfl, ?_, hd1.mv (fun c j h1 h2 => hf2 c j (by show ¬ c = 12; omega)), hc2⟩
  exact (hf1.mo (fun c j h => by have h : 7 ≤ c ∧ c ≤ 11 := h; show 7 ≤ c ∧ c ≤ 12; omega)).tr (hf2.mo (fun c j h => by have h : c = 12 := h; show 7 ≤ c ∧ c ≤ 12; omega))
abbrev tri : Nat → Nat → Prop := fun c _ => 7 ≤ c ∧ c ≤ 12
set_option maxRecDepth 20000 in
theorem s_moodBehind (M : hd_M) (N : hd_N) (d : dy_T) (hd : hm M 1 d) (ok : dy_ok d) (n : Nat) (hn : n ≤ 60) : hd_Ret mX5_moodBehind [.ref 0, .int (nI n)] M N (fun r M1 N1 => r = some (.int (dy_md n d)) ∧ N1 = N ∧ fr tri M M1) := by
  change hd_Go mX5_moodBehind 0 [some (.ref 0), some (.int (nI n))] [] M N _
  refine hd_go kX5_moodBehind 999 (fun _ => rfl) rfl trivial ?_
  refine hd_ca kX5_moodBehind qX5_moodBehind (fun _ => rfl) (s_copyFrom_7_1 M N d hd ok.1) ?_
  rintro r M1 N1 ⟨rfl, rfl, hf1, hd1⟩
  refine hd_go kX5_moodBehind 999 (fun _ => rfl) rfl trivial ?_
  refine hd_ca kX5_moodBehind qX5_moodBehind (fun _ => rfl) (s_pass_7 M1 N1 d hd1 ok n hn) ?_
  rintro r M2 N2 ⟨rfl, rfl, hf2, hd2⟩
  refine hd_en_ kX5_moodBehind (fun _ => rfl) trivial ⟨rfl, rfl, ?_⟩
  exact (hf1.mo (fun c j h => by have h : 7 ≤ c ∧ c ≤ 11 := h; show 7 ≤ c ∧ c ≤ 12; omega)).tr hf2
set_option maxRecDepth 20000 in
theorem s_moodWith (M : hd_M) (N : hd_N) (d : dy_T) (hd : hm M 1 d) (ok : dy_ok d) (i w : Nat) (hi : i < d.1) (hw : w < 3) (v : Int32) (n : Nat) (hn : n ≤ 60) : hd_Ret mX5_moodWith [.ref 0, .int (nI i), .int (nI w), .int v, .int (nI n)] M N (fun r M1 N1 => r = some (.int (dy_md n (dy_set w i v d))) ∧ N1 = N ∧ fr tri M M1) := by
  change hd_Go mX5_moodWith 0 [some (.ref 0), some (.int (nI i)), some (.int (nI w)), some (.int v), some (.int (nI n))] [] M N _
  refine hd_go kX5_moodWith 999 (fun _ => rfl) rfl trivial ?_
  refine hd_ca kX5_moodWith qX5_moodWith (fun _ => rfl) (s_copyFrom_7_1 M N d hd ok.1) ?_
  rintro r M1 N1 ⟨rfl, rfl, hf1, hd1⟩
  refine hd_go kX5_moodWith 999 (fun _ => rfl) rfl trivial ?_
  refine hd_ca kX5_moodWith qX5_moodWith (fun _ => rfl) (s_change_7 M1 N1 i w (Nat.lt_of_lt_of_le hi ok.1) hw v) ?_
  rintro r M2 N2 ⟨rfl, rfl, rfl⟩
  refine hd_go kX5_moodWith 999 (fun _ => rfl) rfl trivial ?_
  refine hd_ca kX5_moodWith qX5_moodWith (fun _ => rfl) (s_pass_7 _ N2 _ (h_set_7 hd1 w i hw v) (dy_ok_set ok (by omega)) n hn) ?_
  rintro r M3 N3 ⟨rfl, rfl, hf3, hd3⟩
  refine hd_en_ kX5_moodWith (fun _ => rfl) trivial ⟨rfl, rfl, ?_⟩
  exact ((hf1.mo (fun c j h => by have h : 7 ≤ c ∧ c ≤ 11 := h; show 7 ≤ c ∧ c ≤ 12; omega)).up (by show 7 ≤ 8 + w ∧ 8 + w ≤ 12; omega)).tr hf3
set_option maxRecDepth 20000 in
theorem s_outBehind (M : hd_M) (N : hd_N) (d : dy_T) (hd : hm M 1 d) (ok : dy_ok d) (n : Nat) (hn : n ≤ 60) : hd_Ret mX5_outBehind [.ref 0, .int (nI n)] M N (fun r M1 N1 => r = some (.int (dy_bits (fun i => decide (0 < (dy_hs n d).2.2.2.2.2 3 i)) (dy_hs n d).1)) ∧ N1 = N ∧ fr tri M M1) := by
  change hd_Go mX5_outBehind 0 [some (.ref 0), some (.int (nI n))] [] M N _
  refine hd_go kX5_outBehind 999 (fun _ => rfl) rfl trivial ?_
  refine hd_ca kX5_outBehind qX5_outBehind (fun _ => rfl) (s_copyFrom_7_1 M N d hd ok.1) ?_
  rintro r M1 N1 ⟨rfl, rfl, hf1, hd1⟩
  refine hd_go kX5_outBehind 999 (fun _ => rfl) rfl trivial ?_
  refine hd_ca kX5_outBehind qX5_outBehind (fun _ => rfl) (s_pass_7 M1 N1 d hd1 ok n hn) ?_
  rintro r M2 N2 ⟨rfl, rfl, hf2, hd2⟩
  refine hd_go kX5_outBehind 999 (fun _ => rfl) rfl trivial ?_
  refine hd_ci kX5_outBehind qX5_outBehind (fun _ => rfl) (s_outBits_7 M2 N2 _ hd2 (dy_ok_hs n d ok)) ?_
  refine hd_en_ kX5_outBehind (fun _ => rfl) trivial ⟨rfl, rfl, ?_⟩
  exact (hf1.mo (fun c j h => by have h : 7 ≤ c ∧ c ≤ 11 := h; show 7 ≤ c ∧ c ≤ 12; omega)).tr hf2
/-- where the trial stands: a day, its cheers told, nothing else changed -/
def trS (M0 M : hd_M) (d : dy_T) : Prop := fr tri M0 M ∧ hm M 7 d ∧ dy_ok d ∧ ∀ i, i < d.1 → M 12 i = dy_ch d i
set_option maxRecDepth 20000 in
theorem s_one (M0 M : hd_M) (N : hd_N) (d : dy_T) (h : trS M0 M d) (lv : Int32) (lid : Bool) (hl : lv = if lid then 1 else 0) : hd_Ret mX0_passOne [.ref 7, .int lv] M N (fun r M1 N1 => r = none ∧ N1 = N ∧ trS M0 M1 (dy_ho lid d)) := by
  obtain ⟨h1, h2, h3, h4⟩ := h
  refine hd_Go.post ?_ (s_passOne_7 M N d h2 h3 h4 lv lid hl)
  rintro r M1 N1 ⟨rfl, rfl, hf, hd⟩
  refine ⟨rfl, rfl, h1.tr (hf.mo (fun c j z => by have z : 7 ≤ c ∧ c ≤ 11 := z; show 7 ≤ c ∧ c ≤ 12; omega)), hd, dy_ok_ho h3, fun i hi => ?_⟩
  rw [hf 12 i (by simp), dy_ch_ho]
  exact h4 i hi
set_option maxRecDepth 20000 in
theorem s_start (M : hd_M) (N : hd_N) (d : dy_T) (hd : hm M 1 d) (ok : dy_ok d) : hd_Ret mX5_startTrial [.ref 0] M N (fun r M1 N1 => r = none ∧ N1 = N ∧ trS M M1 d) := by
  refine hd_Go.post ?_ (s_startTrial M N d hd ok.1)
  rintro r M1 N1 ⟨rfl, rfl, hf, h1, h2⟩
  exact ⟨rfl, rfl, hf, h1, ok, h2⟩
set_option maxRecDepth 20000 in
theorem s_utmost_l (M : hd_M) (N : hd_N) (n : Nat) (hn : n ≤ 60) (g : Int32) : ∀ (m j : Nat) (u : Int32) (d : dy_T) (M' : hd_M), j + m = n → trS M M' d → hd_Go mX5_utmostMood 15 [some (.ref 0), some (.int (nI n)), some (.int g), some (.int u), some (.int (nI j))] [] M' N (fun r M1 N1 => r = some (.int (if g = 0 then dy_mn m u d else dy_mx m u d)) ∧ N1 = N ∧ fr tri M M1) := by
  intro m
  induction m with
  | zero =>
    intro j u d M' hj ht
    refine hd_go kX5_utmostMood 999 (fun _ => rfl) rfl trivial ?_
    refine hd_ju kX5_utmostMood (fun _ => rfl) (fun c => ?_) (fun c => ?_)
    · refine hd_go kX5_utmostMood 999 (fun _ => rfl) rfl trivial ?_
      refine hd_en_ kX5_utmostMood (fun _ => rfl) trivial ⟨?_, rfl, ht.1⟩
      rw [dy_mn, dy_mx, ite_self]
    · exact absurd (nI_le (by omega) (by omega)) c
  | succ m ih =>
    intro j u d M' hj ht
    refine hd_go kX5_utmostMood 999 (fun _ => rfl) rfl trivial ?_
    refine hd_ju kX5_utmostMood (fun _ => rfl) (fun c => ?_) (fun c => ?_)
    · exact absurd c (nI_ge (by omega) (by omega))
    refine hd_go kX5_utmostMood 999 (fun _ => rfl) rfl trivial ?_
    refine hd_ca kX5_utmostMood qX5_utmostMood (fun _ => rfl) (s_one M M' N d ht 0 false rfl) ?_
    rintro r M1 N1 ⟨rfl, rfl, ht1⟩
    refine hd_go kX5_utmostMood 999 (fun _ => rfl) rfl trivial ?_
    refine hd_ju kX5_utmostMood (fun _ => rfl) (fun c => ?_) (fun c => ?_)
    · refine hd_go kX5_utmostMood 999 (fun _ => rfl) rfl trivial ?_
      rw [nI_1, show M1 7 7 = (dy_ho false d).2.2.1 from ht1.2.1.2.2.1]
      have := ih (j + 1) (if (dy_ho false d).2.2.1 < u then (dy_ho false d).2.2.1 else u) _ M1 (by omega) ht1
      rw [if_pos c] at this ⊢
      exact this
    · refine hd_go kX5_utmostMood 999 (fun _ => rfl) rfl trivial ?_
      refine hd_go kX5_utmostMood 999 (fun _ => rfl) rfl trivial ?_
      rw [nI_1, show M1 7 7 = (dy_ho false d).2.2.1 from ht1.2.1.2.2.1]
      have := ih (j + 1) (if u < (dy_ho false d).2.2.1 then (dy_ho false d).2.2.1 else u) _ M1 (by omega) ht1
      rw [if_neg c] at this ⊢
      exact this
set_option maxRecDepth 20000 in
theorem s_utmost (M : hd_M) (N : hd_N) (d : dy_T) (hd : hm M 1 d) (ok : dy_ok d) (n : Nat) (hn : n ≤ 60) (g : Int32) : hd_Ret mX5_utmostMood [.ref 0, .int (nI n), .int g] M N (fun r M1 N1 => r = some (.int (if g = 0 then dy_mn n d.2.2.1 d else dy_mx n d.2.2.1 d)) ∧ N1 = N ∧ fr tri M M1) := by
  change hd_Go mX5_utmostMood 0 [some (.ref 0), some (.int (nI n)), some (.int g), none, none] [] M N _
  refine hd_go kX5_utmostMood 999 (fun _ => rfl) rfl trivial ?_
  refine hd_ca kX5_utmostMood qX5_utmostMood (fun _ => rfl) (s_start M N d hd ok) ?_
  rintro r M1 N1 ⟨rfl, rfl, ht⟩
  refine hd_go kX5_utmostMood 15 (fun _ => rfl) rfl trivial ?_
  rw [show M1 7 7 = d.2.2.1 from ht.2.1.2.2.1]
  exact s_utmost_l M N1 n hn g n 0 _ d M1 (by omega) ht
set_option maxRecDepth 20000 in
theorem s_first_l (M : hd_M) (N : hd_N) (d0 : dy_T) (h1 : hm M 1 d0) (n : Nat) (hn : n ≤ 60) : ∀ (m j : Nat) (d : dy_T) (M' : hd_M), j + m = n → trS M M' d → d.2.2.2.2.1 = d0.2.2.2.2.1 + nI j → hd_Go mX5_firstAtZero 6 [some (.ref 0), some (.int (nI n)), some (.int (nI j))] [] M' N (fun r M1 N1 => r = some (.int (dy_first (fun d => decide (d.2.2.1 = 0)) m j d)) ∧ N1 = N ∧ fr tri M M1) := by
  have tail : ∀ (j : Nat) (d : dy_T) (M' : hd_M), trS M M' d → d.2.2.2.2.1 = d0.2.2.2.2.1 + nI j → hd_Go mX5_firstAtZero 35 [some (.ref 0), some (.int (nI n)), some (.int (nI j))] [] M' N (fun r M1 N1 => r = some (.int (if d.2.2.1 = 0 then nI j else -4)) ∧ N1 = N ∧ fr tri M M1) := by
    intro j d M' ht hh
    refine hd_go kX5_firstAtZero 999 (fun _ => rfl) rfl trivial ?_
    rw [show M' 7 7 = d.2.2.1 from ht.2.1.2.2.1]
    refine hd_ju kX5_firstAtZero (fun _ => rfl) (fun c => ?_) (fun c => ?_)
    · refine hd_go kX5_firstAtZero 999 (fun _ => rfl) rfl trivial ?_
      refine hd_en_ kX5_firstAtZero (fun _ => rfl) trivial ⟨?_, rfl, ht.1⟩
      rw [if_neg c]
    · refine hd_go kX5_firstAtZero 999 (fun _ => rfl) rfl trivial ?_
      refine hd_en_ kX5_firstAtZero (fun _ => rfl) trivial ⟨?_, rfl, ht.1⟩
      rw [if_pos c, show M' 7 9 = d.2.2.2.2.1 from ht.2.1.2.2.2.2.1, ht.1 1 9 (by simp), show M 1 9 = d0.2.2.2.2.1 from h1.2.2.2.2.1, hh, Int32.add_comm, Int32.add_sub_cancel]
  intro m
  induction m with
  | zero =>
    intro j d M' hj ht hh
    refine hd_go kX5_firstAtZero 999 (fun _ => rfl) rfl trivial ?_
    refine hd_ju kX5_firstAtZero (fun _ => rfl) (fun c => ?_) (fun c => ?_)
    · refine hd_Go.post ?_ (tail j d M' ht hh)
      rintro r M1 N1 ⟨rfl, h2⟩
      refine ⟨?_, h2⟩
      by_cases z : d.2.2.1 = 0
      · simp [dy_first, z]
      · simp [dy_first, z]
    · exact absurd (nI_le (by omega) (by omega)) c
  | succ m ih =>
    intro j d M' hj ht hh
    refine hd_go kX5_firstAtZero 999 (fun _ => rfl) rfl trivial ?_
    refine hd_ju kX5_firstAtZero (fun _ => rfl) (fun c => ?_) (fun c => ?_)
    · exact absurd c (nI_ge (by omega) (by omega))
    refine hd_go kX5_firstAtZero 999 (fun _ => rfl) rfl trivial ?_
    rw [show M' 7 7 = d.2.2.1 from ht.2.1.2.2.1]
    refine hd_ju kX5_firstAtZero (fun _ => rfl) (fun c => ?_) (fun c => ?_)
    · have z : d.2.2.1 = 0 := Int32.le_antisymm c ht.2.2.1.2.2.2.2.1
      refine hd_Go.post ?_ (tail j d M' ht hh)
      rintro r M1 N1 ⟨rfl, h2⟩
      refine ⟨?_, h2⟩
      simp [dy_first, z]
    · have z : ¬ d.2.2.1 = 0 := fun z => c (by rw [z]; decide)
      refine hd_go kX5_firstAtZero 999 (fun _ => rfl) rfl trivial ?_
      refine hd_ca kX5_firstAtZero qX5_firstAtZero (fun _ => rfl) (s_one M M' N d ht 0 false rfl) ?_
      rintro r M1 N1 ⟨rfl, rfl, ht1⟩
      refine hd_go kX5_firstAtZero 999 (fun _ => rfl) rfl trivial ?_
      rw [nI_1]
      have := ih (j + 1) (dy_ho false d) M1 (by omega) ht1 (by show d.2.2.2.2.1 + 1 = _; rw [hh, nI_succ, Int32.add_assoc])
      rw [dy_first]
      simp only [z, decide_false, Bool.false_eq_true, if_false]
      exact this
set_option maxRecDepth 20000 in
theorem s_first0 (M : hd_M) (N : hd_N) (d : dy_T) (hd : hm M 1 d) (ok : dy_ok d) (n : Nat) (hn : n ≤ 60) : hd_Ret mX5_firstAtZero [.ref 0, .int (nI n)] M N (fun r M1 N1 => r = some (.int (dy_first (fun d => decide (d.2.2.1 = 0)) n 0 d)) ∧ N1 = N ∧ fr tri M M1) := by
  change hd_Go mX5_firstAtZero 0 [some (.ref 0), some (.int (nI n)), none] [] M N _
  refine hd_go kX5_firstAtZero 999 (fun _ => rfl) rfl trivial ?_
  refine hd_ca kX5_firstAtZero qX5_firstAtZero (fun _ => rfl) (s_start M N d hd ok) ?_
  rintro r M1 N1 ⟨rfl, rfl, ht⟩
  refine hd_go kX5_firstAtZero 6 (fun _ => rfl) rfl trivial ?_
  exact s_first_l M N1 d hd n hn n 0 d M1 (by omega) ht (by rw [nI_0, Int32.add_zero])
