/-! LUCK AND MEAN, THE REFERENCE'S SIDE; printed by wip/whole/luck2.py -/
set_option maxRecDepth 20000 in
theorem hd_uN_s (N : hd_N) (k j : Nat) (x : Int64) : hd_uN N k j x k j = x := by simp [hd_uN]
set_option maxRecDepth 20000 in
theorem hd_uN_n {N : hd_N} {k j c i : Nat} {x : Int64} (h : ¬ (c = k ∧ i = j)) : hd_uN N k j x c i = N c i := by
  unfold hd_uN
  rw [if_neg h]
set_option maxRecDepth 20000 in
theorem hd_fgC4 {I : hd_I} {pc : Nat} {st : List Value} {M : hd_M} {N : hd_N} {Q : hd_Q} {a0 a1 a2 a3 a4 a5 a6 a7 a8 a9 : Option Value} (h : hd_Go I pc [a0, a1, a2, a3, none, none, a6, a7, a8, a9] st M N Q) : hd_Go I pc [a0, a1, a2, a3, a4, a5, a6, a7, a8, a9] st M N Q := by
  refine hd_Go.less (lv' := [a0, a1, a2, a3, none, none, a6, a7, a8, a9]) (by simp) ?_ h
  intro j v h
  match j, h with
  | 0, h => exact h
  | 1, h => exact h
  | 2, h => exact h
  | 3, h => exact h
  | 4, h => cases h
  | 5, h => cases h
  | 6, h => exact h
  | 7, h => exact h
  | 8, h => exact h
  | 9, h => exact h
  | j + 10, h => cases h
set_option maxRecDepth 20000 in
theorem hd_fgC6 {I : hd_I} {pc : Nat} {st : List Value} {M : hd_M} {N : hd_N} {Q : hd_Q} {a0 a1 a2 a3 a4 a5 a6 a7 a8 a9 : Option Value} (h : hd_Go I pc [a0, a1, a2, a3, a4, a5, none, none, a8, a9] st M N Q) : hd_Go I pc [a0, a1, a2, a3, a4, a5, a6, a7, a8, a9] st M N Q := by
  refine hd_Go.less (lv' := [a0, a1, a2, a3, a4, a5, none, none, a8, a9]) (by simp) ?_ h
  intro j v h
  match j, h with
  | 0, h => exact h
  | 1, h => exact h
  | 2, h => exact h
  | 3, h => exact h
  | 4, h => exact h
  | 5, h => exact h
  | 6, h => cases h
  | 7, h => cases h
  | 8, h => exact h
  | 9, h => exact h
  | j + 10, h => cases h
set_option maxRecDepth 20000 in
theorem hd_fgC8 {I : hd_I} {pc : Nat} {st : List Value} {M : hd_M} {N : hd_N} {Q : hd_Q} {a0 a1 a2 a3 a4 a5 a6 a7 a8 a9 : Option Value} (h : hd_Go I pc [a0, a1, a2, a3, a4, a5, a6, a7, none, none] st M N Q) : hd_Go I pc [a0, a1, a2, a3, a4, a5, a6, a7, a8, a9] st M N Q := by
  refine hd_Go.less (lv' := [a0, a1, a2, a3, a4, a5, a6, a7, none, none]) (by simp) ?_ h
  intro j v h
  match j, h with
  | 0, h => exact h
  | 1, h => exact h
  | 2, h => exact h
  | 3, h => exact h
  | 4, h => exact h
  | 5, h => exact h
  | 6, h => exact h
  | 7, h => exact h
  | 8, h => cases h
  | 9, h => cases h
  | j + 10, h => cases h
set_option maxRecDepth 20000 in
theorem r_com_l (M : hd_M) (N : hd_N) (A B : Int64) : ∀ (n b a : Nat), b ≤ n → a < 2 ^ 50 → b < 2 ^ 50 → hd_Go mX6_common 6 [some (.long A), none, some (.long B), none, some (.long (lN a)), none, some (.long (lN b)), none, none, none] [] M N (hd_is (.long (lN (Nat.gcd b a))) M N) := by
  have zero : ∀ a : Nat, hd_Go mX6_common 6 [some (.long A), none, some (.long B), none, some (.long (lN a)), none, some (.long (lN 0)), none, none, none] [] M N (hd_is (.long (lN (Nat.gcd 0 a))) M N) := by
    intro a
    rw [Nat.gcd_zero_left]
    refine hd_go kX6_common 999 (fun _ => rfl) rfl trivial ?_
    refine hd_ju kX6_common (fun _ => rfl) (fun c => ?_) (fun c => absurd ((lg_eq (lN 0) 0).mpr rfl) c)
    refine hd_go kX6_common 999 (fun _ => rfl) rfl trivial ?_
    exact hd_en_ kX6_common (fun _ => rfl) trivial ⟨rfl, rfl, rfl⟩
  intro n
  induction n with
  | zero =>
    intro b a hn ha hb
    have : b = 0 := by omega
    subst this
    exact zero a
  | succ n ih =>
    intro b a hn ha hb
    rcases Nat.eq_zero_or_pos b with z | z
    · subst z; exact zero a
    · have hb0 : ¬ lN b = 0 := fun e => by
        have := (pk_lEQ (a := b) (b := 0) (by omega) (by decide)).mp e
        omega
      refine hd_go kX6_common 999 (fun _ => rfl) rfl trivial ?_
      refine hd_ju kX6_common (fun _ => rfl) (fun c => absurd ((lg_eq _ _).mp c) hb0) (fun c => ?_)
      refine hd_go kX6_common 22 (fun _ => rfl) rfl ⟨trivial, hb0⟩ ?_
      rw [pk_lRem (by omega) z (by omega)]
      refine hd_fgC4 ?_
      refine hd_go kX6_common 26 (fun _ => rfl) rfl trivial ?_
      refine hd_fgC6 ?_
      refine hd_go kX6_common 6 (fun _ => rfl) rfl trivial ?_
      refine hd_fgC8 ?_
      have hm := Nat.mod_lt a z
      rw [Nat.gcd_rec b a]
      exact ih (a % b) b (by omega) hb (by omega)
set_option maxRecDepth 20000 in
theorem r_com (M : hd_M) (N : hd_N) (a b : Nat) (ha : a < 2 ^ 50) (hb : b < 2 ^ 50) : hd_Ret mX6_common [.long (lN a), .long (lN b)] M N (hd_is (.long (lN (Nat.gcd b a))) M N) := by
  change hd_Go mX6_common 0 [some (.long (lN a)), none, some (.long (lN b)), none, none, none, none, none, none, none] [] M N _
  refine hd_go kX6_common 6 (fun _ => rfl) rfl trivial ?_
  exact r_com_l M N _ _ b b a (Nat.le_refl _) ha hb
set_option maxRecDepth 20000 in
theorem r_told (M : hd_M) (N : hd_N) (U n : Nat) (hn : n ≤ 8) (hU : U < 2 ^ 42) (q : Int32) : hd_Ret mX6_told [.long (lN U), .long (lN (10 ^ n)), .int q] M N (hd_is (.long (lk_a U n q)) M N) := by
  obtain ⟨p1, p2⟩ := pw10 hn
  obtain ⟨D, hD⟩ : ∃ D, D = 10 ^ n := ⟨_, rfl⟩
  unfold lk_a
  rw [← hD] at p1 p2 ⊢
  change hd_Go mX6_told 0 [some (.long (lN U)), none, some (.long (lN D)), none, some (.int q), none, none] [] M N _
  have hg : 0 < Nat.gcd U D := Nat.gcd_pos_of_pos_right _ p2
  have hgD : Nat.gcd U D ≤ D := Nat.le_of_dvd p2 (Nat.gcd_dvd_right U D)
  have g0 : ¬ lN (Nat.gcd U D) = 0 := fun e => by
    have := (pk_lEQ (a := Nat.gcd U D) (b := 0) (by omega) (by decide)).mp e
    omega
  refine hd_go kX6_told 999 (fun _ => rfl) rfl trivial ?_
  refine hd_ci kX6_told qX6_told (fun _ => rfl) (r_com M N D U (by omega) (by omega)) ?_
  refine hd_go kX6_told 999 (fun _ => rfl) rfl trivial ?_
  refine hd_ju kX6_told (fun _ => rfl) (fun c => ?_) (fun c => ?_)
  · rw [if_neg c]
    refine hd_go kX6_told 999 (fun _ => rfl) rfl ⟨trivial, g0⟩ ?_
    rw [pk_lDiv (by omega) hg (by omega)]
    exact hd_en_ kX6_told (fun _ => rfl) trivial ⟨rfl, rfl, rfl⟩
  · rw [if_pos c]
    refine hd_go kX6_told 23 (fun _ => rfl) rfl ⟨trivial, g0⟩ ?_
    rw [pk_lDiv (by omega) hg (by omega)]
    exact hd_en_ kX6_told (fun _ => rfl) trivial ⟨rfl, rfl, rfl⟩
set_option maxRecDepth 20000 in
theorem hd_fgO5 {I : hd_I} {pc : Nat} {st : List Value} {M : hd_M} {N : hd_N} {Q : hd_Q} {a0 a1 a2 a3 a4 a5 a6 a7 a8 : Option Value} (h : hd_Go I pc [a0, a1, a2, a3, a4, none, none, a7, a8] st M N Q) : hd_Go I pc [a0, a1, a2, a3, a4, a5, a6, a7, a8] st M N Q := by
  refine hd_Go.less (lv' := [a0, a1, a2, a3, a4, none, none, a7, a8]) (by simp) ?_ h
  intro j v h
  match j, h with
  | 0, h => exact h
  | 1, h => exact h
  | 2, h => exact h
  | 3, h => exact h
  | 4, h => exact h
  | 5, h => cases h
  | 6, h => cases h
  | 7, h => exact h
  | 8, h => exact h
  | j + 9, h => cases h
set_option maxRecDepth 20000 in
theorem hd_fgO8 {I : hd_I} {pc : Nat} {st : List Value} {M : hd_M} {N : hd_N} {Q : hd_Q} {a0 a1 a2 a3 a4 a5 a6 a7 a8 : Option Value} (h : hd_Go I pc [a0, a1, a2, a3, a4, a5, a6, a7, none] st M N Q) : hd_Go I pc [a0, a1, a2, a3, a4, a5, a6, a7, a8] st M N Q := by
  refine hd_Go.less (lv' := [a0, a1, a2, a3, a4, a5, a6, a7, none]) (by simp) ?_ h
  intro j v h
  match j, h with
  | 0, h => exact h
  | 1, h => exact h
  | 2, h => exact h
  | 3, h => exact h
  | 4, h => exact h
  | 5, h => exact h
  | 6, h => exact h
  | 7, h => exact h
  | 8, h => cases h
  | j + 9, h => cases h
set_option maxRecDepth 20000 in
theorem hd_fgO4 {I : hd_I} {pc : Nat} {st : List Value} {M : hd_M} {N : hd_N} {Q : hd_Q} {a0 a1 a2 a3 a4 a5 a6 a7 a8 : Option Value} (h : hd_Go I pc [a0, a1, a2, a3, a4, none, none, none, none] st M N Q) : hd_Go I pc [a0, a1, a2, a3, a4, a5, a6, a7, a8] st M N Q := by
  refine hd_Go.less (lv' := [a0, a1, a2, a3, a4, none, none, none, none]) (by simp) ?_ h
  intro j v h
  match j, h with
  | 0, h => exact h
  | 1, h => exact h
  | 2, h => exact h
  | 3, h => exact h
  | 4, h => exact h
  | 5, h => cases h
  | 6, h => cases h
  | 7, h => cases h
  | 8, h => cases h
  | j + 9, h => cases h
set_option maxRecDepth 20000 in
/-- the hours under lids -/
theorem r_od_1 (M : hd_M) (N : hd_N) (v n : Nat) (hv : v ≤ 10) (hn : n ≤ 8) (w : Int32) (s : Nat) (hs : s < 1024) (Q : hd_Q) (R : Nat) (e : dy_T) (hk : ∀ M1, fr idR M M1 → rf M1 53 0 e → dy_ok e → hd_Go mX6_findOdds 119 [some (.ref 51), some (.int (nI v)), some (.int (nI n)), some (.int w), some (.int (nI s)), some (.long (lN R)), none, some (.int (nI n)), none] [] M1 N Q) : ∀ (m k x : Nat) (d : dy_T) (M' : hd_M), k + m = n → fr idR M M' → rf M' 53 0 d → dy_ok d → lw v s m k x = R → ldd s m k d = e → hd_Go mX6_findOdds 63 [some (.ref 51), some (.int (nI v)), some (.int (nI n)), some (.int w), some (.int (nI s)), some (.long (lN x)), none, some (.int (nI k)), none] [] M' N Q := by
  intro m
  induction m with
  | zero =>
    intro k x d M' hkm hf hd ok h1 h2
    have h1 : x = R := h1
    have h2 : d = e := h2
    have h3 : k = n := by omega
    subst h1 h2 h3
    refine hd_go kX6_findOdds 999 (fun _ => rfl) rfl trivial ?_
    exact hd_ju kX6_findOdds (fun _ => rfl) (fun c => hk M' hf hd ok) (fun c => absurd (nI_le (by omega) (by omega)) c)
  | succ m ih =>
    intro k x d M' hkm hf hd ok h1 h2
    rw [lw] at h1
    rw [ldd] at h2
    have b := as_t2 s hs k (by omega)
    -- behind the lid
    have nx2 : ∀ (y : Nat) (u : Int32), y < 100 → u = (if s.testBit k then 1 else 0) → lw v s m (k + 1) (x * y) = R → hd_Go mX6_findOdds 104 [some (.ref 51), some (.int (nI v)), some (.int (nI n)), some (.int w), some (.int (nI s)), some (.long (lN x)), none, some (.int (nI k)), some (.int u)] [.long (nI y).toInt64, .long (lN x)] M' N Q := by
      intro y u hy hu h1
      rw [nI_l (by omega)]
      refine hd_go kX6_findOdds 105 (fun _ => rfl) rfl trivial ?_
      rw [lN_mul]
      refine hd_fgO5 ?_
      refine hd_go kX6_findOdds 999 (fun _ => rfl) rfl trivial ?_
      refine hd_ca kX6_findOdds qX6_findOdds (fun _ => rfl) (r_hour M' N d hd ok u (s.testBit k) hu) ?_
      rintro r M1 N1 ⟨rfl, rfl, hf1, hd1⟩
      refine hd_go kX6_findOdds 63 (fun _ => rfl) rfl trivial ?_
      rw [nI_1]
      refine hd_fgO8 ?_
      exact ih (k + 1) _ _ M1 (by omega) (hf.tr (n33R hf1)) hd1 (dy_ok_ho ok) h1 h2
    have nx : ∀ u : Int32, u = (if s.testBit k then 1 else 0) → hd_Go mX6_findOdds 85 [some (.ref 51), some (.int (nI v)), some (.int (nI n)), some (.int w), some (.int (nI s)), some (.long (lN x)), none, some (.int (nI k)), none] [.int u] M' N Q := by
      intro u hu
      refine hd_go kX6_findOdds 999 (fun _ => rfl) rfl trivial ?_
      cases hb : s.testBit k with
      | true =>
        rw [hb] at hu h1
        refine hd_ju kX6_findOdds (fun _ => rfl) (fun c => absurd c (by rw [hu]; decide)) (fun c => ?_)
        refine hd_go kX6_findOdds 104 (fun _ => rfl) rfl trivial ?_
        exact nx2 v u (by omega) (by rw [hb]; exact hu) h1
      | false =>
        rw [hb] at hu h1
        refine hd_ju kX6_findOdds (fun _ => rfl) (fun c => ?_) (fun c => absurd hu c)
        refine hd_go kX6_findOdds 104 (fun _ => rfl) rfl trivial ?_
        rw [show (10 : Int32) - nI v = nI (10 - v) from nI_sb (a := 10) hv]
        exact nx2 (10 - v) u (by omega) (by rw [hb]; exact hu) h1
    refine hd_go kX6_findOdds 999 (fun _ => rfl) rfl trivial ?_
    refine hd_ju kX6_findOdds (fun _ => rfl) (fun c => absurd c (nI_ge (by omega) (by omega))) (fun c => ?_)
    refine hd_go kX6_findOdds 999 (fun _ => rfl) rfl trivial ?_
    refine hd_ju kX6_findOdds (fun _ => rfl) (fun c => ?_) (fun c => ?_)
    · refine hd_go kX6_findOdds 85 (fun _ => rfl) rfl trivial ?_
      exact nx 0 (by rw [if_neg (fun z => c (b.mpr z))])
    · refine hd_go kX6_findOdds 85 (fun _ => rfl) rfl trivial ?_
      exact nx 1 (by rw [if_pos (b.mp c)])
/-- the sums stand -/
def odN (N : hd_N) (g s a : Nat) : Prop := N 51 18 = lN g ∧ N 51 19 = lN s ∧ N 51 20 = lN a
set_option maxRecDepth 20000 in
theorem r_od_2 (M : hd_M) (d : dy_T) (hd : rf M 52 0 d) (ok : dy_ok d) (v n : Nat) (hv : v ≤ 10) (hn : n ≤ 8) (w : Int32) (G S A : Nat) : ∀ (m s g u : Nat) (M' : hd_M) (N : hd_N), s + m = 2 ^ n → fr idR M M' → odN N g u A → lk (lk_l v n w d) m s g = G → lk (lk_m v n d) m s u = S → hd_Go mX6_findOdds 45 [some (.ref 51), some (.int (nI v)), some (.int (nI n)), some (.int w), some (.int (nI s)), none, none, none, none] [] M' N (fun r M1 N1 => r = none ∧ fr idR M M1 ∧ odN N1 G S A) := by
  obtain ⟨p1, p2⟩ := pw2 n hn
  have h7 := ok.1
  intro m
  induction m with
  | zero =>
    intro s g u M' N hs hf hN h1 h2
    have h1 : g = G := h1
    have h2 : u = S := h2
    subst h1 h2
    refine hd_go kX6_findOdds 999 (fun _ => rfl) rfl trivial ?_
    rw [p1]
    refine hd_ju kX6_findOdds (fun _ => rfl) (fun c => ?_) (fun c => absurd (nI_le (by omega) (by omega)) c)
    exact hd_en_ kX6_findOdds (fun _ => rfl) trivial ⟨rfl, hf, hN⟩
  | succ m ih =>
    intro s g u M' N hs hf hN h1 h2
    rw [lk] at h1 h2
    refine hd_go kX6_findOdds 999 (fun _ => rfl) rfl trivial ?_
    rw [p1]
    refine hd_ju kX6_findOdds (fun _ => rfl) (fun c => absurd c (nI_ge (by omega) (by omega))) (fun c => ?_)
    refine hd_go kX6_findOdds 999 (fun _ => rfl) rfl trivial ?_
    refine hd_ca kX6_findOdds qX6_findOdds (fun _ => rfl) (r_st M' N d (idR.rf hf hd h7) h7) ?_
    rintro r M1 N1 ⟨rfl, rfl, hf1, hd1, -⟩
    refine hd_go kX6_findOdds 63 (fun _ => rfl) rfl trivial ?_
    refine r_od_1 M N1 v n hv hn w s (by omega) _ (lw v s n 0 1) (ldd s n 0 d) (fun M2 hf2 hd2 ok2 => ?_) n 0 1 d M1 (by omega) (hf.tr (nowR hf1)) hd1 ok rfl rfl
    have e30 : M2 53 30 = lm n d s := hd2.2.2.1
    obtain ⟨j, hj, e1, e2⟩ := lm_nat (n := n) (s := s) ok
    obtain ⟨n1, n2, n3⟩ := hN
    have tail : ∀ (y : Nat) (N2 : hd_N), y = lk_l v n w d s → N2 = hd_uN N1 51 18 (lN (g + y)) → hd_Go mX6_findOdds 145 [some (.ref 51), some (.int (nI v)), some (.int (nI n)), some (.int w), some (.int (nI s)), some (.long (lN (lw v s n 0 1))), none, some (.int (nI n)), none] [] M2 N2 (fun r M1 N1 => r = none ∧ fr idR M M1 ∧ odN N1 G S A) := by
      intro y N2 hy hN2
      refine hd_go kX6_findOdds 45 (fun _ => rfl) rfl ⟨trivial, v46 (n := 30) (by decide)⟩ ?_
      rw [show Int32.toNatClampNeg 30 = 30 from rfl, e30, e1, nI_l (by omega), lN_mul, hN2, hd_uN_n (show ¬ (51 = 51 ∧ 19 = 18) by decide), n2, lN_add, nI_1]
      refine hd_fgO4 ?_
      refine ih (s + 1) (g + y) _ M2 _ (by omega) hf2 ⟨?_, ?_, ?_⟩ (by rw [hy]; exact h1) (by unfold lk_m at h2; rw [e2] at h2; exact h2)
      · rw [hd_uN_n (by decide), hd_uN_s]
      · rw [hd_uN_s]
      · rw [hd_uN_n (by decide), hd_uN_n (by decide)]; exact n3
    refine hd_go kX6_findOdds 999 (fun _ => rfl) rfl ⟨trivial, v46 (n := 30) (by decide)⟩ ?_
    rw [show Int32.toNatClampNeg 30 = 30 from rfl, e30]
    refine hd_ju kX6_findOdds (fun _ => rfl) (fun c => ?_) (fun c => ?_)
    · refine hd_go kX6_findOdds 145 (fun _ => rfl) rfl trivial ?_
      refine tail 0 _ (by unfold lk_l; rw [if_pos c]) ?_
      rw [n1, Int64.add_zero, Nat.add_zero]
    · refine hd_go kX6_findOdds 141 (fun _ => rfl) rfl trivial ?_
      refine hd_go kX6_findOdds 145 (fun _ => rfl) rfl trivial ?_
      refine tail (lw v s n 0 1) _ (by unfold lk_l; rw [if_neg c]) ?_
      rw [n1, lN_add]
set_option maxRecDepth 20000 in
theorem r_od_0 (M : hd_M) (v n : Nat) (hn : n ≤ 8) (w : Int32) (Q : hd_Q) (hk : ∀ N1, odN N1 0 0 (10 ^ n) → hd_Go mX6_findOdds 42 [some (.ref 51), some (.int (nI v)), some (.int (nI n)), some (.int w), some (.int (nI n)), none, none, none, none] [] M N1 Q) : ∀ (m k : Nat) (N : hd_N), k + m = n → odN N 0 0 (10 ^ k) → hd_Go mX6_findOdds 18 [some (.ref 51), some (.int (nI v)), some (.int (nI n)), some (.int w), some (.int (nI k)), none, none, none, none] [] M N Q := by
  intro m
  induction m with
  | zero =>
    intro k N hkm hN
    have h3 : k = n := by omega
    subst h3
    refine hd_go kX6_findOdds 999 (fun _ => rfl) rfl trivial ?_
    exact hd_ju kX6_findOdds (fun _ => rfl) (fun c => hk N hN) (fun c => absurd (nI_le (by omega) (by omega)) c)
  | succ m ih =>
    intro k N hkm hN
    refine hd_go kX6_findOdds 999 (fun _ => rfl) rfl trivial ?_
    refine hd_ju kX6_findOdds (fun _ => rfl) (fun c => absurd c (nI_ge (by omega) (by omega))) (fun c => ?_)
    refine hd_go kX6_findOdds 18 (fun _ => rfl) rfl trivial ?_
    rw [nI_1]
    obtain ⟨n1, n2, n3⟩ := hN
    refine ih (k + 1) _ (by omega) ⟨?_, ?_, ?_⟩
    · rw [hd_uN_n (by decide)]; exact n1
    · rw [hd_uN_n (by decide)]; exact n2
    · rw [hd_uN_s, n3]
      exact lN_mul _ 10
set_option maxRecDepth 20000 in
theorem r_odds (M : hd_M) (N : hd_N) (d : dy_T) (hd : rf M 52 0 d) (ok : dy_ok d) (v n : Nat) (hv : v ≤ 10) (hn : n ≤ 8) (w : Int32) : hd_Ret mX6_findOdds [.ref 51, .int (nI v), .int (nI n), .int w] M N (fun r M1 N1 => r = none ∧ fr idR M M1 ∧ odN N1 (lk (lk_l v n w d) (2 ^ n) 0 0) (lk (lk_m v n d) (2 ^ n) 0 0) (10 ^ n)) := by
  change hd_Go mX6_findOdds 0 [some (.ref 51), some (.int (nI v)), some (.int (nI n)), some (.int w), none, none, none, none, none] [] M N _
  refine hd_go kX6_findOdds 18 (fun _ => rfl) rfl trivial ?_
  refine r_od_0 M v n hn w _ (fun N1 hN => ?_) n 0 _ (by omega) ⟨?_, ?_, ?_⟩
  · refine hd_go kX6_findOdds 45 (fun _ => rfl) rfl trivial ?_
    exact r_od_2 M d hd ok v n hv hn w _ _ _ (2 ^ n) 0 0 0 M N1 (by omega) fr.rf hN rfl rfl
  · rw [hd_uN_n (by decide), hd_uN_n (by decide), hd_uN_s]; rfl
  · rw [hd_uN_n (by decide), hd_uN_s]; rfl
  · rw [hd_uN_s]; rfl
set_option maxRecDepth 20000 in
theorem d_luck (v n w q : Int32) : rA mX6_luck [.int v, .int n, .int w, .int q] (an_luck v n w q) := by
  intro M N st hI hO
  change hd_Go mX6_luck 0 [some (.ref 51), some (.int v), some (.int n), some (.int w), some (.int q)] [] M N _
  have bad : ¬ ((wi v 0 10 ∧ wi n 0 8) ∧ wi w 0 99 ∧ wi q 0 1) → hd_Go mX6_luck 39 [some (.ref 51), some (.int v), some (.int n), some (.int w), some (.int q)] [] M N (fun r M1 _ => r = some (an_luck v n w q st).1 ∧ fr refF M M1 ∧ RI M1 (an_luck v n w q st).2) := by
    intro z
    refine hd_go kX6_luck 999 (fun _ => rfl) rfl trivial ?_
    refine hd_en_ kX6_luck (fun _ => rfl) trivial ?_
    unfold an_luck
    rw [if_neg z]
    exact ⟨rfl, fr.rf, hI⟩
  unfold an_luck at bad ⊢
  refine hd_go kX6_luck 999 (fun _ => rfl) rfl trivial ?_
  refine hd_ci kX6_luck qX6_luck (fun _ => rfl) (r_in v 0 10 _ _ rfl rfl M N) ?_
  refine hd_ju kX6_luck (fun _ => rfl) (fun q => bad (fun z => hd_b0.mp q z.1.1)) (fun q => ?_)
  have q0 := hd_b1.mp q
  refine hd_go kX6_luck 999 (fun _ => rfl) rfl trivial ?_
  refine hd_ci kX6_luck qX6_luck (fun _ => rfl) (r_in n 0 8 _ _ rfl rfl M N) ?_
  refine hd_ju kX6_luck (fun _ => rfl) (fun q => bad (fun z => hd_b0.mp q z.1.2)) (fun q => ?_)
  have q1 := hd_b1.mp q
  refine hd_go kX6_luck 999 (fun _ => rfl) rfl trivial ?_
  refine hd_ci kX6_luck qX6_luck (fun _ => rfl) (r_isMood _ M N) ?_
  refine hd_ju kX6_luck (fun _ => rfl) (fun q => bad (fun z => hd_b0.mp q z.2.1)) (fun q => ?_)
  have q2 := hd_b1.mp q
  refine hd_go kX6_luck 999 (fun _ => rfl) rfl trivial ?_
  refine hd_ci kX6_luck qX6_luck (fun _ => rfl) (r_isPart _ M N) ?_
  refine hd_ju kX6_luck (fun _ => rfl) (fun q => ?_) (fun q => bad (fun z => hd_b0.mp q z.2.2))
  have q3 := hd_b1.mp q
  rw [if_pos ⟨⟨q0, q1⟩, q2, q3⟩]
  obtain ⟨a, ha, rfl⟩ := wi_nat (n := 10) rfl q0
  obtain ⟨b, hb, rfl⟩ := wi_nat (n := 8) rfl q1
  rw [nI_clamp (show a < 2 ^ 31 by omega), nI_clamp (show b < 2 ^ 31 by omega)]
  refine hd_go kX6_luck 999 (fun _ => rfl) rfl trivial ?_
  refine hd_ca kX6_luck qX6_luck (fun _ => rfl) (r_odds M N st.1 hI.1 hO.1 a b ha hb w) ?_
  rintro r M1 N1 ⟨rfl, hf, n1, n2, n3⟩
  refine hd_go kX6_luck 999 (fun _ => rfl) rfl trivial ?_
  rw [n1, n3]
  refine hd_ci kX6_luck qX6_luck (fun _ => rfl) (r_told M1 N1 _ b hb (lk_lt (lk_l_le ha hb) (pw2 b hb).2 (by decide)) _) ?_
  exact hd_en_ kX6_luck (fun _ => rfl) trivial ⟨rfl, hI.q hO hf⟩
set_option maxRecDepth 20000 in
theorem d_mean (v n q : Int32) : rA mX6_mean [.int v, .int n, .int q] (an_mean v n q) := by
  intro M N st hI hO
  change hd_Go mX6_mean 0 [some (.ref 51), some (.int v), some (.int n), some (.int q)] [] M N _
  have bad : ¬ ((wi v 0 10 ∧ wi n 0 8) ∧ wi q 0 1) → hd_Go mX6_mean 31 [some (.ref 51), some (.int v), some (.int n), some (.int q)] [] M N (fun r M1 _ => r = some (an_mean v n q st).1 ∧ fr refF M M1 ∧ RI M1 (an_mean v n q st).2) := by
    intro z
    refine hd_go kX6_mean 999 (fun _ => rfl) rfl trivial ?_
    refine hd_en_ kX6_mean (fun _ => rfl) trivial ?_
    unfold an_mean
    rw [if_neg z]
    exact ⟨rfl, fr.rf, hI⟩
  unfold an_mean at bad ⊢
  refine hd_go kX6_mean 999 (fun _ => rfl) rfl trivial ?_
  refine hd_ci kX6_mean qX6_mean (fun _ => rfl) (r_in v 0 10 _ _ rfl rfl M N) ?_
  refine hd_ju kX6_mean (fun _ => rfl) (fun q => bad (fun z => hd_b0.mp q z.1.1)) (fun q => ?_)
  have q0 := hd_b1.mp q
  refine hd_go kX6_mean 999 (fun _ => rfl) rfl trivial ?_
  refine hd_ci kX6_mean qX6_mean (fun _ => rfl) (r_in n 0 8 _ _ rfl rfl M N) ?_
  refine hd_ju kX6_mean (fun _ => rfl) (fun q => bad (fun z => hd_b0.mp q z.1.2)) (fun q => ?_)
  have q1 := hd_b1.mp q
  refine hd_go kX6_mean 999 (fun _ => rfl) rfl trivial ?_
  refine hd_ci kX6_mean qX6_mean (fun _ => rfl) (r_isPart _ M N) ?_
  refine hd_ju kX6_mean (fun _ => rfl) (fun q => ?_) (fun q => bad (fun z => hd_b0.mp q z.2))
  have q3 := hd_b1.mp q
  rw [if_pos ⟨⟨q0, q1⟩, q3⟩]
  obtain ⟨a, ha, rfl⟩ := wi_nat (n := 10) rfl q0
  obtain ⟨b, hb, rfl⟩ := wi_nat (n := 8) rfl q1
  rw [nI_clamp (show a < 2 ^ 31 by omega), nI_clamp (show b < 2 ^ 31 by omega)]
  refine hd_go kX6_mean 999 (fun _ => rfl) rfl trivial ?_
  refine hd_ca kX6_mean qX6_mean (fun _ => rfl) (r_odds M N st.1 hI.1 hO.1 a b ha hb 0) ?_
  rintro r M1 N1 ⟨rfl, hf, n1, n2, n3⟩
  refine hd_go kX6_mean 999 (fun _ => rfl) rfl trivial ?_
  rw [n2, n3]
  refine hd_ci kX6_mean qX6_mean (fun _ => rfl) (r_told M1 N1 _ b hb (lk_lt (lk_m_le hO.1 ha hb) (pw2 b hb).2 (by decide)) _) ?_
  exact hd_en_ kX6_mean (fun _ => rfl) trivial ⟨rfl, hI.q hO hf⟩
