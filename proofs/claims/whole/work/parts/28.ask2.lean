/-! THE CLASS'S QUESTIONS, GONE ON; printed by wip/whole/api3.py -/
set_option maxRecDepth 20000 in
theorem se_so_false {se : se_T} {d : dy_T} : ∀ (m n : Nat), m ≤ n → se_so se d m = false → se_so se d n = false := by
  intro m n h h0
  induction n with
  | zero => have : m = 0 := by omega
            subst this; exact h0
  | succ n ih =>
    rcases Nat.lt_or_ge n m with z | z
    · have : m = n + 1 := by omega
      subst this; exact h0
    · rw [se_so, ih z, Bool.false_and]
set_option maxRecDepth 20000 in
theorem hd_fg7 {I : hd_I} {pc : Nat} {st : List Value} {M : hd_M} {N : hd_N} {Q : hd_Q} {a0 a1 a2 a3 a4 a5 a6 z : Option Value} (h : hd_Go I pc [a0, a1, a2, a3, a4, a5, a6, none] st M N Q) : hd_Go I pc [a0, a1, a2, a3, a4, a5, a6, z] st M N Q := by
  refine hd_Go.less (lv' := [a0, a1, a2, a3, a4, a5, a6, none]) (by simp) ?_ h
  intro j v h
  match j, h with
  | 0, h => exact h
  | 1, h => exact h
  | 2, h => exact h
  | 3, h => exact h
  | 4, h => exact h
  | 5, h => exact h
  | 6, h => exact h
  | 7, h => cases h
  | j + 8, h => cases h
set_option maxRecDepth 20000 in
theorem hd_fg67 {I : hd_I} {pc : Nat} {st : List Value} {M : hd_M} {N : hd_N} {Q : hd_Q} {a0 a1 a2 a3 a4 a5 y z : Option Value} (h : hd_Go I pc [a0, a1, a2, a3, a4, a5, none, none] st M N Q) : hd_Go I pc [a0, a1, a2, a3, a4, a5, y, z] st M N Q := by
  refine hd_Go.less (lv' := [a0, a1, a2, a3, a4, a5, none, none]) (by simp) ?_ h
  intro j v h
  match j, h with
  | 0, h => exact h
  | 1, h => exact h
  | 2, h => exact h
  | 3, h => exact h
  | 4, h => exact h
  | 5, h => exact h
  | 6, h => cases h
  | 7, h => cases h
  | j + 8, h => cases h
set_option maxRecDepth 20000 in
theorem hm.tr1 {M M' : hd_M} {d : dy_T} (h : hm M 1 d) (hf : fr tri M M') : hm M' 1 d := h.mv (fun c j h1 h2 => hf c j (by show ¬ (7 ≤ c ∧ c ≤ 12); omega))
set_option maxRecDepth 20000 in
theorem tri_of {M M' M1 : hd_M} (h : fr tri M M') (h1 : fr (fun c _ => 7 ≤ c ∧ c ≤ 11) M' M1) : fr tri M M1 := h.tr (h1.mo (fun c j h => by have h : 7 ≤ c ∧ c ≤ 11 := h; show 7 ≤ c ∧ c ≤ 12; omega))
set_option maxRecDepth 20000 in
theorem c_swap_i (M : hd_M) (N : hd_N) (d : dy_T) (hd : hm M 1 d) (ok : dy_ok d) (n : Nat) (hn : n ≤ 60) (w : Int32) (i : Nat) (hi : i < d.1) (Q : hd_Q) : ∀ (m j : Nat) (b o : Int32) (M' : hd_M), j + m = d.1 → i < j → fr tri M M' → (∀ (M1 : hd_M) (y z : Option Value), fr tri M M1 → hd_Go mX5_swap 131 [some (.ref 0), some (.int (nI n)), some (.int w), some (.int (dy_best (fun j => dy_md n (dy_exc i j d)) (fun j => 10 * nI i + nI j) m j b o).1), some (.int (dy_best (fun j => dy_md n (dy_exc i j d)) (fun j => 10 * nI i + nI j) m j b o).2), some (.int (nI i)), y, z] [] M1 N Q) → hd_Go mX5_swap 62 [some (.ref 0), some (.int (nI n)), some (.int w), some (.int b), some (.int o), some (.int (nI i)), some (.int (nI j)), none] [] M' N Q := by
  intro m
  induction m with
  | zero =>
    intro j b o M' hj hij hf hk
    have h5 : M' 1 5 = nI d.1 := (hf 1 5 (by simp)).trans hd.1
    have h7 := ok.1
    refine hd_go kX5_swap 999 (fun _ => rfl) rfl trivial ?_
    rw [h5]
    refine hd_ju kX5_swap (fun _ => rfl) (fun c => ?_) (fun c => absurd (nI_le (by omega) (by omega)) c)
    exact hk M' _ _ hf
  | succ m ih =>
    intro j b o M' hj hij hf hk
    have h5 : M' 1 5 = nI d.1 := (hf 1 5 (by simp)).trans hd.1
    have h7 := ok.1
    refine hd_go kX5_swap 999 (fun _ => rfl) rfl trivial ?_
    rw [h5]
    refine hd_ju kX5_swap (fun _ => rfl) (fun c => absurd c (nI_ge (by omega) (by omega))) (fun c => ?_)
    refine hd_go kX5_swap 999 (fun _ => rfl) rfl trivial ?_
    refine hd_ca kX5_swap qX5_swap (fun _ => rfl) (s_copyFrom_7_1 M' N d (hd.tr1 hf) h7) ?_
    rintro r M1 N1 ⟨rfl, rfl, hf1, hd1⟩
    refine hd_go kX5_swap 999 (fun _ => rfl) rfl trivial ?_
    refine hd_ca kX5_swap qX5_swap (fun _ => rfl) (s_exch_7 M1 N1 i j (by omega) (by omega)) ?_
    rintro r M2 N2 ⟨rfl, rfl, h2⟩
    have hd2 := h_exc_7 hd1 i j hi (by omega) h2
    have hf2 : fr tri M M2 := (tri_of hf hf1).tr (fun c x hc => by rw [h2, if_neg (by have hc : ¬ (7 ≤ c ∧ c ≤ 12) := hc; omega)])
    refine hd_go kX5_swap 999 (fun _ => rfl) rfl trivial ?_
    refine hd_ca kX5_swap qX5_swap (fun _ => rfl) (s_pass_7 M2 N2 _ hd2 (dy_ok_exc ok) n hn) ?_
    rintro r M3 N3 ⟨rfl, rfl, hf3, hd3⟩
    refine hd_go kX5_swap 999 (fun _ => rfl) rfl trivial ?_
    have e9 : (dy_hs n (dy_exc i j d)).2.2.1 = dy_md n (dy_exc i j d) := rfl
    rw [e9]
    rw [dy_best] at hk
    refine hd_ju kX5_swap (fun _ => rfl) (fun c => ?_) (fun c => ?_)
    · rw [if_neg (Int32.not_lt.mpr c)] at hk
      refine hd_go kX5_swap 999 (fun _ => rfl) rfl trivial ?_
      rw [nI_1]
      exact hd_fg7 (ih (j + 1) b o M3 (by omega) (by omega) (hf2.tr hf3) hk)
    · rw [if_pos (Int32.not_le.mp c)] at hk
      refine hd_go kX5_swap 999 (fun _ => rfl) rfl trivial ?_
      rw [nI_1]
      exact hd_fg7 (ih (j + 1) _ _ M3 (by omega) (by omega) (hf2.tr hf3) hk)
set_option maxRecDepth 20000 in
theorem c_swap_o (M : hd_M) (N : hd_N) (d : dy_T) (hd : hm M 1 d) (ok : dy_ok d) (n : Nat) (hn : n ≤ 60) (w : Int32) : ∀ (m i : Nat) (b o : Int32) (M' : hd_M), i + m = d.1 → fr tri M M' → hd_Go mX5_swap 44 [some (.ref 0), some (.int (nI n)), some (.int w), some (.int b), some (.int o), some (.int (nI i)), none, none] [] M' N (fun r M1 N1 => r = some (.int (dy_fob (dy_swp n d m i b o).2 (dy_swp n d m i b o).1 w)) ∧ N1 = N ∧ fr tri M M1) := by
  intro m
  induction m with
  | zero =>
    intro i b o M' hi hf
    have h5 : M' 1 5 = nI d.1 := (hf 1 5 (by simp)).trans hd.1
    have h7 := ok.1
    refine hd_go kX5_swap 999 (fun _ => rfl) rfl trivial ?_
    rw [h5]
    refine hd_ju kX5_swap (fun _ => rfl) (fun c => ?_) (fun c => absurd (nI_le (by omega) (by omega)) c)
    refine hd_go kX5_swap 999 (fun _ => rfl) rfl trivial ?_
    refine hd_ci kX5_swap qX5_swap (fun _ => rfl) (s_fob _ _ _ M' N) ?_
    exact hd_en_ kX5_swap (fun _ => rfl) trivial ⟨rfl, rfl, hf⟩
  | succ m ih =>
    intro i b o M' hi hf
    have h5 : M' 1 5 = nI d.1 := (hf 1 5 (by simp)).trans hd.1
    have h7 := ok.1
    refine hd_go kX5_swap 999 (fun _ => rfl) rfl trivial ?_
    rw [h5]
    refine hd_ju kX5_swap (fun _ => rfl) (fun c => absurd c (nI_ge (by omega) (by omega))) (fun c => ?_)
    refine hd_go kX5_swap 62 (fun _ => rfl) rfl trivial ?_
    rw [nI_1]
    refine c_swap_i M N d hd ok n hn w i (by omega) _ (d.1 - (i + 1)) (i + 1) b o M' (by omega) (by omega) hf (fun M1 y z hf1 => ?_)
    refine hd_go kX5_swap 999 (fun _ => rfl) rfl trivial ?_
    rw [nI_1]
    exact hd_fg67 (ih (i + 1) _ _ M1 (by omega) hf1)
set_option maxRecDepth 20000 in
theorem c_swap (n w : Int32) : cA mX5_swap [.int n, .int w] (an_swap n w) := by
  intro M N st hI hO
  change hd_Go mX5_swap 0 [some (.ref 0), some (.int n), some (.int w), none, none, none, none, none] [] M N _
  unfold an_swap
  have bad : ¬ (wi n 0 60 ∧ wi w 0 1) → hd_Go mX5_swap 16 [some (.ref 0), some (.int n), some (.int w), none, none, none, none, none] [] M N (fun r M1 N1 => r = some (an_swap n w st).1 ∧ N1 = N ∧ fr clsF M M1 ∧ CI M1 (an_swap n w st).2) := by
    intro q
    refine hd_go kX5_swap 999 (fun _ => rfl) rfl trivial ?_
    refine hd_en_ kX5_swap (fun _ => rfl) trivial ⟨?_, rfl, fr.rf, hI⟩
    unfold an_swap
    rw [if_neg q]
  unfold an_swap at bad
  refine hd_go kX5_swap 999 (fun _ => rfl) rfl trivial ?_
  refine hd_ci kX5_swap qX5_swap (fun _ => rfl) (s_isSpan _ M N) ?_
  refine hd_ju kX5_swap (fun _ => rfl) (fun q => bad (fun z => hd_b0.mp q z.1)) (fun q => ?_)
  have q1 := hd_b1.mp q
  refine hd_go kX5_swap 999 (fun _ => rfl) rfl trivial ?_
  refine hd_ci kX5_swap qX5_swap (fun _ => rfl) (s_isWithin _ _ _ M N) ?_
  refine hd_ju kX5_swap (fun _ => rfl) (fun q => ?_) (fun q => bad (fun z => hd_b0.mp q z.2))
  have q2 := hd_b1.mp q
  rw [if_pos ⟨q1, q2⟩]
  obtain ⟨j, hj, rfl⟩ := wi_nat (n := 60) rfl q1
  rw [nI_clamp (by omega)]
  refine hd_go kX5_swap 999 (fun _ => rfl) rfl trivial ?_
  refine hd_ci kX5_swap qX5_swap (fun _ => rfl) (s_allIn M N _ hI.1 hO.1) ?_
  refine hd_ju kX5_swap (fun _ => rfl) (fun q => ?_) (fun q => ?_)
  · have ha := hd_b1.mp q
    rw [if_pos ha]
    refine hd_go kX5_swap 999 (fun _ => rfl) rfl trivial ?_
    refine hd_ca kX5_swap qX5_swap (fun _ => rfl) (s_moodBehind M N _ hI.1 hO.1 j hj) ?_
    rintro r M1 N1 ⟨rfl, rfl, hf⟩
    refine hd_go kX5_swap 44 (fun _ => rfl) rfl trivial ?_
    refine hd_Go.post ?_ (c_swap_o M N1 st.1 hI.1 hO.1 j hj w st.1.1 0 _ _ M1 (by omega) hf)
    rintro r M2 N2 ⟨rfl, rfl, hf2⟩
    exact ⟨rfl, rfl, hI.q hf2⟩
  · rw [if_neg (hd_b0.mp q)]
    refine hd_go kX5_swap 999 (fun _ => rfl) rfl trivial ?_
    exact hd_en_ kX5_swap (fun _ => rfl) trivial ⟨rfl, rfl, fr.rf, hI⟩
set_option maxRecDepth 20000 in
theorem c_need_l (M : hd_M) (N : hd_N) (d : dy_T) (hd : hm M 1 d) (ok : dy_ok d) (i : Nat) (hi : i < d.1) (n : Nat) (hn : n ≤ 60) (v : Int32) : ∀ (m g : Nat) (M' : hd_M), g + m = 10 → fr tri M M' → hd_Go mX5_need 27 [some (.ref 0), some (.int (nI i)), some (.int (nI n)), some (.int v), some (.int (nI g))] [] M' N (fun r M1 N1 => r = some (.int (dy_fst (fun g => decide (¬ dy_md n (dy_set 1 i (nI g) d) < v)) m g)) ∧ N1 = N ∧ fr tri M M1) := by
  intro m
  induction m with
  | zero =>
    intro g M' hg hf
    refine hd_go kX5_need 999 (fun _ => rfl) rfl trivial ?_
    refine hd_ju kX5_need (fun _ => rfl) (fun c => ?_) (fun c => absurd (nI_le (a := 10) (by omega) (by omega)) c)
    refine hd_go kX5_need 999 (fun _ => rfl) rfl trivial ?_
    exact hd_en_ kX5_need (fun _ => rfl) trivial ⟨rfl, rfl, hf⟩
  | succ m ih =>
    intro g M' hg hf
    refine hd_go kX5_need 999 (fun _ => rfl) rfl trivial ?_
    refine hd_ju kX5_need (fun _ => rfl) (fun c => absurd c (nI_ge (b := 10) (by omega) (by decide))) (fun c => ?_)
    refine hd_go kX5_need 999 (fun _ => rfl) rfl trivial ?_
    refine hd_ca kX5_need qX5_need (fun _ => rfl) (s_moodWith M' N d (hd.tr1 hf) ok i 1 hi (by decide) (nI g) n hn) ?_
    rintro r M1 N1 ⟨rfl, rfl, hf1⟩
    refine hd_go kX5_need 999 (fun _ => rfl) rfl trivial ?_
    rw [dy_fst]
    refine hd_ju kX5_need (fun _ => rfl) (fun c => ?_) (fun c => ?_)
    · rw [if_neg (by simp [c])]
      refine hd_go kX5_need 999 (fun _ => rfl) rfl trivial ?_
      rw [nI_1]
      exact ih (g + 1) M1 (by omega) (hf.tr hf1)
    · rw [if_pos (by simp [c])]
      refine hd_go kX5_need 999 (fun _ => rfl) rfl trivial ?_
      exact hd_en_ kX5_need (fun _ => rfl) trivial ⟨rfl, rfl, hf.tr hf1⟩
set_option maxRecDepth 20000 in
theorem c_need (i n v : Int32) : cA mX5_need [.int i, .int n, .int v] (an_need i n v) := by
  intro M N st hI hO
  change hd_Go mX5_need 0 [some (.ref 0), some (.int i), some (.int n), some (.int v), none] [] M N _
  have bad : ¬ (an_th i st.1 ∧ wi n 0 60 ∧ wi v 0 99) → hd_Go mX5_need 22 [some (.ref 0), some (.int i), some (.int n), some (.int v), none] [] M N (fun r M1 N1 => r = some (an_need i n v st).1 ∧ N1 = N ∧ fr clsF M M1 ∧ CI M1 (an_need i n v st).2) := by
    intro q
    refine hd_go kX5_need 999 (fun _ => rfl) rfl trivial ?_
    refine hd_en_ kX5_need (fun _ => rfl) trivial ⟨?_, rfl, fr.rf, hI⟩
    unfold an_need
    rw [if_neg q]
  unfold an_need at bad ⊢
  refine hd_go kX5_need 999 (fun _ => rfl) rfl trivial ?_
  refine hd_ci kX5_need qX5_need (fun _ => rfl) (s_isThing _ M N) ?_
  rw [hI.1.1]
  refine hd_ju kX5_need (fun _ => rfl) (fun q => bad (fun z => hd_b0.mp q z.1)) (fun q => ?_)
  have q1 := hd_b1.mp q
  refine hd_go kX5_need 999 (fun _ => rfl) rfl trivial ?_
  refine hd_ci kX5_need qX5_need (fun _ => rfl) (s_isSpan _ M N) ?_
  refine hd_ju kX5_need (fun _ => rfl) (fun q => bad (fun z => hd_b0.mp q z.2.1)) (fun q => ?_)
  have q2 := hd_b1.mp q
  refine hd_go kX5_need 999 (fun _ => rfl) rfl trivial ?_
  refine hd_ci kX5_need qX5_need (fun _ => rfl) (s_isMood _ M N) ?_
  refine hd_ju kX5_need (fun _ => rfl) (fun q => ?_) (fun q => bad (fun z => hd_b0.mp q z.2.2))
  have q3 := hd_b1.mp q
  rw [if_pos ⟨q1, q2, q3⟩]
  have h7 := hO.1.1
  obtain ⟨x, hx, rfl⟩ := an_th_nat q1 h7
  obtain ⟨j, hj, rfl⟩ := wi_nat (n := 60) rfl q2
  rw [nI_clamp (show x < 2 ^ 31 by omega), nI_clamp (show j < 2 ^ 31 by omega)]
  refine hd_go kX5_need 27 (fun _ => rfl) rfl trivial ?_
  refine hd_Go.post ?_ (c_need_l M N st.1 hI.1 hO.1 x hx j hj v 10 0 M (by decide) fr.rf)
  rintro r M2 N2 ⟨rfl, rfl, hf2⟩
  exact ⟨rfl, rfl, hI.q hf2⟩
set_option maxRecDepth 20000 in
theorem c_kind_l (M : hd_M) (N : hd_N) (d : dy_T) (hd : hm M 1 d) (ok : dy_ok d) (i : Nat) (hi : i < d.1) (n : Nat) (hn : n ≤ 60) (w : Int32) (f : Nat → Int32) (hfe : f = fun k => dy_md n (dy_set 0 i (nI k) d)) : ∀ (m k : Nat) (b o : Int32) (M' : hd_M), k + m = 4 → fr tri M M' → hd_Go mX5_kind 36 [some (.ref 0), some (.int (nI i)), some (.int (nI n)), some (.int w), some (.int b), some (.int o), some (.int (nI k)), none] [] M' N (fun r M1 N1 => r = some (.int (dy_fob (dy_best f nI m k b o).2 (dy_best f nI m k b o).1 w)) ∧ N1 = N ∧ fr tri M M1) := by
  intro m
  induction m with
  | zero =>
    intro k b o M' hk hf
    refine hd_go kX5_kind 999 (fun _ => rfl) rfl trivial ?_
    refine hd_ju kX5_kind (fun _ => rfl) (fun c => ?_) (fun c => absurd (nI_lt (a := 3) (by omega) (by omega)) c)
    refine hd_go kX5_kind 999 (fun _ => rfl) rfl trivial ?_
    refine hd_ci kX5_kind qX5_kind (fun _ => rfl) (s_fob _ _ _ M' N) ?_
    exact hd_en_ kX5_kind (fun _ => rfl) trivial ⟨rfl, rfl, hf⟩
  | succ m ih =>
    intro k b o M' hk hf
    refine hd_go kX5_kind 999 (fun _ => rfl) rfl trivial ?_
    refine hd_ju kX5_kind (fun _ => rfl) (fun c => absurd c (nI_nlt (a := 3) (by omega) (by decide))) (fun c => ?_)
    refine hd_go kX5_kind 999 (fun _ => rfl) rfl trivial ?_
    refine hd_ca kX5_kind qX5_kind (fun _ => rfl) (s_moodWith M' N d (hd.tr1 hf) ok i 0 hi (by decide) (nI k) n hn) ?_
    rintro r M1 N1 ⟨rfl, rfl, hf1⟩
    refine hd_go kX5_kind 999 (fun _ => rfl) rfl trivial ?_
    have e9 : dy_md n (dy_set 0 i (nI k) d) = f k := by rw [hfe]
    rw [dy_best, e9]
    refine hd_ju kX5_kind (fun _ => rfl) (fun c => ?_) (fun c => ?_)
    · rw [if_neg (Int32.not_lt.mpr c)]
      refine hd_go kX5_kind 999 (fun _ => rfl) rfl trivial ?_
      rw [nI_1]
      exact hd_fg7 (ih (k + 1) b o M1 (by omega) (hf.tr hf1))
    · rw [if_pos (Int32.not_le.mp c)]
      refine hd_go kX5_kind 999 (fun _ => rfl) rfl trivial ?_
      rw [nI_1]
      exact hd_fg7 (ih (k + 1) _ _ M1 (by omega) (hf.tr hf1))
set_option maxRecDepth 20000 in
theorem c_kind (i n w : Int32) : cA mX5_kind [.int i, .int n, .int w] (an_kind i n w) := by
  intro M N st hI hO
  change hd_Go mX5_kind 0 [some (.ref 0), some (.int i), some (.int n), some (.int w), none, none, none, none] [] M N _
  have bad : ¬ (an_th i st.1 ∧ wi n 0 60 ∧ wi w 0 1) → hd_Go mX5_kind 24 [some (.ref 0), some (.int i), some (.int n), some (.int w), none, none, none, none] [] M N (fun r M1 N1 => r = some (an_kind i n w st).1 ∧ N1 = N ∧ fr clsF M M1 ∧ CI M1 (an_kind i n w st).2) := by
    intro q
    refine hd_go kX5_kind 999 (fun _ => rfl) rfl trivial ?_
    refine hd_en_ kX5_kind (fun _ => rfl) trivial ⟨?_, rfl, fr.rf, hI⟩
    unfold an_kind
    rw [if_neg q]
  unfold an_kind at bad ⊢
  refine hd_go kX5_kind 999 (fun _ => rfl) rfl trivial ?_
  refine hd_ci kX5_kind qX5_kind (fun _ => rfl) (s_isThing _ M N) ?_
  rw [hI.1.1]
  refine hd_ju kX5_kind (fun _ => rfl) (fun q => bad (fun z => hd_b0.mp q z.1)) (fun q => ?_)
  have q1 := hd_b1.mp q
  refine hd_go kX5_kind 999 (fun _ => rfl) rfl trivial ?_
  refine hd_ci kX5_kind qX5_kind (fun _ => rfl) (s_isSpan _ M N) ?_
  refine hd_ju kX5_kind (fun _ => rfl) (fun q => bad (fun z => hd_b0.mp q z.2.1)) (fun q => ?_)
  have q2 := hd_b1.mp q
  refine hd_go kX5_kind 999 (fun _ => rfl) rfl trivial ?_
  refine hd_ci kX5_kind qX5_kind (fun _ => rfl) (s_isWithin _ _ _ M N) ?_
  refine hd_ju kX5_kind (fun _ => rfl) (fun q => ?_) (fun q => bad (fun z => hd_b0.mp q z.2.2))
  have q3 := hd_b1.mp q
  rw [if_pos ⟨q1, q2, q3⟩]
  have h7 := hO.1.1
  obtain ⟨x, hx, rfl⟩ := an_th_nat q1 h7
  obtain ⟨j, hj, rfl⟩ := wi_nat (n := 60) rfl q2
  rw [nI_clamp (show x < 2 ^ 31 by omega), nI_clamp (show j < 2 ^ 31 by omega)]
  refine hd_go kX5_kind 36 (fun _ => rfl) rfl trivial ?_
  refine hd_Go.post ?_ (c_kind_l M N st.1 hI.1 hO.1 x hx j hj w _ rfl 4 0 _ _ M (by decide) fr.rf)
  rintro r M2 N2 ⟨rfl, rfl, hf2⟩
  exact ⟨rfl, rfl, hI.q hf2⟩
set_option maxRecDepth 20000 in
theorem h_tire7 {M : hd_M} {d : dy_T} (hd : hm M 7 d) (v : Int32) : hm (hd_u M 7 8 v) 7 (dy_tire v d) := by
  obtain ⟨a5, a6, a7, a8, a9, b1, b2, b3, b4⟩ := hd
  refine ⟨?_, ?_, ?_, ?_, ?_, fun x hx => ?_, fun x hx => ?_, fun x hx => ?_, fun x hx => ?_⟩
  · rw [hd_u_n (by omega)]; exact a5
  · rw [hd_u_n (by omega)]; exact a6
  · rw [hd_u_n (by omega)]; exact a7
  · exact hd_u_s _ _ _ _
  · rw [hd_u_n (by omega)]; exact a9
  · rw [hd_u_n (by omega)]; exact b1 x hx
  · rw [hd_u_n (by omega)]; exact b2 x hx
  · rw [hd_u_n (by omega)]; exact b3 x hx
  · rw [hd_u_n (by omega)]; exact b4 x hx
set_option maxRecDepth 20000 in
theorem c_bear_l (M : hd_M) (N : hd_N) (d : dy_T) (hd : hm M 1 d) (ok : dy_ok d) (n : Nat) (hn : n ≤ 60) (v : Int32) : ∀ (m : Nat) (M' : hd_M), m ≤ 10 → fr tri M M' → hd_Go mX5_bear 19 [some (.ref 0), some (.int (nI n)), some (.int v), some (.int (nI m - 1))] [] M' N (fun r M1 N1 => r = some (.int (dy_lstd (fun t => decide (¬ dy_md n (dy_tire (nI t) d) < v)) m)) ∧ N1 = N ∧ fr tri M M1) := by
  intro m
  induction m with
  | zero =>
    intro M' hm0 hf
    refine hd_go kX5_bear 999 (fun _ => rfl) rfl trivial ?_
    refine hd_ju kX5_bear (fun _ => rfl) (fun c => ?_) (fun c => absurd (by decide) c)
    refine hd_go kX5_bear 999 (fun _ => rfl) rfl trivial ?_
    exact hd_en_ kX5_bear (fun _ => rfl) trivial ⟨rfl, rfl, hf⟩
  | succ m ih =>
    intro M' hm0 hf
    rw [nI_pred]
    refine hd_go kX5_bear 999 (fun _ => rfl) rfl trivial ?_
    refine hd_ju kX5_bear (fun _ => rfl) (fun c => absurd c (nI_pos (by omega))) (fun c => ?_)
    refine hd_go kX5_bear 999 (fun _ => rfl) rfl trivial ?_
    refine hd_ca kX5_bear qX5_bear (fun _ => rfl) (s_copyFrom_7_1 M' N d (hd.tr1 hf) ok.1) ?_
    rintro r M1 N1 ⟨rfl, rfl, hf1, hd1⟩
    refine hd_go kX5_bear 999 (fun _ => rfl) rfl trivial ?_
    refine hd_ca kX5_bear qX5_bear (fun _ => rfl) (s_pass_7 _ N1 _ (h_tire7 hd1 (nI m)) (dy_ok_tire ok) n hn) ?_
    rintro r M2 N2 ⟨rfl, rfl, hf2, hd2⟩
    have hf9 : fr tri M M2 := ((tri_of hf hf1).up (show tri 7 8 from ⟨by decide, by decide⟩)).tr hf2
    refine hd_go kX5_bear 999 (fun _ => rfl) rfl trivial ?_
    have e9 : (dy_hs n (dy_tire (nI m) d)).2.2.1 = dy_md n (dy_tire (nI m) d) := rfl
    rw [dy_lstd, e9]
    refine hd_ju kX5_bear (fun _ => rfl) (fun c => ?_) (fun c => ?_)
    · rw [if_neg (by simp [c])]
      refine hd_go kX5_bear 999 (fun _ => rfl) rfl trivial ?_
      rw [← Int32.sub_eq_add_neg]
      exact ih M2 (by omega) hf9
    · rw [if_pos (by simp [c])]
      refine hd_go kX5_bear 999 (fun _ => rfl) rfl trivial ?_
      exact hd_en_ kX5_bear (fun _ => rfl) trivial ⟨rfl, rfl, hf9⟩
set_option maxRecDepth 20000 in
theorem c_bear (n v : Int32) : cA mX5_bear [.int n, .int v] (an_bear n v) := by
  intro M N st hI hO
  change hd_Go mX5_bear 0 [some (.ref 0), some (.int n), some (.int v), none] [] M N _
  have bad : ¬ (wi n 0 60 ∧ wi v 0 99) → hd_Go mX5_bear 14 [some (.ref 0), some (.int n), some (.int v), none] [] M N (fun r M1 N1 => r = some (an_bear n v st).1 ∧ N1 = N ∧ fr clsF M M1 ∧ CI M1 (an_bear n v st).2) := by
    intro q
    refine hd_go kX5_bear 999 (fun _ => rfl) rfl trivial ?_
    refine hd_en_ kX5_bear (fun _ => rfl) trivial ⟨?_, rfl, fr.rf, hI⟩
    unfold an_bear
    rw [if_neg q]
  unfold an_bear at bad ⊢
  refine hd_go kX5_bear 999 (fun _ => rfl) rfl trivial ?_
  refine hd_ci kX5_bear qX5_bear (fun _ => rfl) (s_isSpan _ M N) ?_
  refine hd_ju kX5_bear (fun _ => rfl) (fun q => bad (fun z => hd_b0.mp q z.1)) (fun q => ?_)
  have q1 := hd_b1.mp q
  refine hd_go kX5_bear 999 (fun _ => rfl) rfl trivial ?_
  refine hd_ci kX5_bear qX5_bear (fun _ => rfl) (s_isMood _ M N) ?_
  refine hd_ju kX5_bear (fun _ => rfl) (fun q => ?_) (fun q => bad (fun z => hd_b0.mp q z.2))
  have q2 := hd_b1.mp q
  rw [if_pos ⟨q1, q2⟩]
  obtain ⟨j, hj, rfl⟩ := wi_nat (n := 60) rfl q1
  rw [nI_clamp (by omega)]
  refine hd_go kX5_bear 19 (fun _ => rfl) rfl trivial ?_
  refine hd_Go.post ?_ (c_bear_l M N st.1 hI.1 hO.1 j hj v 10 M (by decide) fr.rf)
  rintro r M2 N2 ⟨rfl, rfl, hf2⟩
  exact ⟨rfl, rfl, hI.q hf2⟩
set_option maxRecDepth 20000 in
theorem seC.tri {M M' : hd_M} {se : se_T} (h : seC M 13 se) (hf : fr tri M M') : seC M' 13 se := h.mv (fun c j h1 h2 => hf c j (by show ¬ (7 ≤ c ∧ c ≤ 12); omega))
set_option maxRecDepth 20000 in
theorem s_isSeen_l (M : hd_M) (N : hd_N) (d : dy_T) (hd : hm M 1 d) (ok : dy_ok d) (se : se_T) (hs : seC M 13 se) (sok : se_ok se) (i w : Nat) (hi : i < d.1) (hw : w < 3) (v : Int32) : ∀ (m s : Nat) (M' : hd_M), s + m = se.1 → fr tri M M' → se_so se (dy_set w i v d) s = true → hd_Go mX5_isAsSeen 3 [some (.ref 0), some (.int (nI i)), some (.int (nI w)), some (.int v), some (.int (nI s))] [] M' N (fun r M1 N1 => r = some (.int (hd_b (se_so se (dy_set w i v d) se.1 = true))) ∧ N1 = N ∧ fr tri M M1) := by
  intro m
  induction m with
  | zero =>
    intro s M' hsm hf hso
    have h6 := sok.1
    have hs' := hs.tri hf
    refine hd_go kX5_isAsSeen 999 (fun _ => rfl) rfl trivial ?_
    rw [hs'.1]
    refine hd_ju kX5_isAsSeen (fun _ => rfl) (fun c => ?_) (fun c => absurd (nI_le (by omega) (by omega)) c)
    refine hd_go kX5_isAsSeen 999 (fun _ => rfl) rfl trivial ?_
    refine hd_en_ kX5_isAsSeen (fun _ => rfl) (Or.inr rfl) ⟨?_, rfl, hf⟩
    have e : s = se.1 := by omega
    rw [← e, hso]; rfl
  | succ m ih =>
    intro s M' hsm hf hso
    have h6 := sok.1
    have hs' := hs.tri hf
    obtain ⟨j, hj, ej⟩ := sok.2 s (by omega)
    have hv : vp_in (nI s) 6 := vp_in_nI (by omega) (by decide)
    refine hd_go kX5_isAsSeen 999 (fun _ => rfl) rfl trivial ?_
    rw [hs'.1]
    refine hd_ju kX5_isAsSeen (fun _ => rfl) (fun c => absurd c (nI_ge (by omega) (by omega))) (fun c => ?_)
    refine hd_go kX5_isAsSeen 999 (fun _ => rfl) rfl ⟨trivial, hv⟩ ?_
    rw [nI_clamp (by omega), show M' 14 s = se.2.1 s from hs'.2.1 s (by omega), ej]
    refine hd_ca kX5_isAsSeen qX5_isAsSeen (fun _ => rfl) (s_moodWith M' N d (hd.tr1 hf) ok i w hi hw v j (by omega)) ?_
    rintro r M1 N1 ⟨rfl, rfl, hf1⟩
    have hs1 := hs'.tri hf1
    refine hd_go kX5_isAsSeen 999 (fun _ => rfl) rfl ⟨trivial, hv⟩ ?_
    rw [nI_clamp (by omega), show M1 15 s = se.2.2 s from hs1.2.2 s (by omega)]
    have es : se_so se (dy_set w i v d) (s + 1) = decide (dy_md j (dy_set w i v d) = se.2.2 s) := by
      rw [se_so, hso, ej, nI_clamp (by omega), Bool.true_and]
    refine hd_ju kX5_isAsSeen (fun _ => rfl) (fun c => ?_) (fun c => ?_)
    · refine hd_go kX5_isAsSeen 999 (fun _ => rfl) rfl trivial ?_
      rw [nI_1]
      exact ih (s + 1) M1 (by omega) (hf.tr hf1) (by rw [es]; exact decide_eq_true c)
    · refine hd_go kX5_isAsSeen 999 (fun _ => rfl) rfl trivial ?_
      refine hd_en_ kX5_isAsSeen (fun _ => rfl) (Or.inl rfl) ⟨?_, rfl, hf.tr hf1⟩
      have e0 : se_so se (dy_set w i v d) (s + 1) = false := by rw [es]; exact decide_eq_false c
      have : se_so se (dy_set w i v d) se.1 = false := se_so_false (s + 1) se.1 (by omega) e0
      rw [this]; rfl
set_option maxRecDepth 20000 in
theorem s_isSeen (M : hd_M) (N : hd_N) (d : dy_T) (hd : hm M 1 d) (ok : dy_ok d) (se : se_T) (hs : seC M 13 se) (sok : se_ok se) (i w : Nat) (hi : i < d.1) (hw : w < 3) (v : Int32) : hd_Ret mX5_isAsSeen [.ref 0, .int (nI i), .int (nI w), .int v] M N (fun r M1 N1 => r = some (.int (hd_b (se_so se (dy_set w i v d) se.1 = true))) ∧ N1 = N ∧ fr tri M M1) := by
  change hd_Go mX5_isAsSeen 0 [some (.ref 0), some (.int (nI i)), some (.int (nI w)), some (.int v), none] [] M N _
  refine hd_go kX5_isAsSeen 3 (fun _ => rfl) rfl trivial ?_
  exact s_isSeen_l M N d hd ok se hs sok i w hi hw v se.1 0 M (by omega) fr.rf rfl
set_option maxRecDepth 20000 in
theorem s_traits_l (M : hd_M) (N : hd_N) (d : dy_T) (hd : hm M 1 d) (ok : dy_ok d) (se : se_T) (hs : seC M 13 se) (sok : se_ok se) (i w : Nat) (hi : i < d.1) (hw : w < 3) (t : Nat) (ht : t ≤ 9) : ∀ (m v : Nat) (M' : hd_M), v + m = t + 1 → fr tri M M' → hd_Go mX5_traitsAsSeen 6 [some (.ref 0), some (.int (nI i)), some (.int (nI w)), some (.int (nI t)), some (.int (se_bits se d w i v)), some (.int (nI v))] [] M' N (fun r M1 N1 => r = some (.int (se_bits se d w i (t + 1))) ∧ N1 = N ∧ fr tri M M1) := by
  intro m
  induction m with
  | zero =>
    intro v M' hv hf
    have hv : v = t + 1 := by omega
    subst hv
    refine hd_go kX5_traitsAsSeen 999 (fun _ => rfl) rfl trivial ?_
    refine hd_ju kX5_traitsAsSeen (fun _ => rfl) (fun c => ?_) (fun c => absurd (nI_lt (by omega) (by omega)) c)
    refine hd_go kX5_traitsAsSeen 999 (fun _ => rfl) rfl trivial ?_
    exact hd_en_ kX5_traitsAsSeen (fun _ => rfl) trivial ⟨rfl, rfl, hf⟩
  | succ m ih =>
    intro v M' hv hf
    refine hd_go kX5_traitsAsSeen 999 (fun _ => rfl) rfl trivial ?_
    refine hd_ju kX5_traitsAsSeen (fun _ => rfl) (fun c => absurd c (nI_nlt (by omega) (by omega))) (fun c => ?_)
    refine hd_go kX5_traitsAsSeen 999 (fun _ => rfl) rfl trivial ?_
    refine hd_ca kX5_traitsAsSeen qX5_traitsAsSeen (fun _ => rfl) (s_isSeen M' N d (hd.tr1 hf) ok se (hs.tri hf) sok i w hi hw (nI v)) ?_
    rintro r M1 N1 ⟨rfl, rfl, hf1⟩
    have := ih (v + 1) M1 (by omega) (hf.tr hf1)
    unfold se_bits at this ⊢
    rw [dy_bits] at this
    refine hd_ju kX5_traitsAsSeen (fun _ => rfl) (fun c => ?_) (fun c => ?_)
    · rw [if_neg (hd_b0.mp c)] at this
      refine hd_go kX5_traitsAsSeen 999 (fun _ => rfl) rfl trivial ?_
      rw [nI_1]
      exact this
    · rw [if_pos (hd_b1.mp c)] at this
      refine hd_go kX5_traitsAsSeen 999 (fun _ => rfl) rfl trivial ?_
      rw [nI_1]
      exact this
set_option maxRecDepth 20000 in
theorem s_traits (M : hd_M) (N : hd_N) (d : dy_T) (hd : hm M 1 d) (ok : dy_ok d) (se : se_T) (hs : seC M 13 se) (sok : se_ok se) (i w : Nat) (hi : i < d.1) (hw : w < 3) (t : Nat) (ht : t ≤ 9) : hd_Ret mX5_traitsAsSeen [.ref 0, .int (nI i), .int (nI w), .int (nI t)] M N (fun r M1 N1 => r = some (.int (se_bits se d w i (t + 1))) ∧ N1 = N ∧ fr tri M M1) := by
  change hd_Go mX5_traitsAsSeen 0 [some (.ref 0), some (.int (nI i)), some (.int (nI w)), some (.int (nI t)), none, none] [] M N _
  refine hd_go kX5_traitsAsSeen 6 (fun _ => rfl) rfl trivial ?_
  exact s_traits_l M N d hd ok se hs sok i w hi hw t ht (t + 1) 0 M (by omega) fr.rf
set_option maxRecDepth 20000 in
theorem c_kinds (i : Int32) : cA mX5_kinds [.int i] (an_kinds i) := by
  intro M N st hI hO
  change hd_Go mX5_kinds 0 [some (.ref 0), some (.int i)] [] M N _
  unfold an_kinds
  refine hd_go kX5_kinds 999 (fun _ => rfl) rfl trivial ?_
  refine hd_ci kX5_kinds qX5_kinds (fun _ => rfl) (s_isThing _ M N) ?_
  rw [hI.1.1]
  refine hd_ju kX5_kinds (fun _ => rfl) (fun q => ?_) (fun q => ?_)
  · have q := hd_b0.mp q
    rw [if_neg q]
    refine hd_go kX5_kinds 999 (fun _ => rfl) rfl trivial ?_
    exact hd_en_ kX5_kinds (fun _ => rfl) trivial ⟨rfl, rfl, fr.rf, hI⟩
  · have q := hd_b1.mp q
    have h7 := hO.1.1
    obtain ⟨j, hj, rfl⟩ := an_th_nat q h7
    rw [if_pos q, nI_clamp (by omega)]
    refine hd_go kX5_kinds 999 (fun _ => rfl) rfl trivial ?_
    refine hd_ca kX5_kinds qX5_kinds (fun _ => rfl) (s_traits M N _ hI.1 hO.1 _ hI.2.1 hO.2.1 j 0 hj (by decide) 3 (by decide)) ?_
    rintro r M1 N1 ⟨rfl, rfl, hf⟩
    refine hd_go kX5_kinds 999 (fun _ => rfl) rfl trivial ?_
    exact hd_en_ kX5_kinds (fun _ => rfl) trivial ⟨rfl, rfl, hI.q hf⟩
set_option maxRecDepth 20000 in
theorem c_goods (i : Int32) : cA mX5_goods [.int i] (an_goods i) := by
  intro M N st hI hO
  change hd_Go mX5_goods 0 [some (.ref 0), some (.int i)] [] M N _
  unfold an_goods
  refine hd_go kX5_goods 999 (fun _ => rfl) rfl trivial ?_
  refine hd_ci kX5_goods qX5_goods (fun _ => rfl) (s_isThing _ M N) ?_
  rw [hI.1.1]
  refine hd_ju kX5_goods (fun _ => rfl) (fun q => ?_) (fun q => ?_)
  · have q := hd_b0.mp q
    rw [if_neg q]
    refine hd_go kX5_goods 999 (fun _ => rfl) rfl trivial ?_
    exact hd_en_ kX5_goods (fun _ => rfl) trivial ⟨rfl, rfl, fr.rf, hI⟩
  · have q := hd_b1.mp q
    have h7 := hO.1.1
    obtain ⟨j, hj, rfl⟩ := an_th_nat q h7
    rw [if_pos q, nI_clamp (by omega)]
    refine hd_go kX5_goods 999 (fun _ => rfl) rfl trivial ?_
    refine hd_ca kX5_goods qX5_goods (fun _ => rfl) (s_traits M N _ hI.1 hO.1 _ hI.2.1 hO.2.1 j 1 hj (by decide) 9 (by decide)) ?_
    rintro r M1 N1 ⟨rfl, rfl, hf⟩
    refine hd_go kX5_goods 999 (fun _ => rfl) rfl trivial ?_
    exact hd_en_ kX5_goods (fun _ => rfl) trivial ⟨rfl, rfl, hI.q hf⟩
