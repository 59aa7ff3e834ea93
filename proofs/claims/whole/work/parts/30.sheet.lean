/-! SHEETS, COUNT; printed by wip/whole/api5.py -/
set_option maxRecDepth 20000 in
theorem s_renew_l (k : Nat) (hk : k = 40 ∨ k = 42 ∨ k = 44 ∨ k = 46) (N : hd_N) (l : Int32) (n : Nat) (hn : n ≤ 40) (M : hd_M) : ∀ (m j : Nat) (M' : hd_M), j + m = n → fr (fun c _ => c = k + 1) M M' → (∀ x, x < j → M' (k + 1) x = 0) → hd_Go mX3_renew 12 [some (.ref k), some (.int l), some (.int (nI n)), some (.int (nI j))] [] M' N (fun r M1 N1 => r = none ∧ N1 = N ∧ fr (fun c _ => c = k + 1) M M1 ∧ ∀ x, x < n → M1 (k + 1) x = 0) := by
  intro m
  induction m with
  | zero =>
    intro j M' hj hf hx
    refine hd_go kX3_renew 999 (fun _ => rfl) rfl trivial ?_
    refine hd_ju kX3_renew (fun _ => rfl) (fun c => ?_) (fun c => absurd (nI_le (by omega) (by omega)) c)
    exact hd_en_ kX3_renew (fun _ => rfl) trivial ⟨rfl, rfl, hf, fun x h => hx x (by omega)⟩
  | succ m ih =>
    intro j M' hj hf hx
    refine hd_go kX3_renew 999 (fun _ => rfl) rfl trivial ?_
    refine hd_ju kX3_renew (fun _ => rfl) (fun c => absurd c (nI_ge (by omega) (by omega))) (fun c => ?_)
    refine hd_go kX3_renew 999 (fun _ => rfl) rfl trivial ?_
    refine hd_ju kX3_renew (fun _ => rfl) (fun c => absurd c (nI_ge (b := 40) (by omega) (by decide))) (fun c => ?_)
    have hv : vp_in (nI j) 40 := vp_in_nI (by omega) (by decide)
    have ej : (nI j).toNatClampNeg = j := nI_clamp (by omega)
    have key := ih (j + 1) (hd_u M' (k + 1) j 0) (by omega) (hf.up rfl) (fun x h => by
      by_cases e : x = j
      · rw [e, hd_u_s]
      · rw [hd_u_n (fun z => e z.2)]; exact hx x (by omega))
    rcases hk with rfl | rfl | rfl | rfl
    all_goals
      refine hd_go kX3_renew 999 (fun _ => rfl) rfl ⟨trivial, hv⟩ ?_
      rw [ej, nI_1]
      exact key
set_option maxRecDepth 20000 in
theorem s_renew (k : Nat) (hk : k = 40 ∨ k = 42 ∨ k = 44 ∨ k = 46) (M : hd_M) (N : hd_N) (l : Int32) (n : Nat) (hn : n ≤ 40) : hd_Ret mX3_renew [.ref k, .int l, .int (nI n)] M N (fun r M1 N1 => r = none ∧ N1 = N ∧ fr (fun c _ => c = k ∨ c = k + 1) M M1 ∧ M1 k 1 = l ∧ M1 k 2 = nI n ∧ ∀ x, x < n → M1 (k + 1) x = 0) := by
  change hd_Go mX3_renew 0 [some (.ref k), some (.int l), some (.int (nI n)), none] [] M N _
  have fin : ∀ (r : Option Value) (M1 : hd_M) (N1 : hd_N), (r = none ∧ N1 = N ∧ fr (fun c _ => c = k + 1) (hd_u (hd_u M k 1 l) k 2 (nI n)) M1 ∧ ∀ x, x < n → M1 (k + 1) x = 0) → (r = none ∧ N1 = N ∧ fr (fun c _ => c = k ∨ c = k + 1) M M1 ∧ M1 k 1 = l ∧ M1 k 2 = nI n ∧ ∀ x, x < n → M1 (k + 1) x = 0) := by
    rintro r M1 N1 ⟨h1, h2, h3, h4⟩
    refine ⟨h1, h2, ((fr.rf.up (Or.inl rfl)).up (Or.inl rfl)).tr (h3.mo (fun c j z => Or.inr z)), ?_, ?_, h4⟩
    · rw [h3 k 1 (by show ¬ k = k + 1; omega), hd_u_n (by omega), hd_u_s]
    · rw [h3 k 2 (by show ¬ k = k + 1; omega), hd_u_s]
  refine hd_Go.post fin ?_
  have key := s_renew_l k hk N l n hn (hd_u (hd_u M k 1 l) k 2 (nI n)) n 0 _ (by omega) fr.rf (fun x h => absurd h (Nat.not_lt_zero x))
  rcases hk with rfl | rfl | rfl | rfl
  all_goals
    refine hd_go kX3_renew 12 (fun _ => rfl) rfl trivial ?_
    exact key
set_option maxRecDepth 20000 in
theorem s_faultAt (k : Nat) (hk : k = 40 ∨ k = 42 ∨ k = 44 ∨ k = 46) (M : hd_M) (N : hd_N) (i : Int32) : hd_Ret mX3_faultAt [.ref k, .int i] M N (hd_is (.int (if M k 2 < 0 then 1 else if ¬ i < 0 ∧ i < M k 2 then 0 else 2)) M N) := by
  change hd_Go mX3_faultAt 0 [some (.ref k), some (.int i)] [] M N _
  rcases hk with rfl | rfl | rfl | rfl
  all_goals
    repeat' first
      | refine hd_ju kX3_faultAt (fun _ => rfl) (fun c => ?_) (fun c => ?_)
      | refine hd_en_ kX3_faultAt (fun _ => rfl) ?_ ?_
      | refine hd_go kX3_faultAt 999 (fun _ => rfl) rfl ?_ ?_
    all_goals first
      | trivial
      | (refine ⟨?_, rfl, rfl⟩; simp_all [-Int32.not_lt, -Int32.not_le, le_n])
set_option maxRecDepth 20000 in
theorem s_fault3 (k : Nat) (hk : k = 40 ∨ k = 42 ∨ k = 44 ∨ k = 46) (M : hd_M) (N : hd_N) (l f t : Int32) : hd_Ret mX3_faultOfThree [.ref k, .int l, .int f, .int t] M N (hd_is (.int (if M k 2 < 0 then 1 else if ¬ M k 1 = l then 3 else if ¬ f < 0 ∧ f < M k 2 ∧ f + 3 * t + 2 < M k 2 then 0 else 2)) M N) := by
  change hd_Go mX3_faultOfThree 0 [some (.ref k), some (.int l), some (.int f), some (.int t), none] [] M N _
  rcases hk with rfl | rfl | rfl | rfl
  all_goals
    repeat' first
      | refine hd_ju kX3_faultOfThree (fun _ => rfl) (fun c => ?_) (fun c => ?_)
      | refine hd_en_ kX3_faultOfThree (fun _ => rfl) ?_ ?_
      | refine hd_go kX3_faultOfThree 999 (fun _ => rfl) rfl ?_ ?_
    all_goals first
      | trivial
      | (refine ⟨?_, rfl, rfl⟩; simp_all [-Int32.not_lt, -Int32.not_le, le_n])
set_option maxRecDepth 20000 in
theorem s_put (k : Nat) (hk : k = 40 ∨ k = 42 ∨ k = 44 ∨ k = 46) (M : hd_M) (N : hd_N) (i : Nat) (hi : i < 40) (v : Int32) : hd_Ret mX3_put [.ref k, .int (nI i), .int v] M N (fun r M1 N1 => r = none ∧ N1 = N ∧ M1 = hd_u M (k + 1) i (la_v (M k 1) v)) := by
  change hd_Go mX3_put 0 [some (.ref k), some (.int (nI i)), some (.int v)] [] M N _
  have ei : (nI i).toNatClampNeg = i := nI_clamp (by omega)
  have hv : vp_in (nI i) 40 := vp_in_nI hi (by decide)
  rcases hk with rfl | rfl | rfl | rfl
  all_goals
    repeat' first
      | refine hd_ju kX3_put (fun _ => rfl) (fun c => ?_) (fun c => ?_)
      | refine hd_en_ kX3_put (fun _ => rfl) ?_ ?_
      | refine hd_go kX3_put 999 (fun _ => rfl) rfl ?_ ?_
    all_goals first
      | trivial
      | exact ⟨trivial, hv⟩
      | (refine ⟨rfl, rfl, ?_⟩; simp_all [la_v])
set_option maxRecDepth 20000 in
theorem wi03 {k : Int32} (h : wi k 0 3) : ∃ j : Nat, j < 4 ∧ k = nI j ∧ k.toNatClampNeg = j := by
  obtain ⟨j, hj, rfl⟩ := wi_nat (n := 3) rfl h
  exact ⟨j, by omega, rfl, nI_clamp (by omega)⟩
set_option maxRecDepth 20000 in
theorem shI {M M1 : hd_M} {st : ab_T} (hI : CI M st) (k : Nat) (hk : k < 4) (x : sh_T) (hf : fr (fun c _ => c = 40 + 2 * k ∨ c = 41 + 2 * k) M M1) (hx : (x.1 = true → M1 (40 + 2 * k) 2 = -1) ∧ (x.1 = false → M1 (40 + 2 * k) 1 = x.2.1 ∧ M1 (40 + 2 * k) 2 = nI x.2.2.1 ∧ ∀ i, i < x.2.2.1 → M1 (41 + 2 * k) i = x.2.2.2 i)) : fr clsF M M1 ∧ CI M1 (st.1, st.2.1, st.2.2.1, st.2.2.2.1, (fun j => if j = k then x else st.2.2.2.2.1 j), st.2.2.2.2.2) := by
  refine ⟨hf.mo (fun c j z => by have z : c = 40 + 2 * k ∨ c = 41 + 2 * k := z; show c ≤ 50; omega), hI.she (hf.mo (fun c j z => by have z : c = 40 + 2 * k ∨ c = 41 + 2 * k := z; show 40 ≤ c ∧ c ≤ 47; omega)) (fun j hj => ?_)⟩
  by_cases e : j = k
  · subst e
    show ((if j = j then x else st.2.2.2.2.1 j).1 = true → _) ∧ ((if j = j then x else st.2.2.2.2.1 j).1 = false → _)
    rw [if_pos rfl]
    exact hx
  · show ((if j = k then x else st.2.2.2.2.1 j).1 = true → _) ∧ ((if j = k then x else st.2.2.2.2.1 j).1 = false → _)
    rw [if_neg e]
    obtain ⟨h1, h2⟩ := hI.2.2.2.2.1 j hj
    have g1 : ∀ x, M1 (40 + 2 * j) x = M (40 + 2 * j) x := fun x => hf _ x (by show ¬ (40 + 2 * j = 40 + 2 * k ∨ 40 + 2 * j = 41 + 2 * k); omega)
    have g2 : ∀ x, M1 (41 + 2 * j) x = M (41 + 2 * j) x := fun x => hf _ x (by show ¬ (41 + 2 * j = 40 + 2 * k ∨ 41 + 2 * j = 41 + 2 * k); omega)
    refine ⟨fun z => by rw [g1]; exact h1 z, fun z => ?_⟩
    obtain ⟨h3, h4, h5⟩ := h2 z
    exact ⟨by rw [g1]; exact h3, by rw [g1]; exact h4, fun i hi => by rw [g2]; exact h5 i hi⟩
set_option maxRecDepth 20000 in
theorem c_sheet (k l n : Int32) : cA mX5_sheet [.int k, .int l, .int n] (an_sheet k l n) := by
  intro M N st hI hO
  change hd_Go mX5_sheet 0 [some (.ref 0), some (.int k), some (.int l), some (.int n)] [] M N _
  have bad : ¬ (wi k 0 3 ∧ wi l 0 2 ∧ ¬ 40 < n) → hd_Go mX5_sheet 20 [some (.ref 0), some (.int k), some (.int l), some (.int n)] [] M N (fun r M1 N1 => r = some (an_sheet k l n st).1 ∧ N1 = N ∧ fr clsF M M1 ∧ CI M1 (an_sheet k l n st).2) := by
    intro q
    refine hd_go kX5_sheet 999 (fun _ => rfl) rfl trivial ?_
    refine hd_en_ kX5_sheet (fun _ => rfl) trivial ?_
    unfold an_sheet
    rw [if_neg q]
    exact ⟨rfl, rfl, fr.rf, hI⟩
  unfold an_sheet at bad ⊢
  refine hd_go kX5_sheet 999 (fun _ => rfl) rfl trivial ?_
  refine hd_ci kX5_sheet qX5_sheet (fun _ => rfl) (s_isSheet _ M N) ?_
  refine hd_ju kX5_sheet (fun _ => rfl) (fun q => bad (fun z => hd_b0.mp q z.1)) (fun q => ?_)
  have q1 := hd_b1.mp q
  refine hd_go kX5_sheet 999 (fun _ => rfl) rfl trivial ?_
  refine hd_ci kX5_sheet qX5_sheet (fun _ => rfl) (s_isLane _ M N) ?_
  refine hd_ju kX5_sheet (fun _ => rfl) (fun q => bad (fun z => hd_b0.mp q z.2.1)) (fun q => ?_)
  have q2 := hd_b1.mp q
  refine hd_go kX5_sheet 999 (fun _ => rfl) rfl trivial ?_
  refine hd_ju kX5_sheet (fun _ => rfl) (fun q => ?_) (fun q => bad (fun z => q (Int32.not_lt.mp z.2.2)))
  have q3 := Int32.not_lt.mpr q
  rw [if_pos ⟨q1, q2, q3⟩]
  refine hd_go kX5_sheet 999 (fun _ => rfl) rfl trivial ?_
  refine hd_ju kX5_sheet (fun _ => rfl) (fun c => ?_) (fun c => ?_)
  · have c9 := Int32.not_lt.mpr c
    rw [if_neg c9]
    obtain ⟨x, hx, rfl⟩ := nI_of2 (M := 40) (n := 40) rfl c9 q
    obtain ⟨j, hj, rfl, ek⟩ := wi03 q1
    rw [ek, nI_clamp (show x < 2 ^ 31 by omega)]
    have fin : ∀ M1 N1, (N1 = N ∧ fr (fun c _ => c = 40 + 2 * j ∨ c = 40 + 2 * j + 1) M M1 ∧ M1 (40 + 2 * j) 1 = l ∧ M1 (40 + 2 * j) 2 = nI x ∧ ∀ y, y < x → M1 (40 + 2 * j + 1) y = 0) → (N1 = N ∧ fr clsF M M1 ∧ CI M1 (st.1, st.2.1, st.2.2.1, st.2.2.2.1, (fun i => if i = j then ((false, l, x, fun _ => 0) : sh_T) else st.2.2.2.2.1 i), st.2.2.2.2.2)) := by
      rintro M1 N1 ⟨h1, h2, h3, h4, h5⟩
      refine ⟨h1, shI hI j hj (false, l, x, fun _ => 0) (h2.mo (fun c i z => by have z : c = 40 + 2 * j ∨ c = 40 + 2 * j + 1 := z; show c = 40 + 2 * j ∨ c = 41 + 2 * j; omega)) ⟨fun z => (by cases z), fun _ => ⟨h3, h4, fun i hi => ?_⟩⟩⟩
      have := h5 i hi
      rw [show 40 + 2 * j + 1 = 41 + 2 * j by omega] at this
      exact this
    rcases (show j = 0 ∨ j = 1 ∨ j = 2 ∨ j = 3 by omega) with rfl | rfl | rfl | rfl
    all_goals
      refine hd_go kX5_sheet 999 (fun _ => rfl) rfl ⟨trivial, by decide, by decide⟩ ?_
      refine hd_ca kX5_sheet qX5_sheet (fun _ => rfl) (s_renew _ (by simp) M N l x hx) ?_
      rintro r M1 N1 ⟨rfl, h2⟩
      refine hd_go kX5_sheet 999 (fun _ => rfl) rfl trivial ?_
      exact hd_en_ kX5_sheet (fun _ => rfl) trivial ⟨rfl, fin M1 N1 h2⟩
  · rw [if_pos (Int32.not_le.mp c)]
    refine hd_go kX5_sheet 999 (fun _ => rfl) rfl trivial ?_
    exact hd_en_ kX5_sheet (fun _ => rfl) trivial ⟨rfl, rfl, fr.rf, hI⟩
set_option maxRecDepth 20000 in
theorem s_faultS (M : hd_M) (N : hd_N) (st : ab_T) (hI : CI M st) (hO : OK st) (j : Nat) (hj : j < 4) (i : Int32) : (if M (40 + 2 * j) 2 < 0 then (1 : Int32) else if ¬ i < 0 ∧ i < M (40 + 2 * j) 2 then 0 else 2) = if (st.2.2.2.2.1 j).1 then 1 else if ¬ i < 0 ∧ i < nI (st.2.2.2.2.1 j).2.2.1 then 0 else 2 := by
  obtain ⟨h1, h2⟩ := hI.2.2.2.2.1 j hj
  cases hb : (st.2.2.2.2.1 j).1 with
  | true => rw [h1 hb]; rfl
  | false =>
    obtain ⟨h3, h4, h5⟩ := h2 hb
    have h40 := (hO.2.2.2.2 j hj hb).1
    rw [h4, if_neg (nI_pos (by omega))]
    rfl
set_option maxRecDepth 20000 in
theorem c_lay (k i v : Int32) : cA mX5_lay [.int k, .int i, .int v] (an_lay k i v) := by
  intro M N st hI hO
  change hd_Go mX5_lay 0 [some (.ref 0), some (.int k), some (.int i), some (.int v), none] [] M N _
  unfold an_lay
  refine hd_go kX5_lay 999 (fun _ => rfl) rfl trivial ?_
  refine hd_ci kX5_lay qX5_lay (fun _ => rfl) (s_isSheet _ M N) ?_
  refine hd_ju kX5_lay (fun _ => rfl) (fun q => ?_) (fun q => ?_)
  · have q1 := hd_b1.mp q
    rw [if_pos q1]
    obtain ⟨j, hj, rfl, ek⟩ := wi03 q1
    rw [ek]
    have e9 := s_faultS M N st hI hO j hj i
    obtain ⟨h1, h2⟩ := hI.2.2.2.2.1 j hj
    have key : ∀ x : Int32, x = (if (st.2.2.2.2.1 j).1 then 1 else if ¬ i < 0 ∧ i < nI (st.2.2.2.2.1 j).2.2.1 then 0 else 2) → hd_Go mX5_lay 19 [some (.ref 0), some (.int (nI j)), some (.int i), some (.int v), none] [.int x] M N (fun r M1 N1 => r = some (if (st.2.2.2.2.1 j).1 = true then (Value.int (-11), st) else if ¬ i < 0 ∧ i < nI (st.2.2.2.2.1 j).2.2.1 then (Value.int 1, st.1, st.2.1, st.2.2.1, st.2.2.2.1, (fun j' => if j' = j then (false, (st.2.2.2.2.1 j).2.1, (st.2.2.2.2.1 j).2.2.1, fun x => if x = i.toNatClampNeg then la_v (st.2.2.2.2.1 j).2.1 v else (st.2.2.2.2.1 j).2.2.2 x) else st.2.2.2.2.1 j'), st.2.2.2.2.2) else (Value.int (-12), st)).1 ∧ N1 = N ∧ fr clsF M M1 ∧ CI M1 (if (st.2.2.2.2.1 j).1 = true then (Value.int (-11), st) else if ¬ i < 0 ∧ i < nI (st.2.2.2.2.1 j).2.2.1 then (Value.int 1, st.1, st.2.1, st.2.2.1, st.2.2.2.1, (fun j' => if j' = j then (false, (st.2.2.2.2.1 j).2.1, (st.2.2.2.2.1 j).2.2.1, fun x => if x = i.toNatClampNeg then la_v (st.2.2.2.2.1 j).2.1 v else (st.2.2.2.2.1 j).2.2.2 x) else st.2.2.2.2.1 j'), st.2.2.2.2.2) else (Value.int (-12), st)).2) := by
      intro x hx
      refine hd_go kX5_lay 999 (fun _ => rfl) rfl trivial ?_
      cases hb : (st.2.2.2.2.1 j).1 with
      | true =>
        rw [hb, if_pos rfl] at hx
        subst hx
        refine hd_ju kX5_lay (fun _ => rfl) (fun c => absurd c (by decide)) (fun c => ?_)
        refine hd_go kX5_lay 999 (fun _ => rfl) rfl trivial ?_
        exact hd_en_ kX5_lay (fun _ => rfl) trivial ⟨rfl, rfl, fr.rf, hI⟩
      | false =>
        obtain ⟨h3, h4, h5⟩ := h2 hb
        have h40 := (hO.2.2.2.2 j hj hb).1
        rw [hb] at hx
        rw [if_neg (show ¬ (false = true) by decide)] at hx
        simp only [Bool.false_eq_true, if_false]
        by_cases hi : ¬ i < 0 ∧ i < nI (st.2.2.2.2.1 j).2.2.1
        · rw [if_pos hi] at hx
          rw [if_pos hi]
          subst hx
          refine hd_ju kX5_lay (fun _ => rfl) (fun c => ?_) (fun c => absurd rfl c)
          obtain ⟨y, hy, rfl⟩ := nI_of hi.1
          have hy2 : y < (st.2.2.2.2.1 j).2.2.1 := (nI_ltI hy (by omega)).mp hi.2
          rw [nI_clamp hy]
          have fin : ∀ M1, M1 = hd_u M (40 + 2 * j + 1) y (la_v (M (40 + 2 * j) 1) v) → (fr clsF M M1 ∧ CI M1 (st.1, st.2.1, st.2.2.1, st.2.2.2.1, (fun j' => if j' = j then ((false, (st.2.2.2.2.1 j).2.1, (st.2.2.2.2.1 j).2.2.1, fun x => if x = y then la_v (st.2.2.2.2.1 j).2.1 v else (st.2.2.2.2.1 j).2.2.2 x) : sh_T) else st.2.2.2.2.1 j'), st.2.2.2.2.2)) := by
            rintro M1 rfl
            refine shI hI j hj (false, (st.2.2.2.2.1 j).2.1, (st.2.2.2.2.1 j).2.2.1, fun x => if x = y then la_v (st.2.2.2.2.1 j).2.1 v else (st.2.2.2.2.1 j).2.2.2 x) (fr.rf.up (by show 40 + 2 * j + 1 = 40 + 2 * j ∨ 40 + 2 * j + 1 = 41 + 2 * j; omega)) ⟨fun z => (by cases z), fun _ => ⟨?_, ?_, fun a ha => ?_⟩⟩
            · rw [hd_u_n (by omega)]; exact h3
            · rw [hd_u_n (by omega)]; exact h4
            · show _ = if a = y then la_v (st.2.2.2.2.1 j).2.1 v else (st.2.2.2.2.1 j).2.2.2 a
              by_cases e : a = y
              · rw [if_pos e, e, show 41 + 2 * j = 40 + 2 * j + 1 by omega, hd_u_s, h3]
              · rw [if_neg e, hd_u_n (by omega)]; exact h5 a ha
          rcases (show j = 0 ∨ j = 1 ∨ j = 2 ∨ j = 3 by omega) with rfl | rfl | rfl | rfl
          all_goals
            refine hd_go kX5_lay 999 (fun _ => rfl) rfl ⟨trivial, by decide, by decide⟩ ?_
            refine hd_ca kX5_lay qX5_lay (fun _ => rfl) (s_put _ (by simp) M N y (by omega) v) ?_
            rintro r M1 N1 ⟨rfl, rfl, h9⟩
            refine hd_go kX5_lay 999 (fun _ => rfl) rfl trivial ?_
            exact hd_en_ kX5_lay (fun _ => rfl) trivial ⟨rfl, rfl, fin M1 h9⟩
        · rw [if_neg hi] at hx
          rw [if_neg hi]
          subst hx
          refine hd_ju kX5_lay (fun _ => rfl) (fun c => absurd c (by decide)) (fun c => ?_)
          refine hd_go kX5_lay 999 (fun _ => rfl) rfl trivial ?_
          exact hd_en_ kX5_lay (fun _ => rfl) trivial ⟨rfl, rfl, fr.rf, hI⟩
    rcases (show j = 0 ∨ j = 1 ∨ j = 2 ∨ j = 3 by omega) with rfl | rfl | rfl | rfl
    all_goals
      refine hd_go kX5_lay 999 (fun _ => rfl) rfl ⟨trivial, by decide, by decide⟩ ?_
      refine hd_ci kX5_lay qX5_lay (fun _ => rfl) (s_faultAt _ (by simp) M N i) ?_
      exact key _ e9
  · have q := hd_b0.mp q
    rw [if_neg q]
    refine hd_go kX5_lay 999 (fun _ => rfl) rfl trivial ?_
    exact hd_en_ kX5_lay (fun _ => rfl) trivial ⟨rfl, rfl, fr.rf, hI⟩
set_option maxRecDepth 20000 in
theorem s_made (M : hd_M) (N : hd_N) (st : ab_T) (hI : CI M st) : hd_Ret mX5_imagesMade [.ref 0] M N (hd_is (.int ((if (st.2.2.2.1 0).1 then 1 else 0) + (if (st.2.2.2.1 1).1 then 1 else 0))) M N) := by
  change hd_Go mX5_imagesMade 0 [some (.ref 0), none, none] [] M N _
  have e0 : M 19 2 = if (st.2.2.2.1 0).1 then 1 else 0 := (hI.2.2.2.1 0 (by decide)).1
  have e1 : M 29 2 = if (st.2.2.2.1 1).1 then 1 else 0 := (hI.2.2.2.1 1 (by decide)).1
  have one : ∀ (x : Int32) (Q : hd_Q) (lv : hd_L) (y : Int32) (b : Bool), x = (if b then 1 else 0) → hd_Go mX5_imagesMade 27 lv [.int (if b then 1 else 0), .int y] M N Q → hd_Go mX5_imagesMade 19 lv [.int x, .int y] M N Q := by
    intro x Q lv y b hx h
    subst hx
    cases b with
    | true =>
      refine hd_ju kX5_imagesMade (fun _ => rfl) (fun c => absurd c (by decide)) (fun c => ?_)
      refine hd_go kX5_imagesMade 999 (fun _ => rfl) rfl trivial ?_
      exact h
    | false =>
      refine hd_ju kX5_imagesMade (fun _ => rfl) (fun c => ?_) (fun c => absurd rfl c)
      refine hd_go kX5_imagesMade 27 (fun _ => rfl) rfl trivial ?_
      exact h
  refine hd_go kX5_imagesMade 999 (fun _ => rfl) rfl trivial ?_
  refine hd_ju kX5_imagesMade (fun _ => rfl) (fun c => absurd c (by decide)) (fun c => ?_)
  refine hd_go kX5_imagesMade 999 (fun _ => rfl) rfl ⟨trivial, by decide, by decide⟩ ?_
  refine one _ _ _ _ _ e0 ?_
  refine hd_go kX5_imagesMade 999 (fun _ => rfl) rfl trivial ?_
  refine hd_go kX5_imagesMade 999 (fun _ => rfl) rfl trivial ?_
  refine hd_ju kX5_imagesMade (fun _ => rfl) (fun c => absurd c (by decide)) (fun c => ?_)
  refine hd_go kX5_imagesMade 999 (fun _ => rfl) rfl ⟨trivial, by decide, by decide⟩ ?_
  refine one _ _ _ _ _ e1 ?_
  refine hd_go kX5_imagesMade 999 (fun _ => rfl) rfl trivial ?_
  refine hd_go kX5_imagesMade 999 (fun _ => rfl) rfl trivial ?_
  refine hd_ju kX5_imagesMade (fun _ => rfl) (fun c => ?_) (fun c => absurd (by decide) c)
  refine hd_go kX5_imagesMade 999 (fun _ => rfl) rfl trivial ?_
  refine hd_en_ kX5_imagesMade (fun _ => rfl) trivial ⟨?_, rfl, rfl⟩
  rw [Int32.zero_add]
set_option maxRecDepth 20000 in
theorem c_count (w : Int32) : cA mX5_count [.int w] (an_count w) := by
  intro M N st hI hO
  change hd_Go mX5_count 0 [some (.ref 0), some (.int w)] [] M N _
  have e3 : (if M 40 2 < 0 then (-4 : Int32) else M 40 2) = if (st.2.2.2.2.1 0).1 then -4 else nI (st.2.2.2.2.1 0).2.2.1 := by
    obtain ⟨h1, h2⟩ := hI.2.2.2.2.1 0 (by decide)
    cases hb : (st.2.2.2.2.1 0).1 with
    | true => rw [show M 40 2 = -1 from h1 hb]; rfl
    | false =>
      obtain ⟨h3, h4, h5⟩ := h2 hb
      have h40 := (hO.2.2.2.2 0 (by decide) hb).1
      rw [show M 40 2 = nI (st.2.2.2.2.1 0).2.2.1 from h4, if_neg (nI_pos (by omega))]
      rfl
  have s1 : wsm (M 3) 0 st.1.1 = wsm (st.1.2.2.2.2.2 1) 0 st.1.1 := wsm_cong _ _ (fun i _ h => hI.1.2.2.2.2.2.2.1 i (by omega))
  have s2 : wsm (M 4) 0 st.1.1 = wsm (st.1.2.2.2.2.2 2) 0 st.1.1 := wsm_cong _ _ (fun i _ h => hI.1.2.2.2.2.2.2.2.1 i (by omega))
  refine hd_go kX5_count 999 (fun _ => rfl) rfl trivial ?_
  refine hd_sc kX5_count (fun _ => rfl) ⟨fun c => ?_, fun c0 => ⟨fun c => ?_, fun c1 => ⟨fun c => ?_, fun c2 => ⟨fun c => ?_, fun c3 => ⟨fun c => ?_, fun c4 => ⟨fun c => ?_, fun c5 => ?_⟩⟩⟩⟩⟩⟩
  · subst c
    refine hd_go kX5_count 999 (fun _ => rfl) rfl trivial ?_
    exact hd_en_ kX5_count (fun _ => rfl) trivial ⟨by rw [hI.2.1.1]; rfl, rfl, fr.rf, hI⟩
  · subst c
    refine hd_go kX5_count 999 (fun _ => rfl) rfl trivial ?_
    refine hd_ci kX5_count qX5_count (fun _ => rfl) (s_made M N st hI) ?_
    exact hd_en_ kX5_count (fun _ => rfl) trivial ⟨rfl, rfl, fr.rf, hI⟩
  · subst c
    refine hd_go kX5_count 999 (fun _ => rfl) rfl trivial ?_
    exact hd_en_ kX5_count (fun _ => rfl) trivial ⟨by rw [hI.2.2.1.1]; rfl, rfl, fr.rf, hI⟩
  · subst c
    refine hd_go kX5_count 999 (fun _ => rfl) rfl ⟨trivial, by decide, by decide⟩ ?_
    refine hd_ju kX5_count (fun _ => rfl) (fun c => ?_) (fun c => ?_)
    · refine hd_go kX5_count 999 (fun _ => rfl) rfl ⟨trivial, by decide, by decide⟩ ?_
      refine hd_en_ kX5_count (fun _ => rfl) trivial ⟨?_, rfl, fr.rf, hI⟩
      rw [if_neg (Int32.not_lt.mpr c)] at e3
      exact congrArg (fun x => some (Value.int x)) e3
    · refine hd_go kX5_count 999 (fun _ => rfl) rfl trivial ?_
      refine hd_en_ kX5_count (fun _ => rfl) trivial ⟨?_, rfl, fr.rf, hI⟩
      rw [if_pos (Int32.not_le.mp c)] at e3
      exact congrArg (fun x => some (Value.int x)) e3
  · subst c
    refine hd_go kX5_count 999 (fun _ => rfl) rfl trivial ?_
    refine hd_ci kX5_count qX5_count (fun _ => rfl) (s_sumOf_1 M N 3 st.1.1 (by simp) hO.1.1 hI.1.1) ?_
    exact hd_en_ kX5_count (fun _ => rfl) trivial ⟨by rw [s1]; rfl, rfl, fr.rf, hI⟩
  · subst c
    refine hd_go kX5_count 999 (fun _ => rfl) rfl trivial ?_
    refine hd_ci kX5_count qX5_count (fun _ => rfl) (s_sumOf_1 M N 4 st.1.1 (by simp) hO.1.1 hI.1.1) ?_
    exact hd_en_ kX5_count (fun _ => rfl) trivial ⟨by rw [s2]; rfl, rfl, fr.rf, hI⟩
  · refine hd_go kX5_count 999 (fun _ => rfl) rfl trivial ?_
    refine hd_en_ kX5_count (fun _ => rfl) trivial ⟨?_, rfl, fr.rf, hI⟩
    simp only [an_count, c0, c1, c2, c3, c4, c5, if_false]
