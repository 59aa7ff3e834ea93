/-! THE REFERENCE: A LINE, THE TEXT; printed by wip/whole/rt3.py -/
set_option maxRecDepth 20000 in
theorem r_sg1 (M : hd_M) (N : hd_N) (x : Int32) (Q : hd_Q) (h : hd_Go mX6_readLine 30 [some (.ref 51), some (.int x)] [.int (hd_b (¬ x = -4)), .ref 51] M N Q) : hd_Go mX6_readLine 18 [some (.ref 51), some (.int x)] [] M N Q := by
  refine hd_go kX6_readLine 999 (fun _ => rfl) rfl trivial ?_
  refine hd_ju kX6_readLine (fun _ => rfl) (fun c => ?_) (fun c => ?_)
  · refine hd_go kX6_readLine 30 (fun _ => rfl) rfl trivial ?_
    rw [show hd_b (¬ x = -4) = 0 from if_neg (fun z => z c)] at h
    exact h
  · refine hd_go kX6_readLine 30 (fun _ => rfl) rfl trivial ?_
    rw [show hd_b (¬ x = -4) = 1 from if_pos c] at h
    exact h
set_option maxRecDepth 20000 in
theorem r_sg2 (M : hd_M) (N : hd_N) (x y : Int32) (Q : hd_Q) (hy : M 55 28 = y) (h : hd_Go mX6_readLine 57 [some (.ref 51), some (.int x)] [.int (hd_b (4 ≤ x ∨ ¬ 7 ≤ y)), .ref 51] M N Q) : hd_Go mX6_readLine 34 [some (.ref 51), some (.int x)] [] M N Q := by
  have good : (4 ≤ x ∨ ¬ 7 ≤ y) → hd_Go mX6_readLine 52 [some (.ref 51), some (.int x)] [.ref 51] M N Q := by
    intro z
    refine hd_go kX6_readLine 57 (fun _ => rfl) rfl trivial ?_
    rw [show hd_b (4 ≤ x ∨ ¬ 7 ≤ y) = 1 from if_pos z] at h
    exact h
  refine hd_go kX6_readLine 999 (fun _ => rfl) rfl trivial ?_
  refine hd_ju kX6_readLine (fun _ => rfl) (fun c => good (Or.inl c)) (fun c => ?_)
  refine hd_go kX6_readLine 999 (fun _ => rfl) rfl ⟨trivial, vi (j := 28) rfl (by decide) (by decide)⟩ ?_
  rw [show M 55 (28 : Int32).toNatClampNeg = y from hy]
  refine hd_ju kX6_readLine (fun _ => rfl) (fun c2 => ?_) (fun c2 => good (Or.inr c2))
  refine hd_go kX6_readLine 57 (fun _ => rfl) rfl trivial ?_
  rw [show hd_b (4 ≤ x ∨ ¬ 7 ≤ y) = 0 from if_neg (fun z => z.elim c (fun z => z c2))] at h
  exact h
set_option maxRecDepth 20000 in
theorem r_sg3 (M : hd_M) (N : hd_N) (x y : Int32) (Q : hd_Q) (hy : M 51 4 = y) (h : hd_Go mX6_readLine 79 [some (.ref 51), some (.int x)] [.int (hd_b (¬ x = 4 ∨ y = 0)), .ref 51] M N Q) : hd_Go mX6_readLine 61 [some (.ref 51), some (.int x)] [] M N Q := by
  have good : (¬ x = 4 ∨ y = 0) → hd_Go mX6_readLine 74 [some (.ref 51), some (.int x)] [.ref 51] M N Q := by
    intro z
    refine hd_go kX6_readLine 79 (fun _ => rfl) rfl trivial ?_
    rw [show hd_b (¬ x = 4 ∨ y = 0) = 1 from if_pos z] at h
    exact h
  refine hd_go kX6_readLine 999 (fun _ => rfl) rfl trivial ?_
  refine hd_ju kX6_readLine (fun _ => rfl) (fun c => good (Or.inl c)) (fun c => ?_)
  refine hd_go kX6_readLine 999 (fun _ => rfl) rfl trivial ?_
  rw [hy]
  refine hd_ju kX6_readLine (fun _ => rfl) (fun c2 => ?_) (fun c2 => good (Or.inr c2))
  refine hd_go kX6_readLine 79 (fun _ => rfl) rfl trivial ?_
  rw [show hd_b (¬ x = 4 ∨ y = 0) = 0 from if_neg (fun z => z.elim (fun z => z c) c2)] at h
  exact h
set_option maxRecDepth 20000 in
theorem r_sg4 (M : hd_M) (N : hd_N) (x y : Int32) (Q : hd_Q) (hy : M 51 5 = y) (h : hd_Go mX6_readLine 101 [some (.ref 51), some (.int x)] [.int (hd_b (¬ x = 5 ∨ y = 0)), .ref 51] M N Q) : hd_Go mX6_readLine 83 [some (.ref 51), some (.int x)] [] M N Q := by
  have good : (¬ x = 5 ∨ y = 0) → hd_Go mX6_readLine 96 [some (.ref 51), some (.int x)] [.ref 51] M N Q := by
    intro z
    refine hd_go kX6_readLine 101 (fun _ => rfl) rfl trivial ?_
    rw [show hd_b (¬ x = 5 ∨ y = 0) = 1 from if_pos z] at h
    exact h
  refine hd_go kX6_readLine 999 (fun _ => rfl) rfl trivial ?_
  refine hd_ju kX6_readLine (fun _ => rfl) (fun c => good (Or.inl c)) (fun c => ?_)
  refine hd_go kX6_readLine 999 (fun _ => rfl) rfl trivial ?_
  rw [hy]
  refine hd_ju kX6_readLine (fun _ => rfl) (fun c2 => ?_) (fun c2 => good (Or.inr c2))
  refine hd_go kX6_readLine 101 (fun _ => rfl) rfl trivial ?_
  rw [show hd_b (¬ x = 5 ∨ y = 0) = 0 from if_neg (fun z => z.elim (fun z => z c) c2)] at h
  exact h
set_option maxRecDepth 20000 in
theorem r_sg5 (M : hd_M) (N : hd_N) (x : Int32) (b : Bool) (Q : hd_Q) (hy : M 51 4 = bI b) (h : hd_Go mX6_readLine 126 [some (.ref 51), some (.int x)] [] (hd_u M 51 4 (bI (b || decide (x = 4)))) N Q) : hd_Go mX6_readLine 105 [some (.ref 51), some (.int x)] [] M N Q := by
  have nx : ∀ y : Int32, y = bI (b || decide (x = 4)) → hd_Go mX6_readLine 123 [some (.ref 51), some (.int x)] [.int y, .ref 51] M N Q := by
    rintro y rfl
    refine hd_go kX6_readLine 126 (fun _ => rfl) rfl ⟨trivial, by cases (b || decide (x = 4)) <;> decide⟩ ?_
    exact h
  have good : bI (b || decide (x = 4)) = 1 → hd_Go mX6_readLine 118 [some (.ref 51), some (.int x)] [.ref 51] M N Q := by
    intro z
    refine hd_go kX6_readLine 123 (fun _ => rfl) rfl trivial ?_
    exact nx 1 z.symm
  refine hd_go kX6_readLine 999 (fun _ => rfl) rfl trivial ?_
  rw [hy]
  refine hd_ju kX6_readLine (fun _ => rfl) (fun c => ?_) (fun c => ?_)
  · cases b with
    | true => exact good rfl
    | false => exact absurd rfl c
  · cases b with
    | true => exact absurd c (by decide)
    | false =>
      refine hd_go kX6_readLine 999 (fun _ => rfl) rfl trivial ?_
      refine hd_ju kX6_readLine (fun _ => rfl) (fun c2 => ?_) (fun c2 => ?_)
      · refine hd_go kX6_readLine 123 (fun _ => rfl) rfl trivial ?_
        exact nx 0 (by rw [decide_eq_false c2]; rfl)
      · exact good (by rw [decide_eq_true c2]; rfl)
set_option maxRecDepth 20000 in
theorem r_sg6 (M : hd_M) (N : hd_N) (x : Int32) (b : Bool) (Q : hd_Q) (hy : M 51 5 = bI b) (h : hd_Go mX6_readLine 147 [some (.ref 51), some (.int x)] [] (hd_u M 51 5 (bI (b || decide (x = 5)))) N Q) : hd_Go mX6_readLine 126 [some (.ref 51), some (.int x)] [] M N Q := by
  have nx : ∀ y : Int32, y = bI (b || decide (x = 5)) → hd_Go mX6_readLine 144 [some (.ref 51), some (.int x)] [.int y, .ref 51] M N Q := by
    rintro y rfl
    refine hd_go kX6_readLine 147 (fun _ => rfl) rfl ⟨trivial, by cases (b || decide (x = 5)) <;> decide⟩ ?_
    exact h
  have good : bI (b || decide (x = 5)) = 1 → hd_Go mX6_readLine 139 [some (.ref 51), some (.int x)] [.ref 51] M N Q := by
    intro z
    refine hd_go kX6_readLine 144 (fun _ => rfl) rfl trivial ?_
    exact nx 1 z.symm
  refine hd_go kX6_readLine 999 (fun _ => rfl) rfl trivial ?_
  rw [hy]
  refine hd_ju kX6_readLine (fun _ => rfl) (fun c => ?_) (fun c => ?_)
  · cases b with
    | true => exact good rfl
    | false => exact absurd rfl c
  · cases b with
    | true => exact absurd c (by decide)
    | false =>
      refine hd_go kX6_readLine 999 (fun _ => rfl) rfl trivial ?_
      refine hd_ju kX6_readLine (fun _ => rfl) (fun c2 => ?_) (fun c2 => ?_)
      · refine hd_go kX6_readLine 144 (fun _ => rfl) rfl trivial ?_
        exact nx 0 (by rw [decide_eq_false c2]; rfl)
      · exact good (by rw [decide_eq_true c2]; rfl)
abbrev rlF : Nat → Nat → Prop := fun c j => c = 55 ∨ (c = 51 ∧ ((4 ≤ j ∧ j ≤ 5) ∨ (8 ≤ j ∧ j ≤ 13)))
theorem lo_rl : ∀ c j, loF c j → rlF c j := fun c j z => z.elim Or.inl (fun z => Or.inr ⟨z.1, Or.inr z.2⟩)
theorem rd_rl : ∀ c j, rdF c j → rlF c j := fun c j z => Or.inr ⟨z.1, Or.inr z.2⟩
theorem rq_rl : ∀ c j, (c = 51 ∧ 12 ≤ j ∧ j ≤ 13) → rlF c j := fun c j z => Or.inr ⟨z.1, Or.inr (by have := z.2; omega)⟩
theorem rl_7 : ¬ rlF 51 7 := fun z => by have z : 51 = 55 ∨ (51 = 51 ∧ ((4 ≤ 7 ∧ 7 ≤ 5) ∨ (8 ≤ 7 ∧ 7 ≤ 13))) := z; omega
theorem rl_56 (j : Nat) : ¬ rlF 56 j := fun z => by have z : 56 = 55 ∨ (56 = 51 ∧ ((4 ≤ j ∧ j ≤ 5) ∨ (8 ≤ j ∧ j ≤ 13))) := z; omega
/-- what a line does -/
def rlQ (M : hd_M) (N : hd_N) (t : tx_T) (L : tx_L) : hd_Q := fun r M1 N1 => r = none ∧ N1 = N ∧ fr rlF M M1 ∧ ((∃ c w, L = .inl (c, w) ∧ rS M1 t (.inl (c, w))) ∨ (∃ e d mt tt, L = .inr (e, d, mt, tt) ∧ rS M1 t (tx_rd t e) ∧ rfd M1 d ∧ M1 51 4 = bI mt ∧ M1 51 5 = bI tt))
set_option maxRecDepth 20000 in
theorem r_lend (M : hd_M) (N : hd_N) (t : tx_T) (ht : tpR M t) (ok : tx_ok t) (σ : tx_F ⊕ Nat) (hS : rS M t σ) (x : Int32) : hd_Go mX6_readLine 164 [some (.ref 51), some (.int x)] [] M N (fun r M1 N1 => r = none ∧ N1 = N ∧ fr rdF M M1 ∧ rS M1 t (rst t σ)) := by
  have nx : ∀ (M1 : hd_M) (σ1 : tx_F ⊕ Nat), fr rdF M M1 → rS M1 t σ1 → rnx t σ1 = rst t σ → hd_Go mX6_readLine 189 [some (.ref 51), some (.int x)] [] M1 N (fun r M1 N1 => r = none ∧ N1 = N ∧ fr rdF M M1 ∧ rS M1 t (rst t σ)) := by
    intro M1 σ1 hf h1 h2
    refine hd_go kX6_readLine 999 (fun _ => rfl) rfl trivial ?_
    refine hd_ca kX6_readLine qX6_readLine (fun _ => rfl) (r_rdS M1 N t (ht.fr hf rd_7 rd_56) ok σ1 h1) ?_
    rintro r M2 N2 ⟨rfl, rfl, hf2, h3⟩
    exact hd_en_ kX6_readLine (fun _ => rfl) trivial ⟨rfl, rfl, hf.tr hf2, by rw [← h2]; exact h3⟩
  refine hd_go kX6_readLine 999 (fun _ => rfl) rfl trivial ?_
  match σ, hS with
  | .inl (c, w), hS =>
    have n0 : ¬ M 51 12 = 0 := fun z => by obtain ⟨s, e⟩ := (rS.zero hS).mp z; cases e
    refine hd_ju kX6_readLine (fun _ => rfl) (fun _ => nx M (.inl (c, w)) fr.rf hS rfl) (fun z => absurd z n0)
  | .inr s, hS =>
    rw [hS.1]
    refine hd_ju kX6_readLine (fun _ => rfl) (fun c => absurd rfl c) (fun _ => ?_)
    refine hd_go kX6_readLine 999 (fun _ => rfl) rfl trivial ?_
    rw [hS.2.2.2.2.1]
    have go2 : ∀ y : Int32, y = hd_b (tx_so t s = 3) → hd_Go mX6_readLine 185 [some (.ref 51), some (.int x)] [.int y, .ref 51] M N (fun r M1 N1 => r = none ∧ N1 = N ∧ fr rdF M M1 ∧ rS M1 t (rst t (.inr s))) := by
      rintro y rfl
      refine hd_go kX6_readLine 999 (fun _ => rfl) rfl trivial ?_
      refine hd_ca kX6_readLine qX6_readLine (fun _ => rfl) (r_rq M N t (.inr s) hS (tx_so t s = 3) 2 (by decide)) ?_
      rintro r M1 N1 ⟨rfl, rfl, hf, h1⟩
      refine nx M1 _ (hf.mo (fun c j z => ⟨z.1, by have := z.2; omega, by have := z.2; omega⟩)) h1 ?_
      unfold rst
      simp only []
      by_cases h3 : tx_so t s = 3
      · rw [rq_t h3, if_pos h3]; rfl
      · rw [rq_f h3, if_neg h3]; rfl
    refine hd_ju kX6_readLine (fun _ => rfl) (fun c => ?_) (fun c => ?_)
    · refine hd_go kX6_readLine 185 (fun _ => rfl) rfl trivial ?_
      exact go2 0 (by unfold hd_b; rw [if_neg c])
    · refine hd_go kX6_readLine 185 (fun _ => rfl) rfl trivial ?_
      exact go2 1 (by unfold hd_b; rw [if_pos c])
set_option maxRecDepth 20000 in
theorem r_lbad (M M1 : hd_M) (N : hd_N) (t : tx_T) (c : Int32) (w : Nat) (L : tx_L) (hL : L = .inl (c, w)) (hf : fr rlF M M1) (h1 : rS M1 t (.inl (c, w))) (x : Int32) : hd_Go mX6_readLine 151 [some (.ref 51), some (.int x)] [] M1 N (rlQ M N t L) := by
  refine hd_go kX6_readLine 999 (fun _ => rfl) rfl trivial ?_
  refine hd_ju kX6_readLine (fun _ => rfl) (fun z => absurd (show 0 < M1 51 12 by rw [h1.1]; exact h1.2.1) (Int32.not_lt.mpr z)) (fun _ => ?_)
  exact hd_en_ kX6_readLine (fun _ => rfl) trivial ⟨rfl, rfl, hf, Or.inl ⟨c, w, hL, h1⟩⟩
set_option maxRecDepth 20000 in
theorem r_lgo (M M1 : hd_M) (N : hd_N) (t : tx_T) (ht : tpR M t) (ok : tx_ok t) (L : tx_L) (hf : fr rlF M M1) (s1 : Nat) (h1 : rS M1 t (.inr s1)) (x : Int32) (σ : tx_F ⊕ Nat) (hR : hd_Ret mX6_readLineOf [.ref 51, .int x] M1 N (fun r M2 N2 => r = none ∧ N2 = N ∧ fr loF M1 M2 ∧ rS M2 t σ ∧ ∀ M3, fr rdF M2 M3 → rS M3 t (rst t σ) → ((∃ c w, L = .inl (c, w) ∧ rS M3 t (.inl (c, w))) ∨ (∃ e d mt tt, L = .inr (e, d, mt, tt) ∧ rS M3 t (tx_rd t e) ∧ rfd M3 d ∧ M3 51 4 = bI mt ∧ M3 51 5 = bI tt)))) : hd_Go mX6_readLine 151 [some (.ref 51), some (.int x)] [] M1 N (rlQ M N t L) := by
  refine hd_go kX6_readLine 999 (fun _ => rfl) rfl trivial ?_
  rw [h1.1]
  refine hd_ju kX6_readLine (fun _ => rfl) (fun _ => ?_) (fun c => absurd (by decide) c)
  refine hd_go kX6_readLine 999 (fun _ => rfl) rfl trivial ?_
  refine hd_ca kX6_readLine qX6_readLine (fun _ => rfl) hR ?_
  rintro r M2 N2 ⟨rfl, rfl, hf2, h2, h3⟩
  have f2 : fr rlF M M2 := hf.tr (hf2.mo lo_rl)
  refine hd_Go.post ?_ (r_lend M2 N2 t (ht.fr f2 rl_7 rl_56) ok σ h2 x)
  rintro r M3 N3 ⟨rfl, rfl, hf3, h4⟩
  exact ⟨rfl, rfl, f2.tr (hf3.mo rd_rl), h3 M3 hf3 h4⟩
theorem bI0 (b : Bool) : bI b = 0 ↔ b = false := by cases b <;> decide
theorem fl4 {M1 M2 M3 : hd_M} (h : fr loF M1 M2) (h2 : fr rdF M2 M3) {j : Nat} (hj : j < 8) : M3 51 j = M1 51 j := by
  rw [h2 51 j (fun z => by have z := z.2.1; omega), h 51 j (fun z => by have z : 51 = 55 ∨ (51 = 51 ∧ 8 ≤ j ∧ j ≤ 13) := z; omega)]
theorem fl55 {M2 M3 : hd_M} (h2 : fr rdF M2 M3) (j : Nat) : M3 55 j = M2 55 j := h2 55 j (fun z => by have z := z.1; omega)
set_option maxRecDepth 20000 in
theorem r_line (M : hd_M) (N : hd_N) (t : tx_T) (ht : tpR M t) (ok : tx_ok t) (s : Nat) (hS : rS M t (.inr s)) (d : dy_T) (hd : rfd M d) (od : txd d) (mt tt : Bool) (h4 : M 51 4 = bI mt) (h5 : M 51 5 = bI tt) : hd_Ret mX6_readLine [.ref 51] M N (rlQ M N t (tx_ln t s d mt tt)) := by
  change hd_Go mX6_readLine 0 [some (.ref 51), none] [] M N _
  have h7 := od.1
  have key : hd_Go mX6_readLine 18 [some (.ref 51), some (.int (rkd t s))] [] M N (rlQ M N t (tx_ln t s d mt tt)) := by
    have hk := tx_wd_c t s
    unfold tx_ln
    generalize rkd t s = x at hk ⊢
    generalize tx_wd t s = wd at hk ⊢
    refine r_sg1 M N x _ ?_
    refine hd_go kX6_readLine 999 (fun _ => rfl) rfl trivial ?_
    refine hd_ca kX6_readLine qX6_readLine (fun _ => rfl) (r_rq M N t (.inr s) hS (¬ x = -4) 2 (by decide)) ?_
    rintro r M1 N1 ⟨rfl, rfl, hf1, g1⟩
    have o1 : ∀ c j, ¬ (c = 51 ∧ 12 ≤ j ∧ j ≤ 13) → M1 c j = M c j := fun c j z => hf1 c j z
    refine r_sg2 M1 N1 x (nI d.1) _ (by rw [o1 55 28 (by omega)]; exact hd.1) ?_
    refine hd_go kX6_readLine 999 (fun _ => rfl) rfl trivial ?_
    refine hd_ca kX6_readLine qX6_readLine (fun _ => rfl) (r_rq M1 N1 t _ g1 (4 ≤ x ∨ ¬ 7 ≤ nI d.1) 5 (by decide)) ?_
    rintro r M2 N2 ⟨rfl, rfl, hf2, g2⟩
    have o2 : ∀ c j, ¬ (c = 51 ∧ 12 ≤ j ∧ j ≤ 13) → M2 c j = M c j := fun c j z => (hf2 c j z).trans (o1 c j z)
    refine r_sg3 M2 N2 x (bI mt) _ (by rw [o2 51 4 (by omega)]; exact h4) ?_
    refine hd_go kX6_readLine 999 (fun _ => rfl) rfl trivial ?_
    refine hd_ca kX6_readLine qX6_readLine (fun _ => rfl) (r_rq M2 N2 t _ g2 (¬ x = 4 ∨ bI mt = 0) 4 (by decide)) ?_
    rintro r M3 N3 ⟨rfl, rfl, hf3, g3⟩
    have o3 : ∀ c j, ¬ (c = 51 ∧ 12 ≤ j ∧ j ≤ 13) → M3 c j = M c j := fun c j z => (hf3 c j z).trans (o2 c j z)
    refine r_sg4 M3 N3 x (bI tt) _ (by rw [o3 51 5 (by omega)]; exact h5) ?_
    refine hd_go kX6_readLine 999 (fun _ => rfl) rfl trivial ?_
    refine hd_ca kX6_readLine qX6_readLine (fun _ => rfl) (r_rq M3 N3 t _ g3 (¬ x = 5 ∨ bI tt = 0) 4 (by decide)) ?_
    rintro r M4 N4 ⟨rfl, rfl, hf4, g4⟩
    have o4 : ∀ c j, ¬ (c = 51 ∧ 12 ≤ j ∧ j ≤ 13) → M4 c j = M c j := fun c j z => (hf4 c j z).trans (o3 c j z)
    have f4 : fr rlF M M4 := ((hf1.tr (hf2.tr (hf3.tr hf4)))).mo rq_rl
    refine r_sg5 M4 N4 x mt _ (by rw [o4 51 4 (by omega)]; exact h4) ?_
    refine r_sg6 _ N4 x tt _ (by rw [hd_u_n (by omega), o4 51 5 (by omega)]; exact h5) ?_
    obtain ⟨M5, hM5⟩ : ∃ M5, M5 = hd_u (hd_u M4 51 4 (bI (mt || decide (x = 4)))) 51 5 (bI (tt || decide (x = 5))) := ⟨_, rfl⟩
    rw [← hM5]
    have f5 : fr rlF M M5 := by rw [hM5]; exact (f4.up (Or.inr ⟨rfl, Or.inl ⟨by decide, by decide⟩⟩)).up (Or.inr ⟨rfl, Or.inl ⟨by decide, by decide⟩⟩)
    have k4 : M5 51 4 = bI (mt || decide (x = 4)) := by rw [hM5, hd_u_n (by omega), hd_u_s]
    have k5 : M5 51 5 = bI (tt || decide (x = 5)) := by rw [hM5, hd_u_s]
    have g5 : rS M5 t (rq (¬ x = 5 ∨ bI tt = 0) 4 (rq (¬ x = 4 ∨ bI mt = 0) 4 (rq (4 ≤ x ∨ ¬ 7 ≤ nI d.1) 5 (rq (¬ x = -4) 2 (.inr s))))) := g4.mv (fun j z1 z2 => by rw [hM5, hd_u_n (by omega), hd_u_n (by omega)])
    have d5 : ∀ j, M5 55 j = M 55 j := fun j => by rw [hM5, hd_u_n (by omega), hd_u_n (by omega), o4 55 j (by omega)]
    clear hM5 g1 g2 g3 g4
    have rd5 : rfd M5 d := hd.mv d5
    have ht5 : tpR M5 t := ht.fr f5 rl_7 rl_56
    refine hd_go kX6_readLine 999 (fun _ => rfl) rfl trivial ?_
    refine hd_ca kX6_readLine qX6_readLine (fun _ => rfl) (r_rdS M5 N4 t ht5 ok _ g5) ?_
    rintro r M6 N6 ⟨rfl, rfl, hf6, g6⟩
    have f6 : fr rlF M M6 := f5.tr (hf6.mo rd_rl)
    have ht6 : tpR M6 t := ht.fr f6 rl_7 rl_56
    have d6 : ∀ j, M6 55 j = M 55 j := fun j => (fl55 hf6 j).trans (d5 j)
    have rd6 : rfd M6 d := hd.mv d6
    have q4 : M6 51 4 = bI (mt || decide (x = 4)) := by rw [hf6 51 4 (fun z => by have z := z.2.1; omega)]; exact k4
    have q5 : M6 51 5 = bI (tt || decide (x = 5)) := by rw [hf6 51 5 (fun z => by have z := z.2.1; omega)]; exact k5
    clear g5
    unfold tx_lw
    rcases hk with ⟨rfl, rfl⟩ | ⟨rfl, hx⟩ | ⟨rfl, rfl⟩ | ⟨rfl, rfl⟩
    · rw [rq_f (fun z => z rfl)] at g6
      rw [if_pos rfl]
      exact r_lbad M M6 N6 t 2 s _ rfl f6 g6 _
    · have n1 : ¬ wd = -1 := by rcases hx with rfl | rfl | rfl | rfl <;> decide
      have n4 : ¬ wd = 4 := by rcases hx with rfl | rfl | rfl | rfl <;> decide
      have n5 : ¬ wd = 5 := by rcases hx with rfl | rfl | rfl | rfl <;> decide
      have n9 : ¬ wd = -4 := by rcases hx with rfl | rfl | rfl | rfl <;> decide
      have l4 : ¬ 4 ≤ wd := by rcases hx with rfl | rfl | rfl | rfl <;> decide
      rw [rq_t n9] at g6
      rw [if_neg n1, if_neg n4, if_neg n5]
      rw [decide_eq_false n4, Bool.or_false] at q4
      rw [decide_eq_false n5, Bool.or_false] at q5
      by_cases c7 : d.1 = 7
      · rw [if_pos c7]
        rw [rq_f (fun z => z.elim l4 (fun z => z (by rw [c7]; decide)))] at g6
        exact r_lbad M M6 N6 t 5 s _ rfl f6 g6 _
      · rw [if_neg c7]
        rw [rq_t (show (4 ≤ wd ∨ ¬ 7 ≤ nI d.1) from Or.inr (nI_ge (a := d.1) (b := 7) (by omega) (by decide))), rq_t (Or.inl n4), rq_t (Or.inl n5)] at g6
        have g6 : rS M6 t (tx_rd t (tx_e t s)) := g6
        have hL := r_lot M6 N6 t ht6 ok _ g6 wd n4 n5 d.1 (by omega) rd6.1
        cases hr : tx_rd t (tx_e t s) with
        | inl f =>
          rw [hr] at g6
          exact r_lbad M M6 N6 t f.1 f.2 _ (by unfold tx_n; rw [hr]) f6 g6 _
        | inr s1 =>
          have g7 := g6
          rw [hr] at g7
          refine r_lgo M M6 N6 t ht ok _ f6 s1 g7 wd (rnm t 1 9 (rnm t 0 9 (tx_rd t (tx_e t s))).2).2 (hd_Go.post ?_ hL)
          rintro r M7 N7 ⟨rfl, rfl, hf7, g8, hj⟩
          refine ⟨rfl, rfl, hf7, g8, fun M8 hf8 g9 => ?_⟩
          rcases rnm_n t 0 9 (tx_e t s) with ⟨c, w, e1, e2⟩ | ⟨v, e, e1, e2⟩
          · rw [e1]
            rw [e2] at g9
            exact Or.inl ⟨c, w, rfl, g9⟩
          rw [e1]
          rw [e2] at g9 hj
          rcases rnm_n t 1 9 e with ⟨c, w, e3, e4⟩ | ⟨v2, ee, e3, e4⟩
          · rw [e3]
            have g9 : rS M8 t (rst t (rnm t 1 9 (tx_rd t e)).2) := g9
            rw [e4] at g9
            exact Or.inl ⟨c, w, rfl, g9⟩
          rw [e3]
          have g9 : rS M8 t (rst t (rnm t 1 9 (tx_rd t e)).2) := g9
          have hj : ∀ j, M7 55 j = if j = 28 then nI (d.1 + 1) else if j = 4 * d.1 + 2 then (rnm t 1 9 (tx_rd t e)).1 else if j = 4 * d.1 + 1 then v else if j = 4 * d.1 then wd else M6 55 j := hj
          rw [e4] at g9 hj
          have g9 : rS M8 t (rst t (tx_rd t ee)) := g9
          rcases rst_p t ee with ⟨c, w, e5, e6⟩ | ⟨e9, e5, e6⟩
          · rw [e6] at g9
            exact Or.inl ⟨c, w, e5 _, g9⟩
          · rw [e6] at g9
            refine Or.inr ⟨_, _, _, _, e5 _, g9, (rd6.add od c7 hj).mv (fl55 hf8), ?_, ?_⟩
            · rw [fl4 hf7 hf8 (by decide)]; exact q4
            · rw [fl4 hf7 hf8 (by decide)]; exact q5
    · rw [rq_t (by decide), rq_t (Or.inl (by decide))] at g6
      rw [if_neg (by decide), if_pos rfl]
      rw [decide_eq_true rfl, Bool.or_true] at q4
      rw [decide_eq_false (by decide), Bool.or_false] at q5
      cases mt with
      | true =>
        rw [rq_f (fun z => z.elim (fun z => z rfl) (by decide))] at g6
        exact r_lbad M M6 N6 t 4 s _ rfl f6 g6 _
      | false =>
        rw [if_neg (show ¬ (false = true) by decide)]
        rw [rq_t (show (¬ (4 : Int32) = 4 ∨ bI false = 0) from Or.inr rfl), rq_t (Or.inl (by decide))] at g6
        have g6 : rS M6 t (tx_rd t (tx_e t s)) := g6
        have hL := r_lo4 M6 N6 t ht6 ok _ g6
        cases hr : tx_rd t (tx_e t s) with
        | inl f =>
          rw [hr] at g6
          exact r_lbad M M6 N6 t f.1 f.2 _ (by unfold tx_n; rw [hr]) f6 g6 _
        | inr s1 =>
          have g7 := g6
          rw [hr] at g7
          refine r_lgo M M6 N6 t ht ok _ f6 s1 g7 4 (rnm t 0 99 (tx_rd t (tx_e t s))).2 (hd_Go.post ?_ hL)
          rintro r M7 N7 ⟨rfl, rfl, hf7, g8, hj⟩
          refine ⟨rfl, rfl, hf7, g8, fun M8 hf8 g9 => ?_⟩
          rcases rnm_n t 0 99 (tx_e t s) with ⟨c, w, e1, e2⟩ | ⟨v, e, e1, e2⟩
          · rw [e1]
            rw [e2] at g9
            exact Or.inl ⟨c, w, rfl, g9⟩
          rw [e1]
          rw [e2] at g9 hj
          have g9 : rS M8 t (rst t (tx_rd t e)) := g9
          rcases rst_p t e with ⟨c, w, e5, e6⟩ | ⟨e9, e5, e6⟩
          · rw [e6] at g9
            exact Or.inl ⟨c, w, e5 _, g9⟩
          · rw [e6] at g9
            refine Or.inr ⟨_, _, _, _, e5 _, g9, (rd6.mood od hj).mv (fl55 hf8), ?_, ?_⟩
            · rw [fl4 hf7 hf8 (by decide)]; exact q4
            · rw [fl4 hf7 hf8 (by decide)]; exact q5
    · rw [rq_t (by decide), rq_t (Or.inl (by decide)), rq_t (Or.inl (by decide))] at g6
      rw [if_neg (by decide), if_neg (by decide), if_pos rfl]
      rw [decide_eq_true rfl, Bool.or_true] at q5
      rw [decide_eq_false (by decide), Bool.or_false] at q4
      cases tt with
      | true =>
        rw [rq_f (fun z => z.elim (fun z => z rfl) (by decide))] at g6
        exact r_lbad M M6 N6 t 4 s _ rfl f6 g6 _
      | false =>
        rw [if_neg (show ¬ (false = true) by decide)]
        rw [rq_t (show (¬ (5 : Int32) = 5 ∨ bI false = 0) from Or.inr rfl)] at g6
        have g6 : rS M6 t (tx_rd t (tx_e t s)) := g6
        have hL := r_lo5 M6 N6 t ht6 ok _ g6
        cases hr : tx_rd t (tx_e t s) with
        | inl f =>
          rw [hr] at g6
          exact r_lbad M M6 N6 t f.1 f.2 _ (by unfold tx_n; rw [hr]) f6 g6 _
        | inr s1 =>
          have g7 := g6
          rw [hr] at g7
          refine r_lgo M M6 N6 t ht ok _ f6 s1 g7 5 (rnm t 0 9 (tx_rd t (tx_e t s))).2 (hd_Go.post ?_ hL)
          rintro r M7 N7 ⟨rfl, rfl, hf7, g8, hj⟩
          refine ⟨rfl, rfl, hf7, g8, fun M8 hf8 g9 => ?_⟩
          rcases rnm_n t 0 9 (tx_e t s) with ⟨c, w, e1, e2⟩ | ⟨v, e, e1, e2⟩
          · rw [e1]
            rw [e2] at g9
            exact Or.inl ⟨c, w, rfl, g9⟩
          rw [e1]
          rw [e2] at g9 hj
          have g9 : rS M8 t (rst t (tx_rd t e)) := g9
          rcases rst_p t e with ⟨c, w, e5, e6⟩ | ⟨e9, e5, e6⟩
          · rw [e6] at g9
            exact Or.inl ⟨c, w, e5 _, g9⟩
          · rw [e6] at g9
            refine Or.inr ⟨_, _, _, _, e5 _, g9, (rd6.tire od hj).mv (fl55 hf8), ?_, ?_⟩
            · rw [fl4 hf7 hf8 (by decide)]; exact q4
            · rw [fl4 hf7 hf8 (by decide)]; exact q5
  unfold rkd at key
  refine hd_go kX6_readLine 999 (fun _ => rfl) rfl trivial ?_
  rw [hS.2.2.2.2.1]
  refine hd_ju kX6_readLine (fun _ => rfl) (fun c => ?_) (fun c => ?_)
  · rw [if_neg c] at key
    refine hd_go kX6_readLine 18 (fun _ => rfl) rfl trivial ?_
    exact key
  · rw [if_pos c] at key
    refine hd_go kX6_readLine 999 (fun _ => rfl) rfl trivial ?_
    refine hd_ci kX6_readLine qX6_readLine (fun _ => rfl) (r_lineNow M N t ht ok s hS.2.1 hS.2.2.1 hS.2.2.2.1) ?_
    refine hd_go kX6_readLine 17 (fun _ => rfl) rfl trivial ?_
    refine hd_go kX6_readLine 18 (fun _ => rfl) rfl trivial ?_
    exact key
set_option maxRecDepth 20000 in
theorem r_text_l (M : hd_M) (N : hd_N) (t : tx_T) (ht : tpR M t) (ok : tx_ok t) (Z : tx_F ⊕ (Nat × dy_T)) : ∀ (m p l : Nat) (d : dy_T) (mt tt : Bool) (M' : hd_M), p ≤ t.1 → t.1 < p + m → l ≤ p → fr rlF M M' → rS M' t (tx_rd t p) → rfd M' d → txd d → M' 51 4 = bI mt → M' 51 5 = bI tt → tx_lp t m p l d mt tt = Z → hd_Go mX6_text 20 [some (.ref 51), some (.int (nI l))] [] M' N (fun r M1 N1 => N1 = N ∧ ((∃ c w, Z = .inl (c, w) ∧ r = some (.int (-10 - nI w)) ∧ fr (fun c j => rlF c j ∨ (c = 51 ∧ j = 7)) M M1 ∧ M1 51 7 = 0 ∧ M1 51 12 = c) ∨ (∃ l d, Z = .inr (l, d) ∧ r = some (.int (nI l)) ∧ fr (fun c j => rlF c j ∨ (c = 51 ∧ j = 7) ∨ c = 52 ∨ c = 54) M M1 ∧ M1 51 7 = 0 ∧ M1 51 12 = 0 ∧ rf M1 52 0 d ∧ M1 52 33 = 0 ∧ M1 54 0 = 0 ∧ M1 54 1 = 0))) := by
  have hn := ok.1
  intro m
  induction m with
  | zero => intro p l d mt tt M' h1 h2; omega
  | succ m ih =>
    intro p l d mt tt M' hp hm1 hl hf hS hd od h4 h5 hZ
    rw [tx_lp] at hZ
    have bad : ∀ (c : Int32) (w : Nat), rS M' t (.inl (c, w)) → Z = .inl (c, w) → hd_Go mX6_text 44 [some (.ref 51), some (.int (nI l))] [] M' N (fun r M1 N1 => N1 = N ∧ ((∃ c w, Z = .inl (c, w) ∧ r = some (.int (-10 - nI w)) ∧ fr (fun c j => rlF c j ∨ (c = 51 ∧ j = 7)) M M1 ∧ M1 51 7 = 0 ∧ M1 51 12 = c) ∨ (∃ l d, Z = .inr (l, d) ∧ r = some (.int (nI l)) ∧ fr (fun c j => rlF c j ∨ (c = 51 ∧ j = 7) ∨ c = 52 ∨ c = 54) M M1 ∧ M1 51 7 = 0 ∧ M1 51 12 = 0 ∧ rf M1 52 0 d ∧ M1 52 33 = 0 ∧ M1 54 0 = 0 ∧ M1 54 1 = 0))) := by
      intro c w h1 hZ
      refine hd_go kX6_text 999 (fun _ => rfl) rfl trivial ?_
      rw [hd_u_n (by omega), h1.1]
      refine hd_ju kX6_text (fun _ => rfl) (fun z => absurd h1.2.1 (Int32.not_lt.mpr z)) (fun _ => ?_)
      refine hd_go kX6_text 999 (fun _ => rfl) rfl trivial ?_
      rw [hd_u_n (by omega), h1.2.2]
      exact hd_en_ kX6_text (fun _ => rfl) trivial ⟨rfl, Or.inl ⟨c, w, hZ, rfl, (hf.mo (fun c j z => Or.inl z)).up (Or.inr ⟨rfl, rfl⟩), hd_u_s _ _ _ _, by rw [hd_u_n (by omega)]; exact h1.1⟩⟩
    refine hd_go kX6_text 999 (fun _ => rfl) rfl trivial ?_
    cases hr : tx_rd t p with
    | inl f =>
      rw [hr] at hS hZ
      have n0 : ¬ M' 51 12 = 0 := fun z => by obtain ⟨s, e⟩ := (rS.zero hS).mp z; cases e
      refine hd_ju kX6_text (fun _ => rfl) (fun _ => bad f.1 f.2 hS hZ.symm) (fun z => absurd z n0)
    | inr s =>
      rw [hr] at hS hZ
      simp only [] at hZ
      rw [hS.1]
      refine hd_ju kX6_text (fun _ => rfl) (fun z => absurd rfl z) (fun _ => ?_)
      refine hd_go kX6_text 999 (fun _ => rfl) rfl trivial ?_
      rw [hS.2.2.2.2.1]
      refine hd_ju kX6_text (fun _ => rfl) (fun c => ?_) (fun c => ?_)
      · rw [if_pos c] at hZ
        refine hd_go kX6_text 999 (fun _ => rfl) rfl trivial ?_
        rw [hd_u_n (by omega), hS.1]
        refine hd_ju kX6_text (fun _ => rfl) (fun _ => ?_) (fun z => absurd (by decide) z)
        refine hd_go kX6_text 999 (fun _ => rfl) rfl trivial ?_
        have f7 : fr (fun c j => rlF c j ∨ (c = 51 ∧ j = 7) ∨ c = 52 ∨ c = 54) M (hd_u M' 51 7 0) := (hf.mo (fun c j z => Or.inl z)).up (Or.inr (Or.inl ⟨rfl, rfl⟩))
        refine hd_ca kX6_text qX6_text (fun _ => rfl) (r_keep (hd_u M' 51 7 0) N d (hd.mv (fun j => hd_u_n (by omega))) od) ?_
        rintro r M1 N1 ⟨rfl, rfl, hf1, g1, g2, g3, g4⟩
        refine hd_go kX6_text 999 (fun _ => rfl) rfl trivial ?_
        have o1 : ∀ j, M1 51 j = hd_u M' 51 7 0 51 j := fun j => hf1 51 j (fun z => by have z : 51 = 52 ∨ 51 = 54 ∨ 51 = 55 := z; omega)
        refine hd_en_ kX6_text (fun _ => rfl) trivial ⟨rfl, Or.inr ⟨l, d, hZ.symm, rfl, f7.tr (hf1.mo (fun c j z => ?_)), by rw [o1, hd_u_s], by rw [o1, hd_u_n (by omega)]; exact hS.1, g1, g2, g3, g4⟩⟩
        have z : c = 52 ∨ c = 54 ∨ c = 55 := z
        rcases z with z | z | z
        · exact Or.inr (Or.inr (Or.inl z))
        · exact Or.inr (Or.inr (Or.inr z))
        · exact Or.inl (Or.inl z)
      · rw [if_neg c] at hZ
        have ok1 := tx_ln_ok (mt := mt) (tt := tt) hS.2.1 od
        obtain ⟨es, -⟩ := tx_rd_r hr
        have hs := tx_s_le hp
        refine hd_go kX6_text 999 (fun _ => rfl) rfl trivial ?_
        refine hd_ca kX6_text qX6_text (fun _ => rfl) (r_line M' N t (ht.fr hf rl_7 rl_56) ok s hS d hd od mt tt h4 h5) ?_
        rintro r M1 N1 ⟨rfl, rfl, hf1, h | h⟩
        · obtain ⟨c, w, q, g⟩ := h
          rw [q] at hZ
          refine hd_go kX6_text 20 (fun _ => rfl) rfl trivial ?_
          rw [nI_1]
          refine hd_go kX6_text 999 (fun _ => rfl) rfl trivial ?_
          have n0 : ¬ M1 51 12 = 0 := fun z => by obtain ⟨s, e⟩ := (rS.zero g).mp z; cases e
          refine hd_ju kX6_text (fun _ => rfl) (fun _ => ?_) (fun z => absurd z n0)
          refine hd_go kX6_text 999 (fun _ => rfl) rfl trivial ?_
          rw [hd_u_n (by omega), g.1]
          refine hd_ju kX6_text (fun _ => rfl) (fun z => absurd g.2.1 (Int32.not_lt.mpr z)) (fun _ => ?_)
          refine hd_go kX6_text 999 (fun _ => rfl) rfl trivial ?_
          rw [hd_u_n (by omega), g.2.2]
          exact hd_en_ kX6_text (fun _ => rfl) trivial ⟨rfl, Or.inl ⟨c, w, hZ.symm, rfl, ((hf.tr hf1).mo (fun c j z => Or.inl z)).up (Or.inr ⟨rfl, rfl⟩), hd_u_s _ _ _ _, by rw [hd_u_n (by omega)]; exact g.1⟩⟩
        · obtain ⟨e, d', mt', tt', q, g, gd, ga, gb⟩ := h
          rw [q] at hZ ok1
          rcases ok1 with ⟨_, _, z, -⟩ | ⟨_, _, _, _, z, g1, g2, ok2⟩
          · cases z
          injection z with z
          obtain ⟨rfl, rfl, rfl, rfl⟩ : e = _ ∧ d' = _ ∧ mt' = _ ∧ tt' = _ := by
            injection z with z1 z
            injection z with z2 z
            injection z with z3 z4
            exact ⟨z1, z2, z3, z4⟩
          refine hd_go kX6_text 20 (fun _ => rfl) rfl trivial ?_
          rw [nI_1]
          exact ih _ (l + 1) _ _ _ M1 g2 (by omega) (by omega) (hf.tr hf1) g gd ok2 ga gb hZ
set_option maxRecDepth 20000 in
theorem r_text_0 (M : hd_M) (N : hd_N) (t : tx_T) (ht : tpR M t) (ok : tx_ok t) : hd_Ret mX6_text [.ref 51] M N (fun r M1 N1 => N1 = N ∧ ((∃ c w, tx_lp t (t.1 + 1) 0 0 dy_0 false false = .inl (c, w) ∧ r = some (.int (-10 - nI w)) ∧ fr (fun c j => rlF c j ∨ (c = 51 ∧ j = 7)) M M1 ∧ M1 51 7 = 0 ∧ M1 51 12 = c) ∨ (∃ l d, tx_lp t (t.1 + 1) 0 0 dy_0 false false = .inr (l, d) ∧ r = some (.int (nI l)) ∧ fr (fun c j => rlF c j ∨ (c = 51 ∧ j = 7) ∨ c = 52 ∨ c = 54) M M1 ∧ M1 51 7 = 0 ∧ M1 51 12 = 0 ∧ rf M1 52 0 d ∧ M1 52 33 = 0 ∧ M1 54 0 = 0 ∧ M1 54 1 = 0))) := by
  change hd_Go mX6_text 0 [some (.ref 51), none] [] M N _
  refine hd_go kX6_text 999 (fun _ => rfl) rfl trivial ?_
  obtain ⟨M0, hM0⟩ : ∃ M0, M0 = hd_u (hd_u M 51 12 0) 51 8 0 := ⟨_, rfl⟩
  rw [← hM0]
  have f0 : fr rlF M M0 := by rw [hM0]; exact (fr.rf.up (Or.inr ⟨rfl, Or.inr ⟨by decide, by decide⟩⟩)).up (Or.inr ⟨rfl, Or.inr ⟨by decide, by decide⟩⟩)
  have k12 : M0 51 12 = 0 := by rw [hM0, hd_u_n (by omega), hd_u_s]
  have k8 : M0 51 8 = 0 := by rw [hM0, hd_u_s]
  clear hM0
  refine hd_ca kX6_text qX6_text (fun _ => rfl) (r_first M0 N) ?_
  rintro r M1 N1 ⟨rfl, rfl, hf1, hd, h4, h5⟩
  have f1 : fr rlF M M1 := f0.tr (hf1.mo (fun c j z => z.elim Or.inl (fun z => Or.inr ⟨z.1, Or.inl z.2⟩)))
  have o1 : ∀ j, 8 ≤ j → M1 51 j = M0 51 j := fun j hj => hf1 51 j (fun z => by have z : 51 = 55 ∨ (51 = 51 ∧ 4 ≤ j ∧ j ≤ 5) := z; omega)
  refine hd_go kX6_text 999 (fun _ => rfl) rfl trivial ?_
  refine hd_ca kX6_text qX6_text (fun _ => rfl) (r_reads M1 N1 t (ht.fr f1 rl_7 rl_56) ok 0 (Nat.zero_le _) (by rw [o1 12 (by decide)]; exact k12) (by rw [o1 8 (by decide), k8]; rfl)) ?_
  rintro r M2 N2 ⟨rfl, rfl, hf2, hS⟩
  exact r_text_l M N2 t ht ok _ (t.1 + 1) 0 0 dy_0 false false M2 (Nat.zero_le _) (by omega) (Nat.le_refl _) (f1.tr (hf2.mo rd_rl)) hS (hd.mv (fl55 hf2)) txd_0 (by rw [hf2 51 4 (fun z => by have z := z.2.1; omega)]; exact h4) (by rw [hf2 51 5 (fun z => by have z := z.2.1; omega)]; exact h5) rfl
set_option maxRecDepth 20000 in
theorem r_text : rA mX6_text [] an_text := by
  intro M N st hI hO
  obtain ⟨h1, h2, h3, h4, h5, h6, h7⟩ := hI
  refine hd_Go.post ?_ (r_text_0 M N st.2.2.1 h3 hO.2.2.1)
  unfold an_text
  have okL := tx_lp_ok st.2.2.1 (st.2.2.1.1 + 1) 0 0 dy_0 false false (Nat.zero_le _) txd_0
  rintro r M1 N1 ⟨rfl, h | h⟩
  · obtain ⟨c, w, q, rfl, hf, g7, g12⟩ := h
    rw [q]
    have o : ∀ c j, ¬ c = 51 → ¬ c = 55 → M1 c j = M c j := fun c j z1 z2 => hf c j (fun z => z.elim (fun z => z.elim z2 (fun z => z1 z.1)) (fun z => z1 z.1))
    refine ⟨rfl, hf.mo (fun c j z => by rcases z with (z | z) | z; (show 51 ≤ c; omega); (show 51 ≤ c; have := z.1; omega); (show 51 ≤ c; have := z.1; omega)), h1.mv hO.1.1 (fun j _ _ => o 52 j (by decide) (by decide)), h2.mv hO.2.1.1 (fun j _ _ => o 52 j (by decide) (by decide)), ⟨g7, fun i hi => absurd hi (Nat.not_lt_zero i)⟩, ?_, ?_, ?_, g12⟩
    · exact h4.mv hO.2.2.2.1 (fun k _ => o 54 k (by decide) (by decide)) (fun j _ => o 52 j (by decide) (by decide))
    · exact h5.mv (fun c j z1 z2 => o c j (by omega) (by omega))
    · rw [hf 51 26 (fun z => by have z : (51 = 55 ∨ (51 = 51 ∧ ((4 ≤ 26 ∧ 26 ≤ 5) ∨ (8 ≤ 26 ∧ 26 ≤ 13)))) ∨ (51 = 51 ∧ 26 = 7) := z; omega)]; exact h6
  · obtain ⟨l, d, q, rfl, hf, g7, g12, gd, g33, ga, gb⟩ := h
    rw [q]
    have o : ∀ c j, ¬ c = 51 → ¬ c = 55 → ¬ c = 52 → ¬ c = 54 → M1 c j = M c j := fun c j z1 z2 z3 z4 => hf c j (fun z => z.elim (fun z => z.elim z2 (fun z => z1 z.1)) (fun z => z.elim (fun z => z1 z.1) (fun z => z.elim z3 z4)))
    refine ⟨rfl, hf.mo (fun c j z => by rcases z with (z | z) | z | z | z; (show 51 ≤ c; omega); (show 51 ≤ c; have := z.1; omega); (show 51 ≤ c; have := z.1; omega); (show 51 ≤ c; omega); (show 51 ≤ c; omega)), gd, ⟨g33, fun i hi => absurd hi (Nat.not_lt_zero i)⟩, ⟨g7, fun i hi => absurd hi (Nat.not_lt_zero i)⟩, fun k hk => ⟨?_, fun z => by cases z⟩, h5.mv (fun c j z1 z2 => o c j (by omega) (by omega) (by omega) (by omega)), ?_, g12⟩
    · rcases (show k = 0 ∨ k = 1 by omega) with rfl | rfl
      · exact ga
      · exact gb
    · rw [hf 51 26 (fun z => by have z : (51 = 55 ∨ (51 = 51 ∧ ((4 ≤ 26 ∧ 26 ≤ 5) ∨ (8 ≤ 26 ∧ 26 ≤ 13)))) ∨ (51 = 51 ∧ 26 = 7) ∨ 51 = 52 ∨ 51 = 54 := z; omega)]; exact h6
