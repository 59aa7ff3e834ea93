/-! THE REFERENCE: WORDS, LINES, THE TEXT; printed by wip/whole/rt2.py -/
abbrev rF4 (t : tx_T) (s n : Nat) (a b c d : Int32) : Prop := tx_e t s - s = n ∧ tx_b t s = a ∧ tx_b t (s + 1) = b ∧ tx_b t (s + 2) = c ∧ tx_b t (s + 3) = d
abbrev rF6 (t : tx_T) (s : Nat) (a b : Int32) : Prop := tx_b t (s + 4) = a ∧ (b = 0 ∨ tx_b t (s + 5) = b)
theorem rW0 {t : tx_T} {s : Nat} (hs : s ≤ t.1) : tx_is t s 0 ↔ rF4 t s 5 112 108 97 105 ∧ rF6 t s 110 0 := by
  have he := tx_e_le hs
  constructor
  · rintro ⟨h1, h2⟩
    have h1 : tx_e t s - s = 5 := h1
    have hb : ∀ j, j < 5 → tx_b t (s + j) = (sx_byt.getD 0 []).getD j 0 := fun j hj => (tb_in (by omega)).trans (h2 j hj)
    exact ⟨⟨h1, hb 0 (by decide), hb 1 (by decide), hb 2 (by decide), hb 3 (by decide)⟩, hb 4 (by decide), Or.inl rfl⟩
  · rintro ⟨⟨h1, a0, a1, a2, a3⟩, a4, -⟩
    refine ⟨h1, fun j hj => ?_⟩
    have hj : j < 5 := hj
    rcases (show j = 0 ∨ j = 1 ∨ j = 2 ∨ j = 3 ∨ j = 4 by omega) with rfl | rfl | rfl | rfl | rfl
    · exact (tb_in (by omega)).symm.trans a0
    · exact (tb_in (by omega)).symm.trans a1
    · exact (tb_in (by omega)).symm.trans a2
    · exact (tb_in (by omega)).symm.trans a3
    · exact (tb_in (by omega)).symm.trans a4
theorem rW1 {t : tx_T} {s : Nat} (hs : s ≤ t.1) : tx_is t s 1 ↔ rF4 t s 5 103 108 97 115 ∧ rF6 t s 115 0 := by
  have he := tx_e_le hs
  constructor
  · rintro ⟨h1, h2⟩
    have h1 : tx_e t s - s = 5 := h1
    have hb : ∀ j, j < 5 → tx_b t (s + j) = (sx_byt.getD 1 []).getD j 0 := fun j hj => (tb_in (by omega)).trans (h2 j hj)
    exact ⟨⟨h1, hb 0 (by decide), hb 1 (by decide), hb 2 (by decide), hb 3 (by decide)⟩, hb 4 (by decide), Or.inl rfl⟩
  · rintro ⟨⟨h1, a0, a1, a2, a3⟩, a4, -⟩
    refine ⟨h1, fun j hj => ?_⟩
    have hj : j < 5 := hj
    rcases (show j = 0 ∨ j = 1 ∨ j = 2 ∨ j = 3 ∨ j = 4 by omega) with rfl | rfl | rfl | rfl | rfl
    · exact (tb_in (by omega)).symm.trans a0
    · exact (tb_in (by omega)).symm.trans a1
    · exact (tb_in (by omega)).symm.trans a2
    · exact (tb_in (by omega)).symm.trans a3
    · exact (tb_in (by omega)).symm.trans a4
theorem rW2 {t : tx_T} {s : Nat} (hs : s ≤ t.1) : tx_is t s 2 ↔ rF4 t s 6 115 104 111 119 ∧ rF6 t s 101 114 := by
  have he := tx_e_le hs
  constructor
  · rintro ⟨h1, h2⟩
    have h1 : tx_e t s - s = 6 := h1
    have hb : ∀ j, j < 6 → tx_b t (s + j) = (sx_byt.getD 2 []).getD j 0 := fun j hj => (tb_in (by omega)).trans (h2 j hj)
    exact ⟨⟨h1, hb 0 (by decide), hb 1 (by decide), hb 2 (by decide), hb 3 (by decide)⟩, hb 4 (by decide), Or.inr (hb 5 (by decide))⟩
  · rintro ⟨⟨h1, a0, a1, a2, a3⟩, a4, a5⟩
    refine ⟨h1, fun j hj => ?_⟩
    have hj : j < 6 := hj
    rcases (show j = 0 ∨ j = 1 ∨ j = 2 ∨ j = 3 ∨ j = 4 ∨ j = 5 by omega) with rfl | rfl | rfl | rfl | rfl | rfl
    · exact (tb_in (by omega)).symm.trans a0
    · exact (tb_in (by omega)).symm.trans a1
    · exact (tb_in (by omega)).symm.trans a2
    · exact (tb_in (by omega)).symm.trans a3
    · exact (tb_in (by omega)).symm.trans a4
    · exact (tb_in (by omega)).symm.trans (a5.resolve_left (by decide))
theorem rW3 {t : tx_T} {s : Nat} (hs : s ≤ t.1) : tx_is t s 3 ↔ rF4 t s 4 118 105 101 119 := by
  have he := tx_e_le hs
  constructor
  · rintro ⟨h1, h2⟩
    have h1 : tx_e t s - s = 4 := h1
    have hb : ∀ j, j < 4 → tx_b t (s + j) = (sx_byt.getD 3 []).getD j 0 := fun j hj => (tb_in (by omega)).trans (h2 j hj)
    exact ⟨h1, hb 0 (by decide), hb 1 (by decide), hb 2 (by decide), hb 3 (by decide)⟩
  · rintro ⟨h1, a0, a1, a2, a3⟩
    refine ⟨h1, fun j hj => ?_⟩
    have hj : j < 4 := hj
    rcases (show j = 0 ∨ j = 1 ∨ j = 2 ∨ j = 3 by omega) with rfl | rfl | rfl | rfl
    · exact (tb_in (by omega)).symm.trans a0
    · exact (tb_in (by omega)).symm.trans a1
    · exact (tb_in (by omega)).symm.trans a2
    · exact (tb_in (by omega)).symm.trans a3
theorem rW4 {t : tx_T} {s : Nat} (hs : s ≤ t.1) : tx_is t s 4 ↔ rF4 t s 4 109 111 111 100 := by
  have he := tx_e_le hs
  constructor
  · rintro ⟨h1, h2⟩
    have h1 : tx_e t s - s = 4 := h1
    have hb : ∀ j, j < 4 → tx_b t (s + j) = (sx_byt.getD 4 []).getD j 0 := fun j hj => (tb_in (by omega)).trans (h2 j hj)
    exact ⟨h1, hb 0 (by decide), hb 1 (by decide), hb 2 (by decide), hb 3 (by decide)⟩
  · rintro ⟨h1, a0, a1, a2, a3⟩
    refine ⟨h1, fun j hj => ?_⟩
    have hj : j < 4 := hj
    rcases (show j = 0 ∨ j = 1 ∨ j = 2 ∨ j = 3 by omega) with rfl | rfl | rfl | rfl
    · exact (tb_in (by omega)).symm.trans a0
    · exact (tb_in (by omega)).symm.trans a1
    · exact (tb_in (by omega)).symm.trans a2
    · exact (tb_in (by omega)).symm.trans a3
theorem rW5 {t : tx_T} {s : Nat} (hs : s ≤ t.1) : tx_is t s 5 ↔ rF4 t s 4 116 105 114 101 := by
  have he := tx_e_le hs
  constructor
  · rintro ⟨h1, h2⟩
    have h1 : tx_e t s - s = 4 := h1
    have hb : ∀ j, j < 4 → tx_b t (s + j) = (sx_byt.getD 5 []).getD j 0 := fun j hj => (tb_in (by omega)).trans (h2 j hj)
    exact ⟨h1, hb 0 (by decide), hb 1 (by decide), hb 2 (by decide), hb 3 (by decide)⟩
  · rintro ⟨h1, a0, a1, a2, a3⟩
    refine ⟨h1, fun j hj => ?_⟩
    have hj : j < 4 := hj
    rcases (show j = 0 ∨ j = 1 ∨ j = 2 ∨ j = 3 by omega) with rfl | rfl | rfl | rfl
    · exact (tb_in (by omega)).symm.trans a0
    · exact (tb_in (by omega)).symm.trans a1
    · exact (tb_in (by omega)).symm.trans a2
    · exact (tb_in (by omega)).symm.trans a3
set_option maxRecDepth 20000 in
theorem r_is (M : hd_M) (N : hd_N) (t : tx_T) (ht : tpR M t) (ok : tx_ok t) (s : Nat) (hs : s ≤ t.1) (h8 : M 51 8 = nI (tx_e t s)) (h9 : M 51 9 = nI s) (n : Nat) (hn : n < 100) (a b c d : Int32) : hd_Ret mX6_is [.ref 51, .int (nI n), .int a, .int b, .int c, .int d] M N (hd_is (.int (hd_b (rF4 t s n a b c d))) M N) := by
  change hd_Go mX6_is 0 [some (.ref 51), some (.int (nI n)), some (.int a), some (.int b), some (.int c), some (.int d)] [] M N _
  have he := tx_e_le hs
  have hN := ok.1
  have bad : ¬ rF4 t s n a b c d → hd_Go mX6_is 73 [some (.ref 51), some (.int (nI n)), some (.int a), some (.int b), some (.int c), some (.int d)] [] M N (hd_is (.int (hd_b (rF4 t s n a b c d))) M N) := by
    intro z
    refine hd_go kX6_is 999 (fun _ => rfl) rfl trivial ?_
    refine hd_en_ kX6_is (fun _ => rfl) (Or.inl rfl) ⟨?_, rfl, rfl⟩
    unfold hd_b
    rw [if_neg z]
  refine hd_go kX6_is 999 (fun _ => rfl) rfl trivial ?_
  rw [h8, h9, nI_sb he.1]
  refine hd_ju kX6_is (fun _ => rfl) (fun q => bad (fun z => q (by rw [z.1]))) (fun q0 => ?_)
  have q0 : tx_e t s - s = n := (nI_eq (by omega) (by omega)).mp q0
  refine hd_go kX6_is 999 (fun _ => rfl) rfl trivial ?_
  rw [h9]
  refine hd_ci kX6_is qX6_is (fun _ => rfl) (r_byteAt M N t ht ok.1 s (by have := ok.1; omega)) ?_
  refine hd_go kX6_is 999 (fun _ => rfl) rfl trivial ?_
  refine hd_ju kX6_is (fun _ => rfl) (fun q => bad (fun z => q z.2.1)) (fun q1 => ?_)
  refine hd_go kX6_is 999 (fun _ => rfl) rfl trivial ?_
  rw [h9, nI_1]
  refine hd_ci kX6_is qX6_is (fun _ => rfl) (r_byteAt M N t ht ok.1 (s + 1) (by have := ok.1; omega)) ?_
  refine hd_go kX6_is 999 (fun _ => rfl) rfl trivial ?_
  refine hd_ju kX6_is (fun _ => rfl) (fun q => bad (fun z => q z.2.2.1)) (fun q2 => ?_)
  refine hd_go kX6_is 999 (fun _ => rfl) rfl trivial ?_
  rw [h9, show nI s + 2 = nI (s + 2) from nI_add s 2]
  refine hd_ci kX6_is qX6_is (fun _ => rfl) (r_byteAt M N t ht ok.1 (s + 2) (by have := ok.1; omega)) ?_
  refine hd_go kX6_is 999 (fun _ => rfl) rfl trivial ?_
  refine hd_ju kX6_is (fun _ => rfl) (fun q => bad (fun z => q z.2.2.2.1)) (fun q3 => ?_)
  refine hd_go kX6_is 999 (fun _ => rfl) rfl trivial ?_
  rw [h9, show nI s + 3 = nI (s + 3) from nI_add s 3]
  refine hd_ci kX6_is qX6_is (fun _ => rfl) (r_byteAt M N t ht ok.1 (s + 3) (by have := ok.1; omega)) ?_
  refine hd_go kX6_is 999 (fun _ => rfl) rfl trivial ?_
  refine hd_ju kX6_is (fun _ => rfl) (fun q => bad (fun z => q z.2.2.2.2)) (fun q4 => ?_)
  refine hd_go kX6_is 74 (fun _ => rfl) rfl trivial ?_
  refine hd_en_ kX6_is (fun _ => rfl) (Or.inr rfl) ⟨?_, rfl, rfl⟩
  unfold hd_b
  rw [if_pos ⟨q0, q1, q2, q3, q4⟩]
set_option maxRecDepth 20000 in
theorem r_endsIn (M : hd_M) (N : hd_N) (t : tx_T) (ht : tpR M t) (ok : tx_ok t) (s : Nat) (hs : s ≤ t.1) (h8 : M 51 8 = nI (tx_e t s)) (h9 : M 51 9 = nI s) (a b : Int32) : hd_Ret mX6_endsIn [.ref 51, .int a, .int b] M N (hd_is (.int (hd_b (rF6 t s a b))) M N) := by
  change hd_Go mX6_endsIn 0 [some (.ref 51), some (.int a), some (.int b)] [] M N _
  have hN := ok.1
  have bad : ¬ rF6 t s a b → hd_Go mX6_endsIn 36 [some (.ref 51), some (.int a), some (.int b)] [] M N (hd_is (.int (hd_b (rF6 t s a b))) M N) := by
    intro z
    refine hd_go kX6_endsIn 999 (fun _ => rfl) rfl trivial ?_
    refine hd_en_ kX6_endsIn (fun _ => rfl) (Or.inl rfl) ⟨?_, rfl, rfl⟩
    unfold hd_b
    rw [if_neg z]
  have good : rF6 t s a b → hd_Go mX6_endsIn 32 [some (.ref 51), some (.int a), some (.int b)] [] M N (hd_is (.int (hd_b (rF6 t s a b))) M N) := by
    intro z
    refine hd_go kX6_endsIn 37 (fun _ => rfl) rfl trivial ?_
    refine hd_en_ kX6_endsIn (fun _ => rfl) (Or.inr rfl) ⟨?_, rfl, rfl⟩
    unfold hd_b
    rw [if_pos z]
  refine hd_go kX6_endsIn 999 (fun _ => rfl) rfl trivial ?_
  rw [h9, show nI s + 4 = nI (s + 4) from nI_add s 4]
  refine hd_ci kX6_endsIn qX6_endsIn (fun _ => rfl) (r_byteAt M N t ht ok.1 (s + 4) (by have := ok.1; omega)) ?_
  refine hd_go kX6_endsIn 999 (fun _ => rfl) rfl trivial ?_
  refine hd_ju kX6_endsIn (fun _ => rfl) (fun q => bad (fun z => q z.1)) (fun q4 => ?_)
  refine hd_go kX6_endsIn 999 (fun _ => rfl) rfl trivial ?_
  refine hd_ju kX6_endsIn (fun _ => rfl) (fun q => good ⟨q4, Or.inl q⟩) (fun q0 => ?_)
  refine hd_go kX6_endsIn 999 (fun _ => rfl) rfl trivial ?_
  rw [h9, show nI s + 5 = nI (s + 5) from nI_add s 5]
  refine hd_ci kX6_endsIn qX6_endsIn (fun _ => rfl) (r_byteAt M N t ht ok.1 (s + 5) (by have := ok.1; omega)) ?_
  refine hd_go kX6_endsIn 999 (fun _ => rfl) rfl trivial ?_
  refine hd_ju kX6_endsIn (fun _ => rfl) (fun q => bad (fun z => z.2.elim q0 q)) (fun q5 => good ⟨q4, Or.inr q5⟩)
def rkw (t : tx_T) (s : Nat) : Int32 := if tx_is t s 0 then 0 else if tx_is t s 1 then 1 else if tx_is t s 2 then 2 else if tx_is t s 3 then 3 else if tx_is t s 4 then 4 else if tx_is t s 5 then 5 else -4
set_option maxRecDepth 20000 in
theorem r_lineNow (M : hd_M) (N : hd_N) (t : tx_T) (ht : tpR M t) (ok : tx_ok t) (s : Nat) (hs : s ≤ t.1) (h8 : M 51 8 = nI (tx_e t s)) (h9 : M 51 9 = nI s) : hd_Ret mX6_lineNow [.ref 51] M N (hd_is (.int (rkw t s)) M N) := by
  change hd_Go mX6_lineNow 0 [some (.ref 51)] [] M N _
  have n5 : ¬ tx_is t s 0 → ¬ tx_is t s 1 → ¬ tx_is t s 2 → ¬ tx_is t s 3 → ¬ tx_is t s 4 → hd_Go mX6_lineNow 124 [some (.ref 51)] [] M N (hd_is (.int (rkw t s)) M N) := by
    intro w0 w1 w2 w3 w4
    refine hd_go kX6_lineNow 999 (fun _ => rfl) rfl trivial ?_
    refine hd_ci kX6_lineNow qX6_lineNow (fun _ => rfl) (r_is M N t ht ok s hs h8 h9 4 (by decide) 116 105 114 101) ?_
    refine hd_ju kX6_lineNow (fun _ => rfl) (fun c => ?_) (fun c => ?_)
    · have w5 : ¬ tx_is t s 5 := fun z => hd_b0.mp c ((rW5 hs).mp z)
      refine hd_go kX6_lineNow 999 (fun _ => rfl) rfl trivial ?_
      exact hd_en_ kX6_lineNow (fun _ => rfl) trivial ⟨by rw [show rkw t s = -4 from (by unfold rkw; rw [if_neg w0, if_neg w1, if_neg w2, if_neg w3, if_neg w4, if_neg w5])], rfl, rfl⟩
    · have w5 : tx_is t s 5 := (rW5 hs).mpr (hd_b1.mp c)
      refine hd_go kX6_lineNow 146 (fun _ => rfl) rfl trivial ?_
      exact hd_en_ kX6_lineNow (fun _ => rfl) trivial ⟨by rw [show rkw t s = 5 from (by unfold rkw; rw [if_neg w0, if_neg w1, if_neg w2, if_neg w3, if_neg w4, if_pos w5])], rfl, rfl⟩
  have n4 : ¬ tx_is t s 0 → ¬ tx_is t s 1 → ¬ tx_is t s 2 → ¬ tx_is t s 3 → hd_Go mX6_lineNow 104 [some (.ref 51)] [] M N (hd_is (.int (rkw t s)) M N) := by
    intro w0 w1 w2 w3
    refine hd_go kX6_lineNow 999 (fun _ => rfl) rfl trivial ?_
    refine hd_ci kX6_lineNow qX6_lineNow (fun _ => rfl) (r_is M N t ht ok s hs h8 h9 4 (by decide) 109 111 111 100) ?_
    refine hd_ju kX6_lineNow (fun _ => rfl) (fun q => n5 w0 w1 w2 w3 (fun z => hd_b0.mp q ((rW4 hs).mp z))) (fun q => ?_)
    have w4 : tx_is t s 4 := (rW4 hs).mpr (hd_b1.mp q)
    refine hd_go kX6_lineNow 146 (fun _ => rfl) rfl trivial ?_
    exact hd_en_ kX6_lineNow (fun _ => rfl) trivial ⟨by rw [show rkw t s = 4 from (by unfold rkw; rw [if_neg w0, if_neg w1, if_neg w2, if_neg w3, if_pos w4])], rfl, rfl⟩
  have n3 : ¬ tx_is t s 0 → ¬ tx_is t s 1 → ¬ tx_is t s 2 → hd_Go mX6_lineNow 86 [some (.ref 51)] [] M N (hd_is (.int (rkw t s)) M N) := by
    intro w0 w1 w2
    refine hd_go kX6_lineNow 999 (fun _ => rfl) rfl trivial ?_
    refine hd_ci kX6_lineNow qX6_lineNow (fun _ => rfl) (r_is M N t ht ok s hs h8 h9 4 (by decide) 118 105 101 119) ?_
    refine hd_ju kX6_lineNow (fun _ => rfl) (fun q => n4 w0 w1 w2 (fun z => hd_b0.mp q ((rW3 hs).mp z))) (fun q => ?_)
    have w3 : tx_is t s 3 := (rW3 hs).mpr (hd_b1.mp q)
    refine hd_go kX6_lineNow 999 (fun _ => rfl) rfl trivial ?_
    exact hd_en_ kX6_lineNow (fun _ => rfl) trivial ⟨by rw [show rkw t s = 3 from (by unfold rkw; rw [if_neg w0, if_neg w1, if_neg w2, if_pos w3])], rfl, rfl⟩
  have n2 : ¬ tx_is t s 0 → ¬ tx_is t s 1 → hd_Go mX6_lineNow 56 [some (.ref 51)] [] M N (hd_is (.int (rkw t s)) M N) := by
    intro w0 w1
    refine hd_go kX6_lineNow 999 (fun _ => rfl) rfl trivial ?_
    refine hd_ci kX6_lineNow qX6_lineNow (fun _ => rfl) (r_is M N t ht ok s hs h8 h9 6 (by decide) 115 104 111 119) ?_
    refine hd_ju kX6_lineNow (fun _ => rfl) (fun q => n3 w0 w1 (fun z => hd_b0.mp q ((rW2 hs).mp z).1)) (fun q => ?_)
    refine hd_go kX6_lineNow 999 (fun _ => rfl) rfl trivial ?_
    refine hd_ci kX6_lineNow qX6_lineNow (fun _ => rfl) (r_endsIn M N t ht ok s hs h8 h9 101 114) ?_
    refine hd_ju kX6_lineNow (fun _ => rfl) (fun q2 => n3 w0 w1 (fun z => hd_b0.mp q2 ((rW2 hs).mp z).2)) (fun q2 => ?_)
    have w2 : tx_is t s 2 := (rW2 hs).mpr ⟨hd_b1.mp q, hd_b1.mp q2⟩
    refine hd_go kX6_lineNow 999 (fun _ => rfl) rfl trivial ?_
    exact hd_en_ kX6_lineNow (fun _ => rfl) trivial ⟨by rw [show rkw t s = 2 from (by unfold rkw; rw [if_neg w0, if_neg w1, if_pos w2])], rfl, rfl⟩
  have n1 : ¬ tx_is t s 0 → hd_Go mX6_lineNow 28 [some (.ref 51)] [] M N (hd_is (.int (rkw t s)) M N) := by
    intro w0
    refine hd_go kX6_lineNow 999 (fun _ => rfl) rfl trivial ?_
    refine hd_ci kX6_lineNow qX6_lineNow (fun _ => rfl) (r_is M N t ht ok s hs h8 h9 5 (by decide) 103 108 97 115) ?_
    refine hd_ju kX6_lineNow (fun _ => rfl) (fun q => n2 w0 (fun z => hd_b0.mp q ((rW1 hs).mp z).1)) (fun q => ?_)
    refine hd_go kX6_lineNow 999 (fun _ => rfl) rfl trivial ?_
    refine hd_ci kX6_lineNow qX6_lineNow (fun _ => rfl) (r_endsIn M N t ht ok s hs h8 h9 115 0) ?_
    refine hd_ju kX6_lineNow (fun _ => rfl) (fun q2 => n2 w0 (fun z => hd_b0.mp q2 ((rW1 hs).mp z).2)) (fun q2 => ?_)
    have w1 : tx_is t s 1 := (rW1 hs).mpr ⟨hd_b1.mp q, hd_b1.mp q2⟩
    refine hd_go kX6_lineNow 999 (fun _ => rfl) rfl trivial ?_
    exact hd_en_ kX6_lineNow (fun _ => rfl) trivial ⟨by rw [show rkw t s = 1 from (by unfold rkw; rw [if_neg w0, if_pos w1])], rfl, rfl⟩
  refine hd_go kX6_lineNow 999 (fun _ => rfl) rfl trivial ?_
  refine hd_ci kX6_lineNow qX6_lineNow (fun _ => rfl) (r_is M N t ht ok s hs h8 h9 5 (by decide) 112 108 97 105) ?_
  refine hd_ju kX6_lineNow (fun _ => rfl) (fun q => n1  (fun z => hd_b0.mp q ((rW0 hs).mp z).1)) (fun q => ?_)
  refine hd_go kX6_lineNow 999 (fun _ => rfl) rfl trivial ?_
  refine hd_ci kX6_lineNow qX6_lineNow (fun _ => rfl) (r_endsIn M N t ht ok s hs h8 h9 110 0) ?_
  refine hd_ju kX6_lineNow (fun _ => rfl) (fun q2 => n1  (fun z => hd_b0.mp q2 ((rW0 hs).mp z).2)) (fun q2 => ?_)
  have w0 : tx_is t s 0 := (rW0 hs).mpr ⟨hd_b1.mp q, hd_b1.mp q2⟩
  refine hd_go kX6_lineNow 999 (fun _ => rfl) rfl trivial ?_
  exact hd_en_ kX6_lineNow (fun _ => rfl) trivial ⟨by rw [show rkw t s = 0 from (by unfold rkw; rw [if_pos w0])], rfl, rfl⟩
/-- the draft holds the day told so far -/
def rfd (M : hd_M) (d : dy_T) : Prop := M 55 28 = nI d.1 ∧ M 55 30 = d.2.2.1 ∧ M 55 31 = d.2.2.2.1 ∧ M 55 32 = 0 ∧ M 55 33 = 0 ∧ (∀ i, i < d.1 → M 55 (4 * i) = d.2.2.2.2.2 0 i ∧ M 55 (4 * i + 1) = d.2.2.2.2.2 1 i ∧ M 55 (4 * i + 2) = d.2.2.2.2.2 2 i) ∧ ∀ i, i < 7 → M 55 (4 * i + 3) = 0
theorem rfd.mv {M M1 : hd_M} {d : dy_T} (h : rfd M d) (he : ∀ j, M1 55 j = M 55 j) : rfd M1 d := by
  obtain ⟨h1, h2, h3, h4, h5, h6, h7⟩ := h
  exact ⟨(he _).trans h1, (he _).trans h2, (he _).trans h3, (he _).trans h4, (he _).trans h5, fun i hi => ⟨(he _).trans (h6 i hi).1, (he _).trans (h6 i hi).2.1, (he _).trans (h6 i hi).2.2⟩, fun i hi => (he _).trans (h7 i hi)⟩
set_option maxRecDepth 20000 in
theorem r_first_l (M : hd_M) (N : hd_N) : ∀ (m j : Nat) (M' : hd_M), j + m = 46 → fr (fun c _ => c = 55) M M' → (∀ x, x < j → M' 55 x = 0) → hd_Go mX6_firstDraft 2 [some (.ref 51), some (.int (nI j))] [] M' N (fun r M1 N1 => r = none ∧ N1 = N ∧ fr (fun c j => c = 55 ∨ (c = 51 ∧ 4 ≤ j ∧ j ≤ 5)) M M1 ∧ (∀ x, x < 46 → M1 55 x = if x = 30 then 30 else if x = 31 then 1 else 0) ∧ M1 51 4 = 0 ∧ M1 51 5 = 0) := by
  intro m
  induction m with
  | zero =>
    intro j M' hj hf hx
    refine hd_go kX6_firstDraft 999 (fun _ => rfl) rfl trivial ?_
    refine hd_ju kX6_firstDraft (fun _ => rfl) (fun c => ?_) (fun c => absurd (nI_le (a := 46) (by omega) (by omega)) c)
    refine hd_go kX6_firstDraft 999 (fun _ => rfl) rfl ⟨⟨⟨⟨trivial, vi (j := 30) rfl (by decide) (by decide)⟩, vi (j := 31) rfl (by decide) (by decide)⟩, Or.inl rfl⟩, Or.inl rfl⟩ ?_
    refine hd_en_ kX6_firstDraft (fun _ => rfl) trivial ⟨rfl, rfl, ?_, fun x h => ?_, ?_, ?_⟩
    · exact ((((hf.mo (fun c j z => Or.inl z)).up (Or.inl rfl)).up (Or.inl rfl)).up (Or.inr ⟨rfl, by decide, by decide⟩)).up (Or.inr ⟨rfl, by decide, by decide⟩)
    · rw [hd_u_n (by omega), hd_u_n (by omega)]
      show hd_u (hd_u M' 55 30 30) 55 31 1 55 x = _
      by_cases e1 : x = 31
      · rw [e1, hd_u_s]; rfl
      · rw [hd_u_n (by omega)]
        by_cases e0 : x = 30
        · rw [e0, hd_u_s]; rfl
        · rw [hd_u_n (by omega), if_neg e0, if_neg e1]; exact hx x (by omega)
    · rw [hd_u_n (by omega), hd_u_s]
    · rw [hd_u_s]
  | succ m ih =>
    intro j M' hj hf hx
    refine hd_go kX6_firstDraft 999 (fun _ => rfl) rfl trivial ?_
    refine hd_ju kX6_firstDraft (fun _ => rfl) (fun c => absurd c (nI_ge (b := 46) (by omega) (by decide))) (fun c => ?_)
    refine hd_go kX6_firstDraft 2 (fun _ => rfl) rfl ⟨trivial, vp_in_nI (by omega) (by decide)⟩ ?_
    rw [nI_clamp (show j < 2 ^ 31 by omega), nI_1]
    refine ih (j + 1) _ (by omega) (hf.up rfl) (fun x h => ?_)
    by_cases e : x = j
    · rw [e, hd_u_s]
    · rw [hd_u_n (by omega)]; exact hx x (by omega)
set_option maxRecDepth 20000 in
theorem r_first (M : hd_M) (N : hd_N) : hd_Ret mX6_firstDraft [.ref 51] M N (fun r M1 N1 => r = none ∧ N1 = N ∧ fr (fun c j => c = 55 ∨ (c = 51 ∧ 4 ≤ j ∧ j ≤ 5)) M M1 ∧ rfd M1 dy_0 ∧ M1 51 4 = bI false ∧ M1 51 5 = bI false) := by
  change hd_Go mX6_firstDraft 0 [some (.ref 51), none] [] M N _
  refine hd_go kX6_firstDraft 2 (fun _ => rfl) rfl trivial ?_
  refine hd_Go.post ?_ (r_first_l M N 46 0 M (by decide) fr.rf (fun x h => absurd h (Nat.not_lt_zero x)))
  rintro r M1 N1 ⟨rfl, rfl, hf, hx, h4, h5⟩
  refine ⟨rfl, rfl, hf, ⟨?_, ?_, ?_, ?_, ?_, fun i hi => absurd hi (Nat.not_lt_zero i), fun i hi => ?_⟩, h4, h5⟩
  · rw [hx 28 (by decide)]; rfl
  · rw [hx 30 (by decide)]; rfl
  · rw [hx 31 (by decide)]; rfl
  · rw [hx 32 (by decide)]; rfl
  · rw [hx 33 (by decide)]; rfl
  · rw [hx _ (by omega), if_neg (by omega), if_neg (by omega)]
set_option maxRecDepth 20000 in
theorem r_keep_l (M : hd_M) (N : hd_N) : ∀ (m j : Nat) (M' : hd_M), j + m = 46 → fr (fun c _ => c = 52) M M' → (∀ x, x < j → M' 52 x = M 55 x) → hd_Go mX6_keepDraft 16 [some (.ref 51), some (.int (nI j))] [] M' N (fun r M1 N1 => r = none ∧ N1 = N ∧ fr (fun c _ => c = 52 ∨ c = 54) M M1 ∧ (∀ x, x < 46 → M1 52 x = M 55 x) ∧ M1 54 0 = 0 ∧ M1 54 1 = 0) := by
  intro m
  induction m with
  | zero =>
    intro j M' hj hf hx
    refine hd_go kX6_keepDraft 999 (fun _ => rfl) rfl trivial ?_
    refine hd_ju kX6_keepDraft (fun _ => rfl) (fun c => ?_) (fun c => absurd (nI_le (a := 46) (by omega) (by omega)) c)
    refine hd_go kX6_keepDraft 999 (fun _ => rfl) rfl ⟨⟨trivial, vi (j := 0) rfl (by decide) (by decide), Or.inl rfl⟩, vi (j := 1) rfl (by decide) (by decide), Or.inl rfl⟩ ?_
    refine hd_en_ kX6_keepDraft (fun _ => rfl) trivial ⟨rfl, rfl, ?_, fun x h => ?_, ?_, ?_⟩
    · exact ((hf.mo (S' := fun c _ => c = 52 ∨ c = 54) (fun c j z => Or.inl z)).up (Or.inr rfl)).up (Or.inr rfl)
    · rw [hd_u_n (by omega), hd_u_n (by omega)]; exact hx x (by omega)
    · show hd_u (hd_u M' 54 0 0) 54 1 0 54 0 = 0
      rw [hd_u_n (by omega), hd_u_s]
    · show hd_u (hd_u M' 54 0 0) 54 1 0 54 1 = 0
      rw [hd_u_s]
  | succ m ih =>
    intro j M' hj hf hx
    refine hd_go kX6_keepDraft 999 (fun _ => rfl) rfl trivial ?_
    refine hd_ju kX6_keepDraft (fun _ => rfl) (fun c => absurd c (nI_ge (b := 46) (by omega) (by decide))) (fun c => ?_)
    refine hd_go kX6_keepDraft 16 (fun _ => rfl) rfl ⟨⟨trivial, vp_in_nI (by omega) (by decide)⟩, vp_in_nI (by omega) (by decide)⟩ ?_
    rw [nI_clamp (show j < 2 ^ 31 by omega), nI_1]
    refine ih (j + 1) _ (by omega) (hf.up rfl) (fun x h => ?_)
    by_cases e : x = j
    · rw [e, hd_u_s, hf 55 j (by show ¬ 55 = 52; decide)]
    · rw [hd_u_n (by omega)]; exact hx x (by omega)
set_option maxRecDepth 20000 in
theorem r_keep (M : hd_M) (N : hd_N) (d : dy_T) (hd : rfd M d) (ok : txd d) : hd_Ret mX6_keepDraft [.ref 51] M N (fun r M1 N1 => r = none ∧ N1 = N ∧ fr (fun c _ => c = 52 ∨ c = 54 ∨ c = 55) M M1 ∧ rf M1 52 0 d ∧ M1 52 33 = 0 ∧ M1 54 0 = 0 ∧ M1 54 1 = 0) := by
  change hd_Go mX6_keepDraft 0 [some (.ref 51), none] [] M N _
  obtain ⟨h1, h2, h3, h4, h5, h6, h7⟩ := hd
  obtain ⟨k1, k2, k3, k4, k5, k6⟩ := ok
  refine hd_go kX6_keepDraft 16 (fun _ => rfl) rfl ⟨⟨trivial, vi (j := 28) rfl (by decide) (by decide)⟩, vi (j := 29) rfl (by decide) (by decide)⟩ ?_
  have e : hd_u M 55 (29 : Int32).toNatClampNeg (M 55 (28 : Int32).toNatClampNeg) = hd_u M 55 29 (nI d.1) := by
    show hd_u M 55 29 (M 55 28) = _
    rw [h1]
  rw [e]
  refine hd_Go.post ?_ (r_keep_l (hd_u M 55 29 (nI d.1)) N 46 0 _ (by decide) fr.rf (fun x h => absurd h (Nat.not_lt_zero x)))
  rintro r M1 N1 ⟨rfl, rfl, hf, hx, g0, g1⟩
  have hx2 : ∀ x, x < 46 → ¬ x = 29 → M1 52 x = M 55 x := fun x h1 h2 => by rw [hx x h1, hd_u_n (by omega)]
  refine ⟨rfl, rfl, ?_, ⟨?_, ?_, ?_, ?_, ?_, fun i hi => ⟨?_, ?_, ?_, ?_⟩⟩, ?_, g0, g1⟩
  · exact (fr.rf.up (Or.inr (Or.inr rfl))).tr (hf.mo (fun c j z => by have z : c = 52 ∨ c = 54 := z; show c = 52 ∨ c = 54 ∨ c = 55; omega))
  · rw [hx2 _ (by decide) (by decide)]; exact h1
  · rw [hx _ (by decide), k2]; exact hd_u_s _ _ _ _
  · rw [hx2 _ (by decide) (by decide)]; exact h2
  · rw [hx2 _ (by decide) (by decide)]; exact h3
  · rw [hx2 _ (by decide) (by decide), k6]; exact h4
  · rw [hx2 _ (by omega) (by omega), Nat.zero_add]; exact (h6 i hi).1
  · rw [hx2 _ (by omega) (by omega), Nat.zero_add]; exact (h6 i hi).2.1
  · rw [hx2 _ (by omega) (by omega), Nat.zero_add]; exact (h6 i hi).2.2
  · rw [hx2 _ (by omega) (by omega), Nat.zero_add, k3 i hi]; exact h7 i (by omega)
  · rw [hx2 _ (by decide) (by decide)]; exact h5
abbrev loF : Nat → Nat → Prop := fun c j => c = 55 ∨ rdF c j
theorem lo_7 : ¬ loF 51 7 := fun z => z.elim (fun z => by omega) rd_7
theorem lo_56 (j : Nat) : ¬ loF 56 j := fun z => z.elim (fun z => by omega) (rd_56 j)
theorem rS.mv {M M1 : hd_M} {t : tx_T} {σ : tx_F ⊕ Nat} (h : rS M t σ) (he : ∀ j, 8 ≤ j → j ≤ 13 → M1 51 j = M 51 j) : rS M1 t σ := by
  match σ, h with
  | .inl (c, w), h => exact ⟨(he 12 (by decide) (by decide)).trans h.1, h.2.1, (he 13 (by decide) (by decide)).trans h.2.2⟩
  | .inr s, h =>
    obtain ⟨h1, h2, h3, h4, h5, h6⟩ := h
    exact ⟨(he 12 (by decide) (by decide)).trans h1, h2, (he 8 (by decide) (by decide)).trans h3, (he 9 (by decide) (by decide)).trans h4, (he 10 (by decide) (by decide)).trans h5, fun z => (he 11 (by decide) (by decide)).trans (h6 z)⟩
set_option maxRecDepth 20000 in
theorem r_lo4 (M : hd_M) (N : hd_N) (t : tx_T) (ht : tpR M t) (ok : tx_ok t) (σ : tx_F ⊕ Nat) (hS : rS M t σ) : hd_Ret mX6_readLineOf [.ref 51, .int 4] M N (fun r M1 N1 => r = none ∧ N1 = N ∧ fr loF M M1 ∧ rS M1 t (rnm t 0 99 σ).2 ∧ ∀ j, M1 55 j = if j = 30 then (rnm t 0 99 σ).1 else M 55 j) := by
  change hd_Go mX6_readLineOf 0 [some (.ref 51), some (.int 4), none] [] M N _
  refine hd_go kX6_readLineOf 999 (fun _ => rfl) rfl ⟨trivial, vi (j := 28) rfl (by decide) (by decide)⟩ ?_
  refine hd_sc kX6_readLineOf (fun _ => rfl) ⟨fun _ => ?_, fun c => absurd rfl c⟩
  refine hd_go kX6_readLineOf 999 (fun _ => rfl) rfl trivial ?_
  refine hd_ca kX6_readLineOf qX6_readLineOf (fun _ => rfl) (r_num M N t ht ok σ hS 0 99) ?_
  rintro r M1 N1 ⟨rfl, rfl, hf, h1⟩
  refine hd_go kX6_readLineOf 999 (fun _ => rfl) rfl ⟨trivial, vi (j := 30) rfl (by decide) (by decide)⟩ ?_
  refine hd_en_ kX6_readLineOf (fun _ => rfl) trivial ⟨rfl, rfl, (hf.mo (fun c j z => Or.inr z)).up (Or.inl rfl), h1.mv (fun j _ _ => hd_u_n (by omega)), fun j => ?_⟩
  show hd_u M1 55 30 _ 55 j = _
  by_cases e : j = 30
  · rw [e, hd_u_s, if_pos rfl]
  · rw [hd_u_n (by omega), if_neg e, hf 55 j (fun z => by have z := z.1; omega)]
set_option maxRecDepth 20000 in
theorem r_lo5 (M : hd_M) (N : hd_N) (t : tx_T) (ht : tpR M t) (ok : tx_ok t) (σ : tx_F ⊕ Nat) (hS : rS M t σ) : hd_Ret mX6_readLineOf [.ref 51, .int 5] M N (fun r M1 N1 => r = none ∧ N1 = N ∧ fr loF M M1 ∧ rS M1 t (rnm t 0 9 σ).2 ∧ ∀ j, M1 55 j = if j = 31 then (rnm t 0 9 σ).1 else M 55 j) := by
  change hd_Go mX6_readLineOf 0 [some (.ref 51), some (.int 5), none] [] M N _
  refine hd_go kX6_readLineOf 999 (fun _ => rfl) rfl ⟨trivial, vi (j := 28) rfl (by decide) (by decide)⟩ ?_
  refine hd_sc kX6_readLineOf (fun _ => rfl) ⟨fun c => absurd c (by decide), fun _ => ⟨fun _ => ?_, fun c => absurd rfl c⟩⟩
  refine hd_go kX6_readLineOf 999 (fun _ => rfl) rfl trivial ?_
  refine hd_ca kX6_readLineOf qX6_readLineOf (fun _ => rfl) (r_num M N t ht ok σ hS 0 9) ?_
  rintro r M1 N1 ⟨rfl, rfl, hf, h1⟩
  refine hd_go kX6_readLineOf 999 (fun _ => rfl) rfl ⟨trivial, vi (j := 31) rfl (by decide) (by decide)⟩ ?_
  refine hd_en_ kX6_readLineOf (fun _ => rfl) trivial ⟨rfl, rfl, (hf.mo (fun c j z => Or.inr z)).up (Or.inl rfl), h1.mv (fun j _ _ => hd_u_n (by omega)), fun j => ?_⟩
  show hd_u M1 55 31 _ 55 j = _
  by_cases e : j = 31
  · rw [e, hd_u_s, if_pos rfl]
  · rw [hd_u_n (by omega), if_neg e, hf 55 j (fun z => by have z := z.1; omega)]
set_option maxRecDepth 20000 in
theorem r_lot (M : hd_M) (N : hd_N) (t : tx_T) (ht : tpR M t) (ok : tx_ok t) (σ : tx_F ⊕ Nat) (hS : rS M t σ) (kd : Int32) (k4 : ¬ kd = 4) (k5 : ¬ kd = 5) (n : Nat) (hn : n < 7) (h28 : M 55 28 = nI n) : hd_Ret mX6_readLineOf [.ref 51, .int kd] M N (fun r M1 N1 => r = none ∧ N1 = N ∧ fr loF M M1 ∧ rS M1 t (rnm t 1 9 (rnm t 0 9 σ).2).2 ∧ ∀ j, M1 55 j = if j = 28 then nI (n + 1) else if j = 4 * n + 2 then (rnm t 1 9 (rnm t 0 9 σ).2).1 else if j = 4 * n + 1 then (rnm t 0 9 σ).1 else if j = 4 * n then kd else M 55 j) := by
  change hd_Go mX6_readLineOf 0 [some (.ref 51), some (.int kd), none] [] M N _
  refine hd_go kX6_readLineOf 10 (fun _ => rfl) rfl ⟨trivial, vi (j := 28) rfl (by decide) (by decide)⟩ ?_
  rw [show (4 : Int32) * M 55 (28 : Int32).toNatClampNeg = nI (4 * n) from by
    show (4 : Int32) * M 55 28 = _
    rw [h28]
    exact pk_mul 4 n]
  refine hd_go kX6_readLineOf 999 (fun _ => rfl) rfl trivial ?_
  refine hd_sc kX6_readLineOf (fun _ => rfl) ⟨fun c => absurd c k4, fun _ => ⟨fun c => absurd c k5, fun _ => ?_⟩⟩
  have e0 : nI (4 * n) + 0 = nI (4 * n) := nI_add (4 * n) 0
  have v0 : vp_in (nI (4 * n) + 0) 46 := by rw [e0]; exact vp_in_nI (by omega) (by decide)
  have e1 : nI (4 * n) + 1 = nI (4 * n + 1) := nI_add (4 * n) 1
  have e2 : nI (4 * n) + 2 = nI (4 * n + 2) := nI_add (4 * n) 2
  have v1 : vp_in (nI (4 * n + 1)) 46 := vp_in_nI (by omega) (by decide)
  have v2 : vp_in (nI (4 * n + 2)) 46 := vp_in_nI (by omega) (by decide)
  refine hd_go kX6_readLineOf 999 (fun _ => rfl) rfl ⟨trivial, v0⟩ ?_
  rw [e0, e1, nI_clamp (show 4 * n < 2 ^ 31 by omega)]
  have f1 : fr loF M (hd_u M 55 (4 * n) kd) := fr.rf.up (Or.inl rfl)
  refine hd_ca kX6_readLineOf qX6_readLineOf (fun _ => rfl) (r_num (hd_u M 55 (4 * n) kd) N t (ht.fr f1 lo_7 lo_56) ok σ (hS.mv (fun j _ _ => hd_u_n (by omega))) 0 9) ?_
  rintro r M1 N1 ⟨rfl, rfl, hf1, h1⟩
  refine hd_go kX6_readLineOf 999 (fun _ => rfl) rfl ⟨trivial, v1⟩ ?_
  rw [e2, nI_clamp (show 4 * n + 1 < 2 ^ 31 by omega)]
  have f2 : fr loF M (hd_u M1 55 (4 * n + 1) (rnm t 0 9 σ).1) := (f1.tr (hf1.mo (fun c j z => Or.inr z))).up (Or.inl rfl)
  refine hd_ca kX6_readLineOf qX6_readLineOf (fun _ => rfl) (r_num (hd_u M1 55 (4 * n + 1) (rnm t 0 9 σ).1) N1 t (ht.fr f2 lo_7 lo_56) ok _ (h1.mv (fun j _ _ => hd_u_n (by omega))) 1 9) ?_
  rintro r M2 N2 ⟨rfl, rfl, hf2, h2⟩
  have o1 : ∀ j, M1 55 j = hd_u M 55 (4 * n) kd 55 j := fun j => hf1 55 j (fun z => by have z := z.1; omega)
  have o2 : ∀ j, M2 55 j = hd_u M1 55 (4 * n + 1) (rnm t 0 9 σ).1 55 j := fun j => hf2 55 j (fun z => by have z := z.1; omega)
  refine hd_go kX6_readLineOf 999 (fun _ => rfl) rfl ⟨⟨⟨trivial, v2⟩, vi (j := 28) rfl (by decide) (by decide)⟩, vi (j := 28) rfl (by decide) (by decide)⟩ ?_
  rw [nI_clamp (show 4 * n + 2 < 2 ^ 31 by omega)]
  refine hd_en_ kX6_readLineOf (fun _ => rfl) trivial ⟨rfl, rfl, ((f2.tr (hf2.mo (fun c j z => Or.inr z))).up (Or.inl rfl)).up (Or.inl rfl), h2.mv (fun j _ _ => by rw [hd_u_n (by omega), hd_u_n (by omega)]), fun j => ?_⟩
  show hd_u (hd_u M2 55 (4 * n + 2) _) 55 28 (hd_u M2 55 (4 * n + 2) _ 55 28 + 1) 55 j = _
  have e28 : hd_u M2 55 (4 * n + 2) (rnm t 1 9 (rnm t 0 9 σ).2).1 55 28 + 1 = nI (n + 1) := by
    rw [hd_u_n (by omega), o2, hd_u_n (by omega), o1, hd_u_n (by omega), h28, nI_1]
  by_cases c28 : j = 28
  · rw [c28, hd_u_s, if_pos rfl]; exact e28
  rw [hd_u_n (by omega), if_neg c28]
  by_cases c2 : j = 4 * n + 2
  · rw [c2, hd_u_s, if_pos rfl]
  rw [hd_u_n (by omega), if_neg c2, o2]
  by_cases c1 : j = 4 * n + 1
  · rw [c1, hd_u_s, if_pos rfl]
  rw [hd_u_n (by omega), if_neg c1, o1]
  by_cases c0 : j = 4 * n
  · rw [c0, hd_u_s, if_pos rfl]
  rw [hd_u_n (by omega), if_neg c0]
theorem rnm_n (t : tx_T) (lo hi : Int32) (p : Nat) : (∃ c w, (∀ k, tx_n t lo hi p k = .inl (c, w)) ∧ rnm t lo hi (tx_rd t p) = (0, .inl (c, w))) ∨ (∃ v e, (∀ k, tx_n t lo hi p k = k v e) ∧ rnm t lo hi (tx_rd t p) = (v, tx_rd t e)) := by
  unfold tx_n rnm
  cases h : tx_rd t p with
  | inl f => exact Or.inl ⟨f.1, f.2, fun k => rfl, rfl⟩
  | inr s =>
    simp only []
    by_cases h2 : tx_so t s = 2
    · by_cases hw : wi (tx_v t s) lo hi
      · exact Or.inr ⟨tx_v t s, tx_e t s, fun k => by rw [if_pos h2, if_pos hw], by rw [if_pos h2, if_pos hw]⟩
      · exact Or.inl ⟨3, s, fun k => by rw [if_pos h2, if_neg hw], by rw [if_pos h2, if_neg hw]⟩
    · exact Or.inl ⟨2, s, fun k => by rw [if_neg h2], by rw [if_neg h2]⟩
def rst (t : tx_T) (σ : tx_F ⊕ Nat) : tx_F ⊕ Nat := match σ with
  | .inl f => .inl f
  | .inr s => if tx_so t s = 3 then tx_rd t (tx_e t s) else .inl (2, s)
theorem rst_p (t : tx_T) (p : Nat) : (∃ c w, (∀ k, tx_p t p k = .inl (c, w)) ∧ rst t (tx_rd t p) = .inl (c, w)) ∨ (∃ e, (∀ k, tx_p t p k = k e) ∧ rst t (tx_rd t p) = tx_rd t e) := by
  unfold tx_p rst
  cases h : tx_rd t p with
  | inl f => exact Or.inl ⟨f.1, f.2, fun k => rfl, rfl⟩
  | inr s =>
    simp only []
    by_cases h2 : tx_so t s = 3
    · exact Or.inr ⟨tx_e t s, fun k => by rw [if_pos h2], by rw [if_pos h2]⟩
    · exact Or.inl ⟨2, s, fun k => by rw [if_neg h2], by rw [if_neg h2]⟩
theorem tx_w_c (t : tx_T) (s : Nat) : (tx_w t s = -1 ∧ rkw t s = -4) ∨ (tx_w t s = 0 ∧ rkw t s = 0) ∨ (tx_w t s = 1 ∧ rkw t s = 1) ∨ (tx_w t s = 2 ∧ rkw t s = 2) ∨ (tx_w t s = 3 ∧ rkw t s = 3) ∨ (tx_w t s = 4 ∧ rkw t s = 4) ∨ (tx_w t s = 5 ∧ rkw t s = 5) := by
  unfold tx_w rkw
  by_cases w0 : tx_is t s 0
  · rw [if_pos w0, if_pos w0]; decide
  rw [if_neg w0, if_neg w0]
  by_cases w1 : tx_is t s 1
  · rw [if_pos w1, if_pos w1]; decide
  rw [if_neg w1, if_neg w1]
  by_cases w2 : tx_is t s 2
  · rw [if_pos w2, if_pos w2]; decide
  rw [if_neg w2, if_neg w2]
  by_cases w3 : tx_is t s 3
  · rw [if_pos w3, if_pos w3]; decide
  rw [if_neg w3, if_neg w3]
  by_cases w4 : tx_is t s 4
  · rw [if_pos w4, if_pos w4]; decide
  rw [if_neg w4, if_neg w4]
  by_cases w5 : tx_is t s 5
  · rw [if_pos w5, if_pos w5]; decide
  rw [if_neg w5, if_neg w5]; decide
def rkd (t : tx_T) (s : Nat) : Int32 := if tx_so t s = 1 then rkw t s else -4
theorem tx_wd_c (t : tx_T) (s : Nat) : (tx_wd t s = -1 ∧ rkd t s = -4) ∨ (tx_wd t s = rkd t s ∧ (rkd t s = 0 ∨ rkd t s = 1 ∨ rkd t s = 2 ∨ rkd t s = 3)) ∨ (tx_wd t s = 4 ∧ rkd t s = 4) ∨ (tx_wd t s = 5 ∧ rkd t s = 5) := by
  unfold tx_wd rkd
  by_cases h : tx_so t s = 1
  · rw [if_pos h, if_pos h]
    rcases tx_w_c t s with z | z | z | z | z | z | z
    · exact Or.inl z
    · exact Or.inr (Or.inl ⟨by rw [z.1, z.2], by rw [z.2]; decide⟩)
    · exact Or.inr (Or.inl ⟨by rw [z.1, z.2], by rw [z.2]; decide⟩)
    · exact Or.inr (Or.inl ⟨by rw [z.1, z.2], by rw [z.2]; decide⟩)
    · exact Or.inr (Or.inl ⟨by rw [z.1, z.2], by rw [z.2]; decide⟩)
    · exact Or.inr (Or.inr (Or.inl z))
    · exact Or.inr (Or.inr (Or.inr z))
  · rw [if_neg h, if_neg h]; exact Or.inl ⟨rfl, rfl⟩
theorem rfd.mood {M M1 : hd_M} {d : dy_T} {v : Int32} (h : rfd M d) (hd : txd d) (he : ∀ j, M1 55 j = if j = 30 then v else M 55 j) : rfd M1 (dy_mood v d) := by
  have h7 := hd.1
  obtain ⟨h1, h2, h3, h4, h5, h6, h8⟩ := h
  have o : ∀ j, ¬ j = 30 → M1 55 j = M 55 j := fun j hj => by rw [he, if_neg hj]
  refine ⟨(o _ (by omega)).trans h1, by rw [he, if_pos rfl]; rfl, (o _ (by omega)).trans h3, (o _ (by omega)).trans h4, (o _ (by omega)).trans h5, fun i hi => ?_, fun i hi => (o _ (by omega)).trans (h8 i hi)⟩
  have hi : i < d.1 := hi
  exact ⟨(o _ (by omega)).trans (h6 i hi).1, (o _ (by omega)).trans (h6 i hi).2.1, (o _ (by omega)).trans (h6 i hi).2.2⟩
theorem rfd.tire {M M1 : hd_M} {d : dy_T} {v : Int32} (h : rfd M d) (hd : txd d) (he : ∀ j, M1 55 j = if j = 31 then v else M 55 j) : rfd M1 (dy_tire v d) := by
  have h7 := hd.1
  obtain ⟨h1, h2, h3, h4, h5, h6, h8⟩ := h
  have o : ∀ j, ¬ j = 31 → M1 55 j = M 55 j := fun j hj => by rw [he, if_neg hj]
  refine ⟨(o _ (by omega)).trans h1, (o _ (by omega)).trans h2, by rw [he, if_pos rfl]; rfl, (o _ (by omega)).trans h4, (o _ (by omega)).trans h5, fun i hi => ?_, fun i hi => (o _ (by omega)).trans (h8 i hi)⟩
  have hi : i < d.1 := hi
  exact ⟨(o _ (by omega)).trans (h6 i hi).1, (o _ (by omega)).trans (h6 i hi).2.1, (o _ (by omega)).trans (h6 i hi).2.2⟩
theorem rfd.add {M M1 : hd_M} {d : dy_T} {k g x : Int32} (h : rfd M d) (hd : txd d) (h7 : ¬ d.1 = 7) (he : ∀ j, M1 55 j = if j = 28 then nI (d.1 + 1) else if j = 4 * d.1 + 2 then x else if j = 4 * d.1 + 1 then g else if j = 4 * d.1 then k else M 55 j) : rfd M1 (dy_add k g x d) := by
  have h9 := hd.1
  obtain ⟨h1, h2, h3, h4, h5, h6, h8⟩ := h
  have o : ∀ j, ¬ j = 28 → ¬ j = 4 * d.1 + 2 → ¬ j = 4 * d.1 + 1 → ¬ j = 4 * d.1 → M1 55 j = M 55 j := fun j a b c e => by rw [he, if_neg a, if_neg b, if_neg c, if_neg e]
  refine ⟨by rw [he, if_pos rfl]; rfl, (o _ (by omega) (by omega) (by omega) (by omega)).trans h2, (o _ (by omega) (by omega) (by omega) (by omega)).trans h3, (o _ (by omega) (by omega) (by omega) (by omega)).trans h4, (o _ (by omega) (by omega) (by omega) (by omega)).trans h5, fun i hi => ?_, fun i hi => (o _ (by omega) (by omega) (by omega) (by omega)).trans (h8 i hi)⟩
  have hi : i < d.1 + 1 := hi
  show M1 55 (4 * i) = (if i = d.1 then k else d.2.2.2.2.2 0 i) ∧ M1 55 (4 * i + 1) = (if i = d.1 then g else d.2.2.2.2.2 1 i) ∧ M1 55 (4 * i + 2) = (if i = d.1 then x else d.2.2.2.2.2 2 i)
  by_cases e : i = d.1
  · rw [if_pos e, if_pos e, if_pos e, e]
    refine ⟨?_, ?_, ?_⟩
    · rw [he, if_neg (by omega), if_neg (by omega), if_neg (by omega), if_pos rfl]
    · rw [he, if_neg (by omega), if_neg (by omega), if_pos rfl]
    · rw [he, if_neg (by omega), if_pos rfl]
  · rw [if_neg e, if_neg e, if_neg e]
    exact ⟨(o _ (by omega) (by omega) (by omega) (by omega)).trans (h6 i (by omega)).1, (o _ (by omega) (by omega) (by omega) (by omega)).trans (h6 i (by omega)).2.1, (o _ (by omega) (by omega) (by omega) (by omega)).trans (h6 i (by omega)).2.2⟩
