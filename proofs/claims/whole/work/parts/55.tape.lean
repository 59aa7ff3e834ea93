/-! THE CLASS READS ITS TAPE; printed by wip/whole/tape.py -/
abbrev tkF : Nat → Nat → Prop := fun c j => c = 16 ∧ 2 ≤ j ∧ j ≤ 7
abbrev lnF : Nat → Nat → Prop := fun c j => (c = 16 ∧ 2 ≤ j) ∨ (7 ≤ c ∧ c ≤ 11)
theorem tpC.fr {M M1 : hd_M} {t : tx_T} {S : Nat → Nat → Prop} (h : tpC M t) (he : fr S M M1) (h1 : ¬ S 16 1) (h2 : ∀ j, ¬ S 17 j) : tpC M1 t :=
  ⟨by rw [he 16 1 h1]; exact h.1, fun i hi => by rw [he 17 i (h2 i)]; exact h.2 i hi⟩
theorem tk_lo : ¬ tkF 16 1 := fun z => by have z := z.2.1; omega
theorem tk_17 (j : Nat) : ¬ tkF 17 j := fun z => by have z := z.1; omega
theorem ln_lo : ¬ lnF 16 1 := fun z => by have z : (16 = 16 ∧ 2 ≤ 1) ∨ (7 ≤ 16 ∧ 16 ≤ 11) := z; omega
theorem ln_17 (j : Nat) : ¬ lnF 17 j := fun z => by have z : (17 = 16 ∧ 2 ≤ j) ∨ (7 ≤ 17 ∧ 17 ≤ 11) := z; omega
theorem tk_ln : ∀ c j, tkF c j → lnF c j := fun c j z => Or.inl ⟨z.1, z.2.1⟩
set_option maxRecDepth 20000 in
theorem t_sort (M : hd_M) (N : hd_N) (t : tx_T) (ht : tpC M t) (hn : t.1 ≤ 160) (p : Nat) (hp : p ≤ 160) : hd_Ret mX4_sortAt [.ref 16, .int (nI p)] M N (hd_is (.int (tx_so t p)) M N) := by
  change hd_Go mX4_sortAt 0 [some (.ref 16), some (.int (nI p)), none] [] M N _
  unfold tx_so
  refine hd_go kX4_sortAt 999 (fun _ => rfl) rfl trivial ?_
  rw [ht.1]
  refine hd_ju kX4_sortAt (fun _ => rfl) (fun c => ?_) (fun c => ?_)
  · have hlt : p < t.1 := (nI_ltI (by omega) (by omega)).mp c
    rw [if_pos hlt]
    have hv : vp_in (nI p) 160 := vp_in_nI (by omega) (by decide)
    refine hd_go kX4_sortAt 999 (fun _ => rfl) rfl ⟨trivial, hv⟩ ?_
    rw [nI_clamp (show p < 2 ^ 31 by omega), ht.2 p hlt]
    repeat' first
      | refine hd_ju kX4_sortAt (fun _ => rfl) (fun c => ?_) (fun c => ?_)
      | refine hd_en_ kX4_sortAt (fun _ => rfl) ?_ ?_
      | refine hd_go kX4_sortAt 999 (fun _ => rfl) rfl ?_ ?_
    all_goals first
      | trivial
      | (refine ⟨?_, rfl, rfl⟩; simp_all [-Int32.not_lt, -Int32.not_le])
  · have hlt : ¬ p < t.1 := fun z => c ((nI_ltI (by omega) (by omega)).mpr z)
    rw [if_neg hlt]
    refine hd_go kX4_sortAt 999 (fun _ => rfl) rfl trivial ?_
    exact hd_en_ kX4_sortAt (fun _ => rfl) trivial ⟨rfl, rfl, rfl⟩
set_option maxRecDepth 20000 in
theorem t_refuse (M : hd_M) (N : hd_N) (c : Int32) : hd_Ret mX4_refuse [.ref 16, .int c] M N (fun r M1 N1 => r = some (.int 0) ∧ N1 = N ∧ fr (fun c j => c = 16 ∧ 2 ≤ j ∧ j ≤ 3) M M1 ∧ M1 16 2 = c ∧ M1 16 3 = M 16 5) := by
  change hd_Go mX4_refuse 0 [some (.ref 16), some (.int c)] [] M N _
  refine hd_go kX4_refuse 999 (fun _ => rfl) rfl trivial ?_
  refine hd_en_ kX4_refuse (fun _ => rfl) (Or.inl rfl) ⟨rfl, rfl, (fr.rf.up ⟨rfl, by decide, by decide⟩).up ⟨rfl, by decide, by decide⟩, ?_, ?_⟩
  · rw [hd_u_n (by omega), hd_u_s]
  · rw [hd_u_s, hd_u_n (by omega)]
set_option maxRecDepth 20000 in
theorem t_num_l (M : hd_M) (N : hd_N) (t : tx_T) (ht : tpC M t) (hn : t.1 ≤ 160) (e : Nat) (he : e ≤ t.1) (h4 : M 16 4 = nI e) (V : Int32) : ∀ (m q : Nat) (a : Int32) (M' : hd_M), q + m = e → fr (fun c j => c = 16 ∧ j = 7) M M' → M' 16 7 = a → tx_nu t m q a = V → hd_Go mX4_tellNumber 29 [some (.ref 16), some (.int (nI q))] [] M' N (fun r M1 N1 => r = some (.int 1) ∧ N1 = N ∧ fr (fun c j => c = 16 ∧ j = 7) M M1 ∧ M1 16 7 = V) := by
  intro m
  induction m with
  | zero =>
    intro q a M' hq hf h7 hV
    have hV : a = V := hV
    have e4 : M' 16 4 = nI e := by rw [hf 16 4 (by show ¬ (16 = 16 ∧ 4 = 7); omega)]; exact h4
    refine hd_go kX4_tellNumber 999 (fun _ => rfl) rfl trivial ?_
    rw [e4]
    refine hd_ju kX4_tellNumber (fun _ => rfl) (fun c => ?_) (fun c => absurd (nI_le (by omega) (by omega)) c)
    refine hd_go kX4_tellNumber 999 (fun _ => rfl) rfl trivial ?_
    exact hd_en_ kX4_tellNumber (fun _ => rfl) (Or.inr rfl) ⟨rfl, rfl, hf, by rw [h7, hV]⟩
  | succ m ih =>
    intro q a M' hq hf h7 hV
    rw [tx_nu] at hV
    have e4 : M' 16 4 = nI e := by rw [hf 16 4 (by show ¬ (16 = 16 ∧ 4 = 7); omega)]; exact h4
    have e17 : M' 17 q = t.2 q := by rw [hf 17 q (by show ¬ (17 = 16 ∧ q = 7); omega)]; exact ht.2 q (by omega)
    refine hd_go kX4_tellNumber 999 (fun _ => rfl) rfl trivial ?_
    rw [e4]
    refine hd_ju kX4_tellNumber (fun _ => rfl) (fun c => absurd c (nI_ge (by omega) (by omega))) (fun c => ?_)
    have hv : vp_in (nI q) 160 := vp_in_nI (by omega) (by decide)
    refine hd_go kX4_tellNumber 29 (fun _ => rfl) rfl ⟨trivial, hv⟩ ?_
    rw [nI_clamp (show q < 2 ^ 31 by omega), e17, h7, nI_1]
    exact ih (q + 1) _ _ (by omega) (hf.up ⟨rfl, rfl⟩) (hd_u_s _ _ _ _) hV
set_option maxRecDepth 20000 in
theorem t_num (M : hd_M) (N : hd_N) (t : tx_T) (ht : tpC M t) (hn : t.1 ≤ 160) (s e : Nat) (hs : s ≤ e) (he : e ≤ t.1) (h4 : M 16 4 = nI e) (h5 : M 16 5 = nI s) : hd_Ret mX4_tellNumber [.ref 16] M N (fun r M1 N1 => N1 = N ∧ ((2 < e - s ∧ r = some (.int 0) ∧ fr (fun c j => c = 16 ∧ 2 ≤ j ∧ j ≤ 3) M M1 ∧ M1 16 2 = 1 ∧ M1 16 3 = nI s) ∨ (¬ 2 < e - s ∧ r = some (.int 1) ∧ fr (fun c j => c = 16 ∧ j = 7) M M1 ∧ M1 16 7 = tx_nu t (e - s) s 0))) := by
  change hd_Go mX4_tellNumber 0 [some (.ref 16), none] [] M N _
  refine hd_go kX4_tellNumber 999 (fun _ => rfl) rfl trivial ?_
  rw [h4, h5, nI_sb hs]
  refine hd_ju kX4_tellNumber (fun _ => rfl) (fun c => ?_) (fun c => ?_)
  · have hc : ¬ 2 < e - s := fun z => absurd c (nI_ge (a := 2) (b := e - s) z (by omega))
    refine hd_go kX4_tellNumber 29 (fun _ => rfl) rfl trivial ?_
    rw [hd_u_n (by omega), h5]
    refine hd_Go.post ?_ (t_num_l (hd_u M 16 7 0) N t (ht.fr (S := fun c j => c = 16 ∧ j = 7) (fr.rf.up ⟨rfl, rfl⟩) (by omega) (fun j z => by omega)) hn e he (by rw [hd_u_n (by omega)]; exact h4) _ (e - s) s 0 _ (by omega) fr.rf (hd_u_s _ _ _ _) rfl)
    rintro r M1 N1 ⟨rfl, rfl, hf, h7⟩
    exact ⟨rfl, Or.inr ⟨hc, rfl, (fr.rf.up ⟨rfl, rfl⟩).tr hf, h7⟩⟩
  · have hc : 2 < e - s := Decidable.byContradiction (fun z => c (nI_le (a := e - s) (b := 2) (by omega) (by decide)))
    refine hd_go kX4_tellNumber 999 (fun _ => rfl) rfl trivial ?_
    refine hd_ca kX4_tellNumber qX4_tellNumber (fun _ => rfl) (t_refuse M N 1) ?_
    rintro r M1 N1 ⟨rfl, rfl, hf, g2, g3⟩
    exact hd_en_ kX4_tellNumber (fun _ => rfl) (Or.inl rfl) ⟨rfl, Or.inl ⟨hc, rfl, hf, g2, by rw [g3, h5]⟩⟩
set_option maxRecDepth 20000 in
theorem t_tok_1 (M : hd_M) (N : hd_N) (t : tx_T) (ht : tpC M t) (hn : t.1 ≤ 160) (Q : hd_Q) (E : Nat) (hk : ∀ M1, fr (fun c j => c = 16 ∧ j = 4) M M1 → M1 16 4 = nI E → hd_Go mX4_takeToken 36 [some (.ref 16)] [] M1 N Q) : ∀ (m p : Nat) (M' : hd_M), p + m = t.1 → fr (fun c j => c = 16 ∧ j = 4) M M' → M' 16 4 = nI p → tx_run t 4 m p = E → hd_Go mX4_takeToken 0 [some (.ref 16)] [] M' N Q := by
  intro m
  induction m with
  | zero =>
    intro p M' hp hf h4 hE
    have hE : p = E := hE
    have e1 : M' 16 1 = nI t.1 := by rw [hf 16 1 (by show ¬ (16 = 16 ∧ 1 = 4); omega)]; exact ht.1
    refine hd_go kX4_takeToken 999 (fun _ => rfl) rfl trivial ?_
    rw [h4, e1]
    refine hd_ju kX4_takeToken (fun _ => rfl) (fun c => ?_) (fun c => absurd (nI_le (by omega) (by omega)) c)
    exact hk M' hf (by rw [h4, hE])
  | succ m ih =>
    intro p M' hp hf h4 hE
    rw [tx_run] at hE
    have ht' : tpC M' t := ht.fr hf (by show ¬ (16 = 16 ∧ 1 = 4); omega) (fun j z => by have z : 17 = 16 ∧ j = 4 := z; omega)
    refine hd_go kX4_takeToken 999 (fun _ => rfl) rfl trivial ?_
    rw [h4, ht'.1]
    refine hd_ju kX4_takeToken (fun _ => rfl) (fun c => absurd c (nI_ge (by omega) (by omega))) (fun c => ?_)
    refine hd_go kX4_takeToken 999 (fun _ => rfl) rfl trivial ?_
    rw [h4]
    refine hd_ci kX4_takeToken qX4_takeToken (fun _ => rfl) (t_sort M' N t ht' hn p (by omega)) ?_
    refine hd_go kX4_takeToken 999 (fun _ => rfl) rfl trivial ?_
    refine hd_ju kX4_takeToken (fun _ => rfl) (fun c => ?_) (fun c => ?_)
    · rw [if_neg c] at hE
      exact hk M' hf (by rw [h4, hE])
    · rw [if_pos c] at hE
      refine hd_go kX4_takeToken 0 (fun _ => rfl) rfl trivial ?_
      rw [h4, nI_1]
      exact ih (p + 1) _ (by omega) (hf.up ⟨rfl, rfl⟩) (hd_u_s _ _ _ _) hE
set_option maxRecDepth 20000 in
theorem t_tok_2 (M : hd_M) (N : hd_N) (t : tx_T) (ht : tpC M t) (hn : t.1 ≤ 160) (k : Int32) (h6 : M 16 6 = k) (Q : hd_Q) (E : Nat) (hk : ∀ M1, fr (fun c j => c = 16 ∧ j = 4) M M1 → M1 16 4 = nI E → hd_Go mX4_takeToken 129 [some (.ref 16)] [] M1 N Q) : ∀ (m p : Nat) (M' : hd_M), p + m = t.1 → fr (fun c j => c = 16 ∧ j = 4) M M' → M' 16 4 = nI p → tx_run t k m p = E → hd_Go mX4_takeToken 90 [some (.ref 16)] [] M' N Q := by
  intro m
  induction m with
  | zero =>
    intro p M' hp hf h4 hE
    have hE : p = E := hE
    have e1 : M' 16 1 = nI t.1 := by rw [hf 16 1 (by show ¬ (16 = 16 ∧ 1 = 4); omega)]; exact ht.1
    refine hd_go kX4_takeToken 999 (fun _ => rfl) rfl trivial ?_
    rw [h4, e1]
    refine hd_ju kX4_takeToken (fun _ => rfl) (fun c => ?_) (fun c => absurd (nI_le (by omega) (by omega)) c)
    exact hk M' hf (by rw [h4, hE])
  | succ m ih =>
    intro p M' hp hf h4 hE
    rw [tx_run] at hE
    have ht' : tpC M' t := ht.fr hf (by show ¬ (16 = 16 ∧ 1 = 4); omega) (fun j z => by have z : 17 = 16 ∧ j = 4 := z; omega)
    have e6 : M' 16 6 = k := by rw [hf 16 6 (by show ¬ (16 = 16 ∧ 6 = 4); omega)]; exact h6
    refine hd_go kX4_takeToken 999 (fun _ => rfl) rfl trivial ?_
    rw [h4, ht'.1]
    refine hd_ju kX4_takeToken (fun _ => rfl) (fun c => absurd c (nI_ge (by omega) (by omega))) (fun c => ?_)
    refine hd_go kX4_takeToken 999 (fun _ => rfl) rfl trivial ?_
    rw [h4]
    refine hd_ci kX4_takeToken qX4_takeToken (fun _ => rfl) (t_sort M' N t ht' hn p (by omega)) ?_
    refine hd_go kX4_takeToken 999 (fun _ => rfl) rfl trivial ?_
    rw [e6]
    refine hd_ju kX4_takeToken (fun _ => rfl) (fun c => ?_) (fun c => ?_)
    · rw [if_neg c] at hE
      exact hk M' hf (by rw [h4, hE])
    · rw [if_pos c] at hE
      refine hd_go kX4_takeToken 90 (fun _ => rfl) rfl trivial ?_
      rw [h4, nI_1]
      exact ih (p + 1) _ (by omega) (hf.up ⟨rfl, rfl⟩) (hd_u_s _ _ _ _) hE
/-- what taking a token does -/
def tkQ (M : hd_M) (N : hd_N) (t : tx_T) (p : Nat) : hd_Q := fun r M1 N1 => N1 = N ∧ fr tkF M M1 ∧ ((∃ w, tx_rd t p = .inl (1, w) ∧ r = some (.int 0) ∧ M1 16 2 = 1 ∧ M1 16 3 = nI w) ∨ (∃ s, tx_rd t p = .inr s ∧ r = some (.int 1) ∧ M1 16 2 = M 16 2 ∧ M1 16 4 = nI (tx_e t s) ∧ M1 16 5 = nI s ∧ M1 16 6 = tx_so t s ∧ M1 16 7 = if tx_so t s = 2 then tx_v t s else M 16 7))
set_option maxRecDepth 20000 in
theorem t_token (M : hd_M) (N : hd_N) (t : tx_T) (ht : tpC M t) (hn : t.1 ≤ 160) (p : Nat) (hp : p ≤ t.1) (h4 : M 16 4 = nI p) : hd_Ret mX4_takeToken [.ref 16] M N (tkQ M N t p) := by
  change hd_Go mX4_takeToken 0 [some (.ref 16)] [] M N _
  have hs := tx_s_le hp
  have he := tx_e_le hs.2
  refine t_tok_1 M N t ht hn _ (tx_s t p) ?_ (t.1 - p) p M (by omega) fr.rf h4 rfl
  intro M1 hf1 g4
  have hf1' : fr tkF M M1 := hf1.mo (fun c j z => by have z : c = 16 ∧ j = 4 := z; exact ⟨z.1, by omega, by omega⟩)
  have ht1 : tpC M1 t := ht.fr hf1' tk_lo tk_17
  refine hd_go kX4_takeToken 50 (fun _ => rfl) rfl trivial ?_
  rw [g4, hd_u_n (by omega), g4]
  have ht2 : tpC (hd_u M1 16 5 (nI (tx_s t p))) t := ht1.fr (S := tkF) (fr.rf.up ⟨rfl, by decide, by decide⟩) tk_lo tk_17
  refine hd_ci kX4_takeToken qX4_takeToken (fun _ => rfl) (t_sort _ N t ht2 hn (tx_s t p) (by omega)) ?_
  refine hd_go kX4_takeToken 61 (fun _ => rfl) rfl trivial ?_
  rw [hd_u_s]
  obtain ⟨M2, hM2⟩ : ∃ M2, M2 = hd_u (hd_u M1 16 5 (nI (tx_s t p))) 16 6 (tx_so t (tx_s t p)) := ⟨_, rfl⟩
  rw [← hM2]
  have f2 : fr tkF M M2 := by rw [hM2]; exact (hf1'.up ⟨rfl, by decide, by decide⟩).up ⟨rfl, by decide, by decide⟩
  have ht3 : tpC M2 t := ht.fr f2 tk_lo tk_17
  have k2 : M2 16 2 = M 16 2 := by rw [hM2, hd_u_n (by omega), hd_u_n (by omega), hf1 16 2 (by show ¬ (16 = 16 ∧ 2 = 4); omega)]
  have k7 : M2 16 7 = M 16 7 := by rw [hM2, hd_u_n (by omega), hd_u_n (by omega), hf1 16 7 (by show ¬ (16 = 16 ∧ 7 = 4); omega)]
  have k4 : M2 16 4 = nI (tx_s t p) := by rw [hM2, hd_u_n (by omega), hd_u_n (by omega), g4]
  have k5 : M2 16 5 = nI (tx_s t p) := by rw [hM2, hd_u_n (by omega), hd_u_s]
  have k6 : M2 16 6 = tx_so t (tx_s t p) := by rw [hM2, hd_u_s]
  clear hM2
  refine hd_ju kX4_takeToken (fun _ => rfl) (fun c5 => ?_) (fun c5 => ?_)
  · refine hd_go kX4_takeToken 999 (fun _ => rfl) rfl trivial ?_
    rw [k6]
    refine hd_ju kX4_takeToken (fun _ => rfl) (fun c3 => ?_) (fun c3 => ?_)
    · have ee : tx_run t (tx_so t (tx_s t p)) (t.1 - tx_s t p) (tx_s t p) = tx_e t (tx_s t p) := by unfold tx_e; rw [if_neg c3]
      refine t_tok_2 M2 N t ht3 hn _ k6 _ (tx_e t (tx_s t p)) ?_ (t.1 - tx_s t p) (tx_s t p) M2 (by omega) fr.rf k4 ee
      intro M3 hf3 j4
      have f3 : fr tkF M M3 := f2.tr (hf3.mo (fun c j z => by have z : c = 16 ∧ j = 4 := z; exact ⟨z.1, by omega, by omega⟩))
      have o : ∀ j, ¬ j = 4 → M3 16 j = M2 16 j := fun j hj => hf3 16 j (by show ¬ (16 = 16 ∧ j = 4); omega)
      refine hd_go kX4_takeToken 999 (fun _ => rfl) rfl trivial ?_
      rw [o 6 (by decide), k6]
      have good : ¬ tx_bad t (tx_s t p) → hd_Go mX4_takeToken 144 [some (.ref 16)] [] M3 N (fun r M1 N1 => N1 = N ∧ M1 = M3 ∧ r = some (.int 1)) := by
        intro _
        refine hd_go kX4_takeToken 149 (fun _ => rfl) rfl trivial ?_
        exact hd_en_ kX4_takeToken (fun _ => rfl) (Or.inr rfl) ⟨rfl, rfl, rfl⟩
      refine hd_ju kX4_takeToken (fun _ => rfl) (fun c2 => ?_) (fun c2 => ?_)
      · have nb : ¬ tx_bad t (tx_s t p) := fun z => z.elim c5 (fun z => c2 z.1)
        refine hd_Go.post ?_ (good nb)
        rintro r M4 N4 ⟨rfl, rfl, rfl⟩
        refine ⟨rfl, f3, Or.inr ⟨tx_s t p, by unfold tx_rd; rw [if_neg nb], rfl, by rw [o 2 (by decide), k2], j4, by rw [o 5 (by decide), k5], by rw [o 6 (by decide), k6], by rw [if_neg c2, o 7 (by decide), k7]⟩⟩
      · refine hd_go kX4_takeToken 999 (fun _ => rfl) rfl trivial ?_
        refine hd_ca kX4_takeToken qX4_takeToken (fun _ => rfl) (t_num M3 N t (ht.fr f3 tk_lo tk_17) hn (tx_s t p) (tx_e t (tx_s t p)) he.1 he.2.1 j4 (by rw [o 5 (by decide), k5])) ?_
        rintro r M4 N4 ⟨rfl, h | h⟩
        · obtain ⟨h1, rfl, hf4, a2, a3⟩ := h
          refine hd_ju kX4_takeToken (fun _ => rfl) (fun _ => ?_) (fun c => absurd rfl c)
          refine hd_go kX4_takeToken 999 (fun _ => rfl) rfl trivial ?_
          refine hd_en_ kX4_takeToken (fun _ => rfl) (Or.inl rfl) ⟨rfl, f3.tr (hf4.mo (fun c j z => ⟨z.1, z.2.1, by have := z.2.2; omega⟩)), Or.inl ⟨tx_s t p, by unfold tx_rd; rw [if_pos (Or.inr ⟨c2, h1⟩)], rfl, a2, a3⟩⟩
        · obtain ⟨h1, rfl, hf4, a7⟩ := h
          have nb : ¬ tx_bad t (tx_s t p) := fun z => z.elim c5 (fun z => h1 z.2)
          have o4 : ∀ j, ¬ j = 7 → M4 16 j = M3 16 j := fun j hj => hf4 16 j (by show ¬ (16 = 16 ∧ j = 7); omega)
          refine hd_ju kX4_takeToken (fun _ => rfl) (fun c => absurd c (by decide)) (fun _ => ?_)
          refine hd_go kX4_takeToken 149 (fun _ => rfl) rfl trivial ?_
          refine hd_en_ kX4_takeToken (fun _ => rfl) (Or.inr rfl) ⟨rfl, f3.tr (hf4.mo (fun c j z => by have z : c = 16 ∧ j = 7 := z; exact ⟨z.1, by omega, by omega⟩)), Or.inr ⟨tx_s t p, by unfold tx_rd; rw [if_neg nb], rfl, by rw [o4 2 (by decide), o 2 (by decide), k2], by rw [o4 4 (by decide), j4], by rw [o4 5 (by decide), o 5 (by decide), k5], by rw [o4 6 (by decide), o 6 (by decide), k6], by rw [if_pos c2, a7]; rfl⟩⟩
    · have nb : ¬ tx_bad t (tx_s t p) := fun z => z.elim c5 (fun z => by rw [c3] at z; exact absurd z.1 (by decide))
      have n2 : ¬ tx_so t (tx_s t p) = 2 := by rw [c3]; decide
      have ee : tx_e t (tx_s t p) = tx_s t p + 1 := by unfold tx_e; rw [if_pos c3]
      refine hd_go kX4_takeToken 999 (fun _ => rfl) rfl trivial ?_
      rw [k4, nI_1]
      refine hd_en_ kX4_takeToken (fun _ => rfl) (Or.inr rfl) ⟨rfl, f2.up ⟨rfl, by decide, by decide⟩, Or.inr ⟨tx_s t p, by unfold tx_rd; rw [if_neg nb], rfl, by rw [hd_u_n (by omega), k2], by rw [hd_u_s, ee], by rw [hd_u_n (by omega), k5], by rw [hd_u_n (by omega), k6], by rw [if_neg n2, hd_u_n (by omega), k7]⟩⟩
  · refine hd_go kX4_takeToken 999 (fun _ => rfl) rfl trivial ?_
    refine hd_ca kX4_takeToken qX4_takeToken (fun _ => rfl) (t_refuse M2 N 1) ?_
    rintro r M3 N3 ⟨rfl, rfl, hf3, a2, a3⟩
    refine hd_en_ kX4_takeToken (fun _ => rfl) (Or.inl rfl) ⟨rfl, f2.tr (hf3.mo (fun c j z => ⟨z.1, z.2.1, by have := z.2.2; omega⟩)), Or.inl ⟨tx_s t p, by unfold tx_rd; rw [if_pos (Or.inl c5)], rfl, a2, by rw [a3, k5]⟩⟩
def nuQ (M : hd_M) (N : hd_N) (t : tx_T) (lo hi : Int32) (p : Nat) : hd_Q := fun r M1 N1 => N1 = N ∧ fr tkF M M1 ∧ ((∃ c w, (∀ k, tx_n t lo hi p k = .inl (c, w)) ∧ r = some (.int 0) ∧ M1 16 2 = c ∧ M1 16 3 = nI w) ∨ (∃ v e, (∀ k, tx_n t lo hi p k = k v e) ∧ p < e ∧ e ≤ t.1 ∧ wi v lo hi ∧ r = some (.int 1) ∧ M1 16 2 = M 16 2 ∧ M1 16 4 = nI e ∧ M1 16 7 = v))
def tsQ (M : hd_M) (N : hd_N) (t : tx_T) (p : Nat) : hd_Q := fun r M1 N1 => N1 = N ∧ fr tkF M M1 ∧ ((∃ c w, (∀ k, tx_p t p k = .inl (c, w)) ∧ r = some (.int 0) ∧ M1 16 2 = c ∧ M1 16 3 = nI w) ∨ (∃ e, (∀ k, tx_p t p k = k e) ∧ p < e ∧ e ≤ t.1 ∧ r = some (.int 1) ∧ M1 16 2 = M 16 2 ∧ M1 16 4 = nI e ∧ M1 16 7 = M 16 7))
set_option maxRecDepth 20000 in
theorem t_number (M : hd_M) (N : hd_N) (t : tx_T) (ht : tpC M t) (hn : t.1 ≤ 160) (p : Nat) (hp : p ≤ t.1) (h4 : M 16 4 = nI p) (lo hi : Int32) : hd_Ret mX4_takeNumber [.ref 16, .int lo, .int hi] M N (nuQ M N t lo hi p) := by
  change hd_Go mX4_takeNumber 0 [some (.ref 16), some (.int lo), some (.int hi)] [] M N _
  have hs := tx_s_le hp
  have he := tx_e_le hs.2
  refine hd_go kX4_takeNumber 999 (fun _ => rfl) rfl trivial ?_
  refine hd_ca kX4_takeNumber qX4_takeNumber (fun _ => rfl) (t_token M N t ht hn p hp h4) ?_
  rintro r M1 N1 ⟨rfl, hf, h | h⟩
  · obtain ⟨w, h1, rfl, h2, h3⟩ := h
    refine hd_ju kX4_takeNumber (fun _ => rfl) (fun c => absurd rfl c) (fun _ => ?_)
    refine hd_go kX4_takeNumber 999 (fun _ => rfl) rfl trivial ?_
    exact hd_en_ kX4_takeNumber (fun _ => rfl) (Or.inl rfl) ⟨rfl, hf, Or.inl ⟨1, w, fun k => by unfold tx_n; rw [h1], rfl, h2, h3⟩⟩
  · obtain ⟨s, h1, rfl, h2, k4, h5, h6, h7⟩ := h
    obtain ⟨rfl, -⟩ := tx_rd_r h1
    refine hd_ju kX4_takeNumber (fun _ => rfl) (fun _ => ?_) (fun c => absurd c (by decide))
    refine hd_go kX4_takeNumber 999 (fun _ => rfl) rfl trivial ?_
    rw [h6]
    refine hd_ju kX4_takeNumber (fun _ => rfl) (fun c2 => ?_) (fun c2 => ?_)
    · rw [if_pos c2] at h7
      refine hd_go kX4_takeNumber 999 (fun _ => rfl) rfl trivial ?_
      rw [h7]
      refine hd_ci kX4_takeNumber qX4_takeNumber (fun _ => rfl) (s_isWithin _ _ _ M1 N1) ?_
      refine hd_ju kX4_takeNumber (fun _ => rfl) (fun cw => ?_) (fun cw => ?_)
      · have cw := hd_b1.mp cw
        refine hd_go kX4_takeNumber 48 (fun _ => rfl) rfl trivial ?_
        have := he.2.2 (by rw [c2]; decide)
        exact hd_en_ kX4_takeNumber (fun _ => rfl) (Or.inr rfl) ⟨rfl, hf, Or.inr ⟨_, _, fun k => by unfold tx_n; rw [h1]; simp only []; rw [if_pos c2, if_pos cw], by omega, he.2.1, cw, rfl, h2, k4, h7⟩⟩
      · have cw := hd_b0.mp cw
        refine hd_go kX4_takeNumber 999 (fun _ => rfl) rfl trivial ?_
        refine hd_ca kX4_takeNumber qX4_takeNumber (fun _ => rfl) (t_refuse M1 N1 3) ?_
        rintro r M2 N2 ⟨rfl, rfl, hf2, a2, a3⟩
        refine hd_ju kX4_takeNumber (fun _ => rfl) (fun _ => ?_) (fun c => absurd rfl c)
        refine hd_go kX4_takeNumber 999 (fun _ => rfl) rfl trivial ?_
        exact hd_en_ kX4_takeNumber (fun _ => rfl) (Or.inl rfl) ⟨rfl, hf.tr (hf2.mo (fun c j z => ⟨z.1, z.2.1, by have := z.2.2; omega⟩)), Or.inl ⟨3, _, fun k => by unfold tx_n; rw [h1]; simp only []; rw [if_pos c2, if_neg cw], rfl, a2, by rw [a3, h5]⟩⟩
    · refine hd_go kX4_takeNumber 999 (fun _ => rfl) rfl trivial ?_
      refine hd_ca kX4_takeNumber qX4_takeNumber (fun _ => rfl) (t_refuse M1 N1 2) ?_
      rintro r M2 N2 ⟨rfl, rfl, hf2, a2, a3⟩
      exact hd_en_ kX4_takeNumber (fun _ => rfl) (Or.inl rfl) ⟨rfl, hf.tr (hf2.mo (fun c j z => ⟨z.1, z.2.1, by have := z.2.2; omega⟩)), Or.inl ⟨2, _, fun k => by unfold tx_n; rw [h1]; simp only []; rw [if_neg c2], rfl, a2, by rw [a3, h5]⟩⟩
set_option maxRecDepth 20000 in
theorem t_stop (M : hd_M) (N : hd_N) (t : tx_T) (ht : tpC M t) (hn : t.1 ≤ 160) (p : Nat) (hp : p ≤ t.1) (h4 : M 16 4 = nI p) : hd_Ret mX4_takeStop [.ref 16] M N (tsQ M N t p) := by
  change hd_Go mX4_takeStop 0 [some (.ref 16)] [] M N _
  have hs := tx_s_le hp
  have he := tx_e_le hs.2
  refine hd_go kX4_takeStop 999 (fun _ => rfl) rfl trivial ?_
  refine hd_ca kX4_takeStop qX4_takeStop (fun _ => rfl) (t_token M N t ht hn p hp h4) ?_
  rintro r M1 N1 ⟨rfl, hf, h | h⟩
  · obtain ⟨w, h1, rfl, h2, h3⟩ := h
    refine hd_ju kX4_takeStop (fun _ => rfl) (fun _ => ?_) (fun c => absurd rfl c)
    refine hd_go kX4_takeStop 999 (fun _ => rfl) rfl trivial ?_
    exact hd_en_ kX4_takeStop (fun _ => rfl) (Or.inl rfl) ⟨rfl, hf, Or.inl ⟨1, w, fun k => by unfold tx_p; rw [h1], rfl, h2, h3⟩⟩
  · obtain ⟨s, h1, rfl, h2, k4, h5, h6, h7⟩ := h
    obtain ⟨rfl, -⟩ := tx_rd_r h1
    refine hd_ju kX4_takeStop (fun _ => rfl) (fun c => absurd c (by decide)) (fun _ => ?_)
    refine hd_go kX4_takeStop 999 (fun _ => rfl) rfl trivial ?_
    rw [h6]
    refine hd_ju kX4_takeStop (fun _ => rfl) (fun c2 => ?_) (fun c2 => ?_)
    · rw [if_neg (by rw [c2]; decide)] at h7
      refine hd_go kX4_takeStop 28 (fun _ => rfl) rfl trivial ?_
      have := he.2.2 (by rw [c2]; decide)
      exact hd_en_ kX4_takeStop (fun _ => rfl) (Or.inr rfl) ⟨rfl, hf, Or.inr ⟨_, fun k => by unfold tx_p; rw [h1]; simp only []; rw [if_pos c2], by omega, he.2.1, rfl, h2, k4, h7⟩⟩
    · refine hd_go kX4_takeStop 999 (fun _ => rfl) rfl trivial ?_
      refine hd_ca kX4_takeStop qX4_takeStop (fun _ => rfl) (t_refuse M1 N1 2) ?_
      rintro r M2 N2 ⟨rfl, rfl, hf2, a2, a3⟩
      refine hd_ju kX4_takeStop (fun _ => rfl) (fun _ => ?_) (fun c => absurd rfl c)
      refine hd_go kX4_takeStop 999 (fun _ => rfl) rfl trivial ?_
      exact hd_en_ kX4_takeStop (fun _ => rfl) (Or.inl rfl) ⟨rfl, hf.tr (hf2.mo (fun c j z => ⟨z.1, z.2.1, by have := z.2.2; omega⟩)), Or.inl ⟨2, _, fun k => by unfold tx_p; rw [h1]; simp only []; rw [if_neg c2], rfl, a2, by rw [a3, h5]⟩⟩
