/-! THE REFERENCE'S IMAGES, SHEETS, COUNT; printed by wip/whole/ref9.py -/
set_option maxRecDepth 20000 in
theorem RI.img {M M1 : hd_M} {st : ab_T} {im : Nat → im_T} (h : RI M st) (o : OK st) (he : fr (fun c j => c = 54 ∨ (c = 52 ∧ 46 ≤ j)) M M1) (hd : imR M1 im) : RI M1 (st.1, st.2.1, st.2.2.1, im, st.2.2.2.2) := by
  obtain ⟨h1, h2, h3, h4, h5, h6, h7⟩ := h
  have g : ∀ c j, ¬ c = 54 → ¬ (c = 52 ∧ 46 ≤ j) → M1 c j = M c j := fun c j a b => he c j (fun z => z.elim a b)
  exact ⟨h1.mv o.1.1 (fun j _ _ => g _ _ (by decide) (by omega)), h2.mv o.2.1.1 (fun j _ _ => g _ _ (by decide) (by omega)), h3.mv (g _ _ (by decide) (by omega)) (fun j => g _ _ (by decide) (by omega)), hd, h5.mv (fun c j q1 q2 => g _ _ (by omega) (by omega)), by rw [g _ _ (by decide) (by omega)]; exact h6, by rw [g _ _ (by decide) (by omega)]; exact h7⟩
set_option maxRecDepth 20000 in
theorem rf_cpy {M M1 : hd_M} {s t : Nat} {d : dy_T} (h : rf M 52 s d) (hn : d.1 ≤ 7) (he : ∀ x, x < 46 → M1 52 (t + x) = M 52 (s + x)) : rf M1 52 t d := by
  obtain ⟨h1, h2, h3, h4, h5, h6⟩ := h
  refine ⟨?_, ?_, ?_, ?_, ?_, fun i hi => ?_⟩
  · rw [he _ (by decide)]; exact h1
  · rw [he _ (by decide)]; exact h2
  · rw [he _ (by decide)]; exact h3
  · rw [he _ (by decide)]; exact h4
  · rw [he _ (by decide)]; exact h5
  · obtain ⟨a, b, c, e⟩ := h6 i hi
    refine ⟨?_, ?_, ?_, ?_⟩
    · rw [he _ (by omega)]; exact a
    · rw [he _ (by omega)]; exact b
    · rw [he _ (by omega)]; exact c
    · rw [he _ (by omega)]; exact e
set_option maxRecDepth 20000 in
theorem seR_cpy {M M1 : hd_M} {s t : Nat} {se : se_T} (h : seR M s se) (hn : se.1 ≤ 6) (he : ∀ x, x < 46 → M1 52 (t + x) = M 52 (s + x)) : seR M1 t se := by
  refine ⟨?_, fun i hi => ⟨?_, ?_⟩⟩
  · rw [he _ (by decide)]; exact h.1
  · rw [he _ (by omega)]; exact (h.2 i hi).1
  · rw [he _ (by omega)]; exact (h.2 i hi).2
set_option maxRecDepth 20000 in
theorem r_copies_l (N : hd_N) (s t : Nat) (hs : s + 46 ≤ 138) (ht : t + 46 ≤ 138) (hd : s + 46 ≤ t ∨ t + 46 ≤ s) (M : hd_M) : ∀ (m j : Nat) (M' : hd_M), j + m = 46 → fr (fun c x => c = 52 ∧ t ≤ x ∧ x < t + 46) M M' → (∀ x, x < j → M' 52 (t + x) = M 52 (s + x)) → hd_Go mX6_copies 2 [some (.ref 51), some (.int (nI t)), some (.int (nI s)), some (.int (nI j))] [] M' N (fun r M1 N1 => r = none ∧ N1 = N ∧ fr (fun c x => c = 52 ∧ t ≤ x ∧ x < t + 46) M M1 ∧ ∀ x, x < 46 → M1 52 (t + x) = M 52 (s + x)) := by
  intro m
  induction m with
  | zero =>
    intro j M' hj hf hx
    refine hd_go kX6_copies 999 (fun _ => rfl) rfl trivial ?_
    refine hd_ju kX6_copies (fun _ => rfl) (fun c => ?_) (fun c => absurd (nI_le (a := 46) (by omega) (by omega)) c)
    exact hd_en_ kX6_copies (fun _ => rfl) trivial ⟨rfl, rfl, hf, fun x h => hx x (by omega)⟩
  | succ m ih =>
    intro j M' hj hf hx
    refine hd_go kX6_copies 999 (fun _ => rfl) rfl trivial ?_
    refine hd_ju kX6_copies (fun _ => rfl) (fun c => absurd c (nI_ge (b := 46) (by omega) (by decide))) (fun c => ?_)
    refine hd_go kX6_copies 999 (fun _ => rfl) rfl ?_ ?_
    · rw [nI_add, nI_add]
      exact ⟨⟨trivial, v138 (by omega)⟩, v138 (by omega)⟩
    rw [nI_add, nI_add, nI_1, nI_clamp (show s + j < 2 ^ 31 by omega), nI_clamp (show t + j < 2 ^ 31 by omega)]
    refine ih (j + 1) _ (by omega) (hf.up (show 52 = 52 ∧ t ≤ t + j ∧ t + j < t + 46 by omega)) (fun x h => ?_)
    by_cases e : x = j
    · rw [e, hd_u_s]
      exact hf _ _ (by show ¬ (52 = 52 ∧ t ≤ s + j ∧ s + j < t + 46); omega)
    · rw [hd_u_n (by omega)]
      exact hx x (by omega)
set_option maxRecDepth 20000 in
theorem r_copies (N : hd_N) (s t : Nat) (hs : s + 46 ≤ 138) (ht : t + 46 ≤ 138) (hd : s + 46 ≤ t ∨ t + 46 ≤ s) (M : hd_M) : hd_Ret mX6_copies [.ref 51, .int (nI t), .int (nI s)] M N (fun r M1 N1 => r = none ∧ N1 = N ∧ fr (fun c x => c = 52 ∧ t ≤ x ∧ x < t + 46) M M1 ∧ ∀ x, x < 46 → M1 52 (t + x) = M 52 (s + x)) := by
  change hd_Go mX6_copies 0 [some (.ref 51), some (.int (nI t)), some (.int (nI s)), none] [] M N _
  refine hd_go kX6_copies 2 (fun _ => rfl) rfl trivial ?_
  exact r_copies_l N s t hs ht hd M 46 0 M (by omega) fr.rf (fun x h => absurd h (Nat.not_lt_zero x))
set_option maxRecDepth 20000 in
theorem v2 {n : Nat} (h : n < 2) : vp_in (nI n) 2 := vp_in_nI h (by decide)
set_option maxRecDepth 20000 in
theorem d_keep (k : Int32) : rA mX6_keep [.int k] (an_keep k) := by
  intro M N st hI hO
  change hd_Go mX6_keep 0 [some (.ref 51), some (.int k), none] [] M N _
  unfold an_keep
  refine hd_go kX6_keep 999 (fun _ => rfl) rfl trivial ?_
  refine hd_ci kX6_keep qX6_keep (fun _ => rfl) (r_in k 0 1 _ _ rfl rfl M N) ?_
  refine hd_ju kX6_keep (fun _ => rfl) (fun q => ?_) (fun q => ?_)
  · have q := hd_b1.mp q
    rw [if_pos q]
    obtain ⟨j, hj, rfl⟩ := wi_nat (n := 1) rfl q
    obtain ⟨e0, e1⟩ := hI.2.2.2.1 j (by omega)
    rw [nI_clamp (show j < 2 ^ 31 by omega)]
    refine hd_go kX6_keep 999 (fun _ => rfl) rfl ⟨trivial, v2 (by omega)⟩ ?_
    rw [nI_clamp (show j < 2 ^ 31 by omega), e0]
    refine hd_ci kX6_keep qX6_keep (fun _ => rfl) (r_flag _ M N) ?_
    refine hd_go kX6_keep 999 (fun _ => rfl) rfl ⟨trivial, v2 (by omega), Or.inr rfl⟩ ?_
    rw [nI_clamp (show j < 2 ^ 31 by omega), nI_1, show (46 : Int32) = nI 46 from rfl, pk_mul]
    refine hd_ca kX6_keep qX6_keep (fun _ => rfl) (r_copies N 0 (46 * (j + 1)) (by omega) (by omega) (by omega) _) ?_
    rintro r M1 N1 ⟨rfl, rfl, hf, hx⟩
    refine hd_go kX6_keep 999 (fun _ => rfl) rfl trivial ?_
    have g : fr (fun c x => (c = 54 ∧ x = j) ∨ (c = 52 ∧ 46 * (j + 1) ≤ x ∧ x < 46 * (j + 1) + 46)) M M1 := (fr.rf.up (Or.inl ⟨rfl, rfl⟩)).tr (hf.mo (fun c x z => Or.inr z))
    have hx' : ∀ x, x < 46 → M1 52 (46 * (j + 1) + x) = M 52 (0 + x) := fun x h => by rw [hx x h, hd_u_n (by omega)]
    refine hd_en_ kX6_keep (fun _ => rfl) trivial ⟨?_, g.mo (fun c x z => ?_), hI.img hO (g.mo (fun c x z => ?_)) (fun i hi => ?_)⟩
    · cases (st.2.2.2.1 j).1 <;> rfl
    · rcases z with z | z
      · show 51 ≤ c; omega
      · show 51 ≤ c; omega
    · rcases z with z | z
      · exact Or.inl z.1
      · exact Or.inr ⟨z.1, by omega⟩
    · by_cases e : i = j
      · subst e
        show M1 54 i = (if (if i = i then ((true, st.1, st.2.1) : im_T) else st.2.2.2.1 i).1 then 1 else 0) ∧ ((if i = i then ((true, st.1, st.2.1) : im_T) else st.2.2.2.1 i).1 = true → rf M1 52 (46 * (i + 1)) (if i = i then ((true, st.1, st.2.1) : im_T) else st.2.2.2.1 i).2.1 ∧ seR M1 (46 * (i + 1)) (if i = i then ((true, st.1, st.2.1) : im_T) else st.2.2.2.1 i).2.2)
        rw [if_pos rfl]
        refine ⟨?_, fun _ => ⟨rf_cpy hI.1 hO.1.1 hx', seR_cpy hI.2.1 hO.2.1.1 hx'⟩⟩
        rw [hf 54 i (by show ¬ (54 = 52 ∧ _); omega), hd_u_s]; rfl
      · show M1 54 i = (if (if i = j then ((true, st.1, st.2.1) : im_T) else st.2.2.2.1 i).1 then 1 else 0) ∧ ((if i = j then ((true, st.1, st.2.1) : im_T) else st.2.2.2.1 i).1 = true → rf M1 52 (46 * (i + 1)) (if i = j then ((true, st.1, st.2.1) : im_T) else st.2.2.2.1 i).2.1 ∧ seR M1 (46 * (i + 1)) (if i = j then ((true, st.1, st.2.1) : im_T) else st.2.2.2.1 i).2.2)
        rw [if_neg e]
        obtain ⟨w0, w1⟩ := hI.2.2.2.1 i hi
        have g2 : ∀ x, 46 * (i + 1) ≤ x → x < 46 * (i + 1) + 46 → M1 52 x = M 52 x := fun x a b => g 52 x (by show ¬ ((52 = 54 ∧ x = j) ∨ (52 = 52 ∧ 46 * (j + 1) ≤ x ∧ x < 46 * (j + 1) + 46)); omega)
        refine ⟨?_, fun hb => ?_⟩
        · rw [g 54 i (by show ¬ ((54 = 54 ∧ i = j) ∨ (54 = 52 ∧ 46 * (j + 1) ≤ i ∧ i < 46 * (j + 1) + 46)); omega)]; exact w0
        · obtain ⟨w2, w3⟩ := w1 hb
          obtain ⟨o1, o2⟩ := hO.2.2.2.1 i hi hb
          exact ⟨w2.mv o1.1 (fun x a b => g2 x (by omega) (by omega)), w3.mv o2.1 (fun x a b => g2 x (by omega) (by omega))⟩
  · have q := hd_b0.mp q
    rw [if_neg q]
    refine hd_go kX6_keep 999 (fun _ => rfl) rfl trivial ?_
    exact hd_en_ kX6_keep (fun _ => rfl) trivial ⟨rfl, fr.rf, hI⟩
set_option maxRecDepth 20000 in
theorem d_back (k : Int32) : rA mX6_back [.int k] (an_back k) := by
  intro M N st hI hO
  change hd_Go mX6_back 0 [some (.ref 51), some (.int k)] [] M N _
  unfold an_back
  refine hd_go kX6_back 999 (fun _ => rfl) rfl trivial ?_
  refine hd_ci kX6_back qX6_back (fun _ => rfl) (r_in k 0 1 _ _ rfl rfl M N) ?_
  refine hd_ju kX6_back (fun _ => rfl) (fun q => ?_) (fun q => ?_)
  · have q := hd_b1.mp q
    rw [if_pos q]
    obtain ⟨j, hj, rfl⟩ := wi_nat (n := 1) rfl q
    obtain ⟨e0, e1⟩ := hI.2.2.2.1 j (by omega)
    have o0 := hO.2.2.2.1 j (by omega)
    rw [nI_clamp (show j < 2 ^ 31 by omega)]
    refine hd_go kX6_back 999 (fun _ => rfl) rfl ⟨trivial, v2 (by omega)⟩ ?_
    rw [nI_clamp (show j < 2 ^ 31 by omega), e0]
    cases hb : (st.2.2.2.1 j).1 with
    | true =>
      obtain ⟨w2, w3⟩ := e1 hb
      obtain ⟨o1, o2⟩ := o0 hb
      refine hd_ju kX6_back (fun _ => rfl) (fun c => ?_) (fun c => absurd c (by decide))
      refine hd_go kX6_back 999 (fun _ => rfl) rfl trivial ?_
      rw [nI_1, show (46 : Int32) = nI 46 from rfl, pk_mul]
      refine hd_ca kX6_back qX6_back (fun _ => rfl) (r_copies N (46 * (j + 1)) 0 (by omega) (by omega) (by omega) _) ?_
      rintro r M1 N1 ⟨rfl, rfl, hf, hx⟩
      have g1 : rf M1 52 0 (st.2.2.2.1 j).2.1 := rf_cpy w2 o1.1 hx
      have g2 : seR M1 0 (st.2.2.2.1 j).2.2 := seR_cpy w3 o2.1 hx
      have g3 : ∀ c x, ¬ (c = 52 ∧ x < 46) → M1 c x = M c x := fun c x h => hf c x (by show ¬ (c = 52 ∧ 0 ≤ x ∧ x < 0 + 46); omega)
      refine hd_go kX6_back 999 (fun _ => rfl) rfl ⟨trivial, v138 (n := 32) (by decide)⟩ ?_
      refine hd_en_ kX6_back (fun _ => rfl) trivial ⟨congrArg (fun x => some (Value.int x)) g1.2.2.2.2.1, hf.mo (fun c x z => by have z : c = 52 ∧ _ := z; show 51 ≤ c; omega), g1, g2, ?_⟩
      obtain ⟨h1, h2, h3, h4, h5, h6, h7⟩ := hI
      exact ⟨h3.mv (g3 _ _ (by omega)) (fun j => g3 _ _ (by omega)), h4.mv hO.2.2.2.1 (fun k _ => g3 _ _ (by omega)) (fun j _ => g3 _ _ (by omega)), h5.mv (fun c j q1 q2 => g3 _ _ (by omega)), by rw [g3 _ _ (by omega)]; exact h6, by rw [g3 _ _ (by omega)]; exact h7⟩
    | false =>
      refine hd_ju kX6_back (fun _ => rfl) (fun c => absurd rfl c) (fun c => ?_)
      refine hd_go kX6_back 999 (fun _ => rfl) rfl trivial ?_
      exact hd_en_ kX6_back (fun _ => rfl) trivial ⟨rfl, fr.rf, hI⟩
  · have q := hd_b0.mp q
    rw [if_neg q]
    refine hd_go kX6_back 999 (fun _ => rfl) rfl trivial ?_
    exact hd_en_ kX6_back (fun _ => rfl) trivial ⟨rfl, fr.rf, hI⟩
set_option maxRecDepth 20000 in
theorem r_isSheet (k l : Int32) (M : hd_M) (N : hd_N) : hd_Ret mX6_isSheet [.int k, .int l] M N (hd_is (.int (hd_b (wi k 0 3 ∧ wi l 0 2))) M N) := by
  change hd_Go mX6_isSheet 0 [some (.int k), some (.int l)] [] M N _
  have bad : ¬ (wi k 0 3 ∧ wi l 0 2) → hd_Go mX6_isSheet 28 [some (.int k), some (.int l)] [] M N (hd_is (.int (hd_b (wi k 0 3 ∧ wi l 0 2))) M N) := by
    intro q
    refine hd_go kX6_isSheet 999 (fun _ => rfl) rfl trivial ?_
    exact hd_en_ kX6_isSheet (fun _ => rfl) (Or.inl rfl) ⟨by rw [hd_b0.mpr q], rfl, rfl⟩
  refine hd_go kX6_isSheet 999 (fun _ => rfl) rfl trivial ?_
  refine hd_ci kX6_isSheet qX6_isSheet (fun _ => rfl) (r_in k 0 3 _ _ rfl rfl M N) ?_
  refine hd_ju kX6_isSheet (fun _ => rfl) (fun q => bad (fun z => hd_b0.mp q z.1)) (fun q => ?_)
  have q1 := hd_b1.mp q
  refine hd_go kX6_isSheet 999 (fun _ => rfl) rfl trivial ?_
  refine hd_ci kX6_isSheet qX6_isSheet (fun _ => rfl) (r_in l 0 2 _ _ rfl rfl M N) ?_
  refine hd_ju kX6_isSheet (fun _ => rfl) (fun q => bad (fun z => hd_b0.mp q z.2)) (fun q => ?_)
  have q2 := hd_b1.mp q
  refine hd_go kX6_isSheet 999 (fun _ => rfl) rfl trivial ?_
  refine hd_en_ kX6_isSheet (fun _ => rfl) (Or.inr rfl) ⟨?_, rfl, rfl⟩
  unfold hd_b
  rw [if_pos ⟨q1, q2⟩]
set_option maxRecDepth 20000 in
theorem v4 {n : Nat} (h : n < 4) : vp_in (nI n) 4 := vp_in_nI h (by decide)
set_option maxRecDepth 20000 in
theorem v160 {n : Nat} (h : n < 160) : vp_in (nI n) 160 := vp_in_nI h (by decide)
set_option maxRecDepth 20000 in
theorem ix40 (k i : Nat) : (40 : Int32) * nI k + nI i = nI (40 * k + i) := by
  rw [show (40 : Int32) = nI 40 from rfl, pk_mul, nI_add]
set_option maxRecDepth 20000 in
theorem shJ {M M1 : hd_M} {st : ab_T} (hI : RI M st) (hO : OK st) (k : Nat) (hk : k < 4) (x : sh_T) (hf : fr (fun c j => ((c = 61 ∨ c = 62) ∧ j = k) ∨ (c = 63 ∧ 40 * k ≤ j ∧ j < 40 * k + 40)) M M1) (hx : (x.1 = true → M1 61 k = -4) ∧ (x.1 = false → M1 61 k = x.2.1 ∧ M1 62 k = nI x.2.2.1 ∧ ∀ i, i < x.2.2.1 → M1 63 (40 * k + i) = x.2.2.2 i)) : fr refF M M1 ∧ RI M1 (st.1, st.2.1, st.2.2.1, st.2.2.2.1, (fun j => if j = k then x else st.2.2.2.2.1 j), st.2.2.2.2.2) := by
  refine ⟨hf.mo (fun c j z => by have z : ((c = 61 ∨ c = 62) ∧ j = k) ∨ (c = 63 ∧ 40 * k ≤ j ∧ j < 40 * k + 40) := z; show 51 ≤ c; omega), hI.she hO (hf.mo (fun c j z => by have z : ((c = 61 ∨ c = 62) ∧ j = k) ∨ (c = 63 ∧ 40 * k ≤ j ∧ j < 40 * k + 40) := z; show 61 ≤ c ∧ c ≤ 63; omega)) (fun j hj => ?_)⟩
  by_cases e : j = k
  · subst e
    show ((if j = j then x else st.2.2.2.2.1 j).1 = true → _) ∧ ((if j = j then x else st.2.2.2.2.1 j).1 = false → _)
    rw [if_pos rfl]
    exact hx
  · show ((if j = k then x else st.2.2.2.2.1 j).1 = true → _) ∧ ((if j = k then x else st.2.2.2.2.1 j).1 = false → _)
    rw [if_neg e]
    obtain ⟨h1, h2⟩ := hI.2.2.2.2.1 j hj
    have g1 : M1 61 j = M 61 j := hf _ _ (by show ¬ (((61 = 61 ∨ 61 = 62) ∧ j = k) ∨ (61 = 63 ∧ 40 * k ≤ j ∧ j < 40 * k + 40)); omega)
    have g2 : M1 62 j = M 62 j := hf _ _ (by show ¬ (((62 = 61 ∨ 62 = 62) ∧ j = k) ∨ (62 = 63 ∧ 40 * k ≤ j ∧ j < 40 * k + 40)); omega)
    refine ⟨fun z => by rw [g1]; exact h1 z, fun z => ?_⟩
    obtain ⟨h3, h4, h5⟩ := h2 z
    have o4 := (hO.2.2.2.2 j hj z).1
    exact ⟨by rw [g1]; exact h3, by rw [g2]; exact h4, fun i hi => by rw [hf 63 (40 * j + i) (by show ¬ (((63 = 61 ∨ 63 = 62) ∧ 40 * j + i = k) ∨ (63 = 63 ∧ 40 * k ≤ 40 * j + i ∧ 40 * j + i < 40 * k + 40)); omega)]; exact h5 i hi⟩
set_option maxRecDepth 20000 in
theorem r_sheet_l (N : hd_N) (k : Nat) (hk : k < 4) (l n : Int32) (M : hd_M) (Q : hd_Q) (hQ : ∀ M1, fr (fun c j => c = 63 ∧ 40 * k ≤ j ∧ j < 40 * k + 40) M M1 → (∀ x, x < 40 → M1 63 (40 * k + x) = 0) → Q (some (.int 1)) M1 N) : ∀ (m j : Nat) (M' : hd_M), j + m = 40 → fr (fun c j => c = 63 ∧ 40 * k ≤ j ∧ j < 40 * k + 40) M M' → (∀ x, x < j → M' 63 (40 * k + x) = 0) → hd_Go mX6_sheet 40 [some (.ref 51), some (.int (nI k)), some (.int l), some (.int n), some (.int (nI j))] [] M' N Q := by
  intro m
  induction m with
  | zero =>
    intro j M' hj hf hx
    refine hd_go kX6_sheet 999 (fun _ => rfl) rfl trivial ?_
    refine hd_ju kX6_sheet (fun _ => rfl) (fun c => ?_) (fun c => absurd (nI_le (a := 40) (by omega) (by omega)) c)
    refine hd_go kX6_sheet 999 (fun _ => rfl) rfl trivial ?_
    exact hd_en_ kX6_sheet (fun _ => rfl) trivial (hQ M' hf (fun x h => hx x (by omega)))
  | succ m ih =>
    intro j M' hj hf hx
    refine hd_go kX6_sheet 999 (fun _ => rfl) rfl trivial ?_
    refine hd_ju kX6_sheet (fun _ => rfl) (fun c => absurd c (nI_ge (b := 40) (by omega) (by decide))) (fun c => ?_)
    refine hd_go kX6_sheet 999 (fun _ => rfl) rfl ?_ ?_
    · rw [ix40]
      exact ⟨trivial, v160 (by omega)⟩
    rw [ix40, nI_1, nI_clamp (show 40 * k + j < 2 ^ 31 by omega)]
    refine ih (j + 1) _ (by omega) (hf.up (show 63 = 63 ∧ 40 * k ≤ 40 * k + j ∧ 40 * k + j < 40 * k + 40 by omega)) (fun x h => ?_)
    by_cases e : x = j
    · rw [e, hd_u_s]
    · rw [hd_u_n (by omega)]
      exact hx x (by omega)
set_option maxRecDepth 20000 in
theorem d_sheet (k l n : Int32) : rA mX6_sheet [.int k, .int l, .int n] (an_sheet k l n) := by
  intro M N st hI hO
  change hd_Go mX6_sheet 0 [some (.ref 51), some (.int k), some (.int l), some (.int n), none] [] M N _
  have bad : ¬ (wi k 0 3 ∧ wi l 0 2 ∧ ¬ 40 < n) → hd_Go mX6_sheet 14 [some (.ref 51), some (.int k), some (.int l), some (.int n), none] [] M N (fun r M1 _ => r = some (an_sheet k l n st).1 ∧ fr refF M M1 ∧ RI M1 (an_sheet k l n st).2) := by
    intro q
    refine hd_go kX6_sheet 999 (fun _ => rfl) rfl trivial ?_
    refine hd_en_ kX6_sheet (fun _ => rfl) trivial ?_
    unfold an_sheet
    rw [if_neg q]
    exact ⟨rfl, fr.rf, hI⟩
  unfold an_sheet at bad ⊢
  refine hd_go kX6_sheet 999 (fun _ => rfl) rfl trivial ?_
  refine hd_ci kX6_sheet qX6_sheet (fun _ => rfl) (r_isSheet _ _ M N) ?_
  refine hd_ju kX6_sheet (fun _ => rfl) (fun q => bad (fun z => hd_b0.mp q ⟨z.1, z.2.1⟩)) (fun q => ?_)
  obtain ⟨q1, q2⟩ := hd_b1.mp q
  refine hd_go kX6_sheet 999 (fun _ => rfl) rfl trivial ?_
  refine hd_ju kX6_sheet (fun _ => rfl) (fun q => ?_) (fun q => bad (fun z => q (Int32.not_lt.mp z.2.2)))
  have q3 := Int32.not_lt.mpr q
  rw [if_pos ⟨q1, q2, q3⟩]
  refine hd_go kX6_sheet 999 (fun _ => rfl) rfl trivial ?_
  refine hd_ju kX6_sheet (fun _ => rfl) (fun c => ?_) (fun c => ?_)
  · have c9 := Int32.not_lt.mpr c
    rw [if_neg c9]
    obtain ⟨x, hx, rfl⟩ := nI_of2 (M := 40) (n := 40) rfl c9 q
    obtain ⟨j, hj, rfl, ek⟩ := wi03 q1
    rw [ek, nI_clamp (show x < 2 ^ 31 by omega)]
    refine hd_go kX6_sheet 40 (fun _ => rfl) rfl ⟨⟨trivial, v4 hj⟩, v4 hj⟩ ?_
    rw [ek]
    refine r_sheet_l N j hj l _ _ _ (fun M1 hf hz => ⟨rfl, shJ hI hO j hj (false, l, x, fun _ => 0) (((fr.rf.up (Or.inl ⟨Or.inl rfl, rfl⟩)).up (Or.inl ⟨Or.inr rfl, rfl⟩)).tr (hf.mo (fun c i z => Or.inr z))) ⟨fun z => (by cases z), fun _ => ⟨?_, ?_, fun i hi => hz i (by have hi : i < x := hi; omega)⟩⟩⟩) 40 0 _ (by omega) fr.rf (fun x h => absurd h (Nat.not_lt_zero x))
    · rw [hf 61 j (by show ¬ (61 = 63 ∧ _); omega), hd_u_n (by omega), hd_u_s]
    · rw [hf 62 j (by show ¬ (62 = 63 ∧ _); omega), hd_u_s]
  · rw [if_pos (Int32.not_le.mp c)]
    refine hd_go kX6_sheet 999 (fun _ => rfl) rfl trivial ?_
    exact hd_en_ kX6_sheet (fun _ => rfl) trivial ⟨rfl, fr.rf, hI⟩
set_option maxRecDepth 20000 in
theorem th40 {i : Int32} {n : Nat} (hn : n ≤ 40) : wi i 0 (nI n - 1) ↔ ¬ i < 0 ∧ i < nI n := by
  have e1 : (nI n - 1).toInt = (n : Int) - 1 := pk_sub_toInt (a := n) (b := 1) (by omega) (by decide)
  have e2 : (nI n).toInt = (n : Int) := nI_toInt (by omega)
  refine and_congr_right (fun _ => ?_)
  rw [Int32.lt_iff_toInt_lt, Int32.lt_iff_toInt_lt, e1, e2]
  omega
set_option maxRecDepth 20000 in
theorem d_lay (k i v : Int32) : rA mX6_lay [.int k, .int i, .int v] (an_lay k i v) := by
  intro M N st hI hO
  change hd_Go mX6_lay 0 [some (.ref 51), some (.int k), some (.int i), some (.int v)] [] M N _
  unfold an_lay
  refine hd_go kX6_lay 999 (fun _ => rfl) rfl trivial ?_
  refine hd_ci kX6_lay qX6_lay (fun _ => rfl) (r_isSheet _ _ M N) ?_
  refine hd_ju kX6_lay (fun _ => rfl) (fun q => ?_) (fun q => ?_)
  · have q1 := (hd_b1.mp q).1
    rw [if_pos q1]
    obtain ⟨j, hj, rfl, ek⟩ := wi03 q1
    obtain ⟨h1, h2⟩ := hI.2.2.2.2.1 j hj
    have o9 := hO.2.2.2.2 j hj
    refine hd_go kX6_lay 999 (fun _ => rfl) rfl ⟨trivial, v4 hj⟩ ?_
    rw [ek]
    cases hb : (st.2.2.2.2.1 j).1 with
    | true =>
      rw [h1 hb]
      refine hd_ju kX6_lay (fun _ => rfl) (fun c => absurd rfl c) (fun c => ?_)
      refine hd_go kX6_lay 999 (fun _ => rfl) rfl trivial ?_
      exact hd_en_ kX6_lay (fun _ => rfl) trivial ⟨rfl, fr.rf, hI⟩
    | false =>
      obtain ⟨h3, h4, h5⟩ := h2 hb
      obtain ⟨h40, hl⟩ := o9 hb
      simp only [Bool.false_eq_true, if_false]
      rw [h3]
      refine hd_ju kX6_lay (fun _ => rfl) (fun c => ?_) (fun c => absurd c (by rcases hl with e | e | e <;> rw [e] <;> decide))
      refine hd_go kX6_lay 999 (fun _ => rfl) rfl ⟨trivial, v4 hj⟩ ?_
      rw [ek, h4]
      refine hd_ci kX6_lay qX6_lay (fun _ => rfl) (r_in i 0 (nI (st.2.2.2.2.1 j).2.2.1 - 1) _ _ rfl rfl M N) ?_
      rw [hd_bc (th40 h40)]
      refine hd_ju kX6_lay (fun _ => rfl) (fun c => ?_) (fun c => ?_)
      · have hi := hd_b1.mp c
        rw [if_pos hi]
        obtain ⟨y, hy, rfl⟩ := nI_of hi.1
        have hy2 : y < (st.2.2.2.2.1 j).2.2.1 := (nI_ltI hy (by omega)).mp hi.2
        rw [nI_clamp hy]
        have fin : ∀ u : Int32, u = la_v (st.2.2.2.2.1 j).2.1 v → hd_Go mX6_lay 85 [some (.ref 51), some (.int (nI j)), some (.int (nI y)), some (.int v)] [.int u, .int (nI (40 * j + y)), .ref 63] M N (fun r M1 _ => r = some (Value.int 1) ∧ fr refF M M1 ∧ RI M1 (st.1, st.2.1, st.2.2.1, st.2.2.2.1, (fun j' => if j' = j then (false, (st.2.2.2.2.1 j).2.1, (st.2.2.2.2.1 j).2.2.1, fun x => if x = y then la_v (st.2.2.2.2.1 j).2.1 v else (st.2.2.2.2.1 j).2.2.2 x) else st.2.2.2.2.1 j'), st.2.2.2.2.2)) := by
          rintro u rfl
          refine hd_go kX6_lay 999 (fun _ => rfl) rfl ⟨trivial, v160 (by omega)⟩ ?_
          rw [nI_clamp (show 40 * j + y < 2 ^ 31 by omega)]
          refine hd_en_ kX6_lay (fun _ => rfl) trivial ⟨rfl, shJ hI hO j hj (false, (st.2.2.2.2.1 j).2.1, (st.2.2.2.2.1 j).2.2.1, fun x => if x = y then la_v (st.2.2.2.2.1 j).2.1 v else (st.2.2.2.2.1 j).2.2.2 x) (fr.rf.up (Or.inr (by omega))) ⟨fun z => (by cases z), fun _ => ⟨?_, ?_, fun a ha => ?_⟩⟩⟩
          · rw [hd_u_n (by omega)]; exact h3
          · rw [hd_u_n (by omega)]; exact h4
          · show _ = if a = y then la_v (st.2.2.2.2.1 j).2.1 v else (st.2.2.2.2.1 j).2.2.2 a
            by_cases e : a = y
            · rw [if_pos e, e, hd_u_s]
            · rw [if_neg e, hd_u_n (by omega)]; exact h5 a ha
        refine hd_go kX6_lay 999 (fun _ => rfl) rfl ⟨trivial, v4 hj⟩ ?_
        rw [ek, h3, ix40]
        unfold la_v at fin
        refine hd_ju kX6_lay (fun _ => rfl) (fun c => ?_) (fun c => ?_)
        · refine hd_go kX6_lay 999 (fun _ => rfl) rfl ⟨trivial, v4 hj⟩ ?_
          rw [ek, h3]
          refine hd_ju kX6_lay (fun _ => rfl) (fun c2 => ?_) (fun c2 => ?_)
          · refine hd_go kX6_lay 85 (fun _ => rfl) rfl trivial ?_
            exact fin v (by rw [if_neg c, if_neg c2])
          · refine hd_go kX6_lay 999 (fun _ => rfl) rfl trivial ?_
            exact fin _ (by rw [if_neg c, if_pos c2])
        · refine hd_go kX6_lay 999 (fun _ => rfl) rfl trivial ?_
          exact fin _ (by rw [if_pos c])
      · have hi := hd_b0.mp c
        rw [if_neg hi]
        refine hd_go kX6_lay 999 (fun _ => rfl) rfl trivial ?_
        exact hd_en_ kX6_lay (fun _ => rfl) trivial ⟨rfl, fr.rf, hI⟩
  · have q := hd_b0.mp q
    rw [if_neg (fun z => q ⟨z, by decide⟩)]
    refine hd_go kX6_lay 999 (fun _ => rfl) rfl trivial ?_
    exact hd_en_ kX6_lay (fun _ => rfl) trivial ⟨rfl, fr.rf, hI⟩
set_option maxRecDepth 20000 in
theorem r_sum_l (M : hd_M) (N : hd_N) (n w : Nat) (hn : n ≤ 7) (hw : w < 4) (h28 : M 52 28 = nI n) : ∀ (m k : Nat) (s : Int32), k + m = n → hd_Go mX6_sumOf 4 [some (.ref 51), some (.int (nI w)), some (.int s), some (.int (nI k))] [] M N (hd_is (.int (s + wsm (fun k => M 52 (4 * k + w)) k m)) M N) := by
  intro m
  induction m with
  | zero =>
    intro k s hk
    refine hd_go kX6_sumOf 999 (fun _ => rfl) rfl ⟨trivial, v138 (n := 28) (by decide)⟩ ?_
    rw [show Int32.toNatClampNeg 28 = 28 from rfl, h28]
    refine hd_ju kX6_sumOf (fun _ => rfl) (fun c => ?_) (fun c => absurd (nI_le (by omega) (by omega)) c)
    refine hd_go kX6_sumOf 999 (fun _ => rfl) rfl trivial ?_
    refine hd_en_ kX6_sumOf (fun _ => rfl) trivial ⟨?_, rfl, rfl⟩
    rw [wsm, Int32.add_zero]
  | succ m ih =>
    intro k s hk
    refine hd_go kX6_sumOf 999 (fun _ => rfl) rfl ⟨trivial, v138 (n := 28) (by decide)⟩ ?_
    rw [show Int32.toNatClampNeg 28 = 28 from rfl, h28]
    refine hd_ju kX6_sumOf (fun _ => rfl) (fun c => absurd c (nI_ge (by omega) (by omega))) (fun c => ?_)
    refine hd_go kX6_sumOf 999 (fun _ => rfl) rfl ?_ ?_
    · rw [ix4]
      exact ⟨trivial, v138 (by omega)⟩
    rw [ix4, nI_clamp (show 4 * k + w < 2 ^ 31 by omega), nI_1]
    have := ih (k + 1) (s + M 52 (4 * k + w)) (by omega)
    rw [wsm, ← Int32.add_assoc]
    exact this
set_option maxRecDepth 20000 in
theorem r_sum (M : hd_M) (N : hd_N) (n w : Nat) (hn : n ≤ 7) (hw : w < 4) (h28 : M 52 28 = nI n) : hd_Ret mX6_sumOf [.ref 51, .int (nI w)] M N (hd_is (.int (wsm (fun k => M 52 (4 * k + w)) 0 n)) M N) := by
  change hd_Go mX6_sumOf 0 [some (.ref 51), some (.int (nI w)), none, none] [] M N _
  refine hd_go kX6_sumOf 4 (fun _ => rfl) rfl trivial ?_
  have := r_sum_l M N n w hn hw h28 n 0 0 (by omega)
  rw [Int32.zero_add] at this
  exact this
set_option maxRecDepth 20000 in
theorem d_count (w : Int32) : rA mX6_count [.int w] (an_count w) := by
  intro M N st hI hO
  change hd_Go mX6_count 0 [some (.ref 51), some (.int w)] [] M N _
  have h7 := hO.1.1
  have s1 : wsm (fun k => M 52 (4 * k + 1)) 0 st.1.1 = wsm (st.1.2.2.2.2.2 1) 0 st.1.1 := wsm_cong _ _ (fun i _ h => by have := (hI.1.2.2.2.2.2 i (by omega)).2.1; rw [Nat.zero_add] at this; exact this)
  have s2 : wsm (fun k => M 52 (4 * k + 2)) 0 st.1.1 = wsm (st.1.2.2.2.2.2 2) 0 st.1.1 := wsm_cong _ _ (fun i _ h => by have := (hI.1.2.2.2.2.2 i (by omega)).2.2.1; rw [Nat.zero_add] at this; exact this)
  have k0 : M 54 0 = if (st.2.2.2.1 0).1 then 1 else 0 := (hI.2.2.2.1 0 (by decide)).1
  have k1 : M 54 1 = if (st.2.2.2.1 1).1 then 1 else 0 := (hI.2.2.2.1 1 (by decide)).1
  refine hd_go kX6_count 999 (fun _ => rfl) rfl trivial ?_
  refine hd_sc kX6_count (fun _ => rfl) ⟨fun c => ?_, fun c0 => ⟨fun c => ?_, fun c1 => ⟨fun c => ?_, fun c2 => ⟨fun c => ?_, fun c3 => ⟨fun c => ?_, fun c4 => ⟨fun c => ?_, fun c5 => ?_⟩⟩⟩⟩⟩⟩
  · subst c
    refine hd_go kX6_count 999 (fun _ => rfl) rfl ⟨trivial, v138 (n := 33) (by decide)⟩ ?_
    exact hd_en_ kX6_count (fun _ => rfl) trivial ⟨congrArg (fun x => some (Value.int x)) hI.2.1.1, fr.rf, hI⟩
  · subst c
    refine hd_go kX6_count 999 (fun _ => rfl) rfl ⟨trivial, v2 (n := 0) (by decide)⟩ ?_
    refine hd_ci kX6_count qX6_count (fun _ => rfl) (r_flag _ M N) ?_
    refine hd_go kX6_count 999 (fun _ => rfl) rfl ⟨trivial, v2 (n := 1) (by decide)⟩ ?_
    refine hd_ci kX6_count qX6_count (fun _ => rfl) (r_flag _ M N) ?_
    refine hd_go kX6_count 999 (fun _ => rfl) rfl trivial ?_
    refine hd_en_ kX6_count (fun _ => rfl) trivial ⟨?_, fr.rf, hI⟩
    show some (Value.int (hd_b (¬ M 54 0 = 0) + hd_b (¬ M 54 1 = 0))) = some (Value.int ((if (st.2.2.2.1 0).1 then 1 else 0) + (if (st.2.2.2.1 1).1 then 1 else 0)))
    rw [k0, k1]
    cases (st.2.2.2.1 0).1 <;> cases (st.2.2.2.1 1).1 <;> rfl
  · subst c
    refine hd_go kX6_count 999 (fun _ => rfl) rfl trivial ?_
    exact hd_en_ kX6_count (fun _ => rfl) trivial ⟨by rw [hI.2.2.1.1]; rfl, fr.rf, hI⟩
  · subst c
    refine hd_go kX6_count 999 (fun _ => rfl) rfl ⟨trivial, v4 (n := 0) (by decide)⟩ ?_
    obtain ⟨h1, h2⟩ := hI.2.2.2.2.1 0 (by decide)
    show hd_Go mX6_count 81 [some (.ref 51), some (.int 3)] [.int (-4), .int (M 61 0)] M N (fun r M1 _ => r = some (Value.int (if (st.2.2.2.2.1 0).1 then -4 else nI (st.2.2.2.2.1 0).2.2.1)) ∧ fr refF M M1 ∧ RI M1 st)
    cases hb : (st.2.2.2.2.1 0).1 with
    | true =>
      rw [h1 hb]
      refine hd_ju kX6_count (fun _ => rfl) (fun c => absurd rfl c) (fun c => ?_)
      refine hd_go kX6_count 999 (fun _ => rfl) rfl trivial ?_
      exact hd_en_ kX6_count (fun _ => rfl) trivial ⟨rfl, fr.rf, hI⟩
    | false =>
      obtain ⟨h3, h4, h5⟩ := h2 hb
      obtain ⟨h40, hl⟩ := hO.2.2.2.2 0 (by decide) hb
      rw [h3]
      refine hd_ju kX6_count (fun _ => rfl) (fun c => ?_) (fun c => absurd c (by rcases hl with e | e | e <;> rw [e] <;> decide))
      refine hd_go kX6_count 999 (fun _ => rfl) rfl ⟨trivial, v4 (n := 0) (by decide)⟩ ?_
      exact hd_en_ kX6_count (fun _ => rfl) trivial ⟨congrArg (fun x => some (Value.int x)) h4, fr.rf, hI⟩
  · subst c
    refine hd_go kX6_count 999 (fun _ => rfl) rfl trivial ?_
    refine hd_ci kX6_count qX6_count (fun _ => rfl) (r_sum M N st.1.1 1 h7 (by decide) hI.1.1) ?_
    exact hd_en_ kX6_count (fun _ => rfl) trivial ⟨by rw [s1]; rfl, fr.rf, hI⟩
  · subst c
    refine hd_go kX6_count 999 (fun _ => rfl) rfl trivial ?_
    refine hd_ci kX6_count qX6_count (fun _ => rfl) (r_sum M N st.1.1 2 h7 (by decide) hI.1.1) ?_
    exact hd_en_ kX6_count (fun _ => rfl) trivial ⟨by rw [s2]; rfl, fr.rf, hI⟩
  · refine hd_go kX6_count 999 (fun _ => rfl) rfl trivial ?_
    refine hd_en_ kX6_count (fun _ => rfl) trivial ⟨?_, fr.rf, hI⟩
    simp only [an_count, c0, c1, c2, c3, c4, c5, if_false]
