/-! THE REFERENCE'S PUBLIC METHODS; printed by wip/whole/ref3.py -/
/-- places that hold nothing of the reference's state -/
abbrev idR : Nat → Nat → Prop := fun c j => c = 53 ∨ c = 55 ∨ (57 ≤ c ∧ c ≤ 60) ∨ c = 64 ∨ (c = 51 ∧ ¬ j = 7 ∧ ¬ j = 12 ∧ ¬ j = 26)
set_option maxRecDepth 20000 in
theorem seR.mv {M M1 : hd_M} {off : Nat} {se : se_T} (h : seR M off se) (h6 : se.1 ≤ 6) (he : ∀ j, off + 33 ≤ j → j < off + 46 → M1 52 j = M 52 j) : seR M1 off se := by
  refine ⟨?_, fun s hs => ⟨?_, ?_⟩⟩
  · rw [he _ (by omega) (by omega)]; exact h.1
  · rw [he _ (by omega) (by omega)]; exact (h.2 s hs).1
  · rw [he _ (by omega) (by omega)]; exact (h.2 s hs).2
set_option maxRecDepth 20000 in
theorem tpR.mv {M M1 : hd_M} {t : Nat × (Nat → Int32)} (h : tpR M t) (h1 : M1 51 7 = M 51 7) (h2 : ∀ j, M1 56 j = M 56 j) : tpR M1 t := ⟨by rw [h1]; exact h.1, fun i hi => by rw [h2]; exact h.2 i hi⟩
set_option maxRecDepth 20000 in
theorem imR.mv {M M1 : hd_M} {im : Nat → im_T} (h : imR M im) (ho : ∀ k, k < 2 → (im k).1 = true → dy_ok (im k).2.1 ∧ se_ok (im k).2.2) (h1 : ∀ k, k < 2 → M1 54 k = M 54 k) (h2 : ∀ j, 46 ≤ j → M1 52 j = M 52 j) : imR M1 im := by
  intro k hk
  obtain ⟨a, b⟩ := h k hk
  refine ⟨by rw [h1 k hk]; exact a, fun z => ?_⟩
  obtain ⟨b1, b2⟩ := b z
  obtain ⟨o1, o2⟩ := ho k hk z
  exact ⟨b1.mv o1.1 (fun j q1 q2 => h2 j (by omega)), b2.mv o2.1 (fun j q1 q2 => h2 j (by omega))⟩
set_option maxRecDepth 20000 in
theorem shR.mv {M M1 : hd_M} {sh : Nat → sh_T} (h : shR M sh) (he : ∀ c j, 61 ≤ c → c ≤ 63 → M1 c j = M c j) : shR M1 sh := by
  intro k hk
  obtain ⟨a, b⟩ := h k hk
  refine ⟨fun z => by rw [he _ _ (by omega) (by omega)]; exact a z, fun z => ?_⟩
  obtain ⟨b1, b2, b3⟩ := b z
  exact ⟨by rw [he _ _ (by omega) (by omega)]; exact b1, by rw [he _ _ (by omega) (by omega)]; exact b2, fun i hi => by rw [he _ _ (by omega) (by omega)]; exact b3 i hi⟩
set_option maxRecDepth 20000 in
theorem RI.mv {M M1 : hd_M} {st : ab_T} (h : RI M st) (o : OK st) (he : fr idR M M1) : RI M1 st := by
  obtain ⟨h1, h2, h3, h4, h5, h6, h7⟩ := h
  have g : ∀ c j, c ∈ [52, 54, 56, 61, 62, 63] → M1 c j = M c j := fun c j hc => he c j (by
    simp only [List.mem_cons, List.not_mem_nil, or_false] at hc
    show ¬ (c = 53 ∨ c = 55 ∨ (57 ≤ c ∧ c ≤ 60) ∨ c = 64 ∨ (c = 51 ∧ _))
    omega)
  refine ⟨h1.mv o.1.1 (fun j _ _ => g _ _ (by simp)), h2.mv o.2.1.1 (fun j _ _ => g _ _ (by simp)), h3.mv (he 51 7 (by simp)) (fun j => g _ _ (by simp)), h4.mv o.2.2.2.1 (fun k _ => g _ _ (by simp)) (fun j _ => g _ _ (by simp)), h5.mv (fun c j q1 q2 => ?_), by rw [he 51 26 (by simp)]; exact h6, by rw [he 51 12 (by simp)]; exact h7⟩
  rcases (show c = 61 ∨ c = 62 ∨ c = 63 by omega) with rfl | rfl | rfl
  · exact g _ _ (by simp)
  · exact g _ _ (by simp)
  · exact g _ _ (by simp)
set_option maxRecDepth 20000 in
theorem RI.day {M M1 : hd_M} {st : ab_T} {d : dy_T} (h : RI M st) (o : OK st) (he : fr (fun c j => (c = 52 ∧ j < 33) ∨ idR c j) M M1) (hd : rf M1 52 0 d) : RI M1 (d, st.2) := by
  obtain ⟨h1, h2, h3, h4, h5, h6, h7⟩ := h
  have g : ∀ c j, c ∈ [54, 56, 61, 62, 63] → M1 c j = M c j := fun c j hc => he c j (by
    simp only [List.mem_cons, List.not_mem_nil, or_false] at hc
    show ¬ ((c = 52 ∧ j < 33) ∨ c = 53 ∨ c = 55 ∨ (57 ≤ c ∧ c ≤ 60) ∨ c = 64 ∨ (c = 51 ∧ _))
    omega)
  have g2 : ∀ j, 33 ≤ j → M1 52 j = M 52 j := fun j hj => he 52 j (by
    show ¬ ((52 = 52 ∧ j < 33) ∨ 52 = 53 ∨ 52 = 55 ∨ (57 ≤ 52 ∧ 52 ≤ 60) ∨ 52 = 64 ∨ (52 = 51 ∧ _))
    omega)
  refine ⟨hd, h2.mv o.2.1.1 (fun j _ _ => g2 _ (by omega)), h3.mv (he 51 7 (by simp)) (fun j => g _ _ (by simp)), h4.mv o.2.2.2.1 (fun k _ => g _ _ (by simp)) (fun j _ => g2 _ (by omega)), h5.mv (fun c j q1 q2 => ?_), by rw [he 51 26 (by simp)]; exact h6, by rw [he 51 12 (by simp)]; exact h7⟩
  rcases (show c = 61 ∨ c = 62 ∨ c = 63 by omega) with rfl | rfl | rfl
  · exact g _ _ (by simp)
  · exact g _ _ (by simp)
  · exact g _ _ (by simp)
set_option maxRecDepth 20000 in
theorem RI.seen {M M1 : hd_M} {st : ab_T} {se : se_T} (h : RI M st) (o : OK st) (he : fr (fun c j => c = 52 ∧ 33 ≤ j ∧ j < 46) M M1) (hd : seR M1 0 se) : RI M1 (st.1, se, st.2.2) := by
  obtain ⟨h1, h2, h3, h4, h5, h6, h7⟩ := h
  have g : ∀ c j, ¬ c = 52 → M1 c j = M c j := fun c j hc => he c j (fun z => hc z.1)
  exact ⟨h1.mv o.1.1 (fun j _ _ => he _ _ (by show ¬ (52 = 52 ∧ 33 ≤ j ∧ j < 46); omega)), hd, h3.mv (g _ _ (by decide)) (fun j => g _ _ (by decide)), h4.mv o.2.2.2.1 (fun k _ => g _ _ (by decide)) (fun j _ => he _ _ (by show ¬ (52 = 52 ∧ 33 ≤ j ∧ j < 46); omega)), h5.mv (fun c j q1 q2 => g c j (by omega)), by rw [g _ _ (by decide)]; exact h6, by rw [g _ _ (by decide)]; exact h7⟩
set_option maxRecDepth 20000 in
theorem RI.tape {M M1 : hd_M} {st : ab_T} {t : Nat × (Nat → Int32)} (h : RI M st) (o : OK st) (he : fr (fun c j => (c = 51 ∧ j = 7) ∨ c = 56) M M1) (hd : tpR M1 t) : RI M1 (st.1, st.2.1, t, st.2.2.2) := by
  obtain ⟨h1, h2, h3, h4, h5, h6, h7⟩ := h
  have g : ∀ c j, ¬ c = 56 → ¬ c = 51 → M1 c j = M c j := fun c j h1 h2 => he c j (by show ¬ ((c = 51 ∧ j = 7) ∨ c = 56); omega)
  exact ⟨h1.mv o.1.1 (fun j _ _ => g _ _ (by decide) (by decide)), h2.mv o.2.1.1 (fun j _ _ => g _ _ (by decide) (by decide)), hd, h4.mv o.2.2.2.1 (fun k _ => g _ _ (by decide) (by decide)) (fun j _ => g _ _ (by decide) (by decide)), h5.mv (fun c j q1 q2 => g c j (by omega) (by omega)), by rw [he 51 26 (by simp)]; exact h6, by rw [he 51 12 (by simp)]; exact h7⟩
set_option maxRecDepth 20000 in
theorem RI.she {M M1 : hd_M} {st : ab_T} {sh : Nat → sh_T} (h : RI M st) (o : OK st) (he : fr (fun c _ => 61 ≤ c ∧ c ≤ 63) M M1) (hd : shR M1 sh) : RI M1 (st.1, st.2.1, st.2.2.1, st.2.2.2.1, sh, st.2.2.2.2.2) := by
  obtain ⟨h1, h2, h3, h4, h5, h6, h7⟩ := h
  have g : ∀ c j, c < 61 → M1 c j = M c j := fun c j hc => he c j (by show ¬ (61 ≤ c ∧ c ≤ 63); omega)
  exact ⟨h1.mv o.1.1 (fun j _ _ => g _ _ (by decide)), h2.mv o.2.1.1 (fun j _ _ => g _ _ (by decide)), h3.mv (g _ _ (by decide)) (fun j => g _ _ (by decide)), h4.mv o.2.2.2.1 (fun k _ => g _ _ (by decide)) (fun j _ => g _ _ (by decide)), hd, by rw [g _ _ (by decide)]; exact h6, by rw [g _ _ (by decide)]; exact h7⟩
set_option maxRecDepth 20000 in
theorem RI.torn {M : hd_M} {st : ab_T} {t : Int32} (h : RI M st) (o : OK st) : RI (hd_u M 51 26 t) (st.1, st.2.1, st.2.2.1, st.2.2.2.1, st.2.2.2.2.1, t, st.2.2.2.2.2.2) := by
  obtain ⟨h1, h2, h3, h4, h5, h6, h7⟩ := h
  exact ⟨h1.mv o.1.1 (fun j _ _ => hd_u_n (by omega)), h2.mv o.2.1.1 (fun j _ _ => hd_u_n (by omega)), h3.mv (hd_u_n (by omega)) (fun j => hd_u_n (by omega)), h4.mv o.2.2.2.1 (fun k _ => hd_u_n (by omega)) (fun j _ => hd_u_n (by omega)), h5.mv (fun c j q1 q2 => hd_u_n (by omega)), hd_u_s _ _ _ _, by rw [hd_u_n (by omega)]; exact h7⟩
set_option maxRecDepth 20000 in
/-- a question's end -/
theorem RI.q {M M1 : hd_M} {st : ab_T} (h : RI M st) (o : OK st) (he : fr idR M M1) : fr refF M M1 ∧ RI M1 st := by
  refine ⟨he.mo (fun c j z => ?_), h.mv o he⟩
  have z : c = 53 ∨ c = 55 ∨ (57 ≤ c ∧ c ≤ 60) ∨ c = 64 ∨ (c = 51 ∧ _) := z
  show 51 ≤ c
  omega
set_option maxRecDepth 20000 in
theorem n33R {M M1 : hd_M} (h : fr n33 M M1) : fr idR M M1 := h.mo (fun c j z => Or.inl z.1)
set_option maxRecDepth 20000 in
theorem v138 {n : Nat} (h : n < 138) : vp_in (nI n) 138 := vp_in_nI h (by decide)
set_option maxRecDepth 20000 in
theorem rf.cp {M M1 : hd_M} {d : dy_T} (h : rf M 52 0 d) (hn : d.1 ≤ 7) (he : ∀ x, x < 46 → M1 53 x = M 52 x) : rf M1 53 0 d := by
  obtain ⟨a5, a6, a7, a8, a9, b⟩ := h
  refine ⟨?_, ?_, ?_, ?_, ?_, fun i hi => ⟨?_, ?_, ?_, ?_⟩⟩
  · rw [he _ (by omega)]; exact a5
  · rw [he _ (by omega)]; exact a6
  · rw [he _ (by omega)]; exact a7
  · rw [he _ (by omega)]; exact a8
  · rw [he _ (by omega)]; exact a9
  · rw [he _ (by omega)]; exact (b i hi).1
  · rw [he _ (by omega)]; exact (b i hi).2.1
  · rw [he _ (by omega)]; exact (b i hi).2.2.1
  · rw [he _ (by omega)]; exact (b i hi).2.2.2
set_option maxRecDepth 20000 in
theorem rf.pc {M M1 : hd_M} {d : dy_T} (h : rf M 53 0 d) (hn : d.1 ≤ 7) (he : ∀ x, x < 46 → M1 52 x = M 53 x) : rf M1 52 0 d := by
  obtain ⟨a5, a6, a7, a8, a9, b⟩ := h
  refine ⟨?_, ?_, ?_, ?_, ?_, fun i hi => ⟨?_, ?_, ?_, ?_⟩⟩
  · rw [he _ (by omega)]; exact a5
  · rw [he _ (by omega)]; exact a6
  · rw [he _ (by omega)]; exact a7
  · rw [he _ (by omega)]; exact a8
  · rw [he _ (by omega)]; exact a9
  · rw [he _ (by omega)]; exact (b i hi).1
  · rw [he _ (by omega)]; exact (b i hi).2.1
  · rw [he _ (by omega)]; exact (b i hi).2.2.1
  · rw [he _ (by omega)]; exact (b i hi).2.2.2
set_option maxRecDepth 20000 in
/-- the row of now holds the day again -/
theorem r_st (M : hd_M) (N : hd_N) (d : dy_T) (hd : rf M 52 0 d) (hn : d.1 ≤ 7) : hd_Ret mX6_starts [.ref 51] M N (fun r M1 N1 => r = none ∧ N1 = N ∧ fr nowF M M1 ∧ rf M1 53 0 d ∧ ∀ x, x < 46 → M1 53 x = M 52 x) := by
  refine hd_Go.post ?_ (r_starts M N)
  rintro r M1 N1 ⟨rfl, rfl, hf, hx⟩
  exact ⟨rfl, rfl, hf.mo (fun c j z => z.1), hd.cp hn hx, hx⟩
set_option maxRecDepth 20000 in
theorem nowR {M M1 : hd_M} (h : fr nowF M M1) : fr idR M M1 := h.mo (fun c j z => Or.inl z)
set_option maxRecDepth 20000 in
theorem r_bec (k : Nat) (hk : k < 138) (v : Int32) (M : hd_M) (N : hd_N) : hd_Ret mX6_becomes [.ref 51, .int (nI k), .int v] M N (fun r M1 N1 => r = some (.int (M 52 k)) ∧ N1 = N ∧ M1 = hd_u M 52 k v) := by
  change hd_Go mX6_becomes 0 [some (.ref 51), some (.int (nI k)), some (.int v), none] [] M N _
  refine hd_go kX6_becomes 999 (fun _ => rfl) rfl ⟨⟨trivial, v138 hk⟩, v138 hk⟩ ?_
  rw [nI_clamp (by omega)]
  exact hd_en_ kX6_becomes (fun _ => rfl) trivial ⟨rfl, rfl, rfl⟩
set_option maxRecDepth 20000 in
theorem th_iff {i : Int32} {n : Nat} (hn : n ≤ 7) : wi i 0 (nI n - 1) ↔ ¬ i < 0 ∧ i < nI n := by
  have e1 : (nI n - 1).toInt = (n : Int) - 1 := pk_sub_toInt (a := n) (b := 1) (by omega) (by decide)
  have e2 : (nI n).toInt = (n : Int) := nI_toInt (by omega)
  refine and_congr_right (fun _ => ?_)
  rw [Int32.lt_iff_toInt_lt, Int32.lt_iff_toInt_lt, e1, e2]
  omega
set_option maxRecDepth 20000 in
theorem hd_bc {c d : Prop} [Decidable c] [Decidable d] (h : c ↔ d) : hd_b c = hd_b d := by
  unfold hd_b
  by_cases hc : c
  · rw [if_pos hc, if_pos (h.mp hc)]
  · rw [if_neg hc, if_neg (fun z => hc (h.mpr z))]
set_option maxRecDepth 20000 in
theorem r_isTh (i : Int32) (M : hd_M) (N : hd_N) (d : dy_T) (h28 : M 52 28 = nI d.1) (hn : d.1 ≤ 7) : hd_Ret mX6_isThing [.ref 51, .int i] M N (hd_is (.int (hd_b (an_th i d))) M N) := by
  change hd_Go mX6_isThing 0 [some (.ref 51), some (.int i)] [] M N _
  refine hd_go kX6_isThing 999 (fun _ => rfl) rfl ⟨trivial, v138 (n := 28) (by decide)⟩ ?_
  show hd_Go mX6_isThing 13 [some (.ref 51), some (.int i)] [.long (M 52 28 - 1).toInt64, .long 0, .long i.toInt64] M N _
  rw [h28]
  refine hd_ci kX6_isThing qX6_isThing (fun _ => rfl) (r_in i 0 (nI d.1 - 1) _ _ rfl rfl M N) ?_
  rw [hd_bc (th_iff hn)]
  exact hd_en_ kX6_isThing (fun _ => rfl) hd_b01 ⟨rfl, rfl, rfl⟩
set_option maxRecDepth 20000 in
theorem r_isMood (v : Int32) (M : hd_M) (N : hd_N) : hd_Ret mX6_isMood [.int v] M N (hd_is (.int (hd_b (wi v 0 99))) M N) := by
  change hd_Go mX6_isMood 0 [some (.int v)] [] M N _
  refine hd_go kX6_isMood 999 (fun _ => rfl) rfl trivial ?_
  refine hd_ci kX6_isMood qX6_isMood (fun _ => rfl) (r_in v 0 99 _ _ rfl rfl M N) ?_
  exact hd_en_ kX6_isMood (fun _ => rfl) hd_b01 ⟨rfl, rfl, rfl⟩
set_option maxRecDepth 20000 in
theorem r_isPart (v : Int32) (M : hd_M) (N : hd_N) : hd_Ret mX6_isPart [.int v] M N (hd_is (.int (hd_b (wi v 0 1))) M N) := by
  change hd_Go mX6_isPart 0 [some (.int v)] [] M N _
  refine hd_go kX6_isPart 999 (fun _ => rfl) rfl trivial ?_
  refine hd_ci kX6_isPart qX6_isPart (fun _ => rfl) (r_in v 0 1 _ _ rfl rfl M N) ?_
  exact hd_en_ kX6_isPart (fun _ => rfl) hd_b01 ⟨rfl, rfl, rfl⟩
set_option maxRecDepth 20000 in
theorem r_isFar (v : Int32) (M : hd_M) (N : hd_N) : hd_Ret mX6_isFar [.int v] M N (hd_is (.int (hd_b (wi v 0 60))) M N) := by
  change hd_Go mX6_isFar 0 [some (.int v)] [] M N _
  refine hd_go kX6_isFar 999 (fun _ => rfl) rfl trivial ?_
  refine hd_ci kX6_isFar qX6_isFar (fun _ => rfl) (r_in v 0 60 _ _ rfl rfl M N) ?_
  exact hd_en_ kX6_isFar (fun _ => rfl) hd_b01 ⟨rfl, rfl, rfl⟩
set_option maxRecDepth 20000 in
theorem r_allIn (M : hd_M) (N : hd_N) (d : dy_T) (hd : rf M 52 0 d) (ok : dy_ok d) : hd_Ret mX6_allAreIn [.ref 51] M N (hd_is (.int (hd_b (dy_all d))) M N) := by
  change hd_Go mX6_allAreIn 0 [some (.ref 51)] [] M N _
  have hn := ok.1
  have hl := ok.2.1
  have e28 : M 52 28 = nI d.1 := hd.1
  have e29 : M 52 29 = nI d.2.1 := hd.2.1
  refine hd_go kX6_allAreIn 999 (fun _ => rfl) rfl ⟨⟨trivial, v138 (n := 29) (by decide)⟩, v138 (n := 28) (by decide)⟩ ?_
  show hd_Go mX6_allAreIn 14 [some (.ref 51)] [.int (M 52 28), .int (M 52 29)] M N _
  rw [e28, e29]
  have ei : nI d.2.1 = nI d.1 ↔ dy_all d := nI_eq (by omega) (by omega)
  refine hd_ju kX6_allAreIn (fun _ => rfl) (fun c => ?_) (fun c => ?_)
  · refine hd_go kX6_allAreIn 999 (fun _ => rfl) rfl trivial ?_
    refine hd_en_ kX6_allAreIn (fun _ => rfl) (Or.inl rfl) ⟨?_, rfl, rfl⟩
    rw [show hd_b (dy_all d) = 0 from if_neg (fun z => c (ei.mpr z))]
  · refine hd_go kX6_allAreIn 999 (fun _ => rfl) rfl trivial ?_
    refine hd_en_ kX6_allAreIn (fun _ => rfl) (Or.inr rfl) ⟨?_, rfl, rfl⟩
    rw [show hd_b (dy_all d) = 1 from if_pos (ei.mp c)]
set_option maxRecDepth 20000 in
theorem d_fault : rA mX6_fault [] an_fault := by
  intro M N st hI hO
  change hd_Go mX6_fault 0 [some (.ref 51)] [] M N _
  refine hd_go kX6_fault 999 (fun _ => rfl) rfl trivial ?_
  exact hd_en_ kX6_fault (fun _ => rfl) trivial ⟨by rw [hI.2.2.2.2.2.2]; rfl, fr.rf, hI⟩
set_option maxRecDepth 20000 in
theorem d_torn : rA mX6_torn [] an_torn := by
  intro M N st hI hO
  change hd_Go mX6_torn 0 [some (.ref 51)] [] M N _
  refine hd_go kX6_torn 999 (fun _ => rfl) rfl trivial ?_
  exact hd_en_ kX6_torn (fun _ => rfl) trivial ⟨by rw [hI.2.2.2.2.2.1]; rfl, fr.rf, hI⟩
set_option maxRecDepth 20000 in
theorem d_feed (c : Int32) : rA mX6_feed [.int c] (an_feed c) := by
  intro M N st hI hO
  change hd_Go mX6_feed 0 [some (.ref 51), some (.int c)] [] M N _
  obtain ⟨hL, hb⟩ := hO.2.2.1
  have e7 : M 51 7 = nI st.2.2.1.1 := hI.2.2.1.1
  refine hd_go kX6_feed 999 (fun _ => rfl) rfl trivial ?_
  refine hd_ci kX6_feed qX6_feed (fun _ => rfl) (r_in c 0 127 _ _ rfl rfl M N) ?_
  unfold an_feed
  refine hd_ju kX6_feed (fun _ => rfl) (fun q => ?_) (fun q => ?_)
  · have q := hd_b1.mp q
    rw [if_pos q]
    refine hd_go kX6_feed 999 (fun _ => rfl) rfl trivial ?_
    rw [e7]
    refine hd_ju kX6_feed (fun _ => rfl) (fun c2 => ?_) (fun c2 => ?_)
    · have hne : ¬ st.2.2.1.1 = 160 := fun z => c2 (by rw [z]; rfl)
      have hv : vp_in (nI st.2.2.1.1) 160 := vp_in_nI (by omega) (by decide)
      rw [if_neg hne]
      refine hd_go kX6_feed 999 (fun _ => rfl) rfl ?_ ?_
      · rw [e7]; exact ⟨trivial, hv⟩
      rw [e7, nI_clamp (by omega), hd_u_s, hd_u_n (show ¬ (51 = 56 ∧ 7 = st.2.2.1.1) by omega), e7, nI_1]
      refine hd_en_ kX6_feed (fun _ => rfl) trivial ⟨rfl, (fr.rf.up (by simp)).up (by simp), ?_⟩
      refine hI.tape hO ((fr.rf.up (by simp)).up (by simp)) ⟨hd_u_s _ _ _ _, fun i hi => ?_⟩
      have hi : i < st.2.2.1.1 + 1 := hi
      show _ = if i = st.2.2.1.1 then c else st.2.2.1.2 i
      rw [hd_u_n (by omega)]
      by_cases e : i = st.2.2.1.1
      · rw [if_pos e, e, hd_u_s]
      · rw [if_neg e, hd_u_n (by omega)]; exact hI.2.2.1.2 i (by omega)
    · have he : st.2.2.1.1 = 160 := (nI_eq (by omega) (by decide)).mp c2
      rw [if_pos he]
      refine hd_go kX6_feed 999 (fun _ => rfl) rfl trivial ?_
      exact hd_en_ kX6_feed (fun _ => rfl) trivial ⟨rfl, fr.rf, hI⟩
  · rw [if_neg (hd_b0.mp q)]
    refine hd_go kX6_feed 999 (fun _ => rfl) rfl trivial ?_
    exact hd_en_ kX6_feed (fun _ => rfl) trivial ⟨rfl, fr.rf, hI⟩
set_option maxRecDepth 20000 in
theorem d_end (n : Int32) : rA mX6_end [.int n] (an_end n) := by
  intro M N st hI hO
  change hd_Go mX6_end 0 [some (.ref 51), some (.int n), none] [] M N _
  have hL := hO.2.2.1.1
  have e7 : M 51 7 = nI st.2.2.1.1 := hI.2.2.1.1
  refine hd_go kX6_end 999 (fun _ => rfl) rfl trivial ?_
  rw [e7]
  refine hd_ci kX6_end qX6_end (fun _ => rfl) (r_in n 0 (nI st.2.2.1.1) _ _ rfl rfl M N) ?_
  unfold an_end
  refine hd_ju kX6_end (fun _ => rfl) (fun q => ?_) (fun q => ?_)
  · have q := hd_b1.mp q
    obtain ⟨j, hj, rfl⟩ := nI_of2 (M := nI st.2.2.1.1) (n := st.2.2.1.1) (nI_toInt (by omega)) q.1 (Int32.not_lt.mp q.2)
    rw [if_pos q, nI_clamp (by omega)]
    refine hd_go kX6_end 999 (fun _ => rfl) rfl trivial ?_
    refine hd_en_ kX6_end (fun _ => rfl) trivial ⟨by rw [e7], fr.rf.up (by simp), ?_⟩
    refine hI.tape hO (fr.rf.up (by simp)) ⟨hd_u_s _ _ _ _, fun i hi => ?_⟩
    rw [hd_u_n (by omega)]; exact hI.2.2.1.2 i (Nat.lt_of_lt_of_le hi hj)
  · rw [if_neg (hd_b0.mp q)]
    refine hd_go kX6_end 999 (fun _ => rfl) rfl trivial ?_
    exact hd_en_ kX6_end (fun _ => rfl) trivial ⟨rfl, fr.rf, hI⟩
set_option maxRecDepth 20000 in
theorem d_rule_l (M : hd_M) (N : hd_N) (st : ab_T) (hI : RI M st) (hO : OK st) (w : Int32) (hd : rf M 53 0 st.1) (Q : hd_Q) (hk : hd_Go mX6_rule 38 [some (.ref 51), some (.int w), some (.int (dy_cru st.1)), some (.int (nI st.1.1))] [] M N Q) : ∀ (m j : Nat), j + m = st.1.1 → hd_Go mX6_rule 8 [some (.ref 51), some (.int w), some (.int (dy_bits (fun i => decide (dy_brs (st.1.2.2.2.2.2 0 i) (st.1.2.2.2.2.2 2 i) < dy_ld st.1 i)) j)), some (.int (nI j))] [] M N Q := by
  have e28 : M 52 28 = nI st.1.1 := hI.1.1
  have e28n : M 53 28 = nI st.1.1 := hd.1
  have h7 := hO.1.1
  intro m
  induction m with
  | zero =>
    intro j hj
    have hj : j = st.1.1 := by omega
    subst hj
    refine hd_go kX6_rule 999 (fun _ => rfl) rfl ⟨trivial, v138 (n := 28) (by decide)⟩ ?_
    refine hd_ju kX6_rule (fun _ => rfl) (fun c => hk) (fun c => ?_)
    have c : ¬ M 52 28 ≤ nI st.1.1 := c
    rw [e28] at c
    exact absurd (nI_le (Nat.le_refl _) (by omega)) c
  | succ m ih =>
    intro j hj
    refine hd_go kX6_rule 999 (fun _ => rfl) rfl ⟨trivial, v138 (n := 28) (by decide)⟩ ?_
    refine hd_ju kX6_rule (fun _ => rfl) (fun c => ?_) (fun c => ?_)
    · have c : M 52 28 ≤ nI j := c
      rw [e28] at c
      exact absurd c (nI_ge (by omega) (by omega))
    have e := hd.2.2.2.2.2 j (by omega)
    rw [Nat.zero_add, Nat.zero_add, Nat.zero_add] at e
    have el : wsm (fun k => M 53 (4 * k + 2)) (j + 1) (st.1.1 - (j + 1)) = dy_ld st.1 j := wsm_cong _ _ (fun x h1 h2 => by have := (hd.2.2.2.2.2 x (by omega)).2.2.1; rw [Nat.zero_add] at this; exact this)
    refine hd_go kX6_rule 999 (fun _ => rfl) rfl trivial ?_
    refine hd_ci kX6_rule qX6_rule (fun _ => rfl) (r_isCr M N st.1.1 h7 e28n j (by omega)) ?_
    refine hd_ci kX6_rule qX6_rule (fun _ => rfl) (r_flag _ M N) ?_
    refine hd_go kX6_rule 999 (fun _ => rfl) rfl trivial ?_
    rw [nI_1, el, e.1, e.2.2.1]
    have ef : hd_b (¬ hd_b (dy_brs (st.1.2.2.2.2.2 0 j) (st.1.2.2.2.2.2 2 j) < dy_ld st.1 j) = 0) = hd_b (decide (dy_brs (st.1.2.2.2.2.2 0 j) (st.1.2.2.2.2.2 2 j) < dy_ld st.1 j) = true) := hd_bc (by rw [hd_b1, decide_eq_true_eq])
    rw [ef, or_fl]
    have := ih (j + 1) (by omega)
    rw [dy_bits] at this
    exact this
set_option maxRecDepth 20000 in
theorem d_rule (w : Int32) : rA mX6_rule [.int w] (an_rule w) := by
  intro M N st hI hO
  change hd_Go mX6_rule 0 [some (.ref 51), some (.int w), none, none] [] M N _
  refine hd_go kX6_rule 999 (fun _ => rfl) rfl trivial ?_
  refine hd_ca kX6_rule qX6_rule (fun _ => rfl) (r_st M N _ hI.1 hO.1.1) ?_
  rintro r M1 N1 ⟨rfl, rfl, hf, hd1, -⟩
  obtain ⟨hf2, hI1⟩ := hI.q hO (nowR hf)
  refine hd_go kX6_rule 8 (fun _ => rfl) rfl trivial ?_
  refine d_rule_l M1 N1 st hI1 hO w hd1 _ ?_ st.1.1 0 (by omega)
  obtain ⟨a5, a6, a7, a8, a9, -⟩ := id hI1.1
  refine hd_go kX6_rule 999 (fun _ => rfl) rfl trivial ?_
  refine hd_sc kX6_rule (fun _ => rfl) ⟨fun c => ?_, fun c0 => ⟨fun c => ?_, fun c1 => ⟨fun c => ?_, fun c2 => ⟨fun c => ?_, fun c3 => ⟨fun c => ?_, fun c4 => ⟨fun c => ?_, fun c5 => ⟨fun c => ?_, fun c6 => ?_⟩⟩⟩⟩⟩⟩⟩
  · subst c
    refine hd_go kX6_rule 999 (fun _ => rfl) rfl ⟨trivial, v138 (n := 28) (by decide)⟩ ?_
    exact hd_en_ kX6_rule (fun _ => rfl) trivial ⟨congrArg (fun x => some (Value.int x)) a5, hf2, hI1⟩
  · subst c
    refine hd_go kX6_rule 999 (fun _ => rfl) rfl ⟨trivial, v138 (n := 32) (by decide)⟩ ?_
    exact hd_en_ kX6_rule (fun _ => rfl) trivial ⟨congrArg (fun x => some (Value.int x)) a9, hf2, hI1⟩
  · subst c
    refine hd_go kX6_rule 999 (fun _ => rfl) rfl ⟨trivial, v138 (n := 30) (by decide)⟩ ?_
    exact hd_en_ kX6_rule (fun _ => rfl) trivial ⟨congrArg (fun x => some (Value.int x)) a7, hf2, hI1⟩
  · subst c
    refine hd_go kX6_rule 999 (fun _ => rfl) rfl ⟨trivial, v138 (n := 31) (by decide)⟩ ?_
    exact hd_en_ kX6_rule (fun _ => rfl) trivial ⟨congrArg (fun x => some (Value.int x)) a8, hf2, hI1⟩
  · subst c
    refine hd_go kX6_rule 999 (fun _ => rfl) rfl ⟨trivial, v138 (n := 29) (by decide)⟩ ?_
    exact hd_en_ kX6_rule (fun _ => rfl) trivial ⟨congrArg (fun x => some (Value.int x)) a6, hf2, hI1⟩
  · subst c
    refine hd_go kX6_rule 999 (fun _ => rfl) rfl trivial ?_
    refine hd_ci kX6_rule qX6_rule (fun _ => rfl) (r_out M1 N1 _ hd1 hO.1.1) ?_
    exact hd_en_ kX6_rule (fun _ => rfl) trivial ⟨rfl, hf2, hI1⟩
  · subst c
    refine hd_go kX6_rule 999 (fun _ => rfl) rfl trivial ?_
    exact hd_en_ kX6_rule (fun _ => rfl) trivial ⟨rfl, hf2, hI1⟩
  · refine hd_go kX6_rule 999 (fun _ => rfl) rfl trivial ?_
    refine hd_en_ kX6_rule (fun _ => rfl) trivial ⟨?_, hf2, hI1⟩
    simp only [an_rule, c0, c1, c2, c3, c4, c5, c6, if_false]
set_option maxRecDepth 20000 in
theorem d_thing (i w : Int32) : rA mX6_thing [.int i, .int w] (an_thing i w) := by
  intro M N st hI hO
  change hd_Go mX6_thing 0 [some (.ref 51), some (.int i), some (.int w)] [] M N _
  have h7 := hO.1.1
  refine hd_go kX6_thing 999 (fun _ => rfl) rfl trivial ?_
  refine hd_ci kX6_thing qX6_thing (fun _ => rfl) (r_isTh _ M N st.1 hI.1.1 h7) ?_
  unfold an_thing
  refine hd_ju kX6_thing (fun _ => rfl) (fun q => ?_) (fun q => ?_)
  · have q := hd_b1.mp q
    obtain ⟨j, hj, rfl⟩ := an_th_nat q h7
    rw [if_pos q, nI_clamp (by omega)]
    refine hd_go kX6_thing 999 (fun _ => rfl) rfl trivial ?_
    refine hd_ca kX6_thing qX6_thing (fun _ => rfl) (r_st M N _ hI.1 h7) ?_
    rintro r M1 N1 ⟨rfl, rfl, hf, hd1, -⟩
    obtain ⟨hf2, hI1⟩ := hI.q hO (nowR hf)
    have e28 : M1 53 28 = nI st.1.1 := hd1.1
    have e := hd1.2.2.2.2.2 j hj
    rw [Nat.zero_add, Nat.zero_add, Nat.zero_add, Nat.zero_add] at e
    obtain ⟨e0, e1, e2, e3⟩ := e
    have el : wsm (fun k => M1 53 (4 * k + 2)) (j + 1) (st.1.1 - (j + 1)) = dy_ld st.1 j := wsm_cong _ _ (fun x h1 h2 => by have := (hd1.2.2.2.2.2 x (by omega)).2.2.1; rw [Nat.zero_add] at this; exact this)
    refine hd_go kX6_thing 999 (fun _ => rfl) rfl trivial ?_
    refine hd_sc kX6_thing (fun _ => rfl) ⟨fun c => ?_, fun c0 => ⟨fun c => ?_, fun c1 => ⟨fun c => ?_, fun c2 => ⟨fun c => ?_, fun c3 => ⟨fun c => ?_, fun c4 => ⟨fun c => ?_, fun c5 => ⟨fun c => ?_, fun c6 => ?_⟩⟩⟩⟩⟩⟩⟩
    · subst c
      refine hd_go kX6_thing 999 (fun _ => rfl) rfl trivial ?_
      refine hd_ci kX6_thing qX6_thing (fun _ => rfl) (r_of j 0 (by omega) M1 N1) ?_
      exact hd_en_ kX6_thing (fun _ => rfl) trivial ⟨congrArg (fun x => some (Value.int x)) e0, hf2, hI1⟩
    · subst c
      refine hd_go kX6_thing 999 (fun _ => rfl) rfl trivial ?_
      refine hd_ci kX6_thing qX6_thing (fun _ => rfl) (r_of j 1 (by omega) M1 N1) ?_
      exact hd_en_ kX6_thing (fun _ => rfl) trivial ⟨congrArg (fun x => some (Value.int x)) e1, hf2, hI1⟩
    · subst c
      refine hd_go kX6_thing 999 (fun _ => rfl) rfl trivial ?_
      refine hd_ci kX6_thing qX6_thing (fun _ => rfl) (r_of j 2 (by omega) M1 N1) ?_
      exact hd_en_ kX6_thing (fun _ => rfl) trivial ⟨congrArg (fun x => some (Value.int x)) e2, hf2, hI1⟩
    · subst c
      refine hd_go kX6_thing 999 (fun _ => rfl) rfl trivial ?_
      refine hd_ci kX6_thing qX6_thing (fun _ => rfl) (r_bears j (by omega) M1 N1) ?_
      exact hd_en_ kX6_thing (fun _ => rfl) trivial ⟨by rw [e0, e2]; rfl, hf2, hI1⟩
    · subst c
      refine hd_go kX6_thing 999 (fun _ => rfl) rfl trivial ?_
      refine hd_ci kX6_thing qX6_thing (fun _ => rfl) (r_laid M1 N1 st.1.1 h7 e28 j (by omega)) ?_
      exact hd_en_ kX6_thing (fun _ => rfl) trivial ⟨by rw [el]; rfl, hf2, hI1⟩
    · subst c
      refine hd_go kX6_thing 999 (fun _ => rfl) rfl trivial ?_
      refine hd_ci kX6_thing qX6_thing (fun _ => rfl) (r_cheers M1 N1 st.1.1 h7 e28 j (by omega)) ?_
      refine hd_go kX6_thing 999 (fun _ => rfl) rfl trivial ?_
      exact hd_en_ kX6_thing (fun _ => rfl) trivial ⟨by rw [rf_ch hd1 hj]; rfl, hf2, hI1⟩
    · subst c
      refine hd_go kX6_thing 999 (fun _ => rfl) rfl trivial ?_
      refine hd_ci kX6_thing qX6_thing (fun _ => rfl) (r_of j 3 (by omega) M1 N1) ?_
      exact hd_en_ kX6_thing (fun _ => rfl) trivial ⟨congrArg (fun x => some (Value.int x)) e3, hf2, hI1⟩
    · refine hd_go kX6_thing 999 (fun _ => rfl) rfl trivial ?_
      refine hd_en_ kX6_thing (fun _ => rfl) trivial ⟨?_, hf2, hI1⟩
      simp only [dy_tell, c0, c1, c2, c3, c4, c5, c6, if_false]
  · rw [if_neg (hd_b0.mp q)]
    refine hd_go kX6_thing 999 (fun _ => rfl) rfl trivial ?_
    exact hd_en_ kX6_thing (fun _ => rfl) trivial ⟨rfl, fr.rf, hI⟩
set_option maxRecDepth 20000 in
theorem rf_set {M : hd_M} {d : dy_T} {a : Nat} (hd : rf M a 0 d) (w i : Nat) (hw : w < 4) (hi : i < d.1) (hn : d.1 ≤ 7) (v : Int32) : rf (hd_u M a (4 * i + w) v) a 0 (dy_set w i v d) := by
  obtain ⟨a5, a6, a7, a8, a9, b⟩ := hd
  have col : ∀ (c x : Nat), c < 4 → M a (0 + (4 * x + c)) = d.2.2.2.2.2 c x → hd_u M a (4 * i + w) v a (0 + (4 * x + c)) = if c = w ∧ x = i then v else d.2.2.2.2.2 c x := by
    intro c x hc e
    unfold hd_u
    by_cases h : c = w ∧ x = i
    · rw [if_pos (by omega), if_pos h]
    · rw [if_neg (by omega), if_neg h]; exact e
  refine ⟨?_, ?_, ?_, ?_, ?_, fun x hx => ⟨?_, ?_, ?_, ?_⟩⟩
  · rw [hd_u_n (by omega)]; exact a5
  · rw [hd_u_n (by omega)]; exact a6
  · rw [hd_u_n (by omega)]; exact a7
  · rw [hd_u_n (by omega)]; exact a8
  · rw [hd_u_n (by omega)]; exact a9
  · exact col 0 x (by decide) (b x hx).1
  · exact col 1 x (by decide) (b x hx).2.1
  · exact col 2 x (by decide) (b x hx).2.2.1
  · exact col 3 x (by decide) (b x hx).2.2.2
set_option maxRecDepth 20000 in
theorem dayR {M M1 : hd_M} (h : fr (fun c j => c = 52 ∧ j < 33) M M1) : fr refF M M1 ∧ fr (fun c j => (c = 52 ∧ j < 33) ∨ idR c j) M M1 := ⟨h.mo (fun c j z => by have z : c = 52 ∧ j < 33 := z; show 51 ≤ c; omega), h.mo (fun c j z => Or.inl z)⟩
set_option maxRecDepth 20000 in
theorem d_alter (i w v : Int32) : rA mX6_alter [.int i, .int w, .int v] (an_alter i w v) := by
  intro M N st hI hO
  change hd_Go mX6_alter 0 [some (.ref 51), some (.int i), some (.int w), some (.int v), none] [] M N _
  have h7 := hO.1.1
  have tail : ∀ z : Int32, (¬ z = 0 ↔ tra w v) → hd_Go mX6_alter 55 [some (.ref 51), some (.int i), some (.int w), some (.int v), none] [.int z] M N (fun r M1 _ => r = some (an_alter i w v st).1 ∧ fr refF M M1 ∧ RI M1 (an_alter i w v st).2) := by
    intro z hz
    have bad : ¬ (an_th i st.1 ∧ tra w v) → hd_Go mX6_alter 83 [some (.ref 51), some (.int i), some (.int w), some (.int v), some (.int z)] [] M N (fun r M1 _ => r = some (an_alter i w v st).1 ∧ fr refF M M1 ∧ RI M1 (an_alter i w v st).2) := by
      intro q
      refine hd_go kX6_alter 999 (fun _ => rfl) rfl trivial ?_
      refine hd_en_ kX6_alter (fun _ => rfl) trivial ?_
      unfold an_alter
      rw [if_neg q]
      exact ⟨rfl, fr.rf, hI⟩
    refine hd_go kX6_alter 999 (fun _ => rfl) rfl trivial ?_
    refine hd_ci kX6_alter qX6_alter (fun _ => rfl) (r_isTh _ M N st.1 hI.1.1 h7) ?_
    refine hd_ju kX6_alter (fun _ => rfl) (fun q => bad (fun y => hd_b0.mp q y.1)) (fun q => ?_)
    have q1 := hd_b1.mp q
    refine hd_go kX6_alter 999 (fun _ => rfl) rfl trivial ?_
    refine hd_ju kX6_alter (fun _ => rfl) (fun q => bad (fun y => (hz.mpr y.2) q)) (fun q => ?_)
    have q2 := hz.mp q
    have q3 : an_th i st.1 ∧ tra w v := ⟨q1, q2⟩
    obtain ⟨j, hj, rfl⟩ := an_th_nat q1 h7
    obtain ⟨u, hu, rfl⟩ := tra_nat q2
    refine hd_go kX6_alter 999 (fun _ => rfl) rfl trivial ?_
    rw [ix4]
    refine hd_ca kX6_alter qX6_alter (fun _ => rfl) (r_bec (4 * j + u) (by omega) v M N) ?_
    rintro r M1 N1 ⟨rfl, rfl, rfl⟩
    refine hd_go kX6_alter 999 (fun _ => rfl) rfl trivial ?_
    refine hd_en_ kX6_alter (fun _ => rfl) trivial ?_
    unfold an_alter
    rw [if_pos q3, nI_clamp (show u < 2 ^ 31 by omega), nI_clamp (show j < 2 ^ 31 by omega)]
    have hf : fr (fun c j => c = 52 ∧ j < 33) M (hd_u M 52 (4 * j + u) v) := fr.rf.up (by show 52 = 52 ∧ 4 * j + u < 33; omega)
    refine ⟨?_, (dayR hf).1, hI.day hO (dayR hf).2 (rf_set hI.1 u j (by omega) hj h7 v)⟩
    have e := hI.1.2.2.2.2.2 j hj
    rw [Nat.zero_add, Nat.zero_add, Nat.zero_add] at e
    rcases (show u = 0 ∨ u = 1 ∨ u = 2 by omega) with rfl | rfl | rfl
    · rw [Nat.add_zero, e.1]
    · rw [e.2.1]
    · rw [e.2.2.1]
  refine hd_go kX6_alter 999 (fun _ => rfl) rfl trivial ?_
  refine hd_ju kX6_alter (fun _ => rfl) (fun c0 => ?_) (fun c0 => ?_)
  · refine hd_go kX6_alter 999 (fun _ => rfl) rfl trivial ?_
    refine hd_ju kX6_alter (fun _ => rfl) (fun c1 => ?_) (fun c1 => ?_)
    · refine hd_go kX6_alter 999 (fun _ => rfl) rfl trivial ?_
      refine hd_ju kX6_alter (fun _ => rfl) (fun c2 => ?_) (fun c2 => ?_)
      · refine hd_go kX6_alter 55 (fun _ => rfl) rfl trivial ?_
        exact tail 0 ⟨fun z => absurd rfl z, fun z => absurd z (by simp [tra, c0, c1, c2])⟩
      · refine hd_go kX6_alter 999 (fun _ => rfl) rfl trivial ?_
        refine hd_ci kX6_alter qX6_alter (fun _ => rfl) (r_in v 1 9 _ _ rfl rfl M N) ?_
        refine hd_ju kX6_alter (fun _ => rfl) (fun c3 => ?_) (fun c3 => ?_)
        · refine hd_go kX6_alter 55 (fun _ => rfl) rfl trivial ?_
          refine tail 0 ⟨fun z => absurd rfl z, fun z => ?_⟩
          rcases z with z | z | z
          · exact absurd z.1 c0
          · exact absurd z.1 c1
          · exact absurd z.2 (hd_b0.mp c3)
        · refine hd_go kX6_alter 55 (fun _ => rfl) rfl trivial ?_
          exact tail 1 ⟨fun _ => Or.inr (Or.inr ⟨c2, hd_b1.mp c3⟩), fun _ => by decide⟩
    · refine hd_go kX6_alter 999 (fun _ => rfl) rfl trivial ?_
      refine hd_ci kX6_alter qX6_alter (fun _ => rfl) (r_in v 0 9 _ _ rfl rfl M N) ?_
      refine hd_go kX6_alter 55 (fun _ => rfl) rfl trivial ?_
      refine tail _ ⟨fun z => Or.inr (Or.inl ⟨c1, hd_b1.mp z⟩), fun z => hd_b1.mpr ?_⟩
      rcases z with z | z | z
      · exact absurd z.1 c0
      · exact z.2
      · rw [c1] at z; exact absurd z.1 (by decide)
  · refine hd_go kX6_alter 999 (fun _ => rfl) rfl trivial ?_
    refine hd_ci kX6_alter qX6_alter (fun _ => rfl) (r_in v 0 3 _ _ rfl rfl M N) ?_
    refine hd_go kX6_alter 55 (fun _ => rfl) rfl trivial ?_
    refine tail _ ⟨fun z => Or.inl ⟨c0, hd_b1.mp z⟩, fun z => hd_b1.mpr ?_⟩
    rcases z with z | z | z
    · exact z.2
    · rw [c0] at z; exact absurd z.1 (by decide)
    · rw [c0] at z; exact absurd z.1 (by decide)
