/-! COPIES BETWEEN HAMPERS; what is for the trial alone; printed by wip/whole/ham3.py -/
set_option maxRecDepth 20000 in
theorem s_copyDay_7_1 (M : hd_M) (N : hd_N) : hd_Ret mX0_copyDayOf [.ref 7, .ref 1] M N (fun r M1 N1 => r = none ∧ N1 = N ∧ M1 7 6 = M 1 6 ∧ M1 7 7 = M 1 7 ∧ M1 7 8 = M 1 8 ∧ M1 7 9 = M 1 9 ∧ fr (fun c j => c = 7 ∧ 6 ≤ j) M M1) := by
  change hd_Go mX0_copyDayOf 0 [some (.ref 7), some (.ref 1)] [] M N _
  refine hd_go kX0_copyDayOf 999 (fun _ => rfl) rfl trivial ?_
  refine hd_en_ kX0_copyDayOf (fun _ => rfl) trivial ⟨rfl, rfl, ?_, ?_, ?_, ?_, (((fr.rf.up (by simp)).up (by simp)).up (by simp)).up (by simp)⟩
  · simp [hd_u]
  · simp [hd_u]
  · simp [hd_u]
  · simp [hd_u]
set_option maxRecDepth 20000 in
theorem s_copyThing_7_1 (M : hd_M) (N : hd_N) (t i : Nat) (ht : t < 7) (hi : i < 7) : hd_Ret mX0_copyThing [.ref 7, .int (nI t), .ref 1, .int (nI i)] M N (fun r M1 N1 => r = none ∧ N1 = N ∧ M1 8 t = M 2 i ∧ M1 9 t = M 3 i ∧ M1 10 t = M 4 i ∧ M1 11 t = M 5 i ∧ fr (fun c j => 8 ≤ c ∧ c ≤ 11 ∧ j = t) M M1) := by
  change hd_Go mX0_copyThing 0 [some (.ref 7), some (.int (nI t)), some (.ref 1), some (.int (nI i))] [] M N _
  have ei : (nI i).toNatClampNeg = i := nI_clamp (by omega)
  have et : (nI t).toNatClampNeg = t := nI_clamp (by omega)
  have hv : vp_in (nI i) 7 := vp_in_nI hi (by decide)
  have hw : vp_in (nI t) 7 := vp_in_nI ht (by decide)
  refine hd_go kX0_copyThing 999 (fun _ => rfl) rfl ⟨⟨⟨⟨⟨⟨⟨⟨trivial, hv⟩, hw⟩, hv⟩, hw⟩, hv⟩, hw⟩, hv⟩, hw⟩ ?_
  rw [ei, et]
  refine hd_en_ kX0_copyThing (fun _ => rfl) trivial ⟨rfl, rfl, ?_, ?_, ?_, ?_, (((fr.rf.up (by simp)).up (by simp)).up (by simp)).up (by simp)⟩
  · simp [hd_u]
  · simp [hd_u]
  · simp [hd_u]
  · simp [hd_u]
set_option maxRecDepth 20000 in
theorem s_copyFrom_l_7_1 (M : hd_M) (N : hd_N) (d : dy_T) (hd : hm M 1 d) (hn : d.1 ≤ 7) : ∀ (m j : Nat) (M' : hd_M), j + m = d.1 → fr (fun c _ => 7 ≤ c ∧ c ≤ 11) M M' → M' 7 5 = nI d.1 → M' 7 6 = nI d.2.1 → M' 7 7 = d.2.2.1 → M' 7 8 = d.2.2.2.1 → M' 7 9 = d.2.2.2.2.1 → (∀ x, x < j → M' 8 x = d.2.2.2.2.2 0 x ∧ M' 9 x = d.2.2.2.2.2 1 x ∧ M' 10 x = d.2.2.2.2.2 2 x ∧ M' 11 x = d.2.2.2.2.2 3 x) → hd_Go mX0_copyFrom 15 [some (.ref 7), some (.ref 1), some (.int (nI j))] [] M' N (fun r M1 N1 => r = none ∧ N1 = N ∧ fr (fun c _ => 7 ≤ c ∧ c ≤ 11) M M1 ∧ hm M1 7 d) := by
  intro m
  induction m with
  | zero =>
    intro j M' hj hf e5 e6 e7 e8 e9 hx
    refine hd_go kX0_copyFrom 999 (fun _ => rfl) rfl trivial ?_
    rw [e5]
    refine hd_ju kX0_copyFrom (fun _ => rfl) (fun c => ?_) (fun c => ?_)
    · refine hd_en_ kX0_copyFrom (fun _ => rfl) trivial ⟨rfl, rfl, hf, e5, e6, e7, e8, e9, ?_, ?_, ?_, ?_⟩
      · exact fun i hi => (hx i (by omega)).1
      · exact fun i hi => (hx i (by omega)).2.1
      · exact fun i hi => (hx i (by omega)).2.2.1
      · exact fun i hi => (hx i (by omega)).2.2.2
    · exact absurd (nI_le (by omega) (by omega)) c
  | succ m ih =>
    intro j M' hj hf e5 e6 e7 e8 e9 hx
    refine hd_go kX0_copyFrom 999 (fun _ => rfl) rfl trivial ?_
    rw [e5]
    refine hd_ju kX0_copyFrom (fun _ => rfl) (fun c => ?_) (fun c => ?_)
    · exact absurd c (nI_ge (by omega) (by omega))
    refine hd_go kX0_copyFrom 999 (fun _ => rfl) rfl trivial ?_
    refine hd_ca kX0_copyFrom qX0_copyFrom (fun _ => rfl) (s_copyThing_7_1 M' N j j (by omega) (by omega)) ?_
    rintro r M1 N1 ⟨rfl, rfl, g1, g2, g3, g4, hf1⟩
    refine hd_go kX0_copyFrom 999 (fun _ => rfl) rfl trivial ?_
    rw [nI_1]
    have q : ∀ x, M1 7 x = M' 7 x := fun x => hf1 7 x (by simp)
    refine ih (j + 1) M1 (by omega) (hf.tr (hf1.mo (fun c x h => by have h : 8 ≤ c ∧ c ≤ 11 ∧ x = j := h; show 7 ≤ c ∧ c ≤ 11; omega))) (by rw [q]; exact e5) (by rw [q]; exact e6) (by rw [q]; exact e7) (by rw [q]; exact e8) (by rw [q]; exact e9) (fun x h => ?_)
    by_cases e : x = j
    · subst e
      rw [g1, g2, g3, g4, hf 2 x (by simp), hf 3 x (by simp), hf 4 x (by simp), hf 5 x (by simp)]
      exact ⟨hd.2.2.2.2.2.1 x (by omega), hd.2.2.2.2.2.2.1 x (by omega), hd.2.2.2.2.2.2.2.1 x (by omega), hd.2.2.2.2.2.2.2.2 x (by omega)⟩
    · have q2 : ∀ c, M1 c x = M' c x := fun c => hf1 c x (fun z => e z.2.2)
      rw [q2, q2, q2, q2]
      exact hx x (by omega)
set_option maxRecDepth 20000 in
theorem s_copyFrom_7_1 (M : hd_M) (N : hd_N) (d : dy_T) (hd : hm M 1 d) (hn : d.1 ≤ 7) : hd_Ret mX0_copyFrom [.ref 7, .ref 1] M N (fun r M1 N1 => r = none ∧ N1 = N ∧ fr (fun c _ => 7 ≤ c ∧ c ≤ 11) M M1 ∧ hm M1 7 d) := by
  change hd_Go mX0_copyFrom 0 [some (.ref 7), some (.ref 1), none] [] M N _
  refine hd_go kX0_copyFrom 999 (fun _ => rfl) rfl trivial ?_
  refine hd_ca kX0_copyFrom qX0_copyFrom (fun _ => rfl) (s_copyDay_7_1 _ N) ?_
  rintro r M1 N1 ⟨rfl, rfl, g6, g7, g8, g9, hf1⟩
  refine hd_go kX0_copyFrom 15 (fun _ => rfl) rfl trivial ?_
  obtain ⟨a5, a6, a7, a8, a9, -⟩ := id hd
  refine s_copyFrom_l_7_1 M N1 d hd hn d.1 0 M1 (by omega) ((fr.rf.up (by simp)).tr (hf1.mo (fun c j h => by have h : c = 7 ∧ 6 ≤ j := h; show 7 ≤ c ∧ c ≤ 11; omega))) ?_ ?_ ?_ ?_ ?_ (fun x h => absurd h (Nat.not_lt_zero x))
  · rw [hf1 7 5 (by simp), hd_u_s]; exact a5
  · rw [g6, hd_u_n (by omega)]; exact a6
  · rw [g7, hd_u_n (by omega)]; exact a7
  · rw [g8, hd_u_n (by omega)]; exact a8
  · rw [g9, hd_u_n (by omega)]; exact a9
set_option maxRecDepth 20000 in
theorem s_copyDay_1_7 (M : hd_M) (N : hd_N) : hd_Ret mX0_copyDayOf [.ref 1, .ref 7] M N (fun r M1 N1 => r = none ∧ N1 = N ∧ M1 1 6 = M 7 6 ∧ M1 1 7 = M 7 7 ∧ M1 1 8 = M 7 8 ∧ M1 1 9 = M 7 9 ∧ fr (fun c j => c = 1 ∧ 6 ≤ j) M M1) := by
  change hd_Go mX0_copyDayOf 0 [some (.ref 1), some (.ref 7)] [] M N _
  refine hd_go kX0_copyDayOf 999 (fun _ => rfl) rfl trivial ?_
  refine hd_en_ kX0_copyDayOf (fun _ => rfl) trivial ⟨rfl, rfl, ?_, ?_, ?_, ?_, (((fr.rf.up (by simp)).up (by simp)).up (by simp)).up (by simp)⟩
  · simp [hd_u]
  · simp [hd_u]
  · simp [hd_u]
  · simp [hd_u]
set_option maxRecDepth 20000 in
theorem s_copyThing_1_7 (M : hd_M) (N : hd_N) (t i : Nat) (ht : t < 7) (hi : i < 7) : hd_Ret mX0_copyThing [.ref 1, .int (nI t), .ref 7, .int (nI i)] M N (fun r M1 N1 => r = none ∧ N1 = N ∧ M1 2 t = M 8 i ∧ M1 3 t = M 9 i ∧ M1 4 t = M 10 i ∧ M1 5 t = M 11 i ∧ fr (fun c j => 2 ≤ c ∧ c ≤ 5 ∧ j = t) M M1) := by
  change hd_Go mX0_copyThing 0 [some (.ref 1), some (.int (nI t)), some (.ref 7), some (.int (nI i))] [] M N _
  have ei : (nI i).toNatClampNeg = i := nI_clamp (by omega)
  have et : (nI t).toNatClampNeg = t := nI_clamp (by omega)
  have hv : vp_in (nI i) 7 := vp_in_nI hi (by decide)
  have hw : vp_in (nI t) 7 := vp_in_nI ht (by decide)
  refine hd_go kX0_copyThing 999 (fun _ => rfl) rfl ⟨⟨⟨⟨⟨⟨⟨⟨trivial, hv⟩, hw⟩, hv⟩, hw⟩, hv⟩, hw⟩, hv⟩, hw⟩ ?_
  rw [ei, et]
  refine hd_en_ kX0_copyThing (fun _ => rfl) trivial ⟨rfl, rfl, ?_, ?_, ?_, ?_, (((fr.rf.up (by simp)).up (by simp)).up (by simp)).up (by simp)⟩
  · simp [hd_u]
  · simp [hd_u]
  · simp [hd_u]
  · simp [hd_u]
set_option maxRecDepth 20000 in
theorem s_copyFrom_l_1_7 (M : hd_M) (N : hd_N) (d : dy_T) (hd : hm M 7 d) (hn : d.1 ≤ 7) : ∀ (m j : Nat) (M' : hd_M), j + m = d.1 → fr (fun c _ => 1 ≤ c ∧ c ≤ 5) M M' → M' 1 5 = nI d.1 → M' 1 6 = nI d.2.1 → M' 1 7 = d.2.2.1 → M' 1 8 = d.2.2.2.1 → M' 1 9 = d.2.2.2.2.1 → (∀ x, x < j → M' 2 x = d.2.2.2.2.2 0 x ∧ M' 3 x = d.2.2.2.2.2 1 x ∧ M' 4 x = d.2.2.2.2.2 2 x ∧ M' 5 x = d.2.2.2.2.2 3 x) → hd_Go mX0_copyFrom 15 [some (.ref 1), some (.ref 7), some (.int (nI j))] [] M' N (fun r M1 N1 => r = none ∧ N1 = N ∧ fr (fun c _ => 1 ≤ c ∧ c ≤ 5) M M1 ∧ hm M1 1 d) := by
  intro m
  induction m with
  | zero =>
    intro j M' hj hf e5 e6 e7 e8 e9 hx
    refine hd_go kX0_copyFrom 999 (fun _ => rfl) rfl trivial ?_
    rw [e5]
    refine hd_ju kX0_copyFrom (fun _ => rfl) (fun c => ?_) (fun c => ?_)
    · refine hd_en_ kX0_copyFrom (fun _ => rfl) trivial ⟨rfl, rfl, hf, e5, e6, e7, e8, e9, ?_, ?_, ?_, ?_⟩
      · exact fun i hi => (hx i (by omega)).1
      · exact fun i hi => (hx i (by omega)).2.1
      · exact fun i hi => (hx i (by omega)).2.2.1
      · exact fun i hi => (hx i (by omega)).2.2.2
    · exact absurd (nI_le (by omega) (by omega)) c
  | succ m ih =>
    intro j M' hj hf e5 e6 e7 e8 e9 hx
    refine hd_go kX0_copyFrom 999 (fun _ => rfl) rfl trivial ?_
    rw [e5]
    refine hd_ju kX0_copyFrom (fun _ => rfl) (fun c => ?_) (fun c => ?_)
    · exact absurd c (nI_ge (by omega) (by omega))
    refine hd_go kX0_copyFrom 999 (fun _ => rfl) rfl trivial ?_
    refine hd_ca kX0_copyFrom qX0_copyFrom (fun _ => rfl) (s_copyThing_1_7 M' N j j (by omega) (by omega)) ?_
    rintro r M1 N1 ⟨rfl, rfl, g1, g2, g3, g4, hf1⟩
    refine hd_go kX0_copyFrom 999 (fun _ => rfl) rfl trivial ?_
    rw [nI_1]
    have q : ∀ x, M1 1 x = M' 1 x := fun x => hf1 1 x (by simp)
    refine ih (j + 1) M1 (by omega) (hf.tr (hf1.mo (fun c x h => by have h : 2 ≤ c ∧ c ≤ 5 ∧ x = j := h; show 1 ≤ c ∧ c ≤ 5; omega))) (by rw [q]; exact e5) (by rw [q]; exact e6) (by rw [q]; exact e7) (by rw [q]; exact e8) (by rw [q]; exact e9) (fun x h => ?_)
    by_cases e : x = j
    · subst e
      rw [g1, g2, g3, g4, hf 8 x (by simp), hf 9 x (by simp), hf 10 x (by simp), hf 11 x (by simp)]
      exact ⟨hd.2.2.2.2.2.1 x (by omega), hd.2.2.2.2.2.2.1 x (by omega), hd.2.2.2.2.2.2.2.1 x (by omega), hd.2.2.2.2.2.2.2.2 x (by omega)⟩
    · have q2 : ∀ c, M1 c x = M' c x := fun c => hf1 c x (fun z => e z.2.2)
      rw [q2, q2, q2, q2]
      exact hx x (by omega)
set_option maxRecDepth 20000 in
theorem s_copyFrom_1_7 (M : hd_M) (N : hd_N) (d : dy_T) (hd : hm M 7 d) (hn : d.1 ≤ 7) : hd_Ret mX0_copyFrom [.ref 1, .ref 7] M N (fun r M1 N1 => r = none ∧ N1 = N ∧ fr (fun c _ => 1 ≤ c ∧ c ≤ 5) M M1 ∧ hm M1 1 d) := by
  change hd_Go mX0_copyFrom 0 [some (.ref 1), some (.ref 7), none] [] M N _
  refine hd_go kX0_copyFrom 999 (fun _ => rfl) rfl trivial ?_
  refine hd_ca kX0_copyFrom qX0_copyFrom (fun _ => rfl) (s_copyDay_1_7 _ N) ?_
  rintro r M1 N1 ⟨rfl, rfl, g6, g7, g8, g9, hf1⟩
  refine hd_go kX0_copyFrom 15 (fun _ => rfl) rfl trivial ?_
  obtain ⟨a5, a6, a7, a8, a9, -⟩ := id hd
  refine s_copyFrom_l_1_7 M N1 d hd hn d.1 0 M1 (by omega) ((fr.rf.up (by simp)).tr (hf1.mo (fun c j h => by have h : c = 1 ∧ 6 ≤ j := h; show 1 ≤ c ∧ c ≤ 5; omega))) ?_ ?_ ?_ ?_ ?_ (fun x h => absurd h (Nat.not_lt_zero x))
  · rw [hf1 1 5 (by simp), hd_u_s]; exact a5
  · rw [g6, hd_u_n (by omega)]; exact a6
  · rw [g7, hd_u_n (by omega)]; exact a7
  · rw [g8, hd_u_n (by omega)]; exact a8
  · rw [g9, hd_u_n (by omega)]; exact a9
set_option maxRecDepth 20000 in
theorem s_copyDay_20_1 (M : hd_M) (N : hd_N) : hd_Ret mX0_copyDayOf [.ref 20, .ref 1] M N (fun r M1 N1 => r = none ∧ N1 = N ∧ M1 20 6 = M 1 6 ∧ M1 20 7 = M 1 7 ∧ M1 20 8 = M 1 8 ∧ M1 20 9 = M 1 9 ∧ fr (fun c j => c = 20 ∧ 6 ≤ j) M M1) := by
  change hd_Go mX0_copyDayOf 0 [some (.ref 20), some (.ref 1)] [] M N _
  refine hd_go kX0_copyDayOf 999 (fun _ => rfl) rfl trivial ?_
  refine hd_en_ kX0_copyDayOf (fun _ => rfl) trivial ⟨rfl, rfl, ?_, ?_, ?_, ?_, (((fr.rf.up (by simp)).up (by simp)).up (by simp)).up (by simp)⟩
  · simp [hd_u]
  · simp [hd_u]
  · simp [hd_u]
  · simp [hd_u]
set_option maxRecDepth 20000 in
theorem s_copyThing_20_1 (M : hd_M) (N : hd_N) (t i : Nat) (ht : t < 7) (hi : i < 7) : hd_Ret mX0_copyThing [.ref 20, .int (nI t), .ref 1, .int (nI i)] M N (fun r M1 N1 => r = none ∧ N1 = N ∧ M1 21 t = M 2 i ∧ M1 22 t = M 3 i ∧ M1 23 t = M 4 i ∧ M1 24 t = M 5 i ∧ fr (fun c j => 21 ≤ c ∧ c ≤ 24 ∧ j = t) M M1) := by
  change hd_Go mX0_copyThing 0 [some (.ref 20), some (.int (nI t)), some (.ref 1), some (.int (nI i))] [] M N _
  have ei : (nI i).toNatClampNeg = i := nI_clamp (by omega)
  have et : (nI t).toNatClampNeg = t := nI_clamp (by omega)
  have hv : vp_in (nI i) 7 := vp_in_nI hi (by decide)
  have hw : vp_in (nI t) 7 := vp_in_nI ht (by decide)
  refine hd_go kX0_copyThing 999 (fun _ => rfl) rfl ⟨⟨⟨⟨⟨⟨⟨⟨trivial, hv⟩, hw⟩, hv⟩, hw⟩, hv⟩, hw⟩, hv⟩, hw⟩ ?_
  rw [ei, et]
  refine hd_en_ kX0_copyThing (fun _ => rfl) trivial ⟨rfl, rfl, ?_, ?_, ?_, ?_, (((fr.rf.up (by simp)).up (by simp)).up (by simp)).up (by simp)⟩
  · simp [hd_u]
  · simp [hd_u]
  · simp [hd_u]
  · simp [hd_u]
set_option maxRecDepth 20000 in
theorem s_copyFrom_l_20_1 (M : hd_M) (N : hd_N) (d : dy_T) (hd : hm M 1 d) (hn : d.1 ≤ 7) : ∀ (m j : Nat) (M' : hd_M), j + m = d.1 → fr (fun c _ => 20 ≤ c ∧ c ≤ 24) M M' → M' 20 5 = nI d.1 → M' 20 6 = nI d.2.1 → M' 20 7 = d.2.2.1 → M' 20 8 = d.2.2.2.1 → M' 20 9 = d.2.2.2.2.1 → (∀ x, x < j → M' 21 x = d.2.2.2.2.2 0 x ∧ M' 22 x = d.2.2.2.2.2 1 x ∧ M' 23 x = d.2.2.2.2.2 2 x ∧ M' 24 x = d.2.2.2.2.2 3 x) → hd_Go mX0_copyFrom 15 [some (.ref 20), some (.ref 1), some (.int (nI j))] [] M' N (fun r M1 N1 => r = none ∧ N1 = N ∧ fr (fun c _ => 20 ≤ c ∧ c ≤ 24) M M1 ∧ hm M1 20 d) := by
  intro m
  induction m with
  | zero =>
    intro j M' hj hf e5 e6 e7 e8 e9 hx
    refine hd_go kX0_copyFrom 999 (fun _ => rfl) rfl trivial ?_
    rw [e5]
    refine hd_ju kX0_copyFrom (fun _ => rfl) (fun c => ?_) (fun c => ?_)
    · refine hd_en_ kX0_copyFrom (fun _ => rfl) trivial ⟨rfl, rfl, hf, e5, e6, e7, e8, e9, ?_, ?_, ?_, ?_⟩
      · exact fun i hi => (hx i (by omega)).1
      · exact fun i hi => (hx i (by omega)).2.1
      · exact fun i hi => (hx i (by omega)).2.2.1
      · exact fun i hi => (hx i (by omega)).2.2.2
    · exact absurd (nI_le (by omega) (by omega)) c
  | succ m ih =>
    intro j M' hj hf e5 e6 e7 e8 e9 hx
    refine hd_go kX0_copyFrom 999 (fun _ => rfl) rfl trivial ?_
    rw [e5]
    refine hd_ju kX0_copyFrom (fun _ => rfl) (fun c => ?_) (fun c => ?_)
    · exact absurd c (nI_ge (by omega) (by omega))
    refine hd_go kX0_copyFrom 999 (fun _ => rfl) rfl trivial ?_
    refine hd_ca kX0_copyFrom qX0_copyFrom (fun _ => rfl) (s_copyThing_20_1 M' N j j (by omega) (by omega)) ?_
    rintro r M1 N1 ⟨rfl, rfl, g1, g2, g3, g4, hf1⟩
    refine hd_go kX0_copyFrom 999 (fun _ => rfl) rfl trivial ?_
    rw [nI_1]
    have q : ∀ x, M1 20 x = M' 20 x := fun x => hf1 20 x (by simp)
    refine ih (j + 1) M1 (by omega) (hf.tr (hf1.mo (fun c x h => by have h : 21 ≤ c ∧ c ≤ 24 ∧ x = j := h; show 20 ≤ c ∧ c ≤ 24; omega))) (by rw [q]; exact e5) (by rw [q]; exact e6) (by rw [q]; exact e7) (by rw [q]; exact e8) (by rw [q]; exact e9) (fun x h => ?_)
    by_cases e : x = j
    · subst e
      rw [g1, g2, g3, g4, hf 2 x (by simp), hf 3 x (by simp), hf 4 x (by simp), hf 5 x (by simp)]
      exact ⟨hd.2.2.2.2.2.1 x (by omega), hd.2.2.2.2.2.2.1 x (by omega), hd.2.2.2.2.2.2.2.1 x (by omega), hd.2.2.2.2.2.2.2.2 x (by omega)⟩
    · have q2 : ∀ c, M1 c x = M' c x := fun c => hf1 c x (fun z => e z.2.2)
      rw [q2, q2, q2, q2]
      exact hx x (by omega)
set_option maxRecDepth 20000 in
theorem s_copyFrom_20_1 (M : hd_M) (N : hd_N) (d : dy_T) (hd : hm M 1 d) (hn : d.1 ≤ 7) : hd_Ret mX0_copyFrom [.ref 20, .ref 1] M N (fun r M1 N1 => r = none ∧ N1 = N ∧ fr (fun c _ => 20 ≤ c ∧ c ≤ 24) M M1 ∧ hm M1 20 d) := by
  change hd_Go mX0_copyFrom 0 [some (.ref 20), some (.ref 1), none] [] M N _
  refine hd_go kX0_copyFrom 999 (fun _ => rfl) rfl trivial ?_
  refine hd_ca kX0_copyFrom qX0_copyFrom (fun _ => rfl) (s_copyDay_20_1 _ N) ?_
  rintro r M1 N1 ⟨rfl, rfl, g6, g7, g8, g9, hf1⟩
  refine hd_go kX0_copyFrom 15 (fun _ => rfl) rfl trivial ?_
  obtain ⟨a5, a6, a7, a8, a9, -⟩ := id hd
  refine s_copyFrom_l_20_1 M N1 d hd hn d.1 0 M1 (by omega) ((fr.rf.up (by simp)).tr (hf1.mo (fun c j h => by have h : c = 20 ∧ 6 ≤ j := h; show 20 ≤ c ∧ c ≤ 24; omega))) ?_ ?_ ?_ ?_ ?_ (fun x h => absurd h (Nat.not_lt_zero x))
  · rw [hf1 20 5 (by simp), hd_u_s]; exact a5
  · rw [g6, hd_u_n (by omega)]; exact a6
  · rw [g7, hd_u_n (by omega)]; exact a7
  · rw [g8, hd_u_n (by omega)]; exact a8
  · rw [g9, hd_u_n (by omega)]; exact a9
set_option maxRecDepth 20000 in
theorem s_copyDay_30_1 (M : hd_M) (N : hd_N) : hd_Ret mX0_copyDayOf [.ref 30, .ref 1] M N (fun r M1 N1 => r = none ∧ N1 = N ∧ M1 30 6 = M 1 6 ∧ M1 30 7 = M 1 7 ∧ M1 30 8 = M 1 8 ∧ M1 30 9 = M 1 9 ∧ fr (fun c j => c = 30 ∧ 6 ≤ j) M M1) := by
  change hd_Go mX0_copyDayOf 0 [some (.ref 30), some (.ref 1)] [] M N _
  refine hd_go kX0_copyDayOf 999 (fun _ => rfl) rfl trivial ?_
  refine hd_en_ kX0_copyDayOf (fun _ => rfl) trivial ⟨rfl, rfl, ?_, ?_, ?_, ?_, (((fr.rf.up (by simp)).up (by simp)).up (by simp)).up (by simp)⟩
  · simp [hd_u]
  · simp [hd_u]
  · simp [hd_u]
  · simp [hd_u]
set_option maxRecDepth 20000 in
theorem s_copyThing_30_1 (M : hd_M) (N : hd_N) (t i : Nat) (ht : t < 7) (hi : i < 7) : hd_Ret mX0_copyThing [.ref 30, .int (nI t), .ref 1, .int (nI i)] M N (fun r M1 N1 => r = none ∧ N1 = N ∧ M1 31 t = M 2 i ∧ M1 32 t = M 3 i ∧ M1 33 t = M 4 i ∧ M1 34 t = M 5 i ∧ fr (fun c j => 31 ≤ c ∧ c ≤ 34 ∧ j = t) M M1) := by
  change hd_Go mX0_copyThing 0 [some (.ref 30), some (.int (nI t)), some (.ref 1), some (.int (nI i))] [] M N _
  have ei : (nI i).toNatClampNeg = i := nI_clamp (by omega)
  have et : (nI t).toNatClampNeg = t := nI_clamp (by omega)
  have hv : vp_in (nI i) 7 := vp_in_nI hi (by decide)
  have hw : vp_in (nI t) 7 := vp_in_nI ht (by decide)
  refine hd_go kX0_copyThing 999 (fun _ => rfl) rfl ⟨⟨⟨⟨⟨⟨⟨⟨trivial, hv⟩, hw⟩, hv⟩, hw⟩, hv⟩, hw⟩, hv⟩, hw⟩ ?_
  rw [ei, et]
  refine hd_en_ kX0_copyThing (fun _ => rfl) trivial ⟨rfl, rfl, ?_, ?_, ?_, ?_, (((fr.rf.up (by simp)).up (by simp)).up (by simp)).up (by simp)⟩
  · simp [hd_u]
  · simp [hd_u]
  · simp [hd_u]
  · simp [hd_u]
set_option maxRecDepth 20000 in
theorem s_copyFrom_l_30_1 (M : hd_M) (N : hd_N) (d : dy_T) (hd : hm M 1 d) (hn : d.1 ≤ 7) : ∀ (m j : Nat) (M' : hd_M), j + m = d.1 → fr (fun c _ => 30 ≤ c ∧ c ≤ 34) M M' → M' 30 5 = nI d.1 → M' 30 6 = nI d.2.1 → M' 30 7 = d.2.2.1 → M' 30 8 = d.2.2.2.1 → M' 30 9 = d.2.2.2.2.1 → (∀ x, x < j → M' 31 x = d.2.2.2.2.2 0 x ∧ M' 32 x = d.2.2.2.2.2 1 x ∧ M' 33 x = d.2.2.2.2.2 2 x ∧ M' 34 x = d.2.2.2.2.2 3 x) → hd_Go mX0_copyFrom 15 [some (.ref 30), some (.ref 1), some (.int (nI j))] [] M' N (fun r M1 N1 => r = none ∧ N1 = N ∧ fr (fun c _ => 30 ≤ c ∧ c ≤ 34) M M1 ∧ hm M1 30 d) := by
  intro m
  induction m with
  | zero =>
    intro j M' hj hf e5 e6 e7 e8 e9 hx
    refine hd_go kX0_copyFrom 999 (fun _ => rfl) rfl trivial ?_
    rw [e5]
    refine hd_ju kX0_copyFrom (fun _ => rfl) (fun c => ?_) (fun c => ?_)
    · refine hd_en_ kX0_copyFrom (fun _ => rfl) trivial ⟨rfl, rfl, hf, e5, e6, e7, e8, e9, ?_, ?_, ?_, ?_⟩
      · exact fun i hi => (hx i (by omega)).1
      · exact fun i hi => (hx i (by omega)).2.1
      · exact fun i hi => (hx i (by omega)).2.2.1
      · exact fun i hi => (hx i (by omega)).2.2.2
    · exact absurd (nI_le (by omega) (by omega)) c
  | succ m ih =>
    intro j M' hj hf e5 e6 e7 e8 e9 hx
    refine hd_go kX0_copyFrom 999 (fun _ => rfl) rfl trivial ?_
    rw [e5]
    refine hd_ju kX0_copyFrom (fun _ => rfl) (fun c => ?_) (fun c => ?_)
    · exact absurd c (nI_ge (by omega) (by omega))
    refine hd_go kX0_copyFrom 999 (fun _ => rfl) rfl trivial ?_
    refine hd_ca kX0_copyFrom qX0_copyFrom (fun _ => rfl) (s_copyThing_30_1 M' N j j (by omega) (by omega)) ?_
    rintro r M1 N1 ⟨rfl, rfl, g1, g2, g3, g4, hf1⟩
    refine hd_go kX0_copyFrom 999 (fun _ => rfl) rfl trivial ?_
    rw [nI_1]
    have q : ∀ x, M1 30 x = M' 30 x := fun x => hf1 30 x (by simp)
    refine ih (j + 1) M1 (by omega) (hf.tr (hf1.mo (fun c x h => by have h : 31 ≤ c ∧ c ≤ 34 ∧ x = j := h; show 30 ≤ c ∧ c ≤ 34; omega))) (by rw [q]; exact e5) (by rw [q]; exact e6) (by rw [q]; exact e7) (by rw [q]; exact e8) (by rw [q]; exact e9) (fun x h => ?_)
    by_cases e : x = j
    · subst e
      rw [g1, g2, g3, g4, hf 2 x (by simp), hf 3 x (by simp), hf 4 x (by simp), hf 5 x (by simp)]
      exact ⟨hd.2.2.2.2.2.1 x (by omega), hd.2.2.2.2.2.2.1 x (by omega), hd.2.2.2.2.2.2.2.1 x (by omega), hd.2.2.2.2.2.2.2.2 x (by omega)⟩
    · have q2 : ∀ c, M1 c x = M' c x := fun c => hf1 c x (fun z => e z.2.2)
      rw [q2, q2, q2, q2]
      exact hx x (by omega)
set_option maxRecDepth 20000 in
theorem s_copyFrom_30_1 (M : hd_M) (N : hd_N) (d : dy_T) (hd : hm M 1 d) (hn : d.1 ≤ 7) : hd_Ret mX0_copyFrom [.ref 30, .ref 1] M N (fun r M1 N1 => r = none ∧ N1 = N ∧ fr (fun c _ => 30 ≤ c ∧ c ≤ 34) M M1 ∧ hm M1 30 d) := by
  change hd_Go mX0_copyFrom 0 [some (.ref 30), some (.ref 1), none] [] M N _
  refine hd_go kX0_copyFrom 999 (fun _ => rfl) rfl trivial ?_
  refine hd_ca kX0_copyFrom qX0_copyFrom (fun _ => rfl) (s_copyDay_30_1 _ N) ?_
  rintro r M1 N1 ⟨rfl, rfl, g6, g7, g8, g9, hf1⟩
  refine hd_go kX0_copyFrom 15 (fun _ => rfl) rfl trivial ?_
  obtain ⟨a5, a6, a7, a8, a9, -⟩ := id hd
  refine s_copyFrom_l_30_1 M N1 d hd hn d.1 0 M1 (by omega) ((fr.rf.up (by simp)).tr (hf1.mo (fun c j h => by have h : c = 30 ∧ 6 ≤ j := h; show 30 ≤ c ∧ c ≤ 34; omega))) ?_ ?_ ?_ ?_ ?_ (fun x h => absurd h (Nat.not_lt_zero x))
  · rw [hf1 30 5 (by simp), hd_u_s]; exact a5
  · rw [g6, hd_u_n (by omega)]; exact a6
  · rw [g7, hd_u_n (by omega)]; exact a7
  · rw [g8, hd_u_n (by omega)]; exact a8
  · rw [g9, hd_u_n (by omega)]; exact a9
set_option maxRecDepth 20000 in
theorem s_copyDay_1_20 (M : hd_M) (N : hd_N) : hd_Ret mX0_copyDayOf [.ref 1, .ref 20] M N (fun r M1 N1 => r = none ∧ N1 = N ∧ M1 1 6 = M 20 6 ∧ M1 1 7 = M 20 7 ∧ M1 1 8 = M 20 8 ∧ M1 1 9 = M 20 9 ∧ fr (fun c j => c = 1 ∧ 6 ≤ j) M M1) := by
  change hd_Go mX0_copyDayOf 0 [some (.ref 1), some (.ref 20)] [] M N _
  refine hd_go kX0_copyDayOf 999 (fun _ => rfl) rfl trivial ?_
  refine hd_en_ kX0_copyDayOf (fun _ => rfl) trivial ⟨rfl, rfl, ?_, ?_, ?_, ?_, (((fr.rf.up (by simp)).up (by simp)).up (by simp)).up (by simp)⟩
  · simp [hd_u]
  · simp [hd_u]
  · simp [hd_u]
  · simp [hd_u]
set_option maxRecDepth 20000 in
theorem s_copyThing_1_20 (M : hd_M) (N : hd_N) (t i : Nat) (ht : t < 7) (hi : i < 7) : hd_Ret mX0_copyThing [.ref 1, .int (nI t), .ref 20, .int (nI i)] M N (fun r M1 N1 => r = none ∧ N1 = N ∧ M1 2 t = M 21 i ∧ M1 3 t = M 22 i ∧ M1 4 t = M 23 i ∧ M1 5 t = M 24 i ∧ fr (fun c j => 2 ≤ c ∧ c ≤ 5 ∧ j = t) M M1) := by
  change hd_Go mX0_copyThing 0 [some (.ref 1), some (.int (nI t)), some (.ref 20), some (.int (nI i))] [] M N _
  have ei : (nI i).toNatClampNeg = i := nI_clamp (by omega)
  have et : (nI t).toNatClampNeg = t := nI_clamp (by omega)
  have hv : vp_in (nI i) 7 := vp_in_nI hi (by decide)
  have hw : vp_in (nI t) 7 := vp_in_nI ht (by decide)
  refine hd_go kX0_copyThing 999 (fun _ => rfl) rfl ⟨⟨⟨⟨⟨⟨⟨⟨trivial, hv⟩, hw⟩, hv⟩, hw⟩, hv⟩, hw⟩, hv⟩, hw⟩ ?_
  rw [ei, et]
  refine hd_en_ kX0_copyThing (fun _ => rfl) trivial ⟨rfl, rfl, ?_, ?_, ?_, ?_, (((fr.rf.up (by simp)).up (by simp)).up (by simp)).up (by simp)⟩
  · simp [hd_u]
  · simp [hd_u]
  · simp [hd_u]
  · simp [hd_u]
set_option maxRecDepth 20000 in
theorem s_copyFrom_l_1_20 (M : hd_M) (N : hd_N) (d : dy_T) (hd : hm M 20 d) (hn : d.1 ≤ 7) : ∀ (m j : Nat) (M' : hd_M), j + m = d.1 → fr (fun c _ => 1 ≤ c ∧ c ≤ 5) M M' → M' 1 5 = nI d.1 → M' 1 6 = nI d.2.1 → M' 1 7 = d.2.2.1 → M' 1 8 = d.2.2.2.1 → M' 1 9 = d.2.2.2.2.1 → (∀ x, x < j → M' 2 x = d.2.2.2.2.2 0 x ∧ M' 3 x = d.2.2.2.2.2 1 x ∧ M' 4 x = d.2.2.2.2.2 2 x ∧ M' 5 x = d.2.2.2.2.2 3 x) → hd_Go mX0_copyFrom 15 [some (.ref 1), some (.ref 20), some (.int (nI j))] [] M' N (fun r M1 N1 => r = none ∧ N1 = N ∧ fr (fun c _ => 1 ≤ c ∧ c ≤ 5) M M1 ∧ hm M1 1 d) := by
  intro m
  induction m with
  | zero =>
    intro j M' hj hf e5 e6 e7 e8 e9 hx
    refine hd_go kX0_copyFrom 999 (fun _ => rfl) rfl trivial ?_
    rw [e5]
    refine hd_ju kX0_copyFrom (fun _ => rfl) (fun c => ?_) (fun c => ?_)
    · refine hd_en_ kX0_copyFrom (fun _ => rfl) trivial ⟨rfl, rfl, hf, e5, e6, e7, e8, e9, ?_, ?_, ?_, ?_⟩
      · exact fun i hi => (hx i (by omega)).1
      · exact fun i hi => (hx i (by omega)).2.1
      · exact fun i hi => (hx i (by omega)).2.2.1
      · exact fun i hi => (hx i (by omega)).2.2.2
    · exact absurd (nI_le (by omega) (by omega)) c
  | succ m ih =>
    intro j M' hj hf e5 e6 e7 e8 e9 hx
    refine hd_go kX0_copyFrom 999 (fun _ => rfl) rfl trivial ?_
    rw [e5]
    refine hd_ju kX0_copyFrom (fun _ => rfl) (fun c => ?_) (fun c => ?_)
    · exact absurd c (nI_ge (by omega) (by omega))
    refine hd_go kX0_copyFrom 999 (fun _ => rfl) rfl trivial ?_
    refine hd_ca kX0_copyFrom qX0_copyFrom (fun _ => rfl) (s_copyThing_1_20 M' N j j (by omega) (by omega)) ?_
    rintro r M1 N1 ⟨rfl, rfl, g1, g2, g3, g4, hf1⟩
    refine hd_go kX0_copyFrom 999 (fun _ => rfl) rfl trivial ?_
    rw [nI_1]
    have q : ∀ x, M1 1 x = M' 1 x := fun x => hf1 1 x (by simp)
    refine ih (j + 1) M1 (by omega) (hf.tr (hf1.mo (fun c x h => by have h : 2 ≤ c ∧ c ≤ 5 ∧ x = j := h; show 1 ≤ c ∧ c ≤ 5; omega))) (by rw [q]; exact e5) (by rw [q]; exact e6) (by rw [q]; exact e7) (by rw [q]; exact e8) (by rw [q]; exact e9) (fun x h => ?_)
    by_cases e : x = j
    · subst e
      rw [g1, g2, g3, g4, hf 21 x (by simp), hf 22 x (by simp), hf 23 x (by simp), hf 24 x (by simp)]
      exact ⟨hd.2.2.2.2.2.1 x (by omega), hd.2.2.2.2.2.2.1 x (by omega), hd.2.2.2.2.2.2.2.1 x (by omega), hd.2.2.2.2.2.2.2.2 x (by omega)⟩
    · have q2 : ∀ c, M1 c x = M' c x := fun c => hf1 c x (fun z => e z.2.2)
      rw [q2, q2, q2, q2]
      exact hx x (by omega)
set_option maxRecDepth 20000 in
theorem s_copyFrom_1_20 (M : hd_M) (N : hd_N) (d : dy_T) (hd : hm M 20 d) (hn : d.1 ≤ 7) : hd_Ret mX0_copyFrom [.ref 1, .ref 20] M N (fun r M1 N1 => r = none ∧ N1 = N ∧ fr (fun c _ => 1 ≤ c ∧ c ≤ 5) M M1 ∧ hm M1 1 d) := by
  change hd_Go mX0_copyFrom 0 [some (.ref 1), some (.ref 20), none] [] M N _
  refine hd_go kX0_copyFrom 999 (fun _ => rfl) rfl trivial ?_
  refine hd_ca kX0_copyFrom qX0_copyFrom (fun _ => rfl) (s_copyDay_1_20 _ N) ?_
  rintro r M1 N1 ⟨rfl, rfl, g6, g7, g8, g9, hf1⟩
  refine hd_go kX0_copyFrom 15 (fun _ => rfl) rfl trivial ?_
  obtain ⟨a5, a6, a7, a8, a9, -⟩ := id hd
  refine s_copyFrom_l_1_20 M N1 d hd hn d.1 0 M1 (by omega) ((fr.rf.up (by simp)).tr (hf1.mo (fun c j h => by have h : c = 1 ∧ 6 ≤ j := h; show 1 ≤ c ∧ c ≤ 5; omega))) ?_ ?_ ?_ ?_ ?_ (fun x h => absurd h (Nat.not_lt_zero x))
  · rw [hf1 1 5 (by simp), hd_u_s]; exact a5
  · rw [g6, hd_u_n (by omega)]; exact a6
  · rw [g7, hd_u_n (by omega)]; exact a7
  · rw [g8, hd_u_n (by omega)]; exact a8
  · rw [g9, hd_u_n (by omega)]; exact a9
set_option maxRecDepth 20000 in
theorem s_copyDay_1_30 (M : hd_M) (N : hd_N) : hd_Ret mX0_copyDayOf [.ref 1, .ref 30] M N (fun r M1 N1 => r = none ∧ N1 = N ∧ M1 1 6 = M 30 6 ∧ M1 1 7 = M 30 7 ∧ M1 1 8 = M 30 8 ∧ M1 1 9 = M 30 9 ∧ fr (fun c j => c = 1 ∧ 6 ≤ j) M M1) := by
  change hd_Go mX0_copyDayOf 0 [some (.ref 1), some (.ref 30)] [] M N _
  refine hd_go kX0_copyDayOf 999 (fun _ => rfl) rfl trivial ?_
  refine hd_en_ kX0_copyDayOf (fun _ => rfl) trivial ⟨rfl, rfl, ?_, ?_, ?_, ?_, (((fr.rf.up (by simp)).up (by simp)).up (by simp)).up (by simp)⟩
  · simp [hd_u]
  · simp [hd_u]
  · simp [hd_u]
  · simp [hd_u]
set_option maxRecDepth 20000 in
theorem s_copyThing_1_30 (M : hd_M) (N : hd_N) (t i : Nat) (ht : t < 7) (hi : i < 7) : hd_Ret mX0_copyThing [.ref 1, .int (nI t), .ref 30, .int (nI i)] M N (fun r M1 N1 => r = none ∧ N1 = N ∧ M1 2 t = M 31 i ∧ M1 3 t = M 32 i ∧ M1 4 t = M 33 i ∧ M1 5 t = M 34 i ∧ fr (fun c j => 2 ≤ c ∧ c ≤ 5 ∧ j = t) M M1) := by
  change hd_Go mX0_copyThing 0 [some (.ref 1), some (.int (nI t)), some (.ref 30), some (.int (nI i))] [] M N _
  have ei : (nI i).toNatClampNeg = i := nI_clamp (by omega)
  have et : (nI t).toNatClampNeg = t := nI_clamp (by omega)
  have hv : vp_in (nI i) 7 := vp_in_nI hi (by decide)
  have hw : vp_in (nI t) 7 := vp_in_nI ht (by decide)
  refine hd_go kX0_copyThing 999 (fun _ => rfl) rfl ⟨⟨⟨⟨⟨⟨⟨⟨trivial, hv⟩, hw⟩, hv⟩, hw⟩, hv⟩, hw⟩, hv⟩, hw⟩ ?_
  rw [ei, et]
  refine hd_en_ kX0_copyThing (fun _ => rfl) trivial ⟨rfl, rfl, ?_, ?_, ?_, ?_, (((fr.rf.up (by simp)).up (by simp)).up (by simp)).up (by simp)⟩
  · simp [hd_u]
  · simp [hd_u]
  · simp [hd_u]
  · simp [hd_u]
set_option maxRecDepth 20000 in
theorem s_copyFrom_l_1_30 (M : hd_M) (N : hd_N) (d : dy_T) (hd : hm M 30 d) (hn : d.1 ≤ 7) : ∀ (m j : Nat) (M' : hd_M), j + m = d.1 → fr (fun c _ => 1 ≤ c ∧ c ≤ 5) M M' → M' 1 5 = nI d.1 → M' 1 6 = nI d.2.1 → M' 1 7 = d.2.2.1 → M' 1 8 = d.2.2.2.1 → M' 1 9 = d.2.2.2.2.1 → (∀ x, x < j → M' 2 x = d.2.2.2.2.2 0 x ∧ M' 3 x = d.2.2.2.2.2 1 x ∧ M' 4 x = d.2.2.2.2.2 2 x ∧ M' 5 x = d.2.2.2.2.2 3 x) → hd_Go mX0_copyFrom 15 [some (.ref 1), some (.ref 30), some (.int (nI j))] [] M' N (fun r M1 N1 => r = none ∧ N1 = N ∧ fr (fun c _ => 1 ≤ c ∧ c ≤ 5) M M1 ∧ hm M1 1 d) := by
  intro m
  induction m with
  | zero =>
    intro j M' hj hf e5 e6 e7 e8 e9 hx
    refine hd_go kX0_copyFrom 999 (fun _ => rfl) rfl trivial ?_
    rw [e5]
    refine hd_ju kX0_copyFrom (fun _ => rfl) (fun c => ?_) (fun c => ?_)
    · refine hd_en_ kX0_copyFrom (fun _ => rfl) trivial ⟨rfl, rfl, hf, e5, e6, e7, e8, e9, ?_, ?_, ?_, ?_⟩
      · exact fun i hi => (hx i (by omega)).1
      · exact fun i hi => (hx i (by omega)).2.1
      · exact fun i hi => (hx i (by omega)).2.2.1
      · exact fun i hi => (hx i (by omega)).2.2.2
    · exact absurd (nI_le (by omega) (by omega)) c
  | succ m ih =>
    intro j M' hj hf e5 e6 e7 e8 e9 hx
    refine hd_go kX0_copyFrom 999 (fun _ => rfl) rfl trivial ?_
    rw [e5]
    refine hd_ju kX0_copyFrom (fun _ => rfl) (fun c => ?_) (fun c => ?_)
    · exact absurd c (nI_ge (by omega) (by omega))
    refine hd_go kX0_copyFrom 999 (fun _ => rfl) rfl trivial ?_
    refine hd_ca kX0_copyFrom qX0_copyFrom (fun _ => rfl) (s_copyThing_1_30 M' N j j (by omega) (by omega)) ?_
    rintro r M1 N1 ⟨rfl, rfl, g1, g2, g3, g4, hf1⟩
    refine hd_go kX0_copyFrom 999 (fun _ => rfl) rfl trivial ?_
    rw [nI_1]
    have q : ∀ x, M1 1 x = M' 1 x := fun x => hf1 1 x (by simp)
    refine ih (j + 1) M1 (by omega) (hf.tr (hf1.mo (fun c x h => by have h : 2 ≤ c ∧ c ≤ 5 ∧ x = j := h; show 1 ≤ c ∧ c ≤ 5; omega))) (by rw [q]; exact e5) (by rw [q]; exact e6) (by rw [q]; exact e7) (by rw [q]; exact e8) (by rw [q]; exact e9) (fun x h => ?_)
    by_cases e : x = j
    · subst e
      rw [g1, g2, g3, g4, hf 31 x (by simp), hf 32 x (by simp), hf 33 x (by simp), hf 34 x (by simp)]
      exact ⟨hd.2.2.2.2.2.1 x (by omega), hd.2.2.2.2.2.2.1 x (by omega), hd.2.2.2.2.2.2.2.1 x (by omega), hd.2.2.2.2.2.2.2.2 x (by omega)⟩
    · have q2 : ∀ c, M1 c x = M' c x := fun c => hf1 c x (fun z => e z.2.2)
      rw [q2, q2, q2, q2]
      exact hx x (by omega)
set_option maxRecDepth 20000 in
theorem s_copyFrom_1_30 (M : hd_M) (N : hd_N) (d : dy_T) (hd : hm M 30 d) (hn : d.1 ≤ 7) : hd_Ret mX0_copyFrom [.ref 1, .ref 30] M N (fun r M1 N1 => r = none ∧ N1 = N ∧ fr (fun c _ => 1 ≤ c ∧ c ≤ 5) M M1 ∧ hm M1 1 d) := by
  change hd_Go mX0_copyFrom 0 [some (.ref 1), some (.ref 30), none] [] M N _
  refine hd_go kX0_copyFrom 999 (fun _ => rfl) rfl trivial ?_
  refine hd_ca kX0_copyFrom qX0_copyFrom (fun _ => rfl) (s_copyDay_1_30 _ N) ?_
  rintro r M1 N1 ⟨rfl, rfl, g6, g7, g8, g9, hf1⟩
  refine hd_go kX0_copyFrom 15 (fun _ => rfl) rfl trivial ?_
  obtain ⟨a5, a6, a7, a8, a9, -⟩ := id hd
  refine s_copyFrom_l_1_30 M N1 d hd hn d.1 0 M1 (by omega) ((fr.rf.up (by simp)).tr (hf1.mo (fun c j h => by have h : c = 1 ∧ 6 ≤ j := h; show 1 ≤ c ∧ c ≤ 5; omega))) ?_ ?_ ?_ ?_ ?_ (fun x h => absurd h (Nat.not_lt_zero x))
  · rw [hf1 1 5 (by simp), hd_u_s]; exact a5
  · rw [g6, hd_u_n (by omega)]; exact a6
  · rw [g7, hd_u_n (by omega)]; exact a7
  · rw [g8, hd_u_n (by omega)]; exact a8
  · rw [g9, hd_u_n (by omega)]; exact a9
set_option maxRecDepth 20000 in
theorem s_copyOrd_l (M : hd_M) (N : hd_N) (d : dy_T) (hd : hm M 1 d) (hn : d.1 ≤ 5) (p : Nat → Nat) (hp : ∀ i, i < d.1 → M 48 i = nI (p i) ∧ p i < d.1) : ∀ (m j : Nat) (M' : hd_M), j + m = d.1 → fr (fun c _ => 7 ≤ c ∧ c ≤ 11) M M' → M' 7 5 = nI d.1 → M' 7 6 = nI d.2.1 → M' 7 7 = d.2.2.1 → M' 7 8 = d.2.2.2.1 → M' 7 9 = d.2.2.2.2.1 → (∀ x, x < j → M' 8 x = d.2.2.2.2.2 0 (p x) ∧ M' 9 x = d.2.2.2.2.2 1 (p x) ∧ M' 10 x = d.2.2.2.2.2 2 (p x) ∧ M' 11 x = d.2.2.2.2.2 3 (p x)) → hd_Go mX0_copyOrdered 15 [some (.ref 7), some (.ref 1), some (.ref 48), some (.int (nI j))] [] M' N (fun r M1 N1 => r = none ∧ N1 = N ∧ fr (fun c _ => 7 ≤ c ∧ c ≤ 11) M M1 ∧ hm M1 7 (dy_prm p d)) := by
  intro m
  induction m with
  | zero =>
    intro j M' hj hf e5 e6 e7 e8 e9 hx
    refine hd_go kX0_copyOrdered 999 (fun _ => rfl) rfl trivial ?_
    rw [e5]
    refine hd_ju kX0_copyOrdered (fun _ => rfl) (fun c => ?_) (fun c => ?_)
    · refine hd_en_ kX0_copyOrdered (fun _ => rfl) trivial ⟨rfl, rfl, hf, e5, e6, e7, e8, e9, ?_, ?_, ?_, ?_⟩
      · exact fun i hi => (hx i (Nat.lt_of_lt_of_le hi (by show d.1 ≤ j; omega))).1
      · exact fun i hi => (hx i (Nat.lt_of_lt_of_le hi (by show d.1 ≤ j; omega))).2.1
      · exact fun i hi => (hx i (Nat.lt_of_lt_of_le hi (by show d.1 ≤ j; omega))).2.2.1
      · exact fun i hi => (hx i (Nat.lt_of_lt_of_le hi (by show d.1 ≤ j; omega))).2.2.2
    · exact absurd (nI_le (by omega) (by omega)) c
  | succ m ih =>
    intro j M' hj hf e5 e6 e7 e8 e9 hx
    obtain ⟨p1, p2⟩ := hp j (by omega)
    refine hd_go kX0_copyOrdered 999 (fun _ => rfl) rfl trivial ?_
    rw [e5]
    refine hd_ju kX0_copyOrdered (fun _ => rfl) (fun c => ?_) (fun c => ?_)
    · exact absurd c (nI_ge (by omega) (by omega))
    refine hd_go kX0_copyOrdered 999 (fun _ => rfl) rfl ⟨trivial, by decide⟩ ?_
    refine hd_ju kX0_copyOrdered (fun _ => rfl) (fun c => ?_) (fun c => ?_)
    · exact absurd c (nI_ge (b := 5) (by omega) (by omega))
    refine hd_go kX0_copyOrdered 999 (fun _ => rfl) rfl ⟨trivial, vp_in_nI (by omega) (by decide)⟩ ?_
    rw [nI_clamp (by omega), hf 48 j (by simp), p1]
    refine hd_ca kX0_copyOrdered qX0_copyOrdered (fun _ => rfl) (s_copyThing_7_1 M' N j (p j) (by omega) (by omega)) ?_
    rintro r M1 N1 ⟨rfl, rfl, g1, g2, g3, g4, hf1⟩
    refine hd_go kX0_copyOrdered 999 (fun _ => rfl) rfl trivial ?_
    rw [nI_1]
    have q : ∀ x, M1 7 x = M' 7 x := fun x => hf1 7 x (by simp)
    refine ih (j + 1) M1 (by omega) (hf.tr (hf1.mo (fun c x h => by have h : 8 ≤ c ∧ c ≤ 11 ∧ x = j := h; show 7 ≤ c ∧ c ≤ 11; omega))) (by rw [q]; exact e5) (by rw [q]; exact e6) (by rw [q]; exact e7) (by rw [q]; exact e8) (by rw [q]; exact e9) (fun x h => ?_)
    by_cases e : x = j
    · subst e
      rw [g1, g2, g3, g4, hf 2 _ (by simp), hf 3 _ (by simp), hf 4 _ (by simp), hf 5 _ (by simp)]
      exact ⟨hd.2.2.2.2.2.1 _ p2, hd.2.2.2.2.2.2.1 _ p2, hd.2.2.2.2.2.2.2.1 _ p2, hd.2.2.2.2.2.2.2.2 _ p2⟩
    · have q2 : ∀ c, M1 c x = M' c x := fun c => hf1 c x (fun z => e z.2.2)
      rw [q2, q2, q2, q2]
      exact hx x (by omega)
set_option maxRecDepth 20000 in
theorem s_copyOrd (M : hd_M) (N : hd_N) (d : dy_T) (hd : hm M 1 d) (hn : d.1 ≤ 5) (p : Nat → Nat) (hp : ∀ i, i < d.1 → M 48 i = nI (p i) ∧ p i < d.1) : hd_Ret mX0_copyOrdered [.ref 7, .ref 1, .ref 48] M N (fun r M1 N1 => r = none ∧ N1 = N ∧ fr (fun c _ => 7 ≤ c ∧ c ≤ 11) M M1 ∧ hm M1 7 (dy_prm p d)) := by
  change hd_Go mX0_copyOrdered 0 [some (.ref 7), some (.ref 1), some (.ref 48), none] [] M N _
  refine hd_go kX0_copyOrdered 999 (fun _ => rfl) rfl trivial ?_
  refine hd_ca kX0_copyOrdered qX0_copyOrdered (fun _ => rfl) (s_copyDay_7_1 _ N) ?_
  rintro r M1 N1 ⟨rfl, rfl, g6, g7, g8, g9, hf1⟩
  refine hd_go kX0_copyOrdered 15 (fun _ => rfl) rfl trivial ?_
  obtain ⟨a5, a6, a7, a8, a9, -⟩ := id hd
  refine s_copyOrd_l M N1 d hd hn p hp d.1 0 M1 (by omega) ((fr.rf.up (by simp)).tr (hf1.mo (fun c j h => by have h : c = 7 ∧ 6 ≤ j := h; show 7 ≤ c ∧ c ≤ 11; omega))) ?_ ?_ ?_ ?_ ?_ (fun x h => absurd h (Nat.not_lt_zero x))
  · rw [hf1 7 5 (by simp), hd_u_s]; exact a5
  · rw [g6, hd_u_n (by omega)]; exact a6
  · rw [g7, hd_u_n (by omega)]; exact a7
  · rw [g8, hd_u_n (by omega)]; exact a8
  · rw [g9, hd_u_n (by omega)]; exact a9
set_option maxRecDepth 20000 in
theorem s_clear (M : hd_M) (N : hd_N) (f : Nat → Nat → Int32) : hd_Ret mX0_clear [.ref 7] M N (fun r M1 N1 => r = none ∧ N1 = N ∧ fr (fun c _ => c = 7) M M1 ∧ hm M1 7 (0, 0, 30, 1, 0, f)) := by
  change hd_Go mX0_clear 0 [some (.ref 7)] [] M N _
  refine hd_go kX0_clear 999 (fun _ => rfl) rfl trivial ?_
  refine hd_en_ kX0_clear (fun _ => rfl) trivial ⟨rfl, rfl, ((((fr.rf.up (by simp)).up (by simp)).up (by simp)).up (by simp)).up (by simp), ?_⟩
  refine ⟨?_, ?_, ?_, ?_, ?_, fun i hi => absurd hi (Nat.not_lt_zero i), fun i hi => absurd hi (Nat.not_lt_zero i), fun i hi => absurd hi (Nat.not_lt_zero i), fun i hi => absurd hi (Nat.not_lt_zero i)⟩
  · simp [hd_u]; rfl
  · simp [hd_u]; rfl
  · simp [hd_u]
  · simp [hd_u]
  · simp [hd_u]
/-- a number between 0 and 32767 blows -/
def dy_blow (g : Nat) (d : dy_T) : dy_T := if g / 128 % 4 = 0 then dy_in (dy_set 1 (g % d.1) (nI (g / 8 % 10)) d) else dy_set 1 (g % d.1) (nI (g / 8 % 10)) d
set_option maxRecDepth 20000 in
theorem s_blow (M : hd_M) (N : hd_N) (d : dy_T) (hd : hm M 7 d) (hn : d.1 ≤ 7) (h0 : 0 < d.1) (g : Nat) (hg : g < 32768) : hd_Ret mX0_blow [.ref 7, .int (nI g)] M N (fun r M1 N1 => r = none ∧ N1 = N ∧ fr (fun c _ => 7 ≤ c ∧ c ≤ 11) M M1 ∧ hm M1 7 (dy_blow g d)) := by
  change hd_Go mX0_blow 0 [some (.ref 7), some (.int (nI g))] [] M N _
  have a5 : M 7 5 = nI d.1 := hd.1
  refine hd_go kX0_blow 999 (fun _ => rfl) rfl trivial ?_
  rw [a5]
  refine hd_ju kX0_blow (fun _ => rfl) (fun c => ?_) (fun c => absurd c (nI_ne0 h0 (by omega)))
  have hm7 : g % d.1 < d.1 := Nat.mod_lt _ h0
  have e1 : nI g - nI g / nI d.1 * nI d.1 = nI (g % d.1) := pk_rem (by omega) h0 (by omega)
  have e2 : nI g / 8 = nI (g / 8) := pk_div (d := 8) (by omega) (by decide) (by decide)
  have e3 : nI (g / 8) - nI (g / 8) / 10 * 10 = nI (g / 8 % 10) := pk_rem (d := 10) (by omega) (by decide) (by decide)
  have e4 : nI g / 128 = nI (g / 128) := pk_div (d := 128) (by omega) (by decide) (by decide)
  have e5 : nI (g / 128) - nI (g / 128) / 4 * 4 = nI (g / 128 % 4) := pk_rem (d := 4) (by omega) (by decide) (by decide)
  refine hd_go kX0_blow 999 (fun _ => rfl) rfl ?_ ?_
  · rw [a5, e1]
    exact ⟨⟨⟨⟨⟨⟨trivial, nI_ne0 h0 (by omega)⟩, by decide⟩, by decide⟩, vp_in_nI (by omega) (by decide)⟩, by decide⟩, by decide⟩
  rw [a5, e1, e2, e3, e4, e5, nI_clamp (by omega)]
  have hset := h_set_7 hd 1 (g % d.1) (by decide) (nI (g / 8 % 10))
  have hfr : fr (fun c _ => 7 ≤ c ∧ c ≤ 11) M (hd_u M 9 (g % d.1) (nI (g / 8 % 10))) := fr.rf.up (by simp)
  refine hd_ju kX0_blow (fun _ => rfl) (fun c => ?_) (fun c => ?_)
  · have hne : ¬ g / 128 % 4 = 0 := fun z => c (by rw [z]; rfl)
    refine hd_en_ kX0_blow (fun _ => rfl) trivial ⟨rfl, rfl, hfr, ?_⟩
    unfold dy_blow
    rw [if_neg hne]
    exact hset
  · have he : g / 128 % 4 = 0 := by
      rcases Nat.eq_zero_or_pos (g / 128 % 4) with z | z
      · exact z
      · exact absurd c (nI_ne0 z (by omega))
    refine hd_go kX0_blow 999 (fun _ => rfl) rfl trivial ?_
    refine hd_ca kX0_blow qX0_blow (fun _ => rfl) (s_bring_7 _ N _ hset hn) ?_
    rintro r M1 N1 ⟨rfl, rfl, hf1, hd1⟩
    refine hd_en_ kX0_blow (fun _ => rfl) trivial ⟨rfl, rfl, hfr.tr hf1, ?_⟩
    unfold dy_blow
    rw [if_pos he]
    exact hd1
