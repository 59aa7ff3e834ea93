/-! THE CLASS'S QUESTIONS; printed by wip/whole/api2.py -/
set_option maxRecDepth 20000 in
theorem c_runs (n w : Int32) : cA mX5_runs [.int n, .int w] (an_runs n w) := by
  intro M N st hI hO
  change hd_Go mX5_runs 0 [some (.ref 0), some (.int n), some (.int w)] [] M N _
  unfold an_runs
  refine hd_go kX5_runs 999 (fun _ => rfl) rfl trivial ?_
  refine hd_ci kX5_runs qX5_runs (fun _ => rfl) (s_isSpan _ M N) ?_
  refine hd_ju kX5_runs (fun _ => rfl) (fun q => ?_) (fun q => ?_)
  · have q := hd_b1.mp q
    obtain ⟨j, hj, rfl⟩ := wi_nat (n := 60) rfl q
    rw [if_pos q, nI_clamp (by omega)]
    refine hd_go kX5_runs 999 (fun _ => rfl) rfl trivial ?_
    refine hd_sc kX5_runs (fun _ => rfl) ⟨fun c => ?_, fun c0 => ⟨fun c => ?_, fun c1 => ⟨fun c => ?_, fun c2 => ⟨fun c => ?_, fun c3 => ⟨fun c => ?_, fun c4 => ?_⟩⟩⟩⟩⟩
    · subst c
      refine hd_go kX5_runs 999 (fun _ => rfl) rfl trivial ?_
      refine hd_ca kX5_runs qX5_runs (fun _ => rfl) (s_moodBehind M N _ hI.1 hO.1 j hj) ?_
      rintro r M1 N1 ⟨rfl, rfl, hf⟩
      refine hd_en_ kX5_runs (fun _ => rfl) trivial ⟨congrArg (fun x => some (Value.int x)) ?_, rfl, hI.q hf⟩
      simp [dy_out]
    · subst c
      refine hd_go kX5_runs 999 (fun _ => rfl) rfl trivial ?_
      refine hd_ca kX5_runs qX5_runs (fun _ => rfl) (s_utmost M N _ hI.1 hO.1 j hj 1) ?_
      rintro r M1 N1 ⟨rfl, rfl, hf⟩
      refine hd_en_ kX5_runs (fun _ => rfl) trivial ⟨congrArg (fun x => some (Value.int x)) ?_, rfl, hI.q hf⟩
      simp [dy_out]
    · subst c
      refine hd_go kX5_runs 999 (fun _ => rfl) rfl trivial ?_
      refine hd_ca kX5_runs qX5_runs (fun _ => rfl) (s_utmost M N _ hI.1 hO.1 j hj 0) ?_
      rintro r M1 N1 ⟨rfl, rfl, hf⟩
      refine hd_en_ kX5_runs (fun _ => rfl) trivial ⟨congrArg (fun x => some (Value.int x)) ?_, rfl, hI.q hf⟩
      simp [dy_out]
    · subst c
      refine hd_go kX5_runs 999 (fun _ => rfl) rfl trivial ?_
      refine hd_ca kX5_runs qX5_runs (fun _ => rfl) (s_outBehind M N _ hI.1 hO.1 j hj) ?_
      rintro r M1 N1 ⟨rfl, rfl, hf⟩
      refine hd_en_ kX5_runs (fun _ => rfl) trivial ⟨congrArg (fun x => some (Value.int x)) ?_, rfl, hI.q hf⟩
      simp [dy_out]
    · subst c
      refine hd_go kX5_runs 999 (fun _ => rfl) rfl trivial ?_
      refine hd_ca kX5_runs qX5_runs (fun _ => rfl) (s_first0 M N _ hI.1 hO.1 j hj) ?_
      rintro r M1 N1 ⟨rfl, rfl, hf⟩
      refine hd_en_ kX5_runs (fun _ => rfl) trivial ⟨congrArg (fun x => some (Value.int x)) ?_, rfl, hI.q hf⟩
      simp [dy_out]
    · refine hd_go kX5_runs 999 (fun _ => rfl) rfl trivial ?_
      refine hd_en_ kX5_runs (fun _ => rfl) trivial ⟨?_, rfl, fr.rf, hI⟩
      simp only [c0, c1, c2, c3, c4, if_false]
  · have q := hd_b0.mp q
    rw [if_neg q]
    refine hd_go kX5_runs 999 (fun _ => rfl) rfl trivial ?_
    exact hd_en_ kX5_runs (fun _ => rfl) trivial ⟨rfl, rfl, fr.rf, hI⟩
set_option maxRecDepth 20000 in
theorem s_isGn7 (M : hd_M) (N : hd_N) (d : dy_T) (hd : hm M 7 d) (i : Nat) (hi : i < d.1) (hn : d.1 ≤ 7) : hd_Ret mX0_isGone [.ref 7, .int (nI i)] M N (hd_is (.int (hd_b (dy_gn i d = true))) M N) := by
  have h := s_isGone_7 M N i (by omega)
  rw [hd.2.1, show M 11 i = d.2.2.2.2.2 3 i from hd.2.2.2.2.2.2.2.2 i hi] at h
  have e : hd_b (¬ nI i < nI d.2.1 ∧ d.2.2.2.2.2 3 i = 0) = hd_b (dy_gn i d = true) := by
    unfold hd_b
    simp only [dy_gn, decide_eq_true_eq]
  rw [e] at h
  exact h
set_option maxRecDepth 20000 in
theorem s_isGn1 (M : hd_M) (N : hd_N) (d : dy_T) (hd : hm M 1 d) (i : Nat) (hi : i < d.1) (hn : d.1 ≤ 7) : hd_Ret mX0_isGone [.ref 1, .int (nI i)] M N (hd_is (.int (hd_b (dy_gn i d = true))) M N) := by
  have h := s_isGone_1 M N i (by omega)
  rw [hd.2.1, show M 5 i = d.2.2.2.2.2 3 i from hd.2.2.2.2.2.2.2.2 i hi] at h
  have e : hd_b (¬ nI i < nI d.2.1 ∧ d.2.2.2.2.2 3 i = 0) = hd_b (dy_gn i d = true) := by
    unfold hd_b
    simp only [dy_gn, decide_eq_true_eq]
  rw [e] at h
  exact h
set_option maxRecDepth 20000 in
theorem c_gone_l (M : hd_M) (N : hd_N) (i n7 : Nat) (hi : i < n7) (h7 : n7 ≤ 7) : ∀ (m j : Nat) (d : dy_T) (M' : hd_M), j + m = 60 → trS M M' d → d.1 = n7 → hd_Go mX5_gone 30 [some (.ref 0), some (.int (nI i)), some (.int (nI j))] [] M' N (fun r M1 N1 => r = some (.int (dy_first (dy_gn i) m j (dy_ho false d))) ∧ N1 = N ∧ fr tri M M1) := by
  intro m
  induction m with
  | zero =>
    intro j d M' hj ht hn
    have hj : j = 60 := by omega
    subst hj
    refine hd_go kX5_gone 999 (fun _ => rfl) rfl trivial ?_
    refine hd_ju kX5_gone (fun _ => rfl) (fun c => absurd c (by decide)) (fun c => ?_)
    refine hd_go kX5_gone 999 (fun _ => rfl) rfl trivial ?_
    refine hd_ca kX5_gone qX5_gone (fun _ => rfl) (s_one M M' N d ht 0 false rfl) ?_
    rintro r M1 N1 ⟨rfl, rfl, ht1⟩
    refine hd_go kX5_gone 999 (fun _ => rfl) rfl trivial ?_
    refine hd_ci kX5_gone qX5_gone (fun _ => rfl) (s_isGn7 M1 N1 _ ht1.2.1 i (by show i < d.1; omega) (by show d.1 ≤ 7; omega)) ?_
    rw [dy_first]
    refine hd_ju kX5_gone (fun _ => rfl) (fun c => ?_) (fun c => ?_)
    · rw [if_neg (hd_b0.mp c)]
      refine hd_go kX5_gone 999 (fun _ => rfl) rfl trivial ?_
      refine hd_go kX5_gone 999 (fun _ => rfl) rfl trivial ?_
      refine hd_ju kX5_gone (fun _ => rfl) (fun c => ?_) (fun c => absurd (by decide) c)
      refine hd_go kX5_gone 999 (fun _ => rfl) rfl trivial ?_
      exact hd_en_ kX5_gone (fun _ => rfl) trivial ⟨rfl, rfl, ht1.1⟩
    · rw [if_pos (hd_b1.mp c)]
      refine hd_go kX5_gone 999 (fun _ => rfl) rfl trivial ?_
      exact hd_en_ kX5_gone (fun _ => rfl) trivial ⟨rfl, rfl, ht1.1⟩
  | succ m ih =>
    intro j d M' hj ht hn
    refine hd_go kX5_gone 999 (fun _ => rfl) rfl trivial ?_
    refine hd_ju kX5_gone (fun _ => rfl) (fun c => absurd c (nI_nlt (b := j) (a := 60) (by omega) (by decide))) (fun c => ?_)
    refine hd_go kX5_gone 999 (fun _ => rfl) rfl trivial ?_
    refine hd_ca kX5_gone qX5_gone (fun _ => rfl) (s_one M M' N d ht 0 false rfl) ?_
    rintro r M1 N1 ⟨rfl, rfl, ht1⟩
    refine hd_go kX5_gone 999 (fun _ => rfl) rfl trivial ?_
    refine hd_ci kX5_gone qX5_gone (fun _ => rfl) (s_isGn7 M1 N1 _ ht1.2.1 i (by show i < d.1; omega) (by show d.1 ≤ 7; omega)) ?_
    rw [dy_first]
    refine hd_ju kX5_gone (fun _ => rfl) (fun c => ?_) (fun c => ?_)
    · rw [if_neg (hd_b0.mp c)]
      refine hd_go kX5_gone 999 (fun _ => rfl) rfl trivial ?_
      rw [nI_1]
      exact ih (j + 1) _ M1 (by omega) ht1 hn
    · rw [if_pos (hd_b1.mp c)]
      refine hd_go kX5_gone 999 (fun _ => rfl) rfl trivial ?_
      exact hd_en_ kX5_gone (fun _ => rfl) trivial ⟨rfl, rfl, ht1.1⟩
set_option maxRecDepth 20000 in
theorem c_gone (i : Int32) : cA mX5_gone [.int i] (an_gone i) := by
  intro M N st hI hO
  change hd_Go mX5_gone 0 [some (.ref 0), some (.int i), none] [] M N _
  unfold an_gone
  refine hd_go kX5_gone 999 (fun _ => rfl) rfl trivial ?_
  refine hd_ci kX5_gone qX5_gone (fun _ => rfl) (s_isThing _ M N) ?_
  rw [hI.1.1]
  refine hd_ju kX5_gone (fun _ => rfl) (fun q => ?_) (fun q => ?_)
  · have q := hd_b1.mp q
    have h7 := hO.1.1
    obtain ⟨j, hj, rfl⟩ := an_th_nat q h7
    rw [if_pos q, nI_clamp (by omega)]
    refine hd_go kX5_gone 999 (fun _ => rfl) rfl trivial ?_
    refine hd_ci kX5_gone qX5_gone (fun _ => rfl) (s_isGn1 M N _ hI.1 j hj h7) ?_
    refine hd_ju kX5_gone (fun _ => rfl) (fun c => ?_) (fun c => ?_)
    · rw [if_neg (hd_b0.mp c)]
      refine hd_go kX5_gone 999 (fun _ => rfl) rfl trivial ?_
      refine hd_ca kX5_gone qX5_gone (fun _ => rfl) (s_start M N _ hI.1 hO.1) ?_
      rintro r M1 N1 ⟨rfl, rfl, ht⟩
      refine hd_go kX5_gone 30 (fun _ => rfl) rfl trivial ?_
      refine hd_Go.post ?_ (c_gone_l M N1 j st.1.1 hj h7 59 1 st.1 M1 (by decide) ht rfl)
      rintro r M2 N2 ⟨rfl, rfl, hf⟩
      exact ⟨rfl, rfl, hI.q hf⟩
    · rw [if_pos (hd_b1.mp c)]
      refine hd_go kX5_gone 999 (fun _ => rfl) rfl trivial ?_
      exact hd_en_ kX5_gone (fun _ => rfl) trivial ⟨rfl, rfl, fr.rf, hI⟩
  · have q := hd_b0.mp q
    rw [if_neg q]
    refine hd_go kX5_gone 999 (fun _ => rfl) rfl trivial ?_
    exact hd_en_ kX5_gone (fun _ => rfl) trivial ⟨rfl, rfl, fr.rf, hI⟩
set_option maxRecDepth 20000 in
theorem c_glad_l (M : hd_M) (N : hd_N) (d0 : dy_T) (h1 : hm M 1 d0) (v : Int32) : ∀ (m j : Nat) (d : dy_T) (M' : hd_M), j + m = 60 → trS M M' d → d.2.2.2.2.1 = d0.2.2.2.2.1 + nI j → hd_Go mX5_glad 15 [some (.ref 0), some (.int v), some (.int (nI j))] [] M' N (fun r M1 N1 => r = some (.int (dy_first (fun d => decide (¬ d.2.2.1 < v)) m j d)) ∧ N1 = N ∧ fr tri M M1) := by
  have tail : ∀ (j : Nat) (d : dy_T) (M' : hd_M), trS M M' d → d.2.2.2.2.1 = d0.2.2.2.2.1 + nI j → hd_Go mX5_glad 46 [some (.ref 0), some (.int v), some (.int (nI j))] [] M' N (fun r M1 N1 => r = some (.int (if ¬ d.2.2.1 < v then nI j else -4)) ∧ N1 = N ∧ fr tri M M1) := by
    intro j d M' ht hh
    refine hd_go kX5_glad 999 (fun _ => rfl) rfl trivial ?_
    rw [show M' 7 7 = d.2.2.1 from ht.2.1.2.2.1]
    refine hd_ju kX5_glad (fun _ => rfl) (fun c => ?_) (fun c => ?_)
    · refine hd_go kX5_glad 999 (fun _ => rfl) rfl trivial ?_
      refine hd_en_ kX5_glad (fun _ => rfl) trivial ⟨?_, rfl, ht.1⟩
      rw [if_neg (fun z => z c)]
    · refine hd_go kX5_glad 999 (fun _ => rfl) rfl trivial ?_
      refine hd_en_ kX5_glad (fun _ => rfl) trivial ⟨?_, rfl, ht.1⟩
      rw [if_pos c, show M' 7 9 = d.2.2.2.2.1 from ht.2.1.2.2.2.2.1, ht.1 1 9 (by simp), show M 1 9 = d0.2.2.2.2.1 from h1.2.2.2.2.1, hh, Int32.add_comm, Int32.add_sub_cancel]
  intro m
  induction m with
  | zero =>
    intro j d M' hj ht hh
    have hj : j = 60 := by omega
    subst hj
    refine hd_go kX5_glad 999 (fun _ => rfl) rfl trivial ?_
    refine hd_ju kX5_glad (fun _ => rfl) (fun c => ?_) (fun c => absurd (by decide) c)
    refine hd_Go.post ?_ (tail 60 d M' ht hh)
    rintro r M1 N1 ⟨rfl, h2⟩
    refine ⟨?_, h2⟩
    by_cases z : d.2.2.1 < v
    · simp [dy_first, z]
    · simp [dy_first, z]
  | succ m ih =>
    intro j d M' hj ht hh
    refine hd_go kX5_glad 999 (fun _ => rfl) rfl trivial ?_
    refine hd_ju kX5_glad (fun _ => rfl) (fun c => absurd c (nI_ge (b := 60) (by omega) (by decide))) (fun c => ?_)
    refine hd_go kX5_glad 999 (fun _ => rfl) rfl trivial ?_
    rw [show M' 7 7 = d.2.2.1 from ht.2.1.2.2.1]
    refine hd_ju kX5_glad (fun _ => rfl) (fun c => ?_) (fun c => ?_)
    · have z : ¬ d.2.2.1 < v := Int32.not_lt.mpr c
      refine hd_Go.post ?_ (tail j d M' ht hh)
      rintro r M1 N1 ⟨rfl, h2⟩
      refine ⟨?_, h2⟩
      simp [dy_first, z]
    · have z : d.2.2.1 < v := Int32.not_le.mp c
      refine hd_go kX5_glad 999 (fun _ => rfl) rfl trivial ?_
      refine hd_ca kX5_glad qX5_glad (fun _ => rfl) (s_one M M' N d ht 0 false rfl) ?_
      rintro r M1 N1 ⟨rfl, rfl, ht1⟩
      refine hd_go kX5_glad 999 (fun _ => rfl) rfl trivial ?_
      rw [nI_1]
      have := ih (j + 1) (dy_ho false d) M1 (by omega) ht1 (by show d.2.2.2.2.1 + 1 = _; rw [hh, nI_succ, Int32.add_assoc])
      rw [dy_first]
      simp only [z, not_true, decide_false, Bool.false_eq_true, if_false]
      exact this
set_option maxRecDepth 20000 in
theorem c_glad (v : Int32) : cA mX5_glad [.int v] (an_glad v) := by
  intro M N st hI hO
  change hd_Go mX5_glad 0 [some (.ref 0), some (.int v), none] [] M N _
  unfold an_glad
  refine hd_go kX5_glad 999 (fun _ => rfl) rfl trivial ?_
  refine hd_ci kX5_glad qX5_glad (fun _ => rfl) (s_isMood _ M N) ?_
  refine hd_ju kX5_glad (fun _ => rfl) (fun q => ?_) (fun q => ?_)
  · have q := hd_b1.mp q
    rw [if_pos q]
    refine hd_go kX5_glad 999 (fun _ => rfl) rfl trivial ?_
    refine hd_ca kX5_glad qX5_glad (fun _ => rfl) (s_start M N _ hI.1 hO.1) ?_
    rintro r M1 N1 ⟨rfl, rfl, ht⟩
    refine hd_go kX5_glad 15 (fun _ => rfl) rfl trivial ?_
    refine hd_Go.post ?_ (c_glad_l M N1 st.1 hI.1 v 60 0 st.1 M1 (by decide) ht (by rw [nI_0, Int32.add_zero]))
    rintro r M2 N2 ⟨rfl, rfl, hf⟩
    exact ⟨rfl, rfl, hI.q hf⟩
  · have q := hd_b0.mp q
    rw [if_neg q]
    refine hd_go kX5_glad 999 (fun _ => rfl) rfl trivial ?_
    exact hd_en_ kX5_glad (fun _ => rfl) trivial ⟨rfl, rfl, fr.rf, hI⟩
set_option maxRecDepth 20000 in
theorem s_best_l (M : hd_M) (N : hd_N) (d : dy_T) (hd : hm M 1 d) (ok : dy_ok d) (ha : dy_all d) (n : Nat) (hn : n ≤ 60) (w t : Int32) (f : Nat → Int32) (hf : f = fun i => if t = 0 then dy_md n (dy_shr (d.1 - 1) (dy_rot i (d.1 - 1) d)) else dy_md n (dy_rot i (d.1 - 1) d)) : ∀ (m i : Nat) (b o x : Int32) (z : Option Value) (M' : hd_M), (z = none ∨ z = some (.int x)) → i + m = d.1 → fr tri M M' → hd_Go mX5_bestOfOne 45 [some (.ref 0), some (.int (nI n)), some (.int w), some (.int t), some (.int b), some (.int o), some (.int (nI i)), z] [] M' N (fun r M1 N1 => r = some (.int (dy_fob (dy_best f nI m i b o).2 (dy_best f nI m i b o).1 w)) ∧ N1 = N ∧ fr tri M M1) := by
  intro m
  induction m with
  | zero =>
    intro i b o x z M' hz hi hfr
    have h5 : M' 1 5 = nI d.1 := (hfr 1 5 (by simp)).trans hd.1
    have h7 := ok.1
    refine hd_Go.less (lv' := [some (.ref 0), some (.int (nI n)), some (.int w), some (.int t), some (.int b), some (.int o), some (.int (nI i)), none]) (by simp) ?_ ?_
    · rcases hz with rfl | rfl
      · exact fun _ _ h => h
      · intro j v h
        match j, h with
        | 0, h => exact h
        | 1, h => exact h
        | 2, h => exact h
        | 3, h => exact h
        | 4, h => exact h
        | 5, h => exact h
        | 6, h => exact h
        | 7, h => cases h
        | j + 8, h => cases h
    refine hd_go kX5_bestOfOne 999 (fun _ => rfl) rfl trivial ?_
    rw [h5]
    refine hd_ju kX5_bestOfOne (fun _ => rfl) (fun c => ?_) (fun c => absurd (nI_le (by omega) (by omega)) c)
    refine hd_go kX5_bestOfOne 999 (fun _ => rfl) rfl trivial ?_
    refine hd_ci kX5_bestOfOne qX5_bestOfOne (fun _ => rfl) (s_fob _ _ _ M' N) ?_
    exact hd_en_ kX5_bestOfOne (fun _ => rfl) trivial ⟨rfl, rfl, hfr⟩
  | succ m ih =>
    intro i b o x z M' hz hi hfr
    have h5 : M' 1 5 = nI d.1 := (hfr 1 5 (by simp)).trans hd.1
    have h7 := ok.1
    have hd' : hm M' 1 d := hd.mv (fun c j h1 h2 => hfr c j (by show ¬ (7 ≤ c ∧ c ≤ 12); omega))
    refine hd_Go.less (lv' := [some (.ref 0), some (.int (nI n)), some (.int w), some (.int t), some (.int b), some (.int o), some (.int (nI i)), none]) (by simp) ?_ ?_
    · rcases hz with rfl | rfl
      · exact fun _ _ h => h
      · intro j v h
        match j, h with
        | 0, h => exact h
        | 1, h => exact h
        | 2, h => exact h
        | 3, h => exact h
        | 4, h => exact h
        | 5, h => exact h
        | 6, h => exact h
        | 7, h => cases h
        | j + 8, h => cases h
    refine hd_go kX5_bestOfOne 999 (fun _ => rfl) rfl trivial ?_
    rw [h5]
    refine hd_ju kX5_bestOfOne (fun _ => rfl) (fun c => absurd c (nI_ge (by omega) (by omega))) (fun c => ?_)
    refine hd_go kX5_bestOfOne 999 (fun _ => rfl) rfl trivial ?_
    refine hd_ca kX5_bestOfOne qX5_bestOfOne (fun _ => rfl) (s_copyFrom_7_1 M' N d hd' h7) ?_
    rintro r M1 N1 ⟨rfl, rfl, hf1, hd1⟩
    have hfr1 : fr tri M M1 := hfr.tr (hf1.mo (fun c j h => by have h : 7 ≤ c ∧ c ≤ 11 := h; show 7 ≤ c ∧ c ≤ 12; omega))
    -- behind the trial
    have tail : ∀ (M2 : hd_M), fr tri M M2 → hd_Go mX5_bestOfOne 103 [some (.ref 0), some (.int (nI n)), some (.int w), some (.int t), some (.int b), some (.int o), some (.int (nI i)), some (.int (f i))] [] M2 N1 (fun r M1 N2 => r = some (.int (dy_fob (dy_best f nI (m + 1) i b o).2 (dy_best f nI (m + 1) i b o).1 w)) ∧ N2 = N1 ∧ fr tri M M1) := by
      intro M2 hfr2
      refine hd_go kX5_bestOfOne 999 (fun _ => rfl) rfl trivial ?_
      rw [dy_best]
      refine hd_ju kX5_bestOfOne (fun _ => rfl) (fun c => ?_) (fun c => ?_)
      · rw [if_neg (Int32.not_lt.mpr c)]
        refine hd_go kX5_bestOfOne 999 (fun _ => rfl) rfl trivial ?_
        rw [nI_1]
        exact ih (i + 1) b o (f i) _ M2 (Or.inr rfl) (by omega) hfr2
      · rw [if_pos (Int32.not_le.mp c)]
        refine hd_go kX5_bestOfOne 999 (fun _ => rfl) rfl trivial ?_
        rw [nI_1]
        exact ih (i + 1) (f i) (nI i) (f i) _ M2 (Or.inr rfl) (by omega) hfr2
    refine hd_go kX5_bestOfOne 999 (fun _ => rfl) rfl trivial ?_
    refine hd_ju kX5_bestOfOne (fun _ => rfl) (fun c => ?_) (fun c => ?_)
    · refine hd_go kX5_bestOfOne 999 (fun _ => rfl) rfl trivial ?_
      refine hd_ca kX5_bestOfOne qX5_bestOfOne (fun _ => rfl) (s_takeAway_7 M1 N1 d hd1 h7 i (by omega)) ?_
      rintro r M2 N2 ⟨rfl, rfl, hf2, hd2⟩
      refine hd_go kX5_bestOfOne 999 (fun _ => rfl) rfl trivial ?_
      refine hd_ca kX5_bestOfOne qX5_bestOfOne (fun _ => rfl) (s_pass_7 M2 N2 _ hd2 (dy_ok_shr (dy_ok_rot ok) ha (Nat.sub_le _ _)) n hn) ?_
      rintro r M3 N3 ⟨rfl, rfl, hf3, hd3⟩
      refine hd_go kX5_bestOfOne 103 (fun _ => rfl) rfl trivial ?_
      have := tail M3 ((hfr1.tr (hf2.mo (fun c j h => by have h : 7 ≤ c ∧ c ≤ 11 := h; show 7 ≤ c ∧ c ≤ 12; omega))).tr hf3)
      have e : f i = dy_md n (dy_shr (d.1 - 1) (dy_rot i (d.1 - 1) d)) := by rw [hf]; exact if_pos c
      rw [e] at this
      exact this
    · refine hd_go kX5_bestOfOne 999 (fun _ => rfl) rfl trivial ?_
      refine hd_ca kX5_bestOfOne qX5_bestOfOne (fun _ => rfl) (s_layTop_7 M1 N1 i d.1 h7 (by omega) hd1.1) ?_
      rintro r M2 N2 ⟨rfl, rfl, h2⟩
      have hd2 := h_rot_7 hd1 i (by omega) h2
      refine hd_go kX5_bestOfOne 999 (fun _ => rfl) rfl trivial ?_
      refine hd_go kX5_bestOfOne 999 (fun _ => rfl) rfl trivial ?_
      refine hd_ca kX5_bestOfOne qX5_bestOfOne (fun _ => rfl) (s_pass_7 M2 N2 _ hd2 (dy_ok_rot ok) n hn) ?_
      rintro r M3 N3 ⟨rfl, rfl, hf3, hd3⟩
      refine hd_go kX5_bestOfOne 103 (fun _ => rfl) rfl trivial ?_
      have hfr2 : fr tri M M2 := hfr1.tr (fun c x hc => by rw [h2, if_neg (by have hc : ¬ (7 ≤ c ∧ c ≤ 12) := hc; omega)])
      have := tail M3 (hfr2.tr hf3)
      have e : f i = dy_md n (dy_rot i (d.1 - 1) d) := by rw [hf]; exact if_neg c
      rw [e] at this
      exact this
set_option maxRecDepth 20000 in
theorem s_bestOfOne (M : hd_M) (N : hd_N) (d : dy_T) (hd : hm M 1 d) (ok : dy_ok d) (n w t : Int32) : hd_Ret mX5_bestOfOne [.ref 0, .int n, .int w, .int t] M N (fun r M1 N1 => r = some (.int (if wi n 0 60 ∧ wi w 0 1 then (if dy_all d then dy_opt (fun i => if t = 0 then dy_md n.toNatClampNeg (dy_shr (d.1 - 1) (dy_rot i (d.1 - 1) d)) else dy_md n.toNatClampNeg (dy_rot i (d.1 - 1) d)) nI d.1 (dy_md n.toNatClampNeg d) w else -2) else -1)) ∧ N1 = N ∧ fr tri M M1) := by
  change hd_Go mX5_bestOfOne 0 [some (.ref 0), some (.int n), some (.int w), some (.int t), none, none, none, none] [] M N _
  have bad : ¬ (wi n 0 60 ∧ wi w 0 1) → hd_Go mX5_bestOfOne 16 [some (.ref 0), some (.int n), some (.int w), some (.int t), none, none, none, none] [] M N (fun r M1 N1 => r = some (.int (if wi n 0 60 ∧ wi w 0 1 then (if dy_all d then dy_opt (fun i => if t = 0 then dy_md n.toNatClampNeg (dy_shr (d.1 - 1) (dy_rot i (d.1 - 1) d)) else dy_md n.toNatClampNeg (dy_rot i (d.1 - 1) d)) nI d.1 (dy_md n.toNatClampNeg d) w else -2) else -1)) ∧ N1 = N ∧ fr tri M M1) := by
    intro q
    refine hd_go kX5_bestOfOne 999 (fun _ => rfl) rfl trivial ?_
    exact hd_en_ kX5_bestOfOne (fun _ => rfl) trivial ⟨by rw [if_neg q], rfl, fr.rf⟩
  refine hd_go kX5_bestOfOne 999 (fun _ => rfl) rfl trivial ?_
  refine hd_ci kX5_bestOfOne qX5_bestOfOne (fun _ => rfl) (s_isSpan _ M N) ?_
  refine hd_ju kX5_bestOfOne (fun _ => rfl) (fun q => bad (fun z => hd_b0.mp q z.1)) (fun q => ?_)
  have q1 := hd_b1.mp q
  refine hd_go kX5_bestOfOne 999 (fun _ => rfl) rfl trivial ?_
  refine hd_ci kX5_bestOfOne qX5_bestOfOne (fun _ => rfl) (s_isWithin _ _ _ M N) ?_
  refine hd_ju kX5_bestOfOne (fun _ => rfl) (fun q => ?_) (fun q => bad (fun z => hd_b0.mp q z.2))
  have q2 := hd_b1.mp q
  rw [if_pos ⟨q1, q2⟩]
  obtain ⟨j, hj, rfl⟩ := wi_nat (n := 60) rfl q1
  rw [nI_clamp (by omega)]
  refine hd_go kX5_bestOfOne 999 (fun _ => rfl) rfl trivial ?_
  refine hd_ci kX5_bestOfOne qX5_bestOfOne (fun _ => rfl) (s_allIn M N _ hd ok) ?_
  refine hd_ju kX5_bestOfOne (fun _ => rfl) (fun q => ?_) (fun q => ?_)
  · have ha := hd_b1.mp q
    rw [if_pos ha]
    refine hd_go kX5_bestOfOne 999 (fun _ => rfl) rfl trivial ?_
    refine hd_ca kX5_bestOfOne qX5_bestOfOne (fun _ => rfl) (s_moodBehind M N d hd ok j hj) ?_
    rintro r M1 N1 ⟨rfl, rfl, hf⟩
    refine hd_go kX5_bestOfOne 45 (fun _ => rfl) rfl trivial ?_
    exact s_best_l M N1 d hd ok ha j hj w t _ rfl d.1 0 _ _ 0 _ M1 (Or.inl rfl) (by omega) hf
  · rw [if_neg (hd_b0.mp q)]
    refine hd_go kX5_bestOfOne 999 (fun _ => rfl) rfl trivial ?_
    exact hd_en_ kX5_bestOfOne (fun _ => rfl) trivial ⟨rfl, rfl, fr.rf⟩
set_option maxRecDepth 20000 in
theorem c_leave (n w : Int32) : cA mX5_leave [.int n, .int w] (an_leave n w) := by
  intro M N st hI hO
  change hd_Go mX5_leave 0 [some (.ref 0), some (.int n), some (.int w)] [] M N _
  refine hd_go kX5_leave 999 (fun _ => rfl) rfl trivial ?_
  refine hd_ca kX5_leave qX5_leave (fun _ => rfl) (s_bestOfOne M N _ hI.1 hO.1 n w 0) ?_
  rintro r M1 N1 ⟨rfl, rfl, hf⟩
  exact hd_en_ kX5_leave (fun _ => rfl) trivial ⟨rfl, rfl, hI.q hf⟩
set_option maxRecDepth 20000 in
theorem c_top (n w : Int32) : cA mX5_top [.int n, .int w] (an_top n w) := by
  intro M N st hI hO
  change hd_Go mX5_top 0 [some (.ref 0), some (.int n), some (.int w)] [] M N _
  refine hd_go kX5_top 999 (fun _ => rfl) rfl trivial ?_
  refine hd_ca kX5_top qX5_top (fun _ => rfl) (s_bestOfOne M N _ hI.1 hO.1 n w 1) ?_
  rintro r M1 N1 ⟨rfl, rfl, hf⟩
  exact hd_en_ kX5_top (fun _ => rfl) trivial ⟨rfl, rfl, hI.q hf⟩
