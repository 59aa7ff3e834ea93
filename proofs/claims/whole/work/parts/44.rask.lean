/-! THE REFERENCE'S QUESTIONS; printed by wip/whole/ref5.py -/
/-- where the reference's trial stands -/
def trR (M0 M : hd_M) (d : dy_T) : Prop := fr idR M0 M ∧ rf M 53 0 d ∧ dy_ok d
set_option maxRecDepth 20000 in
theorem r_one (M0 M : hd_M) (N : hd_N) (d : dy_T) (h : trR M0 M d) (lv : Int32) (lid : Bool) (hl : lv = if lid then 1 else 0) : hd_Ret mX6_hourGoes [.ref 51, .int lv] M N (fun r M1 N1 => r = none ∧ N1 = N ∧ trR M0 M1 (dy_ho lid d)) := by
  obtain ⟨h1, h2, h3⟩ := h
  refine hd_Go.post ?_ (r_hour M N d h2 h3 lv lid hl)
  rintro r M1 N1 ⟨rfl, rfl, hf, hd⟩
  exact ⟨rfl, rfl, h1.tr (n33R hf), hd, dy_ok_ho h3⟩
set_option maxRecDepth 20000 in
theorem r_begin (M : hd_M) (N : hd_N) (d : dy_T) (hd : rf M 52 0 d) (ok : dy_ok d) : hd_Ret mX6_starts [.ref 51] M N (fun r M1 N1 => r = none ∧ N1 = N ∧ trR M M1 d) := by
  refine hd_Go.post ?_ (r_st M N d hd ok.1)
  rintro r M1 N1 ⟨rfl, rfl, hf, h1, -⟩
  exact ⟨rfl, rfl, nowR hf, h1, ok⟩
def dy_nx (p : dy_T → Bool) : Nat → Nat → dy_T → Int32
  | 0, _, _ => -4
  | m + 1, k, d => dy_first p m (k + 1) (dy_ho false d)
set_option maxRecDepth 20000 in
/-- the first zero, as the reference tells it: what was found before stays -/
theorem first_keep (p : dy_T → Bool) : ∀ (m k : Nat) (d : dy_T), dy_first p m k d = if p d then nI k else dy_nx p m k d := by
  intro m k d
  cases m <;> rfl
set_option maxRecDepth 20000 in
theorem d_runs_l (M : hd_M) (N : hd_N) (n : Nat) (hn : n ≤ 60) (w : Int32) (Q : hd_Q) : ∀ (m k : Nat) (a b c : Int32) (d : dy_T) (M' : hd_M), k + m = n → trR M M' d → (∀ M1, trR M M1 (dy_hs m d) → hd_Go mX6_runs 155 [some (.ref 51), some (.int (nI n)), some (.int w), some (.int (dy_mx m a d)), some (.int (dy_mn m b d)), some (.int (if c = -4 then dy_nx (fun d => decide (d.2.2.1 = 0)) m k d else c)), some (.int (nI (n + 1)))] [] M1 N Q) → hd_Go mX6_runs 63 [some (.ref 51), some (.int (nI n)), some (.int w), some (.int a), some (.int b), some (.int c), some (.int (nI (k + 1)))] [] M' N Q := by
  intro m
  induction m with
  | zero =>
    intro k a b c d M' hkm ht hfin
    have hkn : k = n := by omega
    subst hkn
    refine hd_go kX6_runs 999 (fun _ => rfl) rfl trivial ?_
    refine hd_ju kX6_runs (fun _ => rfl) (fun z => ?_) (fun z => absurd (nI_lt (by omega) (by omega)) z)
    have := hfin M' ht
    have e : (if c = -4 then dy_nx (fun d => decide (d.2.2.1 = 0)) 0 k d else c) = c := by
      by_cases h : c = -4
      · rw [if_pos h, h]; rfl
      · rw [if_neg h]
    rw [e] at this
    exact this
  | succ m ih =>
    intro k a b c d M' hkm ht hfin
    refine hd_go kX6_runs 999 (fun _ => rfl) rfl trivial ?_
    refine hd_ju kX6_runs (fun _ => rfl) (fun z => absurd z (nI_nlt (by omega) (by omega))) (fun z => ?_)
    refine hd_go kX6_runs 999 (fun _ => rfl) rfl trivial ?_
    refine hd_ca kX6_runs qX6_runs (fun _ => rfl) (r_one M M' N d ht 0 false rfl) ?_
    rintro r M1 N1 ⟨rfl, rfl, ht1⟩
    have e30 : M1 53 30 = (dy_ho false d).2.2.1 := ht1.2.1.2.2.1
    have v30 : vp_in 30 46 := v46 (n := 30) (by decide)
    -- the first, behind the two
    have t3 : ∀ (a1 b1 : Int32), a1 = (if a < (dy_ho false d).2.2.1 then (dy_ho false d).2.2.1 else a) → b1 = (if (dy_ho false d).2.2.1 < b then (dy_ho false d).2.2.1 else b) → hd_Go mX6_runs 123 [some (.ref 51), some (.int (nI n)), some (.int w), some (.int a1), some (.int b1), some (.int c), some (.int (nI (k + 1)))] [] M1 N1 Q := by
      intro a1 b1 ha1 hb1
      have last : ∀ c1 : Int32, c1 = (if c = -4 ∧ (dy_ho false d).2.2.1 = 0 then nI (k + 1) else c) → hd_Go mX6_runs 147 [some (.ref 51), some (.int (nI n)), some (.int w), some (.int a1), some (.int b1), some (.int c), some (.int (nI (k + 1)))] [.int c1] M1 N1 Q := by
        intro c1 hc1
        refine hd_go kX6_runs 999 (fun _ => rfl) rfl trivial ?_
        rw [nI_1]
        refine ih (k + 1) a1 b1 c1 (dy_ho false d) M1 (by omega) ht1 (fun M2 ht2 => ?_)
        have := hfin M2 ht2
        rw [dy_mx, dy_mn, ← ha1, ← hb1] at this
        have e : (if c = -4 then dy_nx (fun d => decide (d.2.2.1 = 0)) (m + 1) k d else c) = (if c1 = -4 then dy_nx (fun d => decide (d.2.2.1 = 0)) m (k + 1) (dy_ho false d) else c1) := by
          rw [dy_nx, first_keep]
          by_cases h1 : c = -4
          · rw [if_pos h1]
            by_cases h2 : (dy_ho false d).2.2.1 = 0
            · rw [if_pos ⟨h1, h2⟩] at hc1
              have h3 : ¬ c1 = -4 := by
                intro h3
                have := nI_pos (n := k + 1) (by omega)
                rw [← hc1, h3] at this
                exact absurd (by decide) this
              rw [if_pos (by simp [h2]), if_neg h3, hc1]
            · rw [if_neg (fun z => h2 z.2)] at hc1
              rw [if_neg (by simp [h2]), hc1, if_pos h1]
          · rw [if_neg (fun z => h1 z.1)] at hc1
            rw [if_neg h1, hc1, if_neg h1]
        rw [e] at this
        exact this
      refine hd_go kX6_runs 999 (fun _ => rfl) rfl trivial ?_
      refine hd_ju kX6_runs (fun _ => rfl) (fun z => ?_) (fun z => ?_)
      · refine hd_go kX6_runs 147 (fun _ => rfl) rfl trivial ?_
        exact last c (by rw [if_neg (fun q => z q.1)])
      · refine hd_go kX6_runs 999 (fun _ => rfl) rfl ⟨trivial, v30⟩ ?_
        refine hd_ju kX6_runs (fun _ => rfl) (fun z2 => ?_) (fun z2 => ?_)
        · have z2 : ¬ M1 53 30 = 0 := z2
          rw [e30] at z2
          refine hd_go kX6_runs 147 (fun _ => rfl) rfl trivial ?_
          exact last c (by rw [if_neg (fun q => z2 q.2)])
        · have z2 : M1 53 30 = 0 := z2
          rw [e30] at z2
          refine hd_go kX6_runs 147 (fun _ => rfl) rfl trivial ?_
          exact last _ (by rw [if_pos ⟨z, z2⟩])
    have t2 : ∀ (a1 : Int32), a1 = (if a < (dy_ho false d).2.2.1 then (dy_ho false d).2.2.1 else a) → hd_Go mX6_runs 97 [some (.ref 51), some (.int (nI n)), some (.int w), some (.int a1), some (.int b), some (.int c), some (.int (nI (k + 1)))] [] M1 N1 Q := by
      intro a1 ha1
      refine hd_go kX6_runs 999 (fun _ => rfl) rfl ⟨trivial, v30⟩ ?_
      refine hd_ju kX6_runs (fun _ => rfl) (fun z => ?_) (fun z => ?_)
      · have z : b ≤ M1 53 30 := z
        rw [e30] at z
        refine hd_go kX6_runs 123 (fun _ => rfl) rfl trivial ?_
        exact t3 a1 b ha1 (by rw [if_neg (Int32.not_lt.mpr z)])
      · have z : ¬ b ≤ M1 53 30 := z
        rw [e30] at z
        refine hd_go kX6_runs 999 (fun _ => rfl) rfl ⟨trivial, v30⟩ ?_
        refine hd_go kX6_runs 123 (fun _ => rfl) rfl trivial ?_
        exact t3 a1 _ ha1 (by rw [if_pos (Int32.not_le.mp z)]; exact e30)
    refine hd_go kX6_runs 999 (fun _ => rfl) rfl ⟨trivial, v30⟩ ?_
    refine hd_ju kX6_runs (fun _ => rfl) (fun z => ?_) (fun z => ?_)
    · have z : M1 53 30 ≤ a := z
      rw [e30] at z
      refine hd_go kX6_runs 97 (fun _ => rfl) rfl trivial ?_
      exact t2 a (by rw [if_neg (Int32.not_lt.mpr z)])
    · have z : ¬ M1 53 30 ≤ a := z
      rw [e30] at z
      refine hd_go kX6_runs 999 (fun _ => rfl) rfl ⟨trivial, v30⟩ ?_
      refine hd_go kX6_runs 97 (fun _ => rfl) rfl trivial ?_
      exact t2 _ (by rw [if_pos (Int32.not_le.mp z)]; exact e30)
set_option maxRecDepth 20000 in
theorem d_runs (n w : Int32) : rA mX6_runs [.int n, .int w] (an_runs n w) := by
  intro M N st hI hO
  change hd_Go mX6_runs 0 [some (.ref 51), some (.int n), some (.int w), none, none, none, none] [] M N _
  have bad : ¬ (wi n 0 60 ∧ wi w 0 4) → hd_Go mX6_runs 19 [some (.ref 51), some (.int n), some (.int w), none, none, none, none] [] M N (fun r M1 _ => r = some (an_runs n w st).1 ∧ fr refF M M1 ∧ RI M1 (an_runs n w st).2) := by
    intro q
    refine hd_go kX6_runs 999 (fun _ => rfl) rfl trivial ?_
    refine hd_en_ kX6_runs (fun _ => rfl) trivial ⟨?_, fr.rf, hI⟩
    unfold an_runs
    by_cases h1 : wi n 0 60
    · rw [if_pos h1]
      have h2 : ¬ wi w 0 4 := fun z => q ⟨h1, z⟩
      have c : ∀ x : Int32, wi x 0 4 → ¬ w = x := fun x hx e => h2 (by rw [e]; exact hx)
      rw [if_neg (c 0 (by decide)), if_neg (c 1 (by decide)), if_neg (c 2 (by decide)), if_neg (c 3 (by decide)), if_neg (c 4 (by decide))]
    · rw [if_neg h1]
  refine hd_go kX6_runs 999 (fun _ => rfl) rfl trivial ?_
  refine hd_ci kX6_runs qX6_runs (fun _ => rfl) (r_isFar _ M N) ?_
  refine hd_ju kX6_runs (fun _ => rfl) (fun q => bad (fun z => hd_b0.mp q z.1)) (fun q => ?_)
  have q1 := hd_b1.mp q
  refine hd_go kX6_runs 999 (fun _ => rfl) rfl trivial ?_
  refine hd_ci kX6_runs qX6_runs (fun _ => rfl) (r_in w 0 4 _ _ rfl rfl M N) ?_
  refine hd_ju kX6_runs (fun _ => rfl) (fun q => ?_) (fun q => bad (fun z => hd_b0.mp q z.2))
  have q2 := hd_b1.mp q
  unfold an_runs
  rw [if_pos q1]
  obtain ⟨j, hj, rfl⟩ := wi_nat (n := 60) rfl q1
  obtain ⟨u, hu, rfl⟩ := wi_nat (n := 4) rfl q2
  rw [nI_clamp (show j < 2 ^ 31 by omega)]
  refine hd_go kX6_runs 999 (fun _ => rfl) rfl trivial ?_
  refine hd_ca kX6_runs qX6_runs (fun _ => rfl) (r_begin M N _ hI.1 hO.1) ?_
  rintro r M1 N1 ⟨rfl, rfl, ht⟩
  have v30 : vp_in 30 46 := v46 (n := 30) (by decide)
  have e30 : M1 53 30 = st.1.2.2.1 := ht.2.1.2.2.1
  have main : ∀ c : Int32, c = (if st.1.2.2.1 = 0 then 0 else -4) → hd_Go mX6_runs 58 [some (.ref 51), some (.int (nI j)), some (.int (nI u)), some (.int st.1.2.2.1), some (.int st.1.2.2.1), none, none] [.int c] M1 N1 (fun r M1 _ => r = some (an_q (if nI u = 0 then dy_md j st.1 else if nI u = 1 then dy_mx j st.1.2.2.1 st.1 else if nI u = 2 then dy_mn j st.1.2.2.1 st.1 else if nI u = 3 then dy_out (dy_hs j st.1) else if nI u = 4 then dy_first (fun d => decide (d.2.2.1 = 0)) j 0 st.1 else -1) st).1 ∧ fr refF M M1 ∧ RI M1 st) := by
    intro c hc
    refine hd_go kX6_runs 63 (fun _ => rfl) rfl trivial ?_
    refine d_runs_l M N1 j hj (nI u) _ j 0 _ _ c st.1 M1 (by omega) ht (fun M2 ht2 => ?_)
    have ef : (if c = -4 then dy_nx (fun d => decide (d.2.2.1 = 0)) j 0 st.1 else c) = dy_first (fun d => decide (d.2.2.1 = 0)) j 0 st.1 := by
      rw [first_keep]
      by_cases h : st.1.2.2.1 = 0
      · rw [if_pos h] at hc
        rw [hc, if_neg (show ¬ (0 : Int32) = -4 by decide), if_pos (decide_eq_true h)]
        rfl
      · rw [if_neg h] at hc
        rw [hc, if_pos (show (-4 : Int32) = -4 from rfl), if_neg (by rw [decide_eq_false h]; decide)]
    rw [ef]
    obtain ⟨hfr, hRI⟩ := hI.q hO ht2.1
    refine hd_go kX6_runs 999 (fun _ => rfl) rfl trivial ?_
    rcases (show u = 0 ∨ u = 1 ∨ u = 2 ∨ u = 3 ∨ u = 4 by omega) with rfl | rfl | rfl | rfl | rfl
    · refine hd_sc kX6_runs (fun _ => rfl) ⟨fun c => ?_, fun c0 => absurd rfl c0⟩
      refine hd_go kX6_runs 999 (fun _ => rfl) rfl ⟨trivial, v30⟩ ?_
      exact hd_en_ kX6_runs (fun _ => rfl) trivial ⟨congrArg (fun x => some (Value.int x)) ht2.2.1.2.2.1, hfr, hRI⟩
    · refine hd_sc kX6_runs (fun _ => rfl) ⟨fun c => absurd c (by decide), fun c0 => ⟨fun c => ?_, fun c1 => absurd rfl c1⟩⟩
      refine hd_go kX6_runs 999 (fun _ => rfl) rfl trivial ?_
      refine hd_en_ kX6_runs (fun _ => rfl) trivial ⟨?_, hfr, hRI⟩
      rw [if_neg (by decide), if_pos (by decide)]
    · refine hd_sc kX6_runs (fun _ => rfl) ⟨fun c => absurd c (by decide), fun c0 => ⟨fun c => absurd c (by decide), fun c1 => ⟨fun c => ?_, fun c2 => absurd rfl c2⟩⟩⟩
      refine hd_go kX6_runs 999 (fun _ => rfl) rfl trivial ?_
      refine hd_en_ kX6_runs (fun _ => rfl) trivial ⟨?_, hfr, hRI⟩
      rw [if_neg (by decide), if_neg (by decide), if_pos (by decide)]
    · refine hd_sc kX6_runs (fun _ => rfl) ⟨fun c => absurd c (by decide), fun c0 => ⟨fun c => absurd c (by decide), fun c1 => ⟨fun c => absurd c (by decide), fun c2 => ⟨fun c => ?_, fun c3 => absurd rfl c3⟩⟩⟩⟩
      refine hd_go kX6_runs 999 (fun _ => rfl) rfl trivial ?_
      refine hd_ci kX6_runs qX6_runs (fun _ => rfl) (r_out M2 N1 _ ht2.2.1 ht2.2.2.1) ?_
      refine hd_en_ kX6_runs (fun _ => rfl) trivial ⟨?_, hfr, hRI⟩
      rw [if_neg (by decide), if_neg (by decide), if_neg (by decide), if_pos (by decide)]
    · refine hd_sc kX6_runs (fun _ => rfl) ⟨fun c => absurd c (by decide), fun c0 => ⟨fun c => absurd c (by decide), fun c1 => ⟨fun c => absurd c (by decide), fun c2 => ⟨fun c => absurd c (by decide), fun c3 => ?_⟩⟩⟩⟩
      refine hd_go kX6_runs 999 (fun _ => rfl) rfl trivial ?_
      refine hd_en_ kX6_runs (fun _ => rfl) trivial ⟨?_, hfr, hRI⟩
      rw [if_neg (by decide), if_neg (by decide), if_neg (by decide), if_neg (by decide), if_pos (by decide)]
  refine hd_go kX6_runs 999 (fun _ => rfl) rfl ⟨⟨⟨trivial, v30⟩, v30⟩, v30⟩ ?_
  show hd_Go mX6_runs 49 [some (.ref 51), some (.int (nI j)), some (.int (nI u)), some (.int (M1 53 30)), some (.int (M1 53 30)), none, none] [.int (M1 53 30)] M1 N1 _
  rw [e30]
  refine hd_ju kX6_runs (fun _ => rfl) (fun c => ?_) (fun c => ?_)
  · refine hd_go kX6_runs 58 (fun _ => rfl) rfl trivial ?_
    exact main (-4) (by rw [if_neg c])
  · refine hd_go kX6_runs 58 (fun _ => rfl) rfl trivial ?_
    exact main 0 (by rw [if_pos c])
set_option maxRecDepth 20000 in
theorem d_glad_l (M : hd_M) (N : hd_N) (v : Int32) : ∀ (m j : Nat) (d : dy_T) (M' : hd_M), j + m = 60 → trR M M' d → hd_Go mX6_glad 15 [some (.ref 51), some (.int v), some (.int (nI j))] [] M' N (fun r M1 _ => r = some (.int (dy_first (fun d => decide (¬ d.2.2.1 < v)) m j d)) ∧ fr idR M M1) := by
  have v30 : vp_in 30 46 := v46 (n := 30) (by decide)
  intro m
  induction m with
  | zero =>
    intro j d M' hj ht
    have hj : j = 60 := by omega
    subst hj
    have e30 : M' 53 30 = d.2.2.1 := ht.2.1.2.2.1
    refine hd_go kX6_glad 999 (fun _ => rfl) rfl trivial ?_
    refine hd_ju kX6_glad (fun _ => rfl) (fun c => absurd c (by decide)) (fun c => ?_)
    refine hd_go kX6_glad 999 (fun _ => rfl) rfl ⟨trivial, v30⟩ ?_
    rw [dy_first]
    refine hd_ju kX6_glad (fun _ => rfl) (fun c => ?_) (fun c => ?_)
    · have c : M' 53 30 < v := c
      rw [e30] at c
      rw [if_neg (by simp [c])]
      refine hd_go kX6_glad 999 (fun _ => rfl) rfl trivial ?_
      refine hd_ca kX6_glad qX6_glad (fun _ => rfl) (r_one M M' N d ht 0 false rfl) ?_
      rintro r M1 N1 ⟨rfl, rfl, ht1⟩
      refine hd_go kX6_glad 999 (fun _ => rfl) rfl trivial ?_
      refine hd_go kX6_glad 999 (fun _ => rfl) rfl trivial ?_
      refine hd_ju kX6_glad (fun _ => rfl) (fun c => ?_) (fun c => absurd (by decide) c)
      refine hd_go kX6_glad 999 (fun _ => rfl) rfl trivial ?_
      exact hd_en_ kX6_glad (fun _ => rfl) trivial ⟨rfl, ht1.1⟩
    · have c : ¬ M' 53 30 < v := c
      rw [e30] at c
      rw [if_pos (by simp [c])]
      refine hd_go kX6_glad 999 (fun _ => rfl) rfl trivial ?_
      exact hd_en_ kX6_glad (fun _ => rfl) trivial ⟨rfl, ht.1⟩
  | succ m ih =>
    intro j d M' hj ht
    have e30 : M' 53 30 = d.2.2.1 := ht.2.1.2.2.1
    refine hd_go kX6_glad 999 (fun _ => rfl) rfl trivial ?_
    refine hd_ju kX6_glad (fun _ => rfl) (fun c => absurd c (nI_nlt (a := 60) (by omega) (by decide))) (fun c => ?_)
    refine hd_go kX6_glad 999 (fun _ => rfl) rfl ⟨trivial, v30⟩ ?_
    rw [dy_first]
    refine hd_ju kX6_glad (fun _ => rfl) (fun c => ?_) (fun c => ?_)
    · have c : M' 53 30 < v := c
      rw [e30] at c
      rw [if_neg (by simp [c])]
      refine hd_go kX6_glad 999 (fun _ => rfl) rfl trivial ?_
      refine hd_ca kX6_glad qX6_glad (fun _ => rfl) (r_one M M' N d ht 0 false rfl) ?_
      rintro r M1 N1 ⟨rfl, rfl, ht1⟩
      refine hd_go kX6_glad 999 (fun _ => rfl) rfl trivial ?_
      rw [nI_1]
      exact ih (j + 1) _ M1 (by omega) ht1
    · have c : ¬ M' 53 30 < v := c
      rw [e30] at c
      rw [if_pos (by simp [c])]
      refine hd_go kX6_glad 999 (fun _ => rfl) rfl trivial ?_
      exact hd_en_ kX6_glad (fun _ => rfl) trivial ⟨rfl, ht.1⟩
set_option maxRecDepth 20000 in
theorem d_glad (v : Int32) : rA mX6_glad [.int v] (an_glad v) := by
  intro M N st hI hO
  change hd_Go mX6_glad 0 [some (.ref 51), some (.int v), none] [] M N _
  unfold an_glad
  refine hd_go kX6_glad 999 (fun _ => rfl) rfl trivial ?_
  refine hd_ci kX6_glad qX6_glad (fun _ => rfl) (r_isMood _ M N) ?_
  refine hd_ju kX6_glad (fun _ => rfl) (fun q => ?_) (fun q => ?_)
  · rw [if_pos (hd_b1.mp q)]
    refine hd_go kX6_glad 999 (fun _ => rfl) rfl trivial ?_
    refine hd_ca kX6_glad qX6_glad (fun _ => rfl) (r_begin M N _ hI.1 hO.1) ?_
    rintro r M1 N1 ⟨rfl, rfl, ht⟩
    refine hd_go kX6_glad 15 (fun _ => rfl) rfl trivial ?_
    refine hd_Go.post ?_ (d_glad_l M N1 v 60 0 st.1 M1 (by decide) ht)
    rintro r M2 N2 ⟨rfl, hf⟩
    exact ⟨rfl, hI.q hO hf⟩
  · rw [if_neg (hd_b0.mp q)]
    refine hd_go kX6_glad 999 (fun _ => rfl) rfl trivial ?_
    exact hd_en_ kX6_glad (fun _ => rfl) trivial ⟨rfl, fr.rf, hI⟩
set_option maxRecDepth 20000 in
theorem r_gn (M : hd_M) (N : hd_N) (d : dy_T) (hd : rf M 53 0 d) (i : Nat) (hi : i < d.1) (hn : d.1 ≤ 7) : hd_Ret mX6_isGone [.ref 51, .int (nI i)] M N (hd_is (.int (hd_b (dy_gn i d = true))) M N) := by
  change hd_Go mX6_isGone 0 [some (.ref 51), some (.int (nI i))] [] M N _
  have e29 : M 53 29 = nI d.2.1 := hd.2.1
  have e3 : M 53 (4 * i + 3) = d.2.2.2.2.2 3 i := by
    have := (hd.2.2.2.2.2 i hi).2.2.2
    rw [Nat.zero_add] at this
    exact this
  refine hd_go kX6_isGone 999 (fun _ => rfl) rfl ⟨trivial, v46 (n := 29) (by decide)⟩ ?_
  refine hd_ju kX6_isGone (fun _ => rfl) (fun c => ?_) (fun c => ?_)
  · have c : nI i < M 53 29 := c
    rw [e29] at c
    refine hd_go kX6_isGone 999 (fun _ => rfl) rfl trivial ?_
    refine hd_en_ kX6_isGone (fun _ => rfl) (Or.inl rfl) ⟨?_, rfl, rfl⟩
    rw [show hd_b (dy_gn i d = true) = 0 from if_neg (by simp [dy_gn, c])]
  · have c : ¬ nI i < M 53 29 := c
    rw [e29] at c
    refine hd_go kX6_isGone 999 (fun _ => rfl) rfl trivial ?_
    refine hd_ci kX6_isGone qX6_isGone (fun _ => rfl) (r_of i 3 (by omega) M N) ?_
    rw [e3]
    refine hd_ju kX6_isGone (fun _ => rfl) (fun c2 => ?_) (fun c2 => ?_)
    · refine hd_go kX6_isGone 999 (fun _ => rfl) rfl trivial ?_
      refine hd_en_ kX6_isGone (fun _ => rfl) (Or.inl rfl) ⟨?_, rfl, rfl⟩
      rw [show hd_b (dy_gn i d = true) = 0 from if_neg (fun z => c2 (of_decide_eq_true z).2)]
    · refine hd_go kX6_isGone 999 (fun _ => rfl) rfl trivial ?_
      refine hd_en_ kX6_isGone (fun _ => rfl) (Or.inr rfl) ⟨?_, rfl, rfl⟩
      rw [show hd_b (dy_gn i d = true) = 1 from if_pos (decide_eq_true ⟨c, c2⟩)]
/-- how long a thing stays, at most -/
def dy_mu (i : Nat) (d : dy_T) : Nat := if i < d.2.1 then (d.2.1 - i) + 6 else (d.2.2.2.2.2 3 i).toNatClampNeg
set_option maxRecDepth 20000 in
theorem out_nat {d : dy_T} (ok : dy_ok d) {i : Nat} (hi : i < d.1) : ∃ o, o ≤ 6 ∧ d.2.2.2.2.2 3 i = nI o := by
  obtain ⟨h1, h2⟩ := ok.2.2.2.1 i hi
  exact nI_of2 (M := 6) (n := 6) rfl (Int32.not_lt.mpr h1) h2
set_option maxRecDepth 20000 in
theorem lst_nat (k : Int32) : ∃ o, 0 < o ∧ o ≤ 6 ∧ dy_lst k = nI o := by
  unfold dy_lst
  split
  · exact ⟨5, by decide, by decide, rfl⟩
  · split
    · exact ⟨6, by decide, by decide, rfl⟩
    · exact ⟨3, by decide, by decide, rfl⟩
set_option maxRecDepth 20000 in
theorem dy_mu_0 {d : dy_T} (ok : dy_ok d) {i : Nat} (hi : i < d.1) : dy_gn i d = true ↔ dy_mu i d = 0 := by
  have h7 := ok.1
  have hl := ok.2.1
  obtain ⟨o, ho, e⟩ := out_nat ok hi
  unfold dy_mu dy_gn
  rw [decide_eq_true_eq, e, nI_ltI (by omega) (by omega)]
  by_cases h : i < d.2.1
  · rw [if_pos h]
    exact ⟨fun z => absurd h z.1, fun z => by omega⟩
  · rw [if_neg h, nI_clamp (by omega)]
    refine ⟨fun z => ?_, fun z => ⟨h, by rw [z]; rfl⟩⟩
    rcases Nat.eq_zero_or_pos o with y | y
    · exact y
    · exact absurd z.2 (nI_ne0 y (by omega))
set_option maxRecDepth 20000 in
theorem dy_mu_s {d : dy_T} (ok : dy_ok d) {i : Nat} (hi : i < d.1) : dy_mu i (dy_ho false d) ≤ dy_mu i d - 1 := by
  have h7 := ok.1
  have hl := ok.2.1
  obtain ⟨o, ho, e⟩ := out_nat ok hi
  have dec : ∀ o : Nat, o ≤ 6 → (if 0 < nI o then nI o - 1 else nI o) = nI (o - 1) := by
    intro o h
    rcases Nat.eq_zero_or_pos o with y | y
    · subst y; rfl
    · rw [if_pos (by have := nI_lt (a := 0) y (by omega); exact this)]
      rw [show o = (o - 1) + 1 by omega, nI_pred]
      simp
  by_cases hp : 0 < d.2.1
  · have eo : dy_op false d = (d.1, d.2.1 - 1, d.2.2.1, d.2.2.2.1, d.2.2.2.2.1, fun c i => if c = 3 ∧ i = d.2.1 - 1 then dy_lst (d.2.2.2.2.2 0 i) else d.2.2.2.2.2 c i) := by
      unfold dy_op
      rw [if_pos ⟨rfl, hp⟩]
    have el : (dy_ho false d).2.1 = d.2.1 - 1 := by show (dy_op false d).2.1 = _; rw [eo]
    unfold dy_mu
    rw [el, dy_ho_3, eo]
    show (if i < d.2.1 - 1 then d.2.1 - 1 - i + 6 else Int32.toNatClampNeg (if 0 < (if 3 = 3 ∧ i = d.2.1 - 1 then dy_lst (d.2.2.2.2.2 0 i) else d.2.2.2.2.2 3 i) then (if 3 = 3 ∧ i = d.2.1 - 1 then dy_lst (d.2.2.2.2.2 0 i) else d.2.2.2.2.2 3 i) - 1 else (if 3 = 3 ∧ i = d.2.1 - 1 then dy_lst (d.2.2.2.2.2 0 i) else d.2.2.2.2.2 3 i))) ≤ _
    by_cases h1 : i < d.2.1 - 1
    · rw [if_pos h1, if_pos (by omega)]; omega
    · rw [if_neg h1]
      by_cases h2 : i = d.2.1 - 1
      · obtain ⟨p, hp0, hp6, ep⟩ := lst_nat (d.2.2.2.2.2 0 i)
        have eX : (if 3 = 3 ∧ i = d.2.1 - 1 then dy_lst (d.2.2.2.2.2 0 i) else d.2.2.2.2.2 3 i) = nI p := by rw [if_pos ⟨rfl, h2⟩, ep]
        rw [eX, dec p hp6, nI_clamp (by omega), if_pos (show i < d.2.1 by omega)]
        omega
      · have eX : (if 3 = 3 ∧ i = d.2.1 - 1 then dy_lst (d.2.2.2.2.2 0 i) else d.2.2.2.2.2 3 i) = nI o := by rw [if_neg (fun z => h2 z.2), e]
        rw [eX, dec o ho, if_neg (show ¬ i < d.2.1 by omega), e, nI_clamp (by omega), nI_clamp (by omega)]
        omega
  · have eo : dy_op false d = d := by unfold dy_op; rw [if_neg (fun z => hp z.2)]
    have el : (dy_ho false d).2.1 = d.2.1 := by show (dy_op false d).2.1 = _; rw [eo]
    unfold dy_mu
    rw [el, dy_ho_3, eo, if_neg (show ¬ i < d.2.1 by omega), if_neg (show ¬ i < d.2.1 by omega), e, dec o ho, nI_clamp (by omega), nI_clamp (by omega)]
    omega
/-- counted to the first that is gone, or to the end -/
def dy_cnt (i : Nat) : Nat → Nat → dy_T → Nat
  | 0, k, _ => k
  | m + 1, k, d => if dy_gn i d then k else dy_cnt i m (k + 1) (dy_ho false d)
set_option maxRecDepth 20000 in
theorem cnt_first {i : Nat} : ∀ (m k : Nat) (d : dy_T), dy_ok d → i < d.1 → dy_mu i d ≤ m → dy_first (dy_gn i) m k d = nI (dy_cnt i m k d) := by
  intro m
  induction m with
  | zero =>
    intro k d ok hi hm
    have : dy_gn i d = true := (dy_mu_0 ok hi).mpr (by omega)
    rw [dy_first, dy_cnt, if_pos this]
  | succ m ih =>
    intro k d ok hi hm
    rw [dy_first, dy_cnt]
    by_cases h : dy_gn i d = true
    · rw [if_pos h, if_pos h]
    · rw [if_neg h, if_neg h]
      have := dy_mu_s ok hi
      exact ih (k + 1) _ (dy_ok_ho ok) hi (by omega)
set_option maxRecDepth 20000 in
theorem d_gone_l (M : hd_M) (N : hd_N) (i n7 : Nat) (hi : i < n7) (h7 : n7 ≤ 7) : ∀ (m j : Nat) (d : dy_T) (M' : hd_M), j + m = 60 → trR M M' d → d.1 = n7 → hd_Go mX6_gone 27 [some (.ref 51), some (.int (nI i)), some (.int (nI j))] [] M' N (fun r M1 _ => r = some (.int (nI (dy_cnt i m j d))) ∧ fr idR M M1) := by
  intro m
  induction m with
  | zero =>
    intro j d M' hj ht hn
    have hj : j = 60 := by omega
    subst hj
    refine hd_go kX6_gone 999 (fun _ => rfl) rfl trivial ?_
    refine hd_ju kX6_gone (fun _ => rfl) (fun c => ?_) (fun c => absurd (by decide) c)
    refine hd_go kX6_gone 999 (fun _ => rfl) rfl trivial ?_
    exact hd_en_ kX6_gone (fun _ => rfl) trivial ⟨rfl, ht.1⟩
  | succ m ih =>
    intro j d M' hj ht hn
    refine hd_go kX6_gone 999 (fun _ => rfl) rfl trivial ?_
    refine hd_ju kX6_gone (fun _ => rfl) (fun c => absurd c (nI_ge (b := 60) (by omega) (by decide))) (fun c => ?_)
    refine hd_go kX6_gone 999 (fun _ => rfl) rfl trivial ?_
    refine hd_ci kX6_gone qX6_gone (fun _ => rfl) (r_gn M' N d ht.2.1 i (by omega) (by omega)) ?_
    rw [dy_cnt]
    refine hd_ju kX6_gone (fun _ => rfl) (fun c => ?_) (fun c => ?_)
    · rw [if_pos (hd_b1.mp c)]
      refine hd_go kX6_gone 999 (fun _ => rfl) rfl trivial ?_
      exact hd_en_ kX6_gone (fun _ => rfl) trivial ⟨rfl, ht.1⟩
    · rw [if_neg (hd_b0.mp c)]
      refine hd_go kX6_gone 999 (fun _ => rfl) rfl trivial ?_
      refine hd_ca kX6_gone qX6_gone (fun _ => rfl) (r_one M M' N d ht 0 false rfl) ?_
      rintro r M1 N1 ⟨rfl, rfl, ht1⟩
      refine hd_go kX6_gone 999 (fun _ => rfl) rfl trivial ?_
      rw [nI_1]
      exact ih (j + 1) _ M1 (by omega) ht1 hn
set_option maxRecDepth 20000 in
theorem d_gone (i : Int32) : rA mX6_gone [.int i] (an_gone i) := by
  intro M N st hI hO
  change hd_Go mX6_gone 0 [some (.ref 51), some (.int i), none] [] M N _
  unfold an_gone
  have h7 := hO.1.1
  refine hd_go kX6_gone 999 (fun _ => rfl) rfl trivial ?_
  refine hd_ci kX6_gone qX6_gone (fun _ => rfl) (r_isTh _ M N st.1 hI.1.1 h7) ?_
  refine hd_ju kX6_gone (fun _ => rfl) (fun q => ?_) (fun q => ?_)
  · have q := hd_b1.mp q
    obtain ⟨j, hj, rfl⟩ := an_th_nat q h7
    rw [if_pos q, nI_clamp (by omega)]
    refine hd_go kX6_gone 999 (fun _ => rfl) rfl trivial ?_
    refine hd_ca kX6_gone qX6_gone (fun _ => rfl) (r_begin M N _ hI.1 hO.1) ?_
    rintro r M1 N1 ⟨rfl, rfl, ht⟩
    refine hd_go kX6_gone 999 (fun _ => rfl) rfl trivial ?_
    refine hd_ci kX6_gone qX6_gone (fun _ => rfl) (r_gn M1 N1 _ ht.2.1 j hj h7) ?_
    refine hd_ju kX6_gone (fun _ => rfl) (fun c => ?_) (fun c => ?_)
    · have c := hd_b0.mp c
      rw [if_neg c]
      refine hd_go kX6_gone 27 (fun _ => rfl) rfl trivial ?_
      refine hd_Go.post ?_ (d_gone_l M N1 j st.1.1 hj h7 60 0 st.1 M1 (by decide) ht rfl)
      rintro r M2 N2 ⟨rfl, hf⟩
      refine ⟨?_, hI.q hO hf⟩
      rw [dy_cnt, if_neg c]
      have h1 := dy_mu_s hO.1 hj
      have h2 : dy_mu j st.1 ≤ 13 := by
        have hl := hO.1.2.1
        obtain ⟨o, ho, e⟩ := out_nat hO.1 hj
        unfold dy_mu
        split
        · omega
        · rw [e, nI_clamp (by omega)]; omega
      have := cnt_first (i := j) 59 1 (dy_ho false st.1) (dy_ok_ho hO.1) hj (by omega)
      exact congrArg (fun x => some (Value.int x)) this.symm
    · rw [if_pos (hd_b1.mp c)]
      refine hd_go kX6_gone 999 (fun _ => rfl) rfl trivial ?_
      exact hd_en_ kX6_gone (fun _ => rfl) trivial ⟨rfl, hI.q hO ht.1⟩
  · rw [if_neg (hd_b0.mp q)]
    refine hd_go kX6_gone 999 (fun _ => rfl) rfl trivial ?_
    exact hd_en_ kX6_gone (fun _ => rfl) trivial ⟨rfl, fr.rf, hI⟩
