/-! THE REFERENCE'S HOURS; printed by wip/whole/ref2.py -/
set_option maxRecDepth 20000 in
theorem v46 {n : Nat} (h : n < 46) : vp_in (nI n) 46 := vp_in_nI h (by decide)
/-- cells of the reference's row of now, one for one -/
abbrev n33 : Nat → Nat → Prop := fun c j => c = 53 ∧ j < 33
set_option maxRecDepth 20000 in
theorem r_hour_l (N : hd_N) (n : Nat) (hn : n ≤ 7) (ot ch : Nat → Int32) (lv : Int32) (Q : hd_Q) (M : hd_M) (T : Int32) (h28 : M 53 28 = nI n) (hch : ∀ x, x < n → dy_chr (wsm (fun k => M 53 (4 * k + 2)) (x + 1) (n - (x + 1))) (M 53 (4 * x)) (M 53 (4 * x + 1)) (M 53 (4 * x + 2)) = ch x) (hk : ∀ M1, fr (fun c j => c = 53 ∧ j < 28 ∧ j % 4 = 3) M M1 → (∀ x, x < n → M1 53 (4 * x + 3) = if 0 < ot x then ot x - 1 else ot x) → hd_Go mX6_hourGoes 114 [some (.ref 51), some (.int lv), some (.int T), some (.int (nI n))] [] M1 N Q) : ∀ (m j : Nat) (s : Int32) (M' : hd_M), j + m = n → fr (fun c j => c = 53 ∧ j < 28 ∧ j % 4 = 3) M M' → (∀ x, x < j → M' 53 (4 * x + 3) = if 0 < ot x then ot x - 1 else ot x) → (∀ x, j ≤ x → x < n → M' 53 (4 * x + 3) = ot x) → dy_tik ot ch j m s = T → hd_Go mX6_hourGoes 66 [some (.ref 51), some (.int lv), some (.int s), some (.int (nI j))] [] M' N Q := by
  intro m
  induction m with
  | zero =>
    intro j s M' hj hf h1 h2 hT
    have e28 : M' 53 28 = nI n := (hf 53 28 (by simp)).trans h28
    refine hd_go kX6_hourGoes 999 (fun _ => rfl) rfl ⟨trivial, v46 (n := 28) (by decide)⟩ ?_
    refine hd_ju kX6_hourGoes (fun _ => rfl) (fun c => ?_) (fun c => ?_)
    · have hjn : j = n := by omega
      subst hjn
      have hs : s = T := hT
      subst hs
      exact hk M' hf h1
    · have c : ¬ M' 53 28 ≤ nI j := c
      rw [e28] at c
      exact absurd (nI_le (by omega) (by omega)) c
  | succ m ih =>
    intro j s M' hj hf h1 h2 hT
    have e28 : M' 53 28 = nI n := (hf 53 28 (by simp)).trans h28
    have eo : M' 53 (4 * j + 3) = ot j := h2 j (Nat.le_refl _) (by omega)
    have g0 : ∀ x, x < 7 → M' 53 (4 * x) = M 53 (4 * x) := fun x hx => hf _ _ (by show ¬ (53 = 53 ∧ 4 * x < 28 ∧ 4 * x % 4 = 3); omega)
    have g1 : ∀ x, x < 7 → M' 53 (4 * x + 1) = M 53 (4 * x + 1) := fun x hx => hf _ _ (by show ¬ (53 = 53 ∧ 4 * x + 1 < 28 ∧ (4 * x + 1) % 4 = 3); omega)
    have g2 : ∀ x, M' 53 (4 * x + 2) = M 53 (4 * x + 2) := fun x => hf _ _ (by show ¬ (53 = 53 ∧ 4 * x + 2 < 28 ∧ (4 * x + 2) % 4 = 3); omega)
    have eg : (fun k => M' 53 (4 * k + 2)) = fun k => M 53 (4 * k + 2) := funext g2
    refine hd_go kX6_hourGoes 999 (fun _ => rfl) rfl ⟨trivial, v46 (n := 28) (by decide)⟩ ?_
    refine hd_ju kX6_hourGoes (fun _ => rfl) (fun c => ?_) (fun c => ?_)
    · have c : M' 53 28 ≤ nI j := c
      rw [e28] at c
      exact absurd c (nI_ge (by omega) (by omega))
    refine hd_go kX6_hourGoes 999 (fun _ => rfl) rfl trivial ?_
    refine hd_ci kX6_hourGoes qX6_hourGoes (fun _ => rfl) (r_of j 3 (by omega) M' N) ?_
    rw [eo]
    rw [dy_tik] at hT
    refine hd_ju kX6_hourGoes (fun _ => rfl) (fun c => ?_) (fun c => ?_)
    · refine hd_go kX6_hourGoes 999 (fun _ => rfl) rfl trivial ?_
      have c9 : ¬ 0 < ot j := Int32.not_lt.mpr c
      rw [if_neg c9] at hT
      rw [nI_1]
      refine ih (j + 1) s M' (by omega) hf (fun x hx => ?_) (fun x hx => h2 x (by omega)) hT
      by_cases hxj : x = j
      · subst hxj
        rw [eo, if_neg c9]
      · exact h1 x (by omega)
    · have c9 : 0 < ot j := Int32.not_le.mp c
      rw [if_pos c9] at hT
      refine hd_go kX6_hourGoes 999 (fun _ => rfl) rfl trivial ?_
      refine hd_ci kX6_hourGoes qX6_hourGoes (fun _ => rfl) (r_cheers M' N n hn e28 j (by omega)) ?_
      rw [eg, g0 j (by omega), g1 j (by omega), g2, hch j (by omega)]
      refine hd_go kX6_hourGoes 999 (fun _ => rfl) rfl trivial ?_
      refine hd_ci kX6_hourGoes qX6_hourGoes (fun _ => rfl) (r_of j 3 (by omega) M' N) ?_
      rw [eo]
      refine hd_go kX6_hourGoes 999 (fun _ => rfl) rfl trivial ?_
      refine hd_ca kX6_hourGoes qX6_hourGoes (fun _ => rfl) (r_bo j 3 (by omega) _ M' N) ?_
      rintro r M1 N1 ⟨rfl, rfl, rfl⟩
      refine hd_go kX6_hourGoes 999 (fun _ => rfl) rfl trivial ?_
      rw [nI_1]
      refine ih (j + 1) _ _ (by omega) (hf.up (by show 53 = 53 ∧ 4 * j + 3 < 28 ∧ (4 * j + 3) % 4 = 3; omega)) (fun x hx => ?_) (fun x hx hx2 => ?_) hT
      · by_cases hxj : x = j
        · subst hxj
          rw [hd_u_s, if_pos c9]
        · rw [hd_u_n (by omega)]
          exact h1 x (by omega)
      · rw [hd_u_n (by omega)]
        exact h2 x (by omega) hx2
set_option maxRecDepth 20000 in
theorem r_hour (M : hd_M) (N : hd_N) (d : dy_T) (hd : rf M 53 0 d) (ok : dy_ok d) (lv : Int32) (lid : Bool) (hl : lv = if lid then 1 else 0) : hd_Ret mX6_hourGoes [.ref 51, .int lv] M N (fun r M1 N1 => r = none ∧ N1 = N ∧ fr n33 M M1 ∧ rf M1 53 0 (dy_ho lid d)) := by
  change hd_Go mX6_hourGoes 0 [some (.ref 51), some (.int lv), none, none] [] M N _
  obtain ⟨hn, hln, hlo, hout, -, -⟩ := ok
  have main : ∀ Ma : hd_M, fr n33 M Ma → rf Ma 53 0 (dy_op lid d) → hd_Go mX6_hourGoes 48 [some (.ref 51), some (.int lv), none, none] [] Ma N (fun r M1 N1 => r = none ∧ N1 = N ∧ fr n33 M M1 ∧ rf M1 53 0 (dy_ho lid d)) := by
    intro Ma hfa hma
    have en : (dy_op lid d).1 = d.1 := by unfold dy_op; split <;> rfl
    have em : (dy_op lid d).2.2.1 = d.2.2.1 := by unfold dy_op; split <;> rfl
    have et : (dy_op lid d).2.2.2.1 = d.2.2.2.1 := by unfold dy_op; split <;> rfl
    have eh : (dy_op lid d).2.2.2.2.1 = d.2.2.2.2.1 := by unfold dy_op; split <;> rfl
    have hch : ∀ x, x < d.1 → dy_chr (wsm (fun k => Ma 53 (4 * k + 2)) (x + 1) (d.1 - (x + 1))) (Ma 53 (4 * x)) (Ma 53 (4 * x + 1)) (Ma 53 (4 * x + 2)) = dy_ch d x := by
      intro x hx
      have := rf_ch hma (i := x) (by rw [en]; exact hx)
      rw [en] at this
      rw [this]
      exact dy_ch_eq en (fun c j h => dy_op_c h)
    obtain ⟨a5, a6, a7, a8, a9, b⟩ := hma
    rw [en] at a5 b
    have a5 : Ma 53 28 = nI d.1 := a5
    have a6 : Ma 53 29 = nI (dy_op lid d).2.1 := a6
    have a7 : Ma 53 30 = (dy_op lid d).2.2.1 := a7
    have a8 : Ma 53 31 = (dy_op lid d).2.2.2.1 := a8
    have a9 : Ma 53 32 = (dy_op lid d).2.2.2.2.1 := a9
    have b : ∀ i, i < d.1 → Ma 53 (4 * i) = (dy_op lid d).2.2.2.2.2 0 i ∧ Ma 53 (4 * i + 1) = (dy_op lid d).2.2.2.2.2 1 i ∧ Ma 53 (4 * i + 2) = (dy_op lid d).2.2.2.2.2 2 i ∧ Ma 53 (4 * i + 3) = (dy_op lid d).2.2.2.2.2 3 i := by
      intro i hi
      have := b i hi
      simp only [Nat.zero_add] at this
      exact this
    refine hd_go kX6_hourGoes 66 (fun _ => rfl) rfl ⟨⟨trivial, v46 (n := 30) (by decide)⟩, v46 (n := 31) (by decide)⟩ ?_
    show hd_Go mX6_hourGoes 66 [some (.ref 51), some (.int lv), some (.int (Ma 53 30 - Ma 53 31)), some (.int 0)] [] Ma N _
    rw [a7, a8, em, et]
    refine r_hour_l N d.1 hn ((dy_op lid d).2.2.2.2.2 3) (dy_ch d) lv _ Ma _ a5 hch ?_ d.1 0 _ Ma (by omega) fr.rf (fun x hx => absurd hx (Nat.not_lt_zero x)) (fun x _ hx => (b x hx).2.2.2) rfl
    intro M1 hf1 hx1
    generalize hT : dy_tik ((dy_op lid d).2.2.2.2.2 3) (dy_ch d) 0 d.1 (d.2.2.1 - d.2.2.2.1) = T
    have g : ∀ j, 28 ≤ j → M1 53 j = Ma 53 j := fun j hj => hf1 53 j (by show ¬ (53 = 53 ∧ j < 28 ∧ j % 4 = 3); omega)
    have fin : ∀ x : Int32, x = dy_clm T → hd_Go mX6_hourGoes 140 [some (.ref 51), some (.int lv), some (.int T), some (.int (nI d.1))] [.int x, .int 30, .ref 53] M1 N (fun r M1 N1 => r = none ∧ N1 = N ∧ fr n33 M M1 ∧ rf M1 53 0 (dy_ho lid d)) := by
      intro x hx
      refine hd_go kX6_hourGoes 999 (fun _ => rfl) rfl ⟨⟨⟨trivial, v46 (n := 30) (by decide)⟩, v46 (n := 32) (by decide)⟩, v46 (n := 32) (by decide)⟩ ?_
      show hd_Go mX6_hourGoes 152 [some (.ref 51), some (.int lv), some (.int T), some (.int (nI d.1))] [] (hd_u (hd_u M1 53 30 x) 53 32 (hd_u M1 53 30 x 53 32 + 1)) N _
      have hfr : fr n33 M (hd_u (hd_u M1 53 30 x) 53 32 (hd_u M1 53 30 x 53 32 + 1)) := ((hfa.tr (hf1.mo (fun c j h => by have h : c = 53 ∧ j < 28 ∧ j % 4 = 3 := h; show c = 53 ∧ j < 33; omega))).up (by decide)).up (by decide)
      refine hd_en_ kX6_hourGoes (fun _ => rfl) trivial ⟨rfl, rfl, hfr, ?_⟩
      refine ⟨?_, ?_, ?_, ?_, ?_, fun i hi => ?_⟩
      · rw [hd_u_n (by omega), hd_u_n (by omega), g _ (by omega)]; exact a5
      · rw [hd_u_n (by omega), hd_u_n (by omega), g _ (by omega)]; exact a6
      · rw [hd_u_n (by omega), show 0 + 30 = 30 from rfl, hd_u_s, hx, ← hT]; rfl
      · rw [hd_u_n (by omega), hd_u_n (by omega), g _ (by omega)]; exact a8.trans et
      · rw [show 0 + 32 = 32 from rfl, hd_u_s, hd_u_n (by omega), g _ (by omega), a9, eh]; rfl
      · have hi : i < d.1 := hi
        obtain ⟨b0, b1, b2, b3⟩ := b i hi
        have k0 : ∀ c, c < 4 → hd_u (hd_u M1 53 30 x) 53 32 (hd_u M1 53 30 x 53 32 + 1) 53 (0 + (4 * i + c)) = M1 53 (4 * i + c) := fun c hc => by rw [Nat.zero_add, hd_u_n (by omega), hd_u_n (by omega)]
        have k1 : ∀ c, c < 3 → M1 53 (4 * i + c) = Ma 53 (4 * i + c) := fun c hc => hf1 53 _ (by show ¬ (53 = 53 ∧ 4 * i + c < 28 ∧ (4 * i + c) % 4 = 3); omega)
        refine ⟨?_, ?_, ?_, ?_⟩
        · have := k0 0 (by decide)
          rw [Nat.add_zero] at this
          rw [this]
          have := k1 0 (by decide)
          rw [Nat.add_zero] at this
          rw [this, b0]; rfl
        · rw [k0 1 (by decide), k1 1 (by decide), b1]; rfl
        · rw [k0 2 (by decide), k1 2 (by decide), b2]; rfl
        · rw [k0 3 (by decide), hx1 i hi, dy_ho_3]
    refine hd_go kX6_hourGoes 999 (fun _ => rfl) rfl trivial ?_
    refine hd_ju kX6_hourGoes (fun _ => rfl) (fun c => ?_) (fun c => ?_)
    · refine hd_go kX6_hourGoes 999 (fun _ => rfl) rfl trivial ?_
      refine hd_ju kX6_hourGoes (fun _ => rfl) (fun c2 => ?_) (fun c2 => ?_)
      · refine hd_go kX6_hourGoes 140 (fun _ => rfl) rfl trivial ?_
        refine fin _ ?_
        unfold dy_clm
        rw [if_neg (Int32.not_lt.mpr c), if_neg (Int32.not_lt.mpr c2)]
      · refine hd_go kX6_hourGoes 140 (fun _ => rfl) rfl trivial ?_
        refine fin _ ?_
        unfold dy_clm
        rw [if_neg (Int32.not_lt.mpr c), if_pos (Int32.not_le.mp c2)]
    · refine hd_go kX6_hourGoes 140 (fun _ => rfl) rfl trivial ?_
      refine fin _ ?_
      unfold dy_clm
      rw [if_pos (Int32.not_le.mp c)]
  have hno : ¬ (lid = false ∧ 0 < d.2.1) → hd_Go mX6_hourGoes 48 [some (.ref 51), some (.int lv), none, none] [] M N (fun r M1 N1 => r = none ∧ N1 = N ∧ fr n33 M M1 ∧ rf M1 53 0 (dy_ho lid d)) := by
    intro hc
    have e : dy_op lid d = d := by unfold dy_op; rw [if_neg hc]
    exact main M fr.rf (by rw [e]; exact hd)
  obtain ⟨a5, a6, a7, a8, a9, b⟩ := hd
  have a6 : M 53 29 = nI d.2.1 := a6
  refine hd_go kX6_hourGoes 999 (fun _ => rfl) rfl trivial ?_
  refine hd_ju kX6_hourGoes (fun _ => rfl) (fun c => ?_) (fun c => ?_)
  · refine hno (fun z => ?_)
    rw [z.1] at hl
    exact c hl
  have hlid : lid = false := by
    cases lid with
    | false => rfl
    | true => rw [hl] at c; exact absurd c (by decide)
  refine hd_go kX6_hourGoes 999 (fun _ => rfl) rfl ⟨trivial, v46 (n := 29) (by decide)⟩ ?_
  show hd_Go mX6_hourGoes 11 [some (.ref 51), some (.int lv), none, none] [.int (M 53 29)] M N _
  rw [a6]
  refine hd_ju kX6_hourGoes (fun _ => rfl) (fun c => ?_) (fun c => ?_)
  · refine hno (fun z => ?_)
    exact nI_nle z.2 (by omega) c
  have hpos : 0 < d.2.1 := by
    rcases Nat.eq_zero_or_pos d.2.1 with z | z
    · rw [z] at c; exact absurd (by decide) c
    · exact z
  have e6 : M 53 29 - 1 = nI (d.2.1 - 1) := by
    rw [a6, show d.2.1 = (d.2.1 - 1) + 1 by omega, nI_pred]
    simp
  refine hd_go kX6_hourGoes 999 (fun _ => rfl) rfl ⟨⟨⟨⟨trivial, v46 (n := 29) (by decide)⟩, v46 (n := 29) (by decide)⟩, v46 (n := 29) (by decide)⟩, v46 (n := 29) (by decide)⟩ ?_
  show hd_Go mX6_hourGoes 42 [some (.ref 51), some (.int lv), none, none] [.int (hd_u M 53 29 (M 53 29 - 1) 53 29), .ref 51, .int 3, .int (hd_u M 53 29 (M 53 29 - 1) 53 29), .ref 51] (hd_u M 53 29 (M 53 29 - 1)) N _
  rw [hd_u_s, e6]
  refine hd_ci kX6_hourGoes qX6_hourGoes (fun _ => rfl) (r_lasts (d.2.1 - 1) (by omega) _ N) ?_
  rw [hd_u_n (by omega)]
  refine hd_ca kX6_hourGoes qX6_hourGoes (fun _ => rfl) (r_bo (d.2.1 - 1) 3 (by omega) _ _ N) ?_
  rintro r M1 N1 ⟨rfl, rfl, rfl⟩
  have e : dy_op lid d = (d.1, d.2.1 - 1, d.2.2.1, d.2.2.2.1, d.2.2.2.2.1, fun c i => if c = 3 ∧ i = d.2.1 - 1 then dy_lst (d.2.2.2.2.2 0 i) else d.2.2.2.2.2 c i) := by
    unfold dy_op
    rw [if_pos ⟨hlid, hpos⟩]
  have eb : ∀ i, i < d.1 → M 53 (4 * i) = d.2.2.2.2.2 0 i ∧ M 53 (4 * i + 1) = d.2.2.2.2.2 1 i ∧ M 53 (4 * i + 2) = d.2.2.2.2.2 2 i ∧ M 53 (4 * i + 3) = d.2.2.2.2.2 3 i := by
    intro i hi
    have := b i hi
    simp only [Nat.zero_add] at this
    exact this
  refine main _ ((fr.rf.up (by decide)).up (by show 53 = 53 ∧ 4 * (d.2.1 - 1) + 3 < 33; omega)) ?_
  rw [e, (eb (d.2.1 - 1) (by omega)).1]
  refine ⟨?_, ?_, ?_, ?_, ?_, fun i hi => ?_⟩
  · rw [hd_u_n (by omega), hd_u_n (by omega)]; exact a5
  · rw [hd_u_n (by omega), show 0 + 29 = 29 from rfl, hd_u_s]
  · rw [hd_u_n (by omega), hd_u_n (by omega)]; exact a7
  · rw [hd_u_n (by omega), hd_u_n (by omega)]; exact a8
  · rw [hd_u_n (by omega), hd_u_n (by omega)]; exact a9
  · have hi : i < d.1 := hi
    obtain ⟨b0, b1, b2, b3⟩ := eb i hi
    refine ⟨?_, ?_, ?_, ?_⟩
    · rw [hd_u_n (by omega), hd_u_n (by omega), Nat.zero_add, b0]; rfl
    · rw [hd_u_n (by omega), hd_u_n (by omega), Nat.zero_add, b1]; rfl
    · rw [hd_u_n (by omega), hd_u_n (by omega), Nat.zero_add, b2]; rfl
    · show _ = if 3 = 3 ∧ i = d.2.1 - 1 then dy_lst (d.2.2.2.2.2 0 i) else d.2.2.2.2.2 3 i
      by_cases hi2 : i = d.2.1 - 1
      · rw [if_pos ⟨rfl, hi2⟩, ← hi2, Nat.zero_add, hd_u_s]
      · rw [if_neg (fun z => hi2 z.2), hd_u_n (by omega), hd_u_n (by omega), Nat.zero_add]
        exact b3
set_option maxRecDepth 20000 in
theorem r_hours_l (N : hd_N) (n : Nat) (hn : n ≤ 60) (M : hd_M) : ∀ (m j : Nat) (d : dy_T) (M' : hd_M), j + m = n → fr n33 M M' → rf M' 53 0 d → dy_ok d → hd_Go mX6_hoursGo 2 [some (.ref 51), some (.int (nI n)), some (.int (nI j))] [] M' N (fun r M1 N1 => r = none ∧ N1 = N ∧ fr n33 M M1 ∧ rf M1 53 0 (dy_hs m d)) := by
  intro m
  induction m with
  | zero =>
    intro j d M' hj hf hd ok
    refine hd_go kX6_hoursGo 999 (fun _ => rfl) rfl trivial ?_
    refine hd_ju kX6_hoursGo (fun _ => rfl) (fun c => ?_) (fun c => absurd (nI_le (by omega) (by omega)) c)
    exact hd_en_ kX6_hoursGo (fun _ => rfl) trivial ⟨rfl, rfl, hf, hd⟩
  | succ m ih =>
    intro j d M' hj hf hd ok
    refine hd_go kX6_hoursGo 999 (fun _ => rfl) rfl trivial ?_
    refine hd_ju kX6_hoursGo (fun _ => rfl) (fun c => absurd c (nI_ge (by omega) (by omega))) (fun c => ?_)
    refine hd_go kX6_hoursGo 999 (fun _ => rfl) rfl trivial ?_
    refine hd_ca kX6_hoursGo qX6_hoursGo (fun _ => rfl) (r_hour M' N d hd ok 0 false rfl) ?_
    rintro r M1 N1 ⟨rfl, rfl, hf1, hd1⟩
    refine hd_go kX6_hoursGo 999 (fun _ => rfl) rfl trivial ?_
    rw [nI_1]
    exact ih (j + 1) (dy_ho false d) M1 (by omega) (hf.tr hf1) hd1 (dy_ok_ho ok)
set_option maxRecDepth 20000 in
theorem r_hours0 (M : hd_M) (N : hd_N) (d : dy_T) (hd : rf M 53 0 d) (ok : dy_ok d) (n : Nat) (hn : n ≤ 60) : hd_Ret mX6_hoursGo [.ref 51, .int (nI n)] M N (fun r M1 N1 => r = none ∧ N1 = N ∧ fr n33 M M1 ∧ rf M1 53 0 (dy_hs n d)) := by
  change hd_Go mX6_hoursGo 0 [some (.ref 51), some (.int (nI n)), none] [] M N _
  refine hd_go kX6_hoursGo 2 (fun _ => rfl) rfl trivial ?_
  exact r_hours_l N n hn M n 0 d M (by omega) fr.rf hd ok
set_option maxRecDepth 20000 in
theorem r_mb (M : hd_M) (N : hd_N) (d : dy_T) (hd : rf M 53 0 d) (ok : dy_ok d) (n : Nat) (hn : n ≤ 60) : hd_Ret mX6_moodBehind [.ref 51, .int (nI n)] M N (fun r M1 N1 => r = some (.int (dy_md n d)) ∧ N1 = N ∧ fr n33 M M1) := by
  change hd_Go mX6_moodBehind 0 [some (.ref 51), some (.int (nI n))] [] M N _
  refine hd_go kX6_moodBehind 999 (fun _ => rfl) rfl trivial ?_
  refine hd_ca kX6_moodBehind qX6_moodBehind (fun _ => rfl) (r_hours0 M N d hd ok n hn) ?_
  rintro r M1 N1 ⟨rfl, rfl, hf1, hd1⟩
  refine hd_go kX6_moodBehind 999 (fun _ => rfl) rfl ⟨trivial, v46 (n := 30) (by decide)⟩ ?_
  refine hd_en_ kX6_moodBehind (fun _ => rfl) trivial ⟨?_, rfl, hf1⟩
  rw [show M1 53 (Int32.toNatClampNeg 30) = (dy_hs n d).2.2.1 from hd1.2.2.1]
  rfl
set_option maxRecDepth 20000 in
theorem or_fl (x : Int32) (b : Bool) (s : Int32) : x ||| ((hd_b (b = true)) <<< s) = if b then x ||| (1 <<< s) else x := by
  cases b with
  | true => rfl
  | false =>
    show x ||| ((0 : Int32) <<< s) = x
    rw [Int32.zero_shiftLeft, Int32.or_zero]
set_option maxRecDepth 20000 in
theorem r_out_l (M : hd_M) (N : hd_N) (d : dy_T) (hd : rf M 53 0 d) (hn : d.1 ≤ 7) : ∀ (m j : Nat), j + m = d.1 → hd_Go mX6_outNow 4 [some (.ref 51), some (.int (dy_bits (fun i => decide (0 < d.2.2.2.2.2 3 i)) j)), some (.int (nI j))] [] M N (hd_is (.int (dy_out d)) M N) := by
  have e28 : M 53 28 = nI d.1 := hd.1
  intro m
  induction m with
  | zero =>
    intro j hj
    have hj : j = d.1 := by omega
    subst hj
    refine hd_go kX6_outNow 999 (fun _ => rfl) rfl ⟨trivial, v46 (n := 28) (by decide)⟩ ?_
    refine hd_ju kX6_outNow (fun _ => rfl) (fun c => ?_) (fun c => ?_)
    · refine hd_go kX6_outNow 999 (fun _ => rfl) rfl trivial ?_
      exact hd_en_ kX6_outNow (fun _ => rfl) trivial ⟨rfl, rfl, rfl⟩
    · have c : ¬ M 53 28 ≤ nI d.1 := c
      rw [e28] at c
      exact absurd (nI_le (Nat.le_refl _) (by omega)) c
  | succ m ih =>
    intro j hj
    have e3 : M 53 (4 * j + 3) = d.2.2.2.2.2 3 j := by
      have := (hd.2.2.2.2.2 j (by omega)).2.2.2
      rw [Nat.zero_add] at this
      exact this
    refine hd_go kX6_outNow 999 (fun _ => rfl) rfl ⟨trivial, v46 (n := 28) (by decide)⟩ ?_
    refine hd_ju kX6_outNow (fun _ => rfl) (fun c => ?_) (fun c => ?_)
    · have c : M 53 28 ≤ nI j := c
      rw [e28] at c
      exact absurd c (nI_ge (by omega) (by omega))
    refine hd_go kX6_outNow 999 (fun _ => rfl) rfl trivial ?_
    refine hd_ci kX6_outNow qX6_outNow (fun _ => rfl) (r_of j 3 (by omega) M N) ?_
    rw [e3]
    have := ih (j + 1) (by omega)
    rw [dy_bits] at this
    refine hd_ju kX6_outNow (fun _ => rfl) (fun c => ?_) (fun c => ?_)
    · rw [decide_eq_false (Int32.not_lt.mpr c)] at this
      refine hd_go kX6_outNow 999 (fun _ => rfl) rfl trivial ?_
      refine hd_ci kX6_outNow qX6_outNow (fun _ => rfl) (r_flag _ M N) ?_
      refine hd_go kX6_outNow 999 (fun _ => rfl) rfl trivial ?_
      rw [nI_1, show hd_b (¬ (0 : Int32) = 0) = hd_b (false = true) from rfl, or_fl]
      exact this
    · rw [decide_eq_true (Int32.not_le.mp c)] at this
      refine hd_go kX6_outNow 999 (fun _ => rfl) rfl trivial ?_
      refine hd_ci kX6_outNow qX6_outNow (fun _ => rfl) (r_flag _ M N) ?_
      refine hd_go kX6_outNow 999 (fun _ => rfl) rfl trivial ?_
      rw [nI_1, show hd_b (¬ (1 : Int32) = 0) = hd_b (true = true) from rfl, or_fl]
      exact this
set_option maxRecDepth 20000 in
theorem r_out (M : hd_M) (N : hd_N) (d : dy_T) (hd : rf M 53 0 d) (hn : d.1 ≤ 7) : hd_Ret mX6_outNow [.ref 51] M N (hd_is (.int (dy_out d)) M N) := by
  change hd_Go mX6_outNow 0 [some (.ref 51), none, none] [] M N _
  refine hd_go kX6_outNow 4 (fun _ => rfl) rfl trivial ?_
  exact r_out_l M N d hd hn d.1 0 (by omega)
set_option maxRecDepth 20000 in
theorem r_all_l (N : hd_N) (n : Nat) (hn : n ≤ 7) (M : hd_M) (h28 : M 53 28 = nI n) : ∀ (m j : Nat) (M' : hd_M), j + m = n → fr (fun c j => c = 53 ∧ j < 28 ∧ j % 4 = 3) M M' → (∀ x, x < j → M' 53 (4 * x + 3) = 0) → hd_Go mX6_allGoIn 16 [some (.ref 51), some (.int (nI j))] [] M' N (fun r M1 N1 => r = none ∧ N1 = N ∧ fr (fun c j => c = 53 ∧ j < 28 ∧ j % 4 = 3) M M1 ∧ ∀ x, x < n → M1 53 (4 * x + 3) = 0) := by
  intro m
  induction m with
  | zero =>
    intro j M' hj hf hx
    have e28 : M' 53 28 = nI n := (hf 53 28 (by simp)).trans h28
    refine hd_go kX6_allGoIn 999 (fun _ => rfl) rfl ⟨trivial, v46 (n := 28) (by decide)⟩ ?_
    refine hd_ju kX6_allGoIn (fun _ => rfl) (fun c => ?_) (fun c => ?_)
    · exact hd_en_ kX6_allGoIn (fun _ => rfl) trivial ⟨rfl, rfl, hf, fun x h => hx x (by omega)⟩
    · have c : ¬ M' 53 28 ≤ nI j := c
      rw [e28] at c
      exact absurd (nI_le (by omega) (by omega)) c
  | succ m ih =>
    intro j M' hj hf hx
    have e28 : M' 53 28 = nI n := (hf 53 28 (by simp)).trans h28
    refine hd_go kX6_allGoIn 999 (fun _ => rfl) rfl ⟨trivial, v46 (n := 28) (by decide)⟩ ?_
    refine hd_ju kX6_allGoIn (fun _ => rfl) (fun c => ?_) (fun c => ?_)
    · have c : M' 53 28 ≤ nI j := c
      rw [e28] at c
      exact absurd c (nI_ge (by omega) (by omega))
    refine hd_go kX6_allGoIn 999 (fun _ => rfl) rfl trivial ?_
    refine hd_ca kX6_allGoIn qX6_allGoIn (fun _ => rfl) (r_bo j 3 (by omega) 0 M' N) ?_
    rintro r M1 N1 ⟨rfl, rfl, rfl⟩
    refine hd_go kX6_allGoIn 999 (fun _ => rfl) rfl trivial ?_
    rw [nI_1]
    refine ih (j + 1) _ (by omega) (hf.up (by show 53 = 53 ∧ 4 * j + 3 < 28 ∧ (4 * j + 3) % 4 = 3; omega)) (fun x h => ?_)
    by_cases e : x = j
    · rw [e, hd_u_s]
    · rw [hd_u_n (by omega)]; exact hx x (by omega)
set_option maxRecDepth 20000 in
theorem r_all (M : hd_M) (N : hd_N) (d : dy_T) (hd : rf M 53 0 d) (hn : d.1 ≤ 7) : hd_Ret mX6_allGoIn [.ref 51] M N (fun r M1 N1 => r = none ∧ N1 = N ∧ fr n33 M M1 ∧ rf M1 53 0 (dy_in d)) := by
  change hd_Go mX6_allGoIn 0 [some (.ref 51), none] [] M N _
  obtain ⟨a5, a6, a7, a8, a9, b⟩ := hd
  have a5 : M 53 28 = nI d.1 := a5
  refine hd_go kX6_allGoIn 16 (fun _ => rfl) rfl ⟨⟨trivial, v46 (n := 28) (by decide)⟩, v46 (n := 29) (by decide)⟩ ?_
  refine hd_Go.post ?_ (r_all_l N d.1 hn (hd_u M 53 29 (M 53 28)) (by rw [hd_u_n (by omega)]; exact a5) d.1 0 _ (by omega) fr.rf (fun x h => absurd h (Nat.not_lt_zero x)))
  rintro r M1 N1 ⟨rfl, rfl, hf, hx⟩
  have g : ∀ j, ¬ (j < 28 ∧ j % 4 = 3) → M1 53 j = hd_u M 53 29 (M 53 28) 53 j := fun j hj => hf 53 j (by show ¬ (53 = 53 ∧ j < 28 ∧ j % 4 = 3); omega)
  refine ⟨rfl, rfl, (fr.rf.up (by decide)).tr (hf.mo (fun c j h => by have h : c = 53 ∧ j < 28 ∧ j % 4 = 3 := h; show c = 53 ∧ j < 33; omega)), ?_⟩
  refine ⟨?_, ?_, ?_, ?_, ?_, fun i hi => ?_⟩
  · rw [g _ (by omega), hd_u_n (by omega)]; exact a5
  · rw [g _ (by omega), show 0 + 29 = 29 from rfl, hd_u_s]; exact a5
  · rw [g _ (by omega), hd_u_n (by omega)]; exact a7
  · rw [g _ (by omega), hd_u_n (by omega)]; exact a8
  · rw [g _ (by omega), hd_u_n (by omega)]; exact a9
  · have hi : i < d.1 := hi
    obtain ⟨b0, b1, b2, b3⟩ := b i hi
    refine ⟨?_, ?_, ?_, ?_⟩
    · rw [g _ (by omega), hd_u_n (by omega)]; exact b0
    · rw [g _ (by omega), hd_u_n (by omega)]; exact b1
    · rw [g _ (by omega), hd_u_n (by omega)]; exact b2
    · rw [Nat.zero_add]; exact hx i hi
