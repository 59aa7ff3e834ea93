/-! THE REFERENCE'S JUDGING; printed by wip/whole/ref6.py -/
/-- the reference judges: best b, code o; all else idle -/
def jdR (M0 M : hd_M) (b o : Int32) : Prop := fr idR M0 M ∧ M 51 14 = o ∧ M 51 15 = b
set_option maxRecDepth 20000 in
theorem jdR.now {M0 M M1 : hd_M} {b o : Int32} (h : jdR M0 M b o) (hf : fr nowF M M1) : jdR M0 M1 b o := ⟨h.1.tr (nowR hf), (hf 51 14 (by simp)).trans h.2.1, (hf 51 15 (by simp)).trans h.2.2⟩
set_option maxRecDepth 20000 in
theorem jdR.st {M0 M : hd_M} {b o : Int32} (h : jdR M0 M b o) (j : Nat) : M 52 j = M0 52 j := h.1 52 j (by simp)
set_option maxRecDepth 20000 in
theorem jdR.rf {M0 M : hd_M} {b o : Int32} {d : dy_T} (h : jdR M0 M b o) (hd : rf M0 52 0 d) (hn : d.1 ≤ 7) : rf M 52 0 d := hd.mv hn (fun j _ _ => h.st j)
set_option maxRecDepth 20000 in
theorem j14 : idR 51 14 := Or.inr (Or.inr (Or.inr (Or.inr ⟨rfl, by decide, by decide, by decide⟩)))
set_option maxRecDepth 20000 in
theorem j15 : idR 51 15 := Or.inr (Or.inr (Or.inr (Or.inr ⟨rfl, by decide, by decide, by decide⟩)))
set_option maxRecDepth 20000 in
theorem r_sj (M0 M : hd_M) (N : hd_N) (h : fr idR M0 M) (b : Int32) : hd_Ret mX6_startsJudging [.ref 51, .int b] M N (fun r M1 N1 => r = none ∧ N1 = N ∧ jdR M0 M1 b (-4)) := by
  change hd_Go mX6_startsJudging 0 [some (.ref 51), some (.int b)] [] M N _
  refine hd_go kX6_startsJudging 999 (fun _ => rfl) rfl trivial ?_
  exact hd_en_ kX6_startsJudging (fun _ => rfl) trivial ⟨rfl, rfl, (h.up (k := 51) (j := 14) j14).up (k := 51) (j := 15) j15, by rw [hd_u_n (by omega), hd_u_s], hd_u_s _ _ _ _⟩
set_option maxRecDepth 20000 in
theorem r_ju (M0 M : hd_M) (N : hd_N) (b o : Int32) (h : jdR M0 M b o) (code x : Int32) : hd_Ret mX6_judges [.ref 51, .int code, .int x] M N (fun r M1 N1 => r = none ∧ N1 = N ∧ jdR M0 M1 (if b < x then x else b) (if b < x then code else o)) := by
  change hd_Go mX6_judges 0 [some (.ref 51), some (.int code), some (.int x)] [] M N _
  obtain ⟨h1, h2, h3⟩ := h
  refine hd_go kX6_judges 999 (fun _ => rfl) rfl trivial ?_
  rw [h3]
  refine hd_ju kX6_judges (fun _ => rfl) (fun c => ?_) (fun c => ?_)
  · refine hd_go kX6_judges 999 (fun _ => rfl) rfl trivial ?_
    rw [h2, hd_u_n (show ¬ (51 = 51 ∧ 15 = 14) by decide), h3]
    refine hd_ju kX6_judges (fun _ => rfl) (fun c2 => ?_) (fun c2 => absurd c c2)
    refine hd_go kX6_judges 999 (fun _ => rfl) rfl trivial ?_
    rw [hd_u_n (show ¬ (51 = 51 ∧ 15 = 14) by decide), h3]
    refine hd_en_ kX6_judges (fun _ => rfl) trivial ⟨rfl, rfl, (h1.up (k := 51) (j := 14) j14).up (k := 51) (j := 15) j15, ?_, ?_⟩
    · rw [if_neg (Int32.not_lt.mpr c), hd_u_n (by omega), hd_u_s]
    · rw [if_neg (Int32.not_lt.mpr c), hd_u_s]
  · refine hd_go kX6_judges 999 (fun _ => rfl) rfl trivial ?_
    refine hd_go kX6_judges 999 (fun _ => rfl) rfl trivial ?_
    rw [hd_u_n (show ¬ (51 = 51 ∧ 15 = 14) by decide), h3]
    refine hd_ju kX6_judges (fun _ => rfl) (fun c2 => absurd c2 c) (fun c2 => ?_)
    refine hd_go kX6_judges 999 (fun _ => rfl) rfl trivial ?_
    refine hd_go kX6_judges 999 (fun _ => rfl) rfl trivial ?_
    refine hd_en_ kX6_judges (fun _ => rfl) trivial ⟨rfl, rfl, (h1.up (k := 51) (j := 14) j14).up (k := 51) (j := 15) j15, ?_, ?_⟩
    · rw [if_pos (Int32.not_le.mp c), hd_u_n (by omega), hd_u_s]
    · rw [if_pos (Int32.not_le.mp c), hd_u_s]
set_option maxRecDepth 20000 in
theorem r_jd (M0 M : hd_M) (N : hd_N) (b o : Int32) (h : jdR M0 M b o) (w : Int32) : hd_Ret mX6_judged [.ref 51, .int w] M N (hd_is (.int (dy_fob o b w)) M N) := by
  change hd_Go mX6_judged 0 [some (.ref 51), some (.int w)] [] M N _
  obtain ⟨h1, h2, h3⟩ := h
  refine hd_go kX6_judged 999 (fun _ => rfl) rfl trivial ?_
  rw [h2]
  unfold dy_fob
  refine hd_ju kX6_judged (fun _ => rfl) (fun c => ?_) (fun c => ?_)
  · refine hd_go kX6_judged 999 (fun _ => rfl) rfl trivial ?_
    refine hd_ju kX6_judged (fun _ => rfl) (fun c2 => ?_) (fun c2 => ?_)
    · refine hd_go kX6_judged 999 (fun _ => rfl) rfl trivial ?_
      refine hd_en_ kX6_judged (fun _ => rfl) trivial ⟨?_, rfl, rfl⟩
      rw [if_neg (fun z => z.elim c2 c), h3]
    · refine hd_go kX6_judged 999 (fun _ => rfl) rfl trivial ?_
      refine hd_en_ kX6_judged (fun _ => rfl) trivial ⟨?_, rfl, rfl⟩
      rw [if_pos (Or.inl c2), h2]
  · refine hd_go kX6_judged 999 (fun _ => rfl) rfl trivial ?_
    refine hd_en_ kX6_judged (fun _ => rfl) trivial ⟨?_, rfl, rfl⟩
    rw [if_pos (Or.inr c), c]
set_option maxRecDepth 20000 in
theorem r_lays_l (M : hd_M) (N : hd_N) (p i : Nat) (hp : p < 7) (hi : i < 7) : ∀ (m c : Nat) (M' : hd_M), c + m = 4 → fr (fun a j => a = 53 ∧ 4 * p ≤ j ∧ j < 4 * p + 4) M M' → (∀ x, x < c → M' 53 (4 * p + x) = M 52 (4 * i + x)) → hd_Go mX6_lays 2 [some (.ref 51), some (.int (nI p)), some (.int (nI i)), some (.int (nI c))] [] M' N (fun r M1 N1 => r = none ∧ N1 = N ∧ fr (fun a j => a = 53 ∧ 4 * p ≤ j ∧ j < 4 * p + 4) M M1 ∧ ∀ x, x < 4 → M1 53 (4 * p + x) = M 52 (4 * i + x)) := by
  intro m
  induction m with
  | zero =>
    intro c M' hc hf hx
    refine hd_go kX6_lays 999 (fun _ => rfl) rfl trivial ?_
    refine hd_ju kX6_lays (fun _ => rfl) (fun z => ?_) (fun z => absurd (nI_le (a := 4) (by omega) (by omega)) z)
    exact hd_en_ kX6_lays (fun _ => rfl) trivial ⟨rfl, rfl, hf, fun x h => hx x (by omega)⟩
  | succ m ih =>
    intro c M' hc hf hx
    refine hd_go kX6_lays 999 (fun _ => rfl) rfl trivial ?_
    refine hd_ju kX6_lays (fun _ => rfl) (fun z => absurd z (nI_ge (b := 4) (by omega) (by decide))) (fun z => ?_)
    refine hd_go kX6_lays 999 (fun _ => rfl) rfl ?_ ?_
    · rw [ix4, ix4]; exact ⟨⟨trivial, v138 (by omega)⟩, v46 (by omega)⟩
    rw [ix4, ix4, nI_clamp (show 4 * i + c < 2 ^ 31 by omega), nI_clamp (show 4 * p + c < 2 ^ 31 by omega), nI_1, hf 52 _ (by simp)]
    refine ih (c + 1) _ (by omega) (hf.up (by show 53 = 53 ∧ 4 * p ≤ 4 * p + c ∧ 4 * p + c < 4 * p + 4; omega)) (fun x h => ?_)
    by_cases e : x = c
    · rw [e, hd_u_s]
    · rw [hd_u_n (by omega)]; exact hx x (by omega)
set_option maxRecDepth 20000 in
theorem r_lays (M : hd_M) (N : hd_N) (p i : Nat) (hp : p < 7) (hi : i < 7) : hd_Ret mX6_lays [.ref 51, .int (nI p), .int (nI i)] M N (fun r M1 N1 => r = none ∧ N1 = N ∧ fr (fun a j => a = 53 ∧ 4 * p ≤ j ∧ j < 4 * p + 4) M M1 ∧ ∀ x, x < 4 → M1 53 (4 * p + x) = M 52 (4 * i + x)) := by
  change hd_Go mX6_lays 0 [some (.ref 51), some (.int (nI p)), some (.int (nI i)), none] [] M N _
  refine hd_go kX6_lays 2 (fun _ => rfl) rfl trivial ?_
  exact r_lays_l M N p i hp hi 4 0 M (by decide) fr.rf (fun x h => absurd h (Nat.not_lt_zero x))
set_option maxRecDepth 20000 in
theorem r_closes_l (M : hd_M) (N : hd_N) (p n : Nat) (hn : n ≤ 7) (hp : p < n) (h28 : M 52 28 = nI n) : ∀ (m k : Nat) (M' : hd_M), k + m + 1 = n → p ≤ k → fr (fun a j => a = 53 ∧ j < 28) M M' → (∀ x c, c < 4 → M' 53 (4 * x + c) = if p ≤ x ∧ x < k then M 52 (4 * (x + 1) + c) else M 53 (4 * x + c)) → hd_Go mX6_closes 2 [some (.ref 51), some (.int (nI p)), some (.int (nI k))] [] M' N (fun r M1 N1 => r = none ∧ N1 = N ∧ fr (fun a j => a = 53 ∧ j < 28) M M1 ∧ ∀ x c, c < 4 → M1 53 (4 * x + c) = if p ≤ x ∧ x < n - 1 then M 52 (4 * (x + 1) + c) else M 53 (4 * x + c)) := by
  intro m
  induction m with
  | zero =>
    intro k M' hk hpk hf hx
    have e28 : M' 52 28 = nI n := (hf 52 28 (by simp)).trans h28
    have e27 : M' 52 28 - 1 = nI (n - 1) := by
      rw [e28, show n = (n - 1) + 1 by omega, nI_pred]
      simp
    refine hd_go kX6_closes 999 (fun _ => rfl) rfl ⟨trivial, v138 (n := 28) (by decide)⟩ ?_
    show hd_Go mX6_closes 12 [some (.ref 51), some (.int (nI p)), some (.int (nI k))] [.int (M' 52 28 - 1), .int (nI k)] M' N _
    rw [e27]
    refine hd_ju kX6_closes (fun _ => rfl) (fun z => ?_) (fun z => absurd (nI_le (by omega) (by omega)) z)
    refine hd_en_ kX6_closes (fun _ => rfl) trivial ⟨rfl, rfl, hf, ?_⟩
    rw [show n - 1 = k by omega]
    exact hx
  | succ m ih =>
    intro k M' hk hpk hf hx
    have e28 : M' 52 28 = nI n := (hf 52 28 (by simp)).trans h28
    have e27 : M' 52 28 - 1 = nI (n - 1) := by
      rw [e28, show n = (n - 1) + 1 by omega, nI_pred]
      simp
    refine hd_go kX6_closes 999 (fun _ => rfl) rfl ⟨trivial, v138 (n := 28) (by decide)⟩ ?_
    show hd_Go mX6_closes 12 [some (.ref 51), some (.int (nI p)), some (.int (nI k))] [.int (M' 52 28 - 1), .int (nI k)] M' N _
    rw [e27]
    refine hd_ju kX6_closes (fun _ => rfl) (fun z => absurd z (nI_ge (by omega) (by omega))) (fun z => ?_)
    refine hd_go kX6_closes 999 (fun _ => rfl) rfl trivial ?_
    rw [nI_1]
    refine hd_ca kX6_closes qX6_closes (fun _ => rfl) (r_lays M' N k (k + 1) (by omega) (by omega)) ?_
    rintro r M1 N1 ⟨rfl, rfl, hf1, h1⟩
    refine hd_go kX6_closes 999 (fun _ => rfl) rfl trivial ?_
    rw [nI_1]
    refine ih (k + 1) M1 (by omega) (by omega) (hf.tr (hf1.mo (fun a j h => by have h : a = 53 ∧ 4 * k ≤ j ∧ j < 4 * k + 4 := h; show a = 53 ∧ j < 28; omega))) (fun x c hc => ?_)
    by_cases e : x = k
    · subst e
      rw [h1 c hc, hf 52 _ (by simp), if_pos (by omega)]
    · rw [hf1 53 _ (by show ¬ (53 = 53 ∧ 4 * k ≤ 4 * x + c ∧ 4 * x + c < 4 * k + 4); omega), hx x c hc]
      by_cases q : p ≤ x ∧ x < k
      · rw [if_pos q, if_pos (by omega)]
      · rw [if_neg q, if_neg (by omega)]
set_option maxRecDepth 20000 in
theorem r_closes (M : hd_M) (N : hd_N) (p n : Nat) (hn : n ≤ 7) (hp : p < n) (h28 : M 52 28 = nI n) : hd_Ret mX6_closes [.ref 51, .int (nI p)] M N (fun r M1 N1 => r = none ∧ N1 = N ∧ fr (fun a j => a = 53 ∧ j < 28) M M1 ∧ ∀ x c, c < 4 → M1 53 (4 * x + c) = if p ≤ x ∧ x < n - 1 then M 52 (4 * (x + 1) + c) else M 53 (4 * x + c)) := by
  change hd_Go mX6_closes 0 [some (.ref 51), some (.int (nI p)), none] [] M N _
  refine hd_go kX6_closes 2 (fun _ => rfl) rfl trivial ?_
  exact r_closes_l M N p n hn hp h28 (n - 1 - p) p M (by omega) (Nat.le_refl _) fr.rf (fun x c _ => by rw [if_neg (by omega)])
set_option maxRecDepth 20000 in
/-- a day whose things are those of d in another order, all in -/
theorem rf_perm {M M1 : hd_M} {d e : dy_T} (hd : rf M 52 0 d) (ok : dy_ok d) (ha : dy_all d) (p : Nat → Nat) (hp : ∀ x, x < e.1 → p x < d.1) (hm : e.1 ≤ d.1) (h28 : M1 53 28 = nI e.1) (h29 : M1 53 29 = nI e.2.1) (h30 : M1 53 30 = M 52 30) (h31 : M1 53 31 = M 52 31) (h32 : M1 53 32 = M 52 32) (hx : ∀ x c, x < e.1 → c < 4 → M1 53 (4 * x + c) = M 52 (4 * p x + c)) (em : e.2.2.1 = d.2.2.1) (et : e.2.2.2.1 = d.2.2.2.1) (eh : e.2.2.2.2.1 = d.2.2.2.2.1) (ec : ∀ x c, x < e.1 → c < 3 → e.2.2.2.2.2 c x = d.2.2.2.2.2 c (p x)) (e3 : ∀ x, x < e.1 → e.2.2.2.2.2 3 x = d.2.2.2.2.2 3 x) : rf M1 53 0 e := by
  obtain ⟨a5, a6, a7, a8, a9, b⟩ := hd
  have z3 : ∀ x, x < d.1 → d.2.2.2.2.2 3 x = 0 := fun x h => ok.2.2.1 x (by have : d.2.1 = d.1 := ha; omega)
  refine ⟨h28, h29, ?_, ?_, ?_, fun x h => ?_⟩
  · rw [em]; exact h30.trans a7
  · rw [et]; exact h31.trans a8
  · rw [eh]; exact h32.trans a9
  · obtain ⟨b0, b1, b2, b3⟩ := b (p x) (hp x h)
    rw [Nat.zero_add] at b0 b1 b2 b3
    rw [Nat.zero_add, Nat.zero_add, Nat.zero_add, Nat.zero_add]
    have h0 := hx x 0 h (by decide)
    rw [Nat.add_zero, Nat.add_zero] at h0
    refine ⟨?_, ?_, ?_, ?_⟩
    · rw [h0, ec x 0 h (by decide)]; exact b0
    · rw [hx x 1 h (by decide), ec x 1 h (by decide)]; exact b1
    · rw [hx x 2 h (by decide), ec x 2 h (by decide)]; exact b2
    · rw [hx x 3 h (by decide), b3, e3 x h, z3 x (by omega), z3 (p x) (hp x h)]
set_option maxRecDepth 20000 in
theorem d_leave_l (M : hd_M) (N : hd_N) (d : dy_T) (hd : rf M 52 0 d) (ok : dy_ok d) (ha : dy_all d) (n : Nat) (hn : n ≤ 60) (w : Int32) (f : Nat → Int32) (hfe : f = fun i => dy_md n (dy_shr (d.1 - 1) (dy_rot i (d.1 - 1) d))) : ∀ (m i : Nat) (b o : Int32) (M' : hd_M), i + m = d.1 → jdR M M' b o → hd_Go mX6_leave 41 [some (.ref 51), some (.int (nI n)), some (.int w), some (.int (nI i))] [] M' N (fun r M1 _ => r = some (.int (dy_fob (dy_best f nI m i b o).2 (dy_best f nI m i b o).1 w)) ∧ fr idR M M1) := by
  have h7 := ok.1
  intro m
  induction m with
  | zero =>
    intro i b o M' hi hj
    have e28 : M' 52 28 = nI d.1 := (hj.st 28).trans hd.1
    refine hd_go kX6_leave 999 (fun _ => rfl) rfl ⟨trivial, v138 (n := 28) (by decide)⟩ ?_
    refine hd_ju kX6_leave (fun _ => rfl) (fun z => ?_) (fun z => ?_)
    · refine hd_go kX6_leave 999 (fun _ => rfl) rfl trivial ?_
      refine hd_ci kX6_leave qX6_leave (fun _ => rfl) (r_jd M M' N b o hj w) ?_
      exact hd_en_ kX6_leave (fun _ => rfl) trivial ⟨rfl, hj.1⟩
    · have z : ¬ M' 52 28 ≤ nI i := z
      rw [e28] at z
      exact absurd (nI_le (by omega) (by omega)) z
  | succ m ih =>
    intro i b o M' hi hj
    have e28 : M' 52 28 = nI d.1 := (hj.st 28).trans hd.1
    refine hd_go kX6_leave 999 (fun _ => rfl) rfl ⟨trivial, v138 (n := 28) (by decide)⟩ ?_
    refine hd_ju kX6_leave (fun _ => rfl) (fun z => ?_) (fun z => ?_)
    · have z : M' 52 28 ≤ nI i := z
      rw [e28] at z
      exact absurd z (nI_ge (by omega) (by omega))
    have hd' := hj.rf hd h7
    refine hd_go kX6_leave 999 (fun _ => rfl) rfl trivial ?_
    refine hd_ca kX6_leave qX6_leave (fun _ => rfl) (r_st M' N d hd' h7) ?_
    rintro r M1 N1 ⟨rfl, rfl, hf1, hd1, hx1⟩
    have hj1 := hj.now hf1
    have e28' : M1 52 28 = nI d.1 := (hj1.st 28).trans hd.1
    refine hd_go kX6_leave 999 (fun _ => rfl) rfl trivial ?_
    refine hd_ca kX6_leave qX6_leave (fun _ => rfl) (r_closes M1 N1 i d.1 h7 (by omega) e28') ?_
    rintro r M2 N2 ⟨rfl, rfl, hf2, hx2⟩
    have hj2 : jdR M M2 b o := hj1.now (hf2.mo (fun a j h => h.1))
    refine hd_go kX6_leave 999 (fun _ => rfl) rfl ⟨⟨⟨⟨trivial, v46 (n := 28) (by decide)⟩, v46 (n := 28) (by decide)⟩, v46 (n := 29) (by decide)⟩, v46 (n := 29) (by decide)⟩ ?_
    rw [show Int32.toNatClampNeg 28 = 28 from rfl, show Int32.toNatClampNeg 29 = 29 from rfl]
    have g28 : M2 53 28 = nI d.1 := (hf2 53 28 (by simp)).trans hd1.1
    have g29 : M2 53 29 = nI d.1 := by rw [hf2 53 29 (by simp)]; exact hd1.2.1.trans (by rw [show d.2.1 = d.1 from ha])
    have p28 : nI d.1 - 1 = nI (d.1 - 1) := by
      rw [show d.1 = (d.1 - 1) + 1 by omega, nI_pred]
      simp
    rw [hd_u_n (show ¬ (53 = 53 ∧ 29 = 28) by decide), g28, g29, p28]
    obtain ⟨M3, hM3⟩ : ∃ M3, M3 = hd_u (hd_u M2 53 28 (nI (d.1 - 1))) 53 29 (nI (d.1 - 1)) := ⟨_, rfl⟩
    rw [← hM3]
    have hf3 : fr nowF M2 M3 := by rw [hM3]; exact ((fr.rf (S := nowF)).up (show nowF 53 28 from rfl)).up (show nowF 53 29 from rfl)
    have hj3 := hj2.now hf3
    have u3 : ∀ j, ¬ j = 28 → ¬ j = 29 → M3 53 j = M2 53 j := fun j h1 h2 => by rw [hM3, hd_u_n (by omega), hd_u_n (by omega)]
    have st1 : ∀ j, M1 52 j = M' 52 j := fun j => hf1 52 j (by simp)
    have hd3 : rf M3 53 0 (dy_shr (d.1 - 1) (dy_rot i (d.1 - 1) d)) := by
      refine rf_perm hd' ok ha (fun x => if i ≤ x then x + 1 else x) (fun x h => ?_) (Nat.sub_le _ _) ?_ ?_ ?_ ?_ ?_ (fun x c h hc => ?_) rfl rfl rfl (fun x c h hc => ?_) (fun x h => rfl)
      · have h : x < d.1 - 1 := h
        show (if i ≤ x then x + 1 else x) < d.1
        split <;> omega
      · rw [hM3, hd_u_n (by omega), hd_u_s]; rfl
      · rw [hM3, hd_u_s]; rfl
      · rw [u3 _ (by omega) (by omega), hf2 53 30 (by simp), hx1 30 (by decide)]
      · rw [u3 _ (by omega) (by omega), hf2 53 31 (by simp), hx1 31 (by decide)]
      · rw [u3 _ (by omega) (by omega), hf2 53 32 (by simp), hx1 32 (by decide)]
      · have h : x < d.1 - 1 := h
        rw [u3 _ (by omega) (by omega), hx2 x c hc]
        by_cases q : i ≤ x
        · rw [if_pos ⟨q, h⟩, st1]
          show _ = M' 52 (4 * (if i ≤ x then x + 1 else x) + c)
          rw [if_pos q]
        · rw [if_neg (fun z => q z.1), hx1 _ (by omega)]
          show _ = M' 52 (4 * (if i ≤ x then x + 1 else x) + c)
          rw [if_neg q]
      · have h : x < d.1 - 1 := h
        show (if c = 3 then d.2.2.2.2.2 c x else if i ≤ x ∧ x < d.1 - 1 then d.2.2.2.2.2 c (x + 1) else if x = d.1 - 1 then d.2.2.2.2.2 c i else d.2.2.2.2.2 c x) = d.2.2.2.2.2 c (if i ≤ x then x + 1 else x)
        rw [if_neg (by omega)]
        by_cases q : i ≤ x
        · rw [if_pos ⟨q, h⟩, if_pos q]
        · rw [if_neg (fun z => q z.1), if_neg (by omega), if_neg q]
    refine hd_ca kX6_leave qX6_leave (fun _ => rfl) (r_mb M3 N2 _ hd3 (dy_ok_shr (dy_ok_rot ok) ha (Nat.sub_le _ _)) n hn) ?_
    rintro r M4 N4 ⟨rfl, rfl, hf4⟩
    have hj4 := hj3.now (hf4.mo (fun a j h => h.1))
    refine hd_ca kX6_leave qX6_leave (fun _ => rfl) (r_ju M M4 N4 b o hj4 _ _) ?_
    rintro r M5 N5 ⟨rfl, rfl, hj5⟩
    refine hd_go kX6_leave 999 (fun _ => rfl) rfl trivial ?_
    rw [nI_1]
    have := ih (i + 1) _ _ M5 (by omega) hj5
    have ef : dy_md n (dy_shr (d.1 - 1) (dy_rot i (d.1 - 1) d)) = f i := by rw [hfe]
    rw [ef] at this
    rw [dy_best]
    by_cases q : b < f i
    · rw [if_pos q, if_pos q] at this
      rw [if_pos q]
      exact this
    · rw [if_neg q, if_neg q] at this
      rw [if_neg q]
      exact this

set_option maxRecDepth 20000 in
theorem d_top_l (M : hd_M) (N : hd_N) (d : dy_T) (hd : rf M 52 0 d) (ok : dy_ok d) (ha : dy_all d) (n : Nat) (hn : n ≤ 60) (w : Int32) (f : Nat → Int32) (hfe : f = fun i => dy_md n (dy_rot i (d.1 - 1) d)) : ∀ (m i : Nat) (b o : Int32) (M' : hd_M), i + m = d.1 → jdR M M' b o → hd_Go mX6_top 41 [some (.ref 51), some (.int (nI n)), some (.int w), some (.int (nI i))] [] M' N (fun r M1 _ => r = some (.int (dy_fob (dy_best f nI m i b o).2 (dy_best f nI m i b o).1 w)) ∧ fr idR M M1) := by
  have h7 := ok.1
  intro m
  induction m with
  | zero =>
    intro i b o M' hi hj
    have e28 : M' 52 28 = nI d.1 := (hj.st 28).trans hd.1
    refine hd_go kX6_top 999 (fun _ => rfl) rfl ⟨trivial, v138 (n := 28) (by decide)⟩ ?_
    refine hd_ju kX6_top (fun _ => rfl) (fun z => ?_) (fun z => ?_)
    · refine hd_go kX6_top 999 (fun _ => rfl) rfl trivial ?_
      refine hd_ci kX6_top qX6_top (fun _ => rfl) (r_jd M M' N b o hj w) ?_
      exact hd_en_ kX6_top (fun _ => rfl) trivial ⟨rfl, hj.1⟩
    · have z : ¬ M' 52 28 ≤ nI i := z
      rw [e28] at z
      exact absurd (nI_le (by omega) (by omega)) z
  | succ m ih =>
    intro i b o M' hi hj
    have e28 : M' 52 28 = nI d.1 := (hj.st 28).trans hd.1
    refine hd_go kX6_top 999 (fun _ => rfl) rfl ⟨trivial, v138 (n := 28) (by decide)⟩ ?_
    refine hd_ju kX6_top (fun _ => rfl) (fun z => ?_) (fun z => ?_)
    · have z : M' 52 28 ≤ nI i := z
      rw [e28] at z
      exact absurd z (nI_ge (by omega) (by omega))
    have hd' := hj.rf hd h7
    refine hd_go kX6_top 999 (fun _ => rfl) rfl trivial ?_
    refine hd_ca kX6_top qX6_top (fun _ => rfl) (r_st M' N d hd' h7) ?_
    rintro r M1 N1 ⟨rfl, rfl, hf1, hd1, hx1⟩
    have hj1 := hj.now hf1
    have e28' : M1 52 28 = nI d.1 := (hj1.st 28).trans hd.1
    refine hd_go kX6_top 999 (fun _ => rfl) rfl trivial ?_
    refine hd_ca kX6_top qX6_top (fun _ => rfl) (r_closes M1 N1 i d.1 h7 (by omega) e28') ?_
    rintro r M2 N2 ⟨rfl, rfl, hf2, hx2⟩
    have hj2 : jdR M M2 b o := hj1.now (hf2.mo (fun a j h => h.1))
    have e28'' : M2 52 28 = nI d.1 := (hj2.st 28).trans hd.1
    have p28 : M2 52 28 - 1 = nI (d.1 - 1) := by
      rw [e28'', show d.1 = (d.1 - 1) + 1 by omega, nI_pred]
      simp
    refine hd_go kX6_top 999 (fun _ => rfl) rfl ⟨trivial, v138 (n := 28) (by decide)⟩ ?_
    show hd_Go mX6_top 72 [some (.ref 51), some (.int (nI n)), some (.int w), some (.int (nI i))] [.int (nI i), .int (M2 52 28 - 1), .ref 51] M2 N2 _
    rw [p28]
    refine hd_ca kX6_top qX6_top (fun _ => rfl) (r_lays M2 N2 (d.1 - 1) i (by omega) (by omega)) ?_
    rintro r M3 N3 ⟨rfl, rfl, hf3, hx3⟩
    have hj3 : jdR M M3 b o := hj2.now (hf3.mo (fun a j h => h.1))
    have st1 : ∀ j, M1 52 j = M' 52 j := fun j => hf1 52 j (by simp)
    have st2 : ∀ j, M2 52 j = M' 52 j := fun j => (hf2 52 j (by simp)).trans (st1 j)
    have u3 : ∀ j, 28 ≤ j → M3 53 j = M1 53 j := fun j h => (hf3 53 j (by show ¬ (53 = 53 ∧ 4 * (d.1 - 1) ≤ j ∧ j < 4 * (d.1 - 1) + 4); omega)).trans (hf2 53 j (by show ¬ (53 = 53 ∧ j < 28); omega))
    have hd3 : rf M3 53 0 (dy_rot i (d.1 - 1) d) := by
      refine rf_perm hd' ok ha (fun x => if i ≤ x ∧ x < d.1 - 1 then x + 1 else if x = d.1 - 1 then i else x) (fun x h => ?_) (Nat.le_refl _) ?_ ?_ ?_ ?_ ?_ (fun x c h hc => ?_) rfl rfl rfl (fun x c h hc => ?_) (fun x h => rfl)
      · have h : x < d.1 := h
        show (if i ≤ x ∧ x < d.1 - 1 then x + 1 else if x = d.1 - 1 then i else x) < d.1
        split
        · omega
        · split <;> omega
      · rw [u3 _ (by omega)]; exact hd1.1
      · rw [u3 _ (by omega)]; exact hd1.2.1
      · rw [u3 _ (by omega), hx1 30 (by decide)]
      · rw [u3 _ (by omega), hx1 31 (by decide)]
      · rw [u3 _ (by omega), hx1 32 (by decide)]
      · have h : x < d.1 := h
        show _ = M' 52 (4 * (if i ≤ x ∧ x < d.1 - 1 then x + 1 else if x = d.1 - 1 then i else x) + c)
        by_cases e : x = d.1 - 1
        · rw [e, hx3 c hc, st2, if_neg (by omega), if_pos rfl]
        · rw [hf3 53 _ (by show ¬ (53 = 53 ∧ 4 * (d.1 - 1) ≤ 4 * x + c ∧ 4 * x + c < 4 * (d.1 - 1) + 4); omega), hx2 x c hc]
          by_cases q : i ≤ x ∧ x < d.1 - 1
          · rw [if_pos q, if_pos q, st1]
          · rw [if_neg q, if_neg q, if_neg e, hx1 _ (by omega)]
      · have h : x < d.1 := h
        show (if c = 3 then d.2.2.2.2.2 c x else if i ≤ x ∧ x < d.1 - 1 then d.2.2.2.2.2 c (x + 1) else if x = d.1 - 1 then d.2.2.2.2.2 c i else d.2.2.2.2.2 c x) = d.2.2.2.2.2 c (if i ≤ x ∧ x < d.1 - 1 then x + 1 else if x = d.1 - 1 then i else x)
        rw [if_neg (by omega)]
        by_cases q : i ≤ x ∧ x < d.1 - 1
        · rw [if_pos q, if_pos q]
        · rw [if_neg q, if_neg q]
          by_cases e : x = d.1 - 1
          · rw [if_pos e, if_pos e]
          · rw [if_neg e, if_neg e]
    refine hd_go kX6_top 999 (fun _ => rfl) rfl trivial ?_
    refine hd_ca kX6_top qX6_top (fun _ => rfl) (r_mb M3 N3 _ hd3 (dy_ok_rot ok) n hn) ?_
    rintro r M4 N4 ⟨rfl, rfl, hf4⟩
    have hj4 := hj3.now (hf4.mo (fun a j h => h.1))
    refine hd_ca kX6_top qX6_top (fun _ => rfl) (r_ju M M4 N4 b o hj4 _ _) ?_
    rintro r M5 N5 ⟨rfl, rfl, hj5⟩
    refine hd_go kX6_top 999 (fun _ => rfl) rfl trivial ?_
    rw [nI_1]
    have := ih (i + 1) _ _ M5 (by omega) hj5
    have ef : dy_md n (dy_rot i (d.1 - 1) d) = f i := by rw [hfe]
    rw [ef] at this
    rw [dy_best]
    by_cases q : b < f i
    · rw [if_pos q, if_pos q] at this
      rw [if_pos q]
      exact this
    · rw [if_neg q, if_neg q] at this
      rw [if_neg q]
      exact this

set_option maxRecDepth 20000 in
theorem d_leave (n w : Int32) : rA mX6_leave [.int n, .int w] (an_leave n w) := by
  intro M N st hI hO
  change hd_Go mX6_leave 0 [some (.ref 51), some (.int n), some (.int w), none] [] M N _
  have bad : ¬ (wi n 0 60 ∧ wi w 0 1) → hd_Go mX6_leave 14 [some (.ref 51), some (.int n), some (.int w), none] [] M N (fun r M1 _ => r = some (an_leave n w st).1 ∧ fr refF M M1 ∧ RI M1 (an_leave n w st).2) := by
    intro q
    refine hd_go kX6_leave 999 (fun _ => rfl) rfl trivial ?_
    refine hd_en_ kX6_leave (fun _ => rfl) trivial ⟨?_, fr.rf, hI⟩
    unfold an_leave
    rw [if_neg q]
  unfold an_leave at bad ⊢
  refine hd_go kX6_leave 999 (fun _ => rfl) rfl trivial ?_
  refine hd_ci kX6_leave qX6_leave (fun _ => rfl) (r_isFar _ M N) ?_
  refine hd_ju kX6_leave (fun _ => rfl) (fun q => bad (fun z => hd_b0.mp q z.1)) (fun q => ?_)
  have q1 := hd_b1.mp q
  refine hd_go kX6_leave 999 (fun _ => rfl) rfl trivial ?_
  refine hd_ci kX6_leave qX6_leave (fun _ => rfl) (r_isPart _ M N) ?_
  refine hd_ju kX6_leave (fun _ => rfl) (fun q => ?_) (fun q => bad (fun z => hd_b0.mp q z.2))
  have q2 := hd_b1.mp q
  rw [if_pos ⟨q1, q2⟩]
  obtain ⟨j, hj, rfl⟩ := wi_nat (n := 60) rfl q1
  rw [nI_clamp (by omega)]
  refine hd_go kX6_leave 999 (fun _ => rfl) rfl trivial ?_
  refine hd_ci kX6_leave qX6_leave (fun _ => rfl) (r_allIn M N _ hI.1 hO.1) ?_
  refine hd_ju kX6_leave (fun _ => rfl) (fun q => ?_) (fun q => ?_)
  · have ha := hd_b1.mp q
    rw [if_pos ha]
    refine hd_go kX6_leave 999 (fun _ => rfl) rfl trivial ?_
    refine hd_ca kX6_leave qX6_leave (fun _ => rfl) (r_begin M N _ hI.1 hO.1) ?_
    rintro r M1 N1 ⟨rfl, rfl, ht⟩
    refine hd_go kX6_leave 999 (fun _ => rfl) rfl trivial ?_
    refine hd_ca kX6_leave qX6_leave (fun _ => rfl) (r_mb M1 N1 _ ht.2.1 hO.1 j hj) ?_
    rintro r M2 N2 ⟨rfl, rfl, hf2⟩
    refine hd_ca kX6_leave qX6_leave (fun _ => rfl) (r_sj M M2 N2 (ht.1.tr (n33R hf2)) _) ?_
    rintro r M3 N3 ⟨rfl, rfl, hj3⟩
    refine hd_go kX6_leave 41 (fun _ => rfl) rfl trivial ?_
    refine hd_Go.post ?_ (d_leave_l M N3 st.1 hI.1 hO.1 ha j hj w _ rfl st.1.1 0 _ _ M3 (by omega) hj3)
    rintro r M4 N4 ⟨rfl, hf4⟩
    exact ⟨rfl, hI.q hO hf4⟩
  · rw [if_neg (hd_b0.mp q)]
    refine hd_go kX6_leave 999 (fun _ => rfl) rfl trivial ?_
    exact hd_en_ kX6_leave (fun _ => rfl) trivial ⟨rfl, fr.rf, hI⟩
set_option maxRecDepth 20000 in
theorem d_top (n w : Int32) : rA mX6_top [.int n, .int w] (an_top n w) := by
  intro M N st hI hO
  change hd_Go mX6_top 0 [some (.ref 51), some (.int n), some (.int w), none] [] M N _
  have bad : ¬ (wi n 0 60 ∧ wi w 0 1) → hd_Go mX6_top 14 [some (.ref 51), some (.int n), some (.int w), none] [] M N (fun r M1 _ => r = some (an_top n w st).1 ∧ fr refF M M1 ∧ RI M1 (an_top n w st).2) := by
    intro q
    refine hd_go kX6_top 999 (fun _ => rfl) rfl trivial ?_
    refine hd_en_ kX6_top (fun _ => rfl) trivial ⟨?_, fr.rf, hI⟩
    unfold an_top
    rw [if_neg q]
  unfold an_top at bad ⊢
  refine hd_go kX6_top 999 (fun _ => rfl) rfl trivial ?_
  refine hd_ci kX6_top qX6_top (fun _ => rfl) (r_isFar _ M N) ?_
  refine hd_ju kX6_top (fun _ => rfl) (fun q => bad (fun z => hd_b0.mp q z.1)) (fun q => ?_)
  have q1 := hd_b1.mp q
  refine hd_go kX6_top 999 (fun _ => rfl) rfl trivial ?_
  refine hd_ci kX6_top qX6_top (fun _ => rfl) (r_isPart _ M N) ?_
  refine hd_ju kX6_top (fun _ => rfl) (fun q => ?_) (fun q => bad (fun z => hd_b0.mp q z.2))
  have q2 := hd_b1.mp q
  rw [if_pos ⟨q1, q2⟩]
  obtain ⟨j, hj, rfl⟩ := wi_nat (n := 60) rfl q1
  rw [nI_clamp (by omega)]
  refine hd_go kX6_top 999 (fun _ => rfl) rfl trivial ?_
  refine hd_ci kX6_top qX6_top (fun _ => rfl) (r_allIn M N _ hI.1 hO.1) ?_
  refine hd_ju kX6_top (fun _ => rfl) (fun q => ?_) (fun q => ?_)
  · have ha := hd_b1.mp q
    rw [if_pos ha]
    refine hd_go kX6_top 999 (fun _ => rfl) rfl trivial ?_
    refine hd_ca kX6_top qX6_top (fun _ => rfl) (r_begin M N _ hI.1 hO.1) ?_
    rintro r M1 N1 ⟨rfl, rfl, ht⟩
    refine hd_go kX6_top 999 (fun _ => rfl) rfl trivial ?_
    refine hd_ca kX6_top qX6_top (fun _ => rfl) (r_mb M1 N1 _ ht.2.1 hO.1 j hj) ?_
    rintro r M2 N2 ⟨rfl, rfl, hf2⟩
    refine hd_ca kX6_top qX6_top (fun _ => rfl) (r_sj M M2 N2 (ht.1.tr (n33R hf2)) _) ?_
    rintro r M3 N3 ⟨rfl, rfl, hj3⟩
    refine hd_go kX6_top 41 (fun _ => rfl) rfl trivial ?_
    refine hd_Go.post ?_ (d_top_l M N3 st.1 hI.1 hO.1 ha j hj w _ rfl st.1.1 0 _ _ M3 (by omega) hj3)
    rintro r M4 N4 ⟨rfl, hf4⟩
    exact ⟨rfl, hI.q hO hf4⟩
  · rw [if_neg (hd_b0.mp q)]
    refine hd_go kX6_top 999 (fun _ => rfl) rfl trivial ?_
    exact hd_en_ kX6_top (fun _ => rfl) trivial ⟨rfl, fr.rf, hI⟩
set_option maxRecDepth 20000 in
theorem d_swap_i (M : hd_M) (N : hd_N) (d : dy_T) (hd : rf M 52 0 d) (ok : dy_ok d) (ha : dy_all d) (n : Nat) (hn : n ≤ 60) (w : Int32) (i : Nat) (hi : i < d.1) (Q : hd_Q) : ∀ (m k : Nat) (b o : Int32) (M' : hd_M), k + m = d.1 → i < k → jdR M M' b o → (∀ (M1 : hd_M) (y : Option Value), jdR M M1 (dy_best (fun j => dy_md n (dy_exc i j d)) (fun j => 10 * nI i + nI j) m k b o).1 (dy_best (fun j => dy_md n (dy_exc i j d)) (fun j => 10 * nI i + nI j) m k b o).2 → hd_Go mX6_swap 109 [some (.ref 51), some (.int (nI n)), some (.int w), some (.int (nI i)), y] [] M1 N Q) → hd_Go mX6_swap 57 [some (.ref 51), some (.int (nI n)), some (.int w), some (.int (nI i)), some (.int (nI k))] [] M' N Q := by
  have h7 := ok.1
  intro m
  induction m with
  | zero =>
    intro k b o M' hk hik hj hQ
    have e28 : M' 52 28 = nI d.1 := (hj.st 28).trans hd.1
    refine hd_go kX6_swap 999 (fun _ => rfl) rfl ⟨trivial, v138 (n := 28) (by decide)⟩ ?_
    refine hd_ju kX6_swap (fun _ => rfl) (fun z => hQ M' _ hj) (fun z => ?_)
    have z : ¬ M' 52 28 ≤ nI k := z
    rw [e28] at z
    exact absurd (nI_le (by omega) (by omega)) z
  | succ m ih =>
    intro k b o M' hk hik hj hQ
    have e28 : M' 52 28 = nI d.1 := (hj.st 28).trans hd.1
    refine hd_go kX6_swap 999 (fun _ => rfl) rfl ⟨trivial, v138 (n := 28) (by decide)⟩ ?_
    refine hd_ju kX6_swap (fun _ => rfl) (fun z => ?_) (fun z => ?_)
    · have z : M' 52 28 ≤ nI k := z
      rw [e28] at z
      exact absurd z (nI_ge (by omega) (by omega))
    have hd' := hj.rf hd h7
    refine hd_go kX6_swap 999 (fun _ => rfl) rfl trivial ?_
    refine hd_ca kX6_swap qX6_swap (fun _ => rfl) (r_st M' N d hd' h7) ?_
    rintro r M1 N1 ⟨rfl, rfl, hf1, hd1, hx1⟩
    refine hd_go kX6_swap 999 (fun _ => rfl) rfl trivial ?_
    refine hd_ca kX6_swap qX6_swap (fun _ => rfl) (r_lays M1 N1 i k (by omega) (by omega)) ?_
    rintro r M2 N2 ⟨rfl, rfl, hf2, hx2⟩
    refine hd_go kX6_swap 999 (fun _ => rfl) rfl trivial ?_
    refine hd_ca kX6_swap qX6_swap (fun _ => rfl) (r_lays M2 N2 k i (by omega) (by omega)) ?_
    rintro r M3 N3 ⟨rfl, rfl, hf3, hx3⟩
    have hj3 : jdR M M3 b o := ((hj.now hf1).now (hf2.mo (fun a j h => h.1))).now (hf3.mo (fun a j h => h.1))
    have st1 : ∀ j, M1 52 j = M' 52 j := fun j => hf1 52 j (by simp)
    have st2 : ∀ j, M2 52 j = M' 52 j := fun j => (hf2 52 j (by simp)).trans (st1 j)
    have u3 : ∀ j, 28 ≤ j → M3 53 j = M1 53 j := fun j h => (hf3 53 j (by show ¬ (53 = 53 ∧ 4 * k ≤ j ∧ j < 4 * k + 4); omega)).trans (hf2 53 j (by show ¬ (53 = 53 ∧ 4 * i ≤ j ∧ j < 4 * i + 4); omega))
    have hd3 : rf M3 53 0 (dy_exc i k d) := by
      refine rf_perm hd' ok ha (fun x => if x = i then k else if x = k then i else x) (fun x h => ?_) (Nat.le_refl _) ?_ ?_ ?_ ?_ ?_ (fun x c h hc => ?_) rfl rfl rfl (fun x c h hc => ?_) (fun x h => rfl)
      · have h : x < d.1 := h
        show (if x = i then k else if x = k then i else x) < d.1
        split
        · omega
        · split <;> omega
      · rw [u3 _ (by omega)]; exact hd1.1
      · rw [u3 _ (by omega)]; exact hd1.2.1
      · rw [u3 _ (by omega), hx1 30 (by decide)]
      · rw [u3 _ (by omega), hx1 31 (by decide)]
      · rw [u3 _ (by omega), hx1 32 (by decide)]
      · have h : x < d.1 := h
        show _ = M' 52 (4 * (if x = i then k else if x = k then i else x) + c)
        by_cases e2 : x = k
        · rw [if_neg (by omega), if_pos e2, e2, hx3 c hc, st2]
        · rw [hf3 53 _ (by show ¬ (53 = 53 ∧ 4 * k ≤ 4 * x + c ∧ 4 * x + c < 4 * k + 4); omega)]
          by_cases e1 : x = i
          · rw [if_pos e1, e1, hx2 c hc, st1]
          · rw [if_neg e1, if_neg e2, hf2 53 _ (by show ¬ (53 = 53 ∧ 4 * i ≤ 4 * x + c ∧ 4 * x + c < 4 * i + 4); omega), hx1 _ (by omega)]
      · show (if c = 3 then d.2.2.2.2.2 c x else if x = i then d.2.2.2.2.2 c k else if x = k then d.2.2.2.2.2 c i else d.2.2.2.2.2 c x) = d.2.2.2.2.2 c (if x = i then k else if x = k then i else x)
        rw [if_neg (by omega)]
        by_cases e1 : x = i
        · rw [if_pos e1, if_pos e1]
        · rw [if_neg e1, if_neg e1]
          by_cases e2 : x = k
          · rw [if_pos e2, if_pos e2]
          · rw [if_neg e2, if_neg e2]
    refine hd_go kX6_swap 999 (fun _ => rfl) rfl trivial ?_
    refine hd_ca kX6_swap qX6_swap (fun _ => rfl) (r_mb M3 N3 _ hd3 (dy_ok_exc ok) n hn) ?_
    rintro r M4 N4 ⟨rfl, rfl, hf4⟩
    have hj4 := hj3.now (hf4.mo (fun a j h => h.1))
    refine hd_ca kX6_swap qX6_swap (fun _ => rfl) (r_ju M M4 N4 b o hj4 _ _) ?_
    rintro r M5 N5 ⟨rfl, rfl, hj5⟩
    refine hd_go kX6_swap 999 (fun _ => rfl) rfl trivial ?_
    rw [nI_1]
    rw [dy_best] at hQ
    refine ih (k + 1) _ _ M5 (by omega) (by omega) hj5 (fun M6 y hj6 => hQ M6 y ?_)
    by_cases q : b < dy_md n (dy_exc i k d)
    · rw [if_pos q, if_pos q] at hj6
      rw [if_pos q]
      exact hj6
    · rw [if_neg q, if_neg q] at hj6
      rw [if_neg q]
      exact hj6
set_option maxRecDepth 20000 in
theorem hd_fg4 {I : hd_I} {pc : Nat} {st : List Value} {M : hd_M} {N : hd_N} {Q : hd_Q} {a0 a1 a2 a3 z : Option Value} (h : hd_Go I pc [a0, a1, a2, a3, none] st M N Q) : hd_Go I pc [a0, a1, a2, a3, z] st M N Q := by
  refine hd_Go.less (lv' := [a0, a1, a2, a3, none]) (by simp) ?_ h
  intro j v h
  match j, h with
  | 0, h => exact h
  | 1, h => exact h
  | 2, h => exact h
  | 3, h => exact h
  | 4, h => cases h
  | j + 5, h => cases h
set_option maxRecDepth 20000 in
theorem d_swap_l (M : hd_M) (N : hd_N) (d : dy_T) (hd : rf M 52 0 d) (ok : dy_ok d) (ha : dy_all d) (n : Nat) (hn : n ≤ 60) (w : Int32) : ∀ (m i : Nat) (b o : Int32) (M' : hd_M), i + m = d.1 → jdR M M' b o → hd_Go mX6_swap 41 [some (.ref 51), some (.int (nI n)), some (.int w), some (.int (nI i)), none] [] M' N (fun r M1 _ => r = some (.int (dy_fob (dy_swp n d m i b o).2 (dy_swp n d m i b o).1 w)) ∧ fr idR M M1) := by
  have h7 := ok.1
  intro m
  induction m with
  | zero =>
    intro i b o M' hi hj
    have e28 : M' 52 28 = nI d.1 := (hj.st 28).trans hd.1
    refine hd_go kX6_swap 999 (fun _ => rfl) rfl ⟨trivial, v138 (n := 28) (by decide)⟩ ?_
    refine hd_ju kX6_swap (fun _ => rfl) (fun z => ?_) (fun z => ?_)
    · refine hd_go kX6_swap 999 (fun _ => rfl) rfl trivial ?_
      refine hd_ci kX6_swap qX6_swap (fun _ => rfl) (r_jd M M' N b o hj w) ?_
      exact hd_en_ kX6_swap (fun _ => rfl) trivial ⟨rfl, hj.1⟩
    · have z : ¬ M' 52 28 ≤ nI i := z
      rw [e28] at z
      exact absurd (nI_le (by omega) (by omega)) z
  | succ m ih =>
    intro i b o M' hi hj
    have e28 : M' 52 28 = nI d.1 := (hj.st 28).trans hd.1
    refine hd_go kX6_swap 999 (fun _ => rfl) rfl ⟨trivial, v138 (n := 28) (by decide)⟩ ?_
    refine hd_ju kX6_swap (fun _ => rfl) (fun z => ?_) (fun z => ?_)
    · have z : M' 52 28 ≤ nI i := z
      rw [e28] at z
      exact absurd z (nI_ge (by omega) (by omega))
    refine hd_go kX6_swap 57 (fun _ => rfl) rfl trivial ?_
    rw [nI_1]
    refine d_swap_i M N d hd ok ha n hn w i (by omega) _ (d.1 - (i + 1)) (i + 1) b o M' (by omega) (by omega) hj (fun M1 y hj1 => ?_)
    refine hd_go kX6_swap 999 (fun _ => rfl) rfl trivial ?_
    rw [nI_1]
    exact hd_fg4 (ih (i + 1) _ _ M1 (by omega) hj1)
set_option maxRecDepth 20000 in
theorem d_swap (n w : Int32) : rA mX6_swap [.int n, .int w] (an_swap n w) := by
  intro M N st hI hO
  change hd_Go mX6_swap 0 [some (.ref 51), some (.int n), some (.int w), none, none] [] M N _
  have bad : ¬ (wi n 0 60 ∧ wi w 0 1) → hd_Go mX6_swap 14 [some (.ref 51), some (.int n), some (.int w), none, none] [] M N (fun r M1 _ => r = some (an_swap n w st).1 ∧ fr refF M M1 ∧ RI M1 (an_swap n w st).2) := by
    intro q
    refine hd_go kX6_swap 999 (fun _ => rfl) rfl trivial ?_
    refine hd_en_ kX6_swap (fun _ => rfl) trivial ⟨?_, fr.rf, hI⟩
    unfold an_swap
    rw [if_neg q]
  unfold an_swap at bad ⊢
  refine hd_go kX6_swap 999 (fun _ => rfl) rfl trivial ?_
  refine hd_ci kX6_swap qX6_swap (fun _ => rfl) (r_isFar _ M N) ?_
  refine hd_ju kX6_swap (fun _ => rfl) (fun q => bad (fun z => hd_b0.mp q z.1)) (fun q => ?_)
  have q1 := hd_b1.mp q
  refine hd_go kX6_swap 999 (fun _ => rfl) rfl trivial ?_
  refine hd_ci kX6_swap qX6_swap (fun _ => rfl) (r_isPart _ M N) ?_
  refine hd_ju kX6_swap (fun _ => rfl) (fun q => ?_) (fun q => bad (fun z => hd_b0.mp q z.2))
  have q2 := hd_b1.mp q
  rw [if_pos ⟨q1, q2⟩]
  obtain ⟨j, hj, rfl⟩ := wi_nat (n := 60) rfl q1
  rw [nI_clamp (by omega)]
  refine hd_go kX6_swap 999 (fun _ => rfl) rfl trivial ?_
  refine hd_ci kX6_swap qX6_swap (fun _ => rfl) (r_allIn M N _ hI.1 hO.1) ?_
  refine hd_ju kX6_swap (fun _ => rfl) (fun q => ?_) (fun q => ?_)
  · have ha := hd_b1.mp q
    rw [if_pos ha]
    refine hd_go kX6_swap 999 (fun _ => rfl) rfl trivial ?_
    refine hd_ca kX6_swap qX6_swap (fun _ => rfl) (r_begin M N _ hI.1 hO.1) ?_
    rintro r M1 N1 ⟨rfl, rfl, ht⟩
    refine hd_go kX6_swap 999 (fun _ => rfl) rfl trivial ?_
    refine hd_ca kX6_swap qX6_swap (fun _ => rfl) (r_mb M1 N1 _ ht.2.1 hO.1 j hj) ?_
    rintro r M2 N2 ⟨rfl, rfl, hf2⟩
    refine hd_ca kX6_swap qX6_swap (fun _ => rfl) (r_sj M M2 N2 (ht.1.tr (n33R hf2)) _) ?_
    rintro r M3 N3 ⟨rfl, rfl, hj3⟩
    refine hd_go kX6_swap 41 (fun _ => rfl) rfl trivial ?_
    refine hd_Go.post ?_ (d_swap_l M N3 st.1 hI.1 hO.1 ha j hj w st.1.1 0 _ _ M3 (by omega) hj3)
    rintro r M4 N4 ⟨rfl, hf4⟩
    exact ⟨rfl, hI.q hO hf4⟩
  · rw [if_neg (hd_b0.mp q)]
    refine hd_go kX6_swap 999 (fun _ => rfl) rfl trivial ?_
    exact hd_en_ kX6_swap (fun _ => rfl) trivial ⟨rfl, fr.rf, hI⟩
