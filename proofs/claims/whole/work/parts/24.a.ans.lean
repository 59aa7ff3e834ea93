/-! WHAT IS ANSWERED: the mathematics of questions -/
abbrev wi (v a b : Int32) : Prop := ¬ v < a ∧ ¬ b < v
theorem hd_b0 {c : Prop} [Decidable c] : hd_b c = 0 ↔ ¬ c := by
  unfold hd_b
  by_cases h : c
  · simp [h]
  · simp [h]
theorem hd_b1 {c : Prop} [Decidable c] : ¬ hd_b c = 0 ↔ c := by
  unfold hd_b
  by_cases h : c
  · simp [h]
  · simp [h]
theorem hd_b01 {c : Prop} [Decidable c] : hd_b c = 0 ∨ hd_b c = 1 := by
  unfold hd_b
  by_cases h : c
  · simp [h]
  · simp [h]
/-- a number within 0 and m is a Nat -/
theorem wi_nat {v m : Int32} {n : Nat} (hm : m.toInt = n) (h : wi v 0 m) : ∃ j : Nat, j ≤ n ∧ v = nI j := nI_of2 hm h.1 (Int32.not_lt.mp h.2)
theorem wi_of {j n : Nat} {m : Int32} (hm : m = nI n) (hn : n < 2 ^ 31) (h : j ≤ n) : wi (nI j) 0 m := by
  subst hm
  exact ⟨nI_pos (by omega), nI_nlt h hn⟩
/-- the first from k on, within n hours more, that has p; else -4 -/
def dy_first (p : dy_T → Bool) : Nat → Nat → dy_T → Int32
  | 0, k, d => if p d then nI k else -4
  | n + 1, k, d => if p d then nI k else dy_first p n (k + 1) (dy_ho false d)
def dy_mx : Nat → Int32 → dy_T → Int32
  | 0, a, _ => a
  | n + 1, a, d => dy_mx n (if a < (dy_ho false d).2.2.1 then (dy_ho false d).2.2.1 else a) (dy_ho false d)
def dy_mn : Nat → Int32 → dy_T → Int32
  | 0, a, _ => a
  | n + 1, a, d => dy_mn n (if (dy_ho false d).2.2.1 < a then (dy_ho false d).2.2.1 else a) (dy_ho false d)
/-- the best of f, and its code; the first of the greatest -/
def dy_best (f g : Nat → Int32) : Nat → Nat → Int32 → Int32 → Int32 × Int32
  | 0, _, b, o => (b, o)
  | m + 1, i, b, o => if b < f i then dy_best f g m (i + 1) (f i) (g i) else dy_best f g m (i + 1) b o
def dy_fob (o b w : Int32) : Int32 := if w = 0 ∨ o = -4 then o else b
/-- the first of m from i on with p -/
def dy_fst (p : Nat → Bool) : Nat → Nat → Int32
  | 0, _ => -4
  | m + 1, i => if p i then nI i else dy_fst p m (i + 1)
/-- the first downward -/
def dy_lstd (p : Nat → Bool) : Nat → Int32
  | 0 => -4
  | m + 1 => if p m then nI m else dy_lstd p m
abbrev se_T : Type := Nat × (Nat → Int32) × (Nat → Int32)
/-- the mood behind n hours -/
def dy_md (n : Nat) (d : dy_T) : Int32 := (dy_hs n d).2.2.1
/-- all is as seen -/
def se_so (se : se_T) (d : dy_T) : Nat → Bool
  | 0 => true
  | m + 1 => se_so se d m && decide (dy_md (se.2.1 m).toNatClampNeg d = se.2.2 m)
def se_bits (se : se_T) (d : dy_T) (c i m : Nat) : Int32 := dy_bits (fun v => se_so se (dy_set c i (nI v) d) se.1) m
/-- what holds of what was seen -/
def se_ok (se : se_T) : Prop := se.1 ≤ 6 ∧ ∀ s, s < se.1 → ∃ j, j ≤ 20 ∧ se.2.1 s = nI j
def seC (M : hd_M) (k : Nat) (se : se_T) : Prop := M k 2 = nI se.1 ∧ (∀ s, s < se.1 → M (k + 1) s = se.2.1 s) ∧ ∀ s, s < se.1 → M (k + 2) s = se.2.2 s
def seR (M : hd_M) (off : Nat) (se : se_T) : Prop := M 52 (off + 33) = nI se.1 ∧ ∀ s, s < se.1 → M 52 (off + (34 + 2 * s)) = se.2.1 s ∧ M 52 (off + (35 + 2 * s)) = se.2.2 s
theorem dy_hs_succ : ∀ (n : Nat) (d : dy_T), dy_hs (n + 1) d = dy_ho false (dy_hs n d) := by
  intro n
  induction n with
  | zero => intro d; rfl
  | succ n ih => intro d; rw [dy_hs, ih, ← dy_hs]
theorem dy_ok_set {d : dy_T} {c i : Nat} {v : Int32} (h : dy_ok d) (hc : ¬ c = 3) : dy_ok (dy_set c i v d) := by
  obtain ⟨h1, h2, h3, h4, h5, h6⟩ := h
  refine ⟨h1, h2, fun x hx => ?_, fun x hx => ?_, h5, h6⟩
  · show (if 3 = c ∧ x = i then v else d.2.2.2.2.2 3 x) = 0
    rw [if_neg (fun z => hc z.1.symm)]; exact h3 x hx
  · show 0 ≤ (if 3 = c ∧ x = i then v else d.2.2.2.2.2 3 x) ∧ (if 3 = c ∧ x = i then v else d.2.2.2.2.2 3 x) ≤ 6
    rw [if_neg (fun z => hc z.1.symm)]; exact h4 x hx
theorem dy_ok_in {d : dy_T} (h : dy_ok d) : dy_ok (dy_in d) := by
  obtain ⟨h1, h2, h3, h4, h5, h6⟩ := h
  refine ⟨h1, Nat.le_refl _, fun x hx => rfl, fun x hx => ?_, h5, h6⟩
  show 0 ≤ (if 3 = 3 then (0 : Int32) else d.2.2.2.2.2 3 x) ∧ (if 3 = 3 then (0 : Int32) else d.2.2.2.2.2 3 x) ≤ 6
  rw [if_pos rfl]; decide
theorem dy_ok_blow {d : dy_T} {g : Nat} (h : dy_ok d) : dy_ok (dy_blow g d) := by
  unfold dy_blow
  split
  · exact dy_ok_in (dy_ok_set h (by decide))
  · exact dy_ok_set h (by decide)
theorem dy_blow_n {g : Nat} {d : dy_T} : (dy_blow g d).1 = d.1 := by
  unfold dy_blow
  split <;> rfl
/-- all are in -/
abbrev dy_all (d : dy_T) : Prop := d.2.1 = d.1
theorem dy_ok_shr {d : dy_T} {m : Nat} (h : dy_ok d) (ha : dy_all d) (hm : m ≤ d.1) : dy_ok (dy_shr m d) := by
  obtain ⟨h1, h2, h3, h4, h5, h6⟩ := h
  have ha : d.2.1 = d.1 := ha
  exact ⟨Nat.le_trans hm h1, Nat.le_refl _, fun x hx => h3 x (by have hx : x < m := hx; omega), fun x hx => h4 x (by have hx : x < m := hx; omega), h5, h6⟩
theorem dy_ok_exc {d : dy_T} {i j : Nat} (h : dy_ok d) : dy_ok (dy_exc i j d) := by
  obtain ⟨h1, h2, h3, h4, h5, h6⟩ := h
  exact ⟨h1, h2, h3, h4, h5, h6⟩
theorem dy_ok_rot {d : dy_T} {i j : Nat} (h : dy_ok d) : dy_ok (dy_rot i j d) := by
  obtain ⟨h1, h2, h3, h4, h5, h6⟩ := h
  exact ⟨h1, h2, h3, h4, h5, h6⟩
theorem dy_ok_prm {d : dy_T} {p : Nat → Nat} (h : dy_ok d) (ha : dy_all d) (hp : ∀ i, i < d.1 → p i < d.1) : dy_ok (dy_prm p d) := by
  obtain ⟨h1, h2, h3, h4, h5, h6⟩ := h
  have ha : d.2.1 = d.1 := ha
  exact ⟨h1, h2, fun x hx => h3 _ (by have hx : x < d.2.1 := hx; have := hp x (by omega); omega), fun x hx => h4 _ (hp x hx), h5, h6⟩
theorem dy_ok_tire {d : dy_T} {v : Int32} (h : dy_ok d) : dy_ok (dy_tire v d) := h
theorem dy_ok_mood {d : dy_T} {v : Int32} (h : dy_ok d) (hv : 0 ≤ v ∧ v ≤ 99) : dy_ok (dy_mood v d) := ⟨h.1, h.2.1, h.2.2.1, h.2.2.2.1, hv.1, hv.2⟩
theorem dy_ok_add {d : dy_T} {k g w : Int32} (h : dy_ok d) (ha : dy_all d) (hn : d.1 < 7) : dy_ok (dy_add k g w d) := by
  obtain ⟨h1, h2, h3, h4, h5, h6⟩ := h
  have ha : d.2.1 = d.1 := ha
  refine ⟨hn, Nat.le_refl _, fun x hx => ?_, fun x hx => ?_, h5, h6⟩
  · have hx : x < d.1 + 1 := hx
    show (if x = d.1 then (0 : Int32) else d.2.2.2.2.2 3 x) = 0
    split
    · rfl
    · exact h3 x (by omega)
  · have hx : x < d.1 + 1 := hx
    show 0 ≤ (if x = d.1 then (0 : Int32) else d.2.2.2.2.2 3 x) ∧ (if x = d.1 then (0 : Int32) else d.2.2.2.2.2 3 x) ≤ 6
    split
    · decide
    · exact h4 x (by omega)
