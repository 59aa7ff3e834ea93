/-! A TEXT: its signs, its tokens (each known by its start), its lines; printed by wip/whole/txm.py -/
abbrev tx_T : Type := Nat × (Nat → Int32)
abbrev tx_F : Type := Int32 × Nat
abbrev tx_L : Type := tx_F ⊕ (Nat × dy_T × Bool × Bool)
/-- the sort of a sign: 0 none, 1 a letter, 2 a digit, 3 a stop, 4 a blank, 5 another -/
def tx_so (t : tx_T) (p : Nat) : Int32 := if p < t.1 then (if ¬ t.2 p < 97 ∧ ¬ 122 < t.2 p then 1 else if ¬ t.2 p < 48 ∧ ¬ 57 < t.2 p then 2 else if t.2 p = 59 then 3 else if t.2 p = 32 then 4 else 5) else 0
def tx_run (t : tx_T) (k : Int32) : Nat → Nat → Nat
  | 0, p => p
  | m + 1, p => if tx_so t p = k then tx_run t k m (p + 1) else p
def tx_s (t : tx_T) (p : Nat) : Nat := tx_run t 4 (t.1 - p) p
def tx_e (t : tx_T) (s : Nat) : Nat := if tx_so t s = 3 then s + 1 else tx_run t (tx_so t s) (t.1 - s) s
def tx_nu (t : tx_T) : Nat → Nat → Int32 → Int32
  | 0, _, a => a
  | m + 1, p, a => tx_nu t m (p + 1) (10 * a + t.2 p - 48)
def tx_v (t : tx_T) (s : Nat) : Int32 := tx_nu t (tx_e t s - s) s 0
abbrev tx_bad (t : tx_T) (s : Nat) : Prop := tx_so t s = 5 ∨ (tx_so t s = 2 ∧ 2 < tx_e t s - s)
/-- the token read from p on: its start, or a fault -/
def tx_rd (t : tx_T) (p : Nat) : tx_F ⊕ Nat := if tx_bad t (tx_s t p) then .inl (1, tx_s t p) else .inr (tx_s t p)
abbrev tx_is (t : tx_T) (s i : Nat) : Prop := tx_e t s - s = sx_len.getD i 0 ∧ ∀ j, j < sx_len.getD i 0 → t.2 (s + j) = (sx_byt.getD i []).getD j 0
def tx_w (t : tx_T) (s : Nat) : Int32 := if tx_is t s 0 then 0 else if tx_is t s 1 then 1 else if tx_is t s 2 then 2 else if tx_is t s 3 then 3 else if tx_is t s 4 then 4 else if tx_is t s 5 then 5 else -1
def tx_n (t : tx_T) (lo hi : Int32) (p : Nat) (k : Int32 → Nat → tx_L) : tx_L := match tx_rd t p with
  | .inl f => .inl f
  | .inr s => if tx_so t s = 2 then (if wi (tx_v t s) lo hi then k (tx_v t s) (tx_e t s) else .inl (3, s)) else .inl (2, s)
def tx_p (t : tx_T) (p : Nat) (k : Nat → tx_L) : tx_L := match tx_rd t p with
  | .inl f => .inl f
  | .inr s => if tx_so t s = 3 then k (tx_e t s) else .inl (2, s)
def tx_lw (t : tx_T) (s : Nat) (w : Int32) (d : dy_T) (mt tt : Bool) : tx_L :=
  if w = -1 then .inl (2, s)
  else if w = 4 then (if mt then .inl (4, s) else tx_n t 0 99 (tx_e t s) (fun v e => tx_p t e (fun e => .inr (e, dy_mood v d, true, tt))))
  else if w = 5 then (if tt then .inl (4, s) else tx_n t 0 9 (tx_e t s) (fun v e => tx_p t e (fun e => .inr (e, dy_tire v d, mt, true))))
  else if d.1 = 7 then .inl (5, s)
  else tx_n t 0 9 (tx_e t s) (fun g e => tx_n t 1 9 e (fun x e => tx_p t e (fun e => .inr (e, dy_add w g x d, mt, tt))))
def tx_wd (t : tx_T) (s : Nat) : Int32 := if tx_so t s = 1 then tx_w t s else -1
def tx_ln (t : tx_T) (s : Nat) (d : dy_T) (mt tt : Bool) : tx_L := tx_lw t s (tx_wd t s) d mt tt
def tx_lp (t : tx_T) : Nat → Nat → Nat → dy_T → Bool → Bool → tx_F ⊕ (Nat × dy_T)
  | 0, _, _, _, _, _ => .inl (1, 0)
  | m + 1, p, l, d, mt, tt => (match tx_rd t p with
    | .inl f => .inl f
    | .inr s => if tx_so t s = 0 then .inr (l, d) else (match tx_ln t s d mt tt with
      | .inl f => .inl f
      | .inr (e, d', mt', tt') => tx_lp t m e (l + 1) d' mt' tt'))
def dy_0 : dy_T := (0, 0, 30, 1, 0, fun _ _ => 0)
def an_text (st : ab_T) : Value × ab_T := match tx_lp st.2.2.1 (st.2.2.1.1 + 1) 0 0 dy_0 false false with
  | .inl (c, w) => (.int (-10 - nI w), st.1, st.2.1, (0, st.2.2.1.2), st.2.2.2.1, st.2.2.2.2.1, st.2.2.2.2.2.1, c)
  | .inr (l, d) => (.int (nI l), d, (0, st.2.1.2), (0, st.2.2.1.2), (fun _ => (false, d, st.2.1)), st.2.2.2.2.1, st.2.2.2.2.2.1, 0)
theorem tx_so0 (t : tx_T) (p : Nat) : tx_so t p = 0 ↔ ¬ p < t.1 := by
  unfold tx_so
  by_cases h : p < t.1
  · rw [if_pos h]
    refine ⟨fun z => ?_, fun z => absurd h z⟩
    exfalso
    revert z
    split
    · decide
    split
    · decide
    split
    · decide
    split <;> decide
  · rw [if_neg h]
    exact ⟨fun _ => h, fun _ => rfl⟩
theorem tx_run_ge (t : tx_T) (k : Int32) : ∀ m p : Nat, p ≤ tx_run t k m p ∧ tx_run t k m p ≤ p + m := by
  intro m
  induction m with
  | zero => intro p; exact ⟨Nat.le_refl _, Nat.le_refl _⟩
  | succ m ih =>
    intro p
    rw [tx_run]
    split
    · have := ih (p + 1); omega
    · omega
theorem tx_run_ne (t : tx_T) (k : Int32) (hk : ¬ k = 0) : ∀ m p : Nat, p + m = t.1 → ¬ tx_so t (tx_run t k m p) = k := by
  intro m
  induction m with
  | zero =>
    intro p h z
    have h0 : tx_so t p = 0 := (tx_so0 t p).mpr (by omega)
    have z : tx_so t p = k := z
    exact hk (z.symm.trans h0)
  | succ m ih =>
    intro p h
    rw [tx_run]
    split
    · exact ih (p + 1) (by omega)
    · next z => exact z
theorem tx_s_le {t : tx_T} {p : Nat} (h : p ≤ t.1) : p ≤ tx_s t p ∧ tx_s t p ≤ t.1 := by
  have := tx_run_ge t 4 (t.1 - p) p
  unfold tx_s
  omega
theorem tx_s_4 {t : tx_T} {p : Nat} (h : p ≤ t.1) : ¬ tx_so t (tx_s t p) = 4 := tx_run_ne t 4 (by decide) (t.1 - p) p (by omega)
theorem tx_e_le {t : tx_T} {s : Nat} (h : s ≤ t.1) : s ≤ tx_e t s ∧ tx_e t s ≤ t.1 ∧ (¬ tx_so t s = 0 → s < tx_e t s) := by
  unfold tx_e
  have h0 := tx_so0 t s
  by_cases h3 : tx_so t s = 3
  · rw [if_pos h3]
    have : s < t.1 := Decidable.byContradiction (fun z => by
      have := h0.mpr z
      rw [h3] at this
      exact absurd this (by decide))
    omega
  · rw [if_neg h3]
    have g := tx_run_ge t (tx_so t s) (t.1 - s) s
    refine ⟨g.1, by omega, fun z => ?_⟩
    have hs : s < t.1 := Decidable.byContradiction (fun q => z (h0.mpr q))
    obtain ⟨m, hm⟩ : ∃ m, t.1 - s = m + 1 := ⟨t.1 - s - 1, by omega⟩
    rw [hm, tx_run, if_pos rfl]
    have := tx_run_ge t (tx_so t s) m (s + 1)
    omega
theorem tx_rd_l {t : tx_T} {p : Nat} {f : tx_F} (h : tx_rd t p = .inl f) : f = (1, tx_s t p) ∧ tx_bad t (tx_s t p) := by
  unfold tx_rd at h
  by_cases hb : tx_bad t (tx_s t p)
  · rw [if_pos hb] at h
    injection h with h
    exact ⟨h.symm, hb⟩
  · rw [if_neg hb] at h; cases h
theorem tx_rd_r {t : tx_T} {p s : Nat} (h : tx_rd t p = .inr s) : s = tx_s t p ∧ ¬ tx_bad t (tx_s t p) := by
  unfold tx_rd at h
  by_cases hb : tx_bad t (tx_s t p)
  · rw [if_pos hb] at h; cases h
  · rw [if_neg hb] at h
    injection h with h
    exact ⟨h.symm, hb⟩
/-- what a number comes to -/
theorem tx_n_cases (t : tx_T) (lo hi : Int32) (p : Nat) (hp : p ≤ t.1) : (∃ c w, (c = 1 ∨ c = 2 ∨ c = 3) ∧ w ≤ t.1 ∧ ∀ k, tx_n t lo hi p k = .inl (c, w)) ∨ (∃ s, tx_rd t p = .inr s ∧ tx_so t s = 2 ∧ wi (tx_v t s) lo hi ∧ p < tx_e t s ∧ tx_e t s ≤ t.1 ∧ ∀ k, tx_n t lo hi p k = k (tx_v t s) (tx_e t s)) := by
  have h1 := tx_s_le hp
  cases h : tx_rd t p with
  | inl f =>
    obtain ⟨rfl, -⟩ := tx_rd_l h
    exact Or.inl ⟨1, tx_s t p, Or.inl rfl, h1.2, fun k => by unfold tx_n; rw [h]⟩
  | inr s =>
    obtain ⟨rfl, -⟩ := tx_rd_r h
    have h2 := tx_e_le h1.2
    by_cases hs : tx_so t (tx_s t p) = 2
    · by_cases hw : wi (tx_v t (tx_s t p)) lo hi
      · have := h2.2.2 (by rw [hs]; decide)
        exact Or.inr ⟨tx_s t p, rfl, hs, hw, by omega, by omega, fun k => by unfold tx_n; rw [h]; simp only []; rw [if_pos hs, if_pos hw]⟩
      · exact Or.inl ⟨3, tx_s t p, Or.inr (Or.inr rfl), h1.2, fun k => by unfold tx_n; rw [h]; simp only []; rw [if_pos hs, if_neg hw]⟩
    · exact Or.inl ⟨2, tx_s t p, Or.inr (Or.inl rfl), h1.2, fun k => by unfold tx_n; rw [h]; simp only []; rw [if_neg hs]⟩
theorem tx_p_cases (t : tx_T) (p : Nat) (hp : p ≤ t.1) : (∃ c w, (c = 1 ∨ c = 2) ∧ w ≤ t.1 ∧ ∀ k, tx_p t p k = .inl (c, w)) ∨ (∃ s, tx_rd t p = .inr s ∧ tx_so t s = 3 ∧ p < tx_e t s ∧ tx_e t s ≤ t.1 ∧ ∀ k, tx_p t p k = k (tx_e t s)) := by
  have h1 := tx_s_le hp
  cases h : tx_rd t p with
  | inl f =>
    obtain ⟨rfl, -⟩ := tx_rd_l h
    exact Or.inl ⟨1, tx_s t p, Or.inl rfl, h1.2, fun k => by unfold tx_p; rw [h]⟩
  | inr s =>
    obtain ⟨rfl, -⟩ := tx_rd_r h
    have h2 := tx_e_le h1.2
    by_cases hs : tx_so t (tx_s t p) = 3
    · have := h2.2.2 (by rw [hs]; decide)
      exact Or.inr ⟨tx_s t p, rfl, hs, by omega, by omega, fun k => by unfold tx_p; rw [h]; simp only []; rw [if_pos hs]⟩
    · exact Or.inl ⟨2, tx_s t p, Or.inr rfl, h1.2, fun k => by unfold tx_p; rw [h]; simp only []; rw [if_neg hs]⟩
/-- a day that a text has told so far -/
def txd (d : dy_T) : Prop := d.1 ≤ 7 ∧ d.2.1 = d.1 ∧ (∀ i, i < d.1 → d.2.2.2.2.2 3 i = 0) ∧ 0 ≤ d.2.2.1 ∧ d.2.2.1 ≤ 99 ∧ d.2.2.2.2.1 = 0
theorem txd_0 : txd dy_0 := ⟨by decide, rfl, fun i h => absurd h (Nat.not_lt_zero i), by decide, by decide, rfl⟩
theorem txd.ok {d : dy_T} (h : txd d) : dy_ok d := by
  obtain ⟨h1, h2, h3, h4, h5, -⟩ := h
  exact ⟨h1, by omega, fun i hi => h3 i (by omega), fun i hi => by rw [h3 i hi]; decide, h4, h5⟩
theorem txd.mood {d : dy_T} (h : txd d) {v : Int32} (hv : wi v 0 99) : txd (dy_mood v d) := by
  obtain ⟨h1, h2, h3, h4, h5, h6⟩ := h
  exact ⟨h1, h2, h3, Int32.not_lt.mp hv.1, Int32.not_lt.mp hv.2, h6⟩
theorem txd.tire {d : dy_T} (h : txd d) {v : Int32} : txd (dy_tire v d) := h
theorem txd.add {d : dy_T} (h : txd d) (h7 : ¬ d.1 = 7) {k g w : Int32} : txd (dy_add k g w d) := by
  obtain ⟨h1, h2, h3, h4, h5, h6⟩ := h
  refine ⟨by show d.1 + 1 ≤ 7; omega, rfl, fun i hi => ?_, h4, h5, h6⟩
  have hi : i < d.1 + 1 := hi
  show (if i = d.1 then (if 3 = 0 then k else if 3 = 1 then g else if 3 = 2 then w else 0) else d.2.2.2.2.2 3 i) = 0
  by_cases e : i = d.1
  · rw [if_pos e]; rfl
  · rw [if_neg e]; exact h3 i (by omega)
/-- a line moves on, and keeps what holds of a day -/
theorem tx_ln_ok {t : tx_T} {s : Nat} {d : dy_T} {mt tt : Bool} (hs : s ≤ t.1) (hd : txd d) : (∃ c w, tx_ln t s d mt tt = .inl (c, w) ∧ 0 < c ∧ w ≤ t.1) ∨ ∃ e d' mt' tt', tx_ln t s d mt tt = .inr (e, d', mt', tt') ∧ s < e ∧ e ≤ t.1 ∧ txd d' := by
  have h1 := tx_e_le hs
  unfold tx_ln tx_lw
  by_cases w0 : tx_wd t s = -1
  · rw [if_pos w0]; exact Or.inl ⟨2, s, rfl, by decide, hs⟩
  rw [if_neg w0]
  by_cases w4 : tx_wd t s = 4
  · rw [if_pos w4]
    cases mt with
    | true => exact Or.inl ⟨4, s, rfl, by decide, hs⟩
    | false =>
      simp only [Bool.false_eq_true, if_false]
      rcases tx_n_cases t 0 99 (tx_e t s) h1.2.1 with ⟨c, w, hc, hw, q⟩ | ⟨s1, -, -, hv, g1, g2, q⟩
      · exact Or.inl ⟨c, w, q _, by rcases hc with rfl | rfl | rfl <;> decide, hw⟩
      · rw [q]
        rcases tx_p_cases t (tx_e t s1) g2 with ⟨c, w, hc, hw, q2⟩ | ⟨s2, -, -, g3, g4, q2⟩
        · exact Or.inl ⟨c, w, q2 _, by rcases hc with rfl | rfl <;> decide, hw⟩
        · exact Or.inr ⟨_, _, _, _, q2 _, by omega, g4, hd.mood hv⟩
  rw [if_neg w4]
  by_cases w5 : tx_wd t s = 5
  · rw [if_pos w5]
    cases tt with
    | true => exact Or.inl ⟨4, s, rfl, by decide, hs⟩
    | false =>
      simp only [Bool.false_eq_true, if_false]
      rcases tx_n_cases t 0 9 (tx_e t s) h1.2.1 with ⟨c, w, hc, hw, q⟩ | ⟨s1, -, -, hv, g1, g2, q⟩
      · exact Or.inl ⟨c, w, q _, by rcases hc with rfl | rfl | rfl <;> decide, hw⟩
      · rw [q]
        rcases tx_p_cases t (tx_e t s1) g2 with ⟨c, w, hc, hw, q2⟩ | ⟨s2, -, -, g3, g4, q2⟩
        · exact Or.inl ⟨c, w, q2 _, by rcases hc with rfl | rfl <;> decide, hw⟩
        · exact Or.inr ⟨_, _, _, _, q2 _, by omega, g4, hd.tire⟩
  rw [if_neg w5]
  by_cases h7 : d.1 = 7
  · rw [if_pos h7]; exact Or.inl ⟨5, s, rfl, by decide, hs⟩
  rw [if_neg h7]
  rcases tx_n_cases t 0 9 (tx_e t s) h1.2.1 with ⟨c, w, hc, hw, q⟩ | ⟨s1, -, -, hv, g1, g2, q⟩
  · exact Or.inl ⟨c, w, q _, by rcases hc with rfl | rfl | rfl <;> decide, hw⟩
  · rw [q]
    rcases tx_n_cases t 1 9 (tx_e t s1) g2 with ⟨c, w, hc, hw, q3⟩ | ⟨s3, -, -, hv3, g5, g6, q3⟩
    · exact Or.inl ⟨c, w, q3 _, by rcases hc with rfl | rfl | rfl <;> decide, hw⟩
    · rw [q3]
      rcases tx_p_cases t (tx_e t s3) g6 with ⟨c, w, hc, hw, q2⟩ | ⟨s2, -, -, g3, g4, q2⟩
      · exact Or.inl ⟨c, w, q2 _, by rcases hc with rfl | rfl <;> decide, hw⟩
      · exact Or.inr ⟨_, _, _, _, q2 _, by omega, g4, hd.add h7⟩
theorem tx_lp_ok (t : tx_T) : ∀ (m p l : Nat) (d : dy_T) (mt tt : Bool), p ≤ t.1 → txd d → (∃ c w, tx_lp t m p l d mt tt = .inl (c, w) ∧ 0 < c ∧ w ≤ t.1) ∨ ∃ l' d', tx_lp t m p l d mt tt = .inr (l', d') ∧ txd d' := by
  intro m
  induction m with
  | zero => intro p l d mt tt _ _; exact Or.inl ⟨1, 0, rfl, by decide, Nat.zero_le _⟩
  | succ m ih =>
    intro p l d mt tt hp hd
    have h1 := tx_s_le hp
    rw [tx_lp]
    cases h : tx_rd t p with
    | inl f =>
      obtain ⟨rfl, -⟩ := tx_rd_l h
      exact Or.inl ⟨_, _, rfl, by decide, h1.2⟩
    | inr s =>
      obtain ⟨rfl, -⟩ := tx_rd_r h
      simp only []
      by_cases h0 : tx_so t (tx_s t p) = 0
      · rw [if_pos h0]; exact Or.inr ⟨_, _, rfl, hd⟩
      · rw [if_neg h0]
        rcases tx_ln_ok (mt := mt) (tt := tt) h1.2 hd with ⟨c, w, q, hc, hw⟩ | ⟨e, d', mt', tt', q, g1, g2, g3⟩
        · rw [q]; exact Or.inl ⟨c, w, rfl, hc, hw⟩
        · rw [q]; exact ih e (l + 1) d' mt' tt' g2 g3
