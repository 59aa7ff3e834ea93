/-! THE MATHEMATICS OF A DAY, over Int32: things by columns (0 kind, 1 good, 2 weight, 3 out) -/
def hd_b (c : Prop) [Decidable c] : Int32 := if c then 1 else 0
abbrev dy_T : Type := Nat × Nat × Int32 × Int32 × Int32 × (Nat → Nat → Int32)
def wsm (w : Nat → Int32) : Nat → Nat → Int32
  | _, 0 => 0
  | a, m + 1 => w a + wsm w (a + 1) m
def dy_brs (kd wt : Int32) : Int32 := if kd = 1 ∨ kd = 3 then wt else 2 * wt
def dy_plg (ld kd gd wt : Int32) : Int32 := if dy_brs kd wt < ld then gd / 2 else gd
def dy_chr (ld kd gd wt : Int32) : Int32 := if kd = 1 then 2 * dy_plg ld kd gd wt else if kd = 2 then -dy_plg ld kd gd wt else if kd = 3 then 2 * dy_plg ld kd gd wt + 1 else dy_plg ld kd gd wt
def dy_lst (kd : Int32) : Int32 := if kd = 2 then 5 else if kd = 3 then 6 else 3
def dy_ld (d : dy_T) (i : Nat) : Int32 := wsm (d.2.2.2.2.2 2) (i + 1) (d.1 - (i + 1))
def dy_ch (d : dy_T) (i : Nat) : Int32 := dy_chr (dy_ld d i) (d.2.2.2.2.2 0 i) (d.2.2.2.2.2 1 i) (d.2.2.2.2.2 2 i)
def dy_tik (ot ch : Nat → Int32) : Nat → Nat → Int32 → Int32
  | _, 0, a => a
  | i, m + 1, a => dy_tik ot ch (i + 1) m (if 0 < ot i then a + ch i else a)
def dy_clm (x : Int32) : Int32 := if x < 0 then 0 else if 99 < x then 99 else x
/-- the top thing comes out, unless the lid is on -/
def dy_op (lid : Bool) (d : dy_T) : dy_T := if lid = false ∧ 0 < d.2.1 then (d.1, d.2.1 - 1, d.2.2.1, d.2.2.2.1, d.2.2.2.2.1, fun c i => if c = 3 ∧ i = d.2.1 - 1 then dy_lst (d.2.2.2.2.2 0 i) else d.2.2.2.2.2 c i) else d
/-- an hour -/
def dy_ho (lid : Bool) (d : dy_T) : dy_T := (d.1, (dy_op lid d).2.1, dy_clm (dy_tik ((dy_op lid d).2.2.2.2.2 3) (dy_ch d) 0 d.1 (d.2.2.1 - d.2.2.2.1)), d.2.2.2.1, d.2.2.2.2.1 + 1, fun c i => if c = 3 ∧ 0 < (dy_op lid d).2.2.2.2.2 3 i then (dy_op lid d).2.2.2.2.2 3 i - 1 else (dy_op lid d).2.2.2.2.2 c i)
def dy_hs : Nat → dy_T → dy_T
  | 0, d => d
  | n + 1, d => dy_hs n (dy_ho false d)
/-- what holds of every day -/
def dy_ok (d : dy_T) : Prop := d.1 ≤ 7 ∧ d.2.1 ≤ d.1 ∧ (∀ i, i < d.2.1 → d.2.2.2.2.2 3 i = 0) ∧ (∀ i, i < d.1 → 0 ≤ d.2.2.2.2.2 3 i ∧ d.2.2.2.2.2 3 i ≤ 6) ∧ 0 ≤ d.2.2.1 ∧ d.2.2.1 ≤ 99
/-- the Hamper at cell k holds the day -/
def hm (M : hd_M) (k : Nat) (d : dy_T) : Prop := M k 5 = nI d.1 ∧ M k 6 = nI d.2.1 ∧ M k 7 = d.2.2.1 ∧ M k 8 = d.2.2.2.1 ∧ M k 9 = d.2.2.2.2.1 ∧ (∀ i, i < d.1 → M (k + 1) i = d.2.2.2.2.2 0 i) ∧ (∀ i, i < d.1 → M (k + 2) i = d.2.2.2.2.2 1 i) ∧ (∀ i, i < d.1 → M (k + 3) i = d.2.2.2.2.2 2 i) ∧ ∀ i, i < d.1 → M (k + 4) i = d.2.2.2.2.2 3 i
/-- the row a of the reference holds the day from off on -/
def rf (M : hd_M) (a off : Nat) (d : dy_T) : Prop := M a (off + 28) = nI d.1 ∧ M a (off + 29) = nI d.2.1 ∧ M a (off + 30) = d.2.2.1 ∧ M a (off + 31) = d.2.2.2.1 ∧ M a (off + 32) = d.2.2.2.2.1 ∧ ∀ i, i < d.1 → M a (off + 4 * i) = d.2.2.2.2.2 0 i ∧ M a (off + (4 * i + 1)) = d.2.2.2.2.2 1 i ∧ M a (off + (4 * i + 2)) = d.2.2.2.2.2 2 i ∧ M a (off + (4 * i + 3)) = d.2.2.2.2.2 3 i
/-- nothing changed but at the places of S -/
def fr (S : Nat → Nat → Prop) (M M1 : hd_M) : Prop := ∀ c j, ¬ S c j → M1 c j = M c j
theorem fr.rf {S : Nat → Nat → Prop} {M : hd_M} : fr S M M := fun _ _ _ => rfl
theorem fr.tr {S : Nat → Nat → Prop} {M M1 M2 : hd_M} (h : fr S M M1) (h2 : fr S M1 M2) : fr S M M2 := fun c j hs => (h2 c j hs).trans (h c j hs)
theorem fr.up {S : Nat → Nat → Prop} {M M1 : hd_M} {k j : Nat} {x : Int32} (h : fr S M M1) (hs : S k j) : fr S M (hd_u M1 k j x) := fun c i hn => by
  unfold hd_u
  split
  · next e => obtain ⟨rfl, rfl⟩ := e; exact absurd hs hn
  · exact h c i hn
theorem fr.mo {S S' : Nat → Nat → Prop} {M M1 : hd_M} (h : fr S M M1) (hs : ∀ c j, S c j → S' c j) : fr S' M M1 := fun c j hn => h c j (fun z => hn (hs c j z))
theorem hd_u_s (M : hd_M) (k j : Nat) (x : Int32) : hd_u M k j x k j = x := by simp [hd_u]
theorem hd_u_n {M : hd_M} {k j c i : Nat} {x : Int32} (h : ¬ (c = k ∧ i = j)) : hd_u M k j x c i = M c i := by
  unfold hd_u
  rw [if_neg h]
theorem vi {i : Int32} {j n : Nat} (e : i = nI j) (h : j < n) (hn : n < 2 ^ 31) : vp_in i n := by rw [e]; exact vp_in_nI h hn
theorem wsm_snoc (w : Nat → Int32) : ∀ (m a : Nat), wsm w a (m + 1) = wsm w a m + w (a + m) := by
  intro m
  induction m with
  | zero => intro a; simp [wsm]
  | succ m ih =>
    intro a
    rw [wsm, ih (a + 1), wsm, Int32.add_assoc, show a + 1 + m = a + (m + 1) by omega]
theorem wsm_cong {w w' : Nat → Int32} : ∀ (m a : Nat), (∀ i, a ≤ i → i < a + m → w i = w' i) → wsm w a m = wsm w' a m := by
  intro m
  induction m with
  | zero => intro a _; rfl
  | succ m ih =>
    intro a h
    rw [wsm, wsm, h a (Nat.le_refl _) (by omega), ih (a + 1) (fun i h1 h2 => h i (by omega) (by omega))]
theorem dy_tik_cong {ot ot' ch ch' : Nat → Int32} : ∀ (m i : Nat) (a : Int32), (∀ x, i ≤ x → x < i + m → ot x = ot' x ∧ (0 < ot' x → ch x = ch' x)) → dy_tik ot ch i m a = dy_tik ot' ch' i m a := by
  intro m
  induction m with
  | zero => intro i a _; rfl
  | succ m ih =>
    intro i a h
    obtain ⟨h1, h2⟩ := h i (Nat.le_refl _) (by omega)
    rw [dy_tik, dy_tik, h1]
    by_cases ho : 0 < ot' i
    · rw [if_pos ho, if_pos ho, h2 ho]
      exact ih _ _ (fun x h3 h4 => h x (by omega) (by omega))
    · rw [if_neg ho, if_neg ho]
      exact ih _ _ (fun x h3 h4 => h x (by omega) (by omega))
/-- those that aren't out add nothing -/
theorem dy_tik_skip {ot ch : Nat → Int32} : ∀ (k m i : Nat) (a : Int32), (∀ x, i ≤ x → x < i + k → ¬ 0 < ot x) → dy_tik ot ch i (k + m) a = dy_tik ot ch (i + k) m a := by
  intro k
  induction k with
  | zero => intro m i a _; rw [Nat.zero_add, Nat.add_zero]
  | succ k ih =>
    intro m i a h
    rw [show k + 1 + m = (k + m) + 1 by omega, dy_tik, if_neg (h i (Nat.le_refl _) (by omega)), ih m (i + 1) a (fun x h1 h2 => h x (by omega) (by omega)), show i + 1 + k = i + (k + 1) by omega]
theorem dy_clm_eq (s : Int32) : (if (0 : Int32) < (if s < 99 then s else 99) then (if s < 99 then s else 99) else 0) = dy_clm s := by
  unfold dy_clm
  have z0 : Int32.toInt 0 = 0 := rfl
  have z9 : Int32.toInt 99 = 99 := rfl
  by_cases h1 : s < 0
  · have g1 := Int32.lt_iff_toInt_lt.mp h1
    have h2 : s < 99 := Int32.lt_iff_toInt_lt.mpr (by omega)
    have h3 : ¬ (0 : Int32) < s := fun z => by have := Int32.lt_iff_toInt_lt.mp z; omega
    rw [if_pos h2, if_neg h3, if_pos h1]
  · have g1 : ¬ s.toInt < Int32.toInt 0 := fun z => h1 (Int32.lt_iff_toInt_lt.mpr z)
    by_cases h2 : s < 99
    · have g2 := Int32.lt_iff_toInt_lt.mp h2
      have h4 : ¬ (99 : Int32) < s := fun z => by have := Int32.lt_iff_toInt_lt.mp z; omega
      rw [if_pos h2, if_neg h1, if_neg h4]
      by_cases h3 : (0 : Int32) < s
      · rw [if_pos h3]
      · have g3 : ¬ Int32.toInt 0 < s.toInt := fun z => h3 (Int32.lt_iff_toInt_lt.mpr z)
        rw [if_neg h3]
        apply Int32.toInt_inj.mp
        omega
    · have g2 : ¬ s.toInt < Int32.toInt 99 := fun z => h2 (Int32.lt_iff_toInt_lt.mpr z)
      rw [if_neg h2, if_pos (by decide), if_neg h1]
      by_cases h3 : (99 : Int32) < s
      · rw [if_pos h3]
      · have g3 : ¬ Int32.toInt 99 < s.toInt := fun z => h3 (Int32.lt_iff_toInt_lt.mpr z)
        rw [if_neg h3]
        apply Int32.toInt_inj.mp
        omega
theorem dy_clm_ok (s : Int32) : 0 ≤ dy_clm s ∧ dy_clm s ≤ 99 := by
  unfold dy_clm
  split
  · decide
  · split
    · decide
    · next h1 h2 => exact ⟨Int32.not_lt.mp h1, Int32.not_lt.mp h2⟩
theorem dy_lst_ok (k : Int32) : 0 ≤ dy_lst k ∧ dy_lst k ≤ 6 ∧ 0 < dy_lst k := by
  unfold dy_lst
  split
  · decide
  · split <;> decide
theorem le_n (a b : Int32) : (a ≤ b) ↔ ¬ b < a := Int32.not_lt.symm
