/-! THE MATHEMATICS OF A DAY, over Int32: things by columns (0 kind, 1 good, 2 weight, 3 out) -/
def hd_b (c : Prop) [Decidable c] : Int32 := if c then 1 else 0
abbrev dy_T : Type := Nat × Nat × Int32 × Int32 × Int32 × (Nat → Nat → Int32)
def wsm (w : Nat → Int32) : Nat → Nat → Int32
  | _, 0 => 0
  | a, m + 1 => w a + wsm w (a + 1) m
def dy_brs (kd wt : Int32) : Int32 := if kd = 1 ∨ kd = 3 then wt else 2 * wt
def dy_plg (ld kd gd wt : Int32) : Int32 := if dy_brs kd wt < ld then gd / 2 else gd
def dy_chr (ld kd gd wt : Int32) : Int32 := if kd = 1 then 2 * dy_plg ld kd gd wt else if kd = 2 then -dy_plg ld kd gd wt else if kd = 3 then 2 * dy_plg ld kd gd wt + 1 else dy_plg ld kd gd wt
def dy_lst (kd : Int32) : Int32 := if kd = 2 then 5 else if kd = 3 then 6 else 3
def dy_ld (d : dy_T) (i : Nat) : Int32 := wsm (d.2.2.2.2.2 2) (i + 1) (d.1 - (i + 1))
def dy_ch (d : dy_T) (i : Nat) : Int32 := dy_chr (dy_ld d i) (d.2.2.2.2.2 0 i) (d.2.2.2.2.2 1 i) (d.2.2.2.2.2 2 i)
def dy_tik (ot ch : Nat → Int32) : Nat → Nat → Int32 → Int32
  | _, 0, a => a
  | i, m + 1, a => dy_tik ot ch (i + 1) m (if 0 < ot i then a + ch i else a)
def dy_clm (x : Int32) : Int32 := if x < 0 then 0 else if 99 < x then 99 else x
/-- the top thing comes out, unless the lid is on -/
def dy_op (lid : Bool) (d : dy_T) : dy_T := if lid = false ∧ 0 < d.2.1 then (d.1, d.2.1 - 1, d.2.2.1, d.2.2.2.1, d.2.2.2.2.1, fun c i => if c = 3 ∧ i = d.2.1 - 1 then dy_lst (d.2.2.2.2.2 0 i) else d.2.2.2.2.2 c i) else d
/-- an hour -/
def dy_ho (lid : Bool) (d : dy_T) : dy_T := (d.1, (dy_op lid d).2.1, dy_clm (dy_tik ((dy_op lid d).2.2.2.2.2 3) (dy_ch d) 0 d.1 (d.2.2.1 - d.2.2.2.1)), d.2.2.2.1, d.2.2.2.2.1 + 1, fun c i => if c = 3 ∧ 0 < (dy_op lid d).2.2.2.2.2 3 i then (dy_op lid d).2.2.2.2.2 3 i - 1 else (dy_op lid d).2.2.2.2.2 c i)
def dy_hs : Nat → dy_T → dy_T
  | 0, d => d
  | n + 1, d => dy_hs n (dy_ho false d)
/-- what holds of every day -/
def dy_ok (d : dy_T) : Prop := d.1 ≤ 7 ∧ d.2.1 ≤ d.1 ∧ (∀ i, i < d.2.1 → d.2.2.2.2.2 3 i = 0) ∧ (∀ i, i < d.1 → 0 ≤ d.2.2.2.2.2 3 i ∧ d.2.2.2.2.2 3 i ≤ 6) ∧ 0 ≤ d.2.2.1 ∧ d.2.2.1 ≤ 99
/-- the Hamper at cell k holds the day -/
def hm (M : hd_M) (k : Nat) (d : dy_T) : Prop := M k 5 = nI d.1 ∧ M k 6 = nI d.2.1 ∧ M k 7 = d.2.2.1 ∧ M k 8 = d.2.2.2.1 ∧ M k 9 = d.2.2.2.2.1 ∧ (∀ i, i < d.1 → M (k + 1) i = d.2.2.2.2.2 0 i) ∧ (∀ i, i < d.1 → M (k + 2) i = d.2.2.2.2.2 1 i) ∧ (∀ i, i < d.1 → M (k + 3) i = d.2.2.2.2.2 2 i) ∧ ∀ i, i < d.1 → M (k + 4) i = d.2.2.2.2.2 3 i
/-- the row a of the reference holds the day from off on -/
def rf (M : hd_M) (a off : Nat) (d : dy_T) : Prop := M a (off + 28) = nI d.1 ∧ M a (off + 29) = nI d.2.1 ∧ M a (off + 30) = d.2.2.1 ∧ M a (off + 31) = d.2.2.2.1 ∧ M a (off + 32) = d.2.2.2.2.1 ∧ ∀ i, i < d.1 → M a (off + 4 * i) = d.2.2.2.2.2 0 i ∧ M a (off + (4 * i + 1)) = d.2.2.2.2.2 1 i ∧ M a (off + (4 * i + 2)) = d.2.2.2.2.2 2 i ∧ M a (off + (4 * i + 3)) = d.2.2.2.2.2 3 i
/-- nothing changed but at the places of S -/
def fr (S : Nat → Nat → Prop) (M M1 : hd_M) : Prop := ∀ c j, ¬ S c j → M1 c j = M c j
theorem fr.rf {S : Nat → Nat → Prop} {M : hd_M} : fr S M M := fun _ _ _ => rfl
theorem fr.tr {S : Nat → Nat → Prop} {M M1 M2 : hd_M} (h : fr S M M1) (h2 : fr S M1 M2) : fr S M M2 := fun c j hs => (h2 c j hs).trans (h c j hs)
theorem fr.up {S : Nat → Nat → Prop} {M M1 : hd_M} {k j : Nat} {x : Int32} (h : fr S M M1) (hs : S k j) : fr S M (hd_u M1 k j x) := fun c i hn => by
  unfold hd_u
  split
  · next e => obtain ⟨rfl, rfl⟩ := e; exact absurd hs hn
  · exact h c i hn
theorem fr.mo {S S' : Nat → Nat → Prop} {M M1 : hd_M} (h : fr S M M1) (hs : ∀ c j, S c j → S' c j) : fr S' M M1 := fun c j hn => h c j (fun z => hn (hs c j z))
theorem hd_u_s (M : hd_M) (k j : Nat) (x : Int32) : hd_u M k j x k j = x := by simp [hd_u]
theorem hd_u_n {M : hd_M} {k j c i : Nat} {x : Int32} (h : ¬ (c = k ∧ i = j)) : hd_u M k j x c i = M c i := by
  unfold hd_u
  rw [if_neg h]
theorem vi {i : Int32} {j n : Nat} (e : i = nI j) (h : j < n) (hn : n < 2 ^ 31) : vp_in i n := by rw [e]; exact vp_in_nI h hn
theorem wsm_snoc (w : Nat → Int32) : ∀ (m a : Nat), wsm w a (m + 1) = wsm w a m + w (a + m) := by
  intro m
  induction m with
  | zero => intro a; simp [wsm]
  | succ m ih =>
    intro a
    rw [wsm, ih (a + 1), wsm, Int32.add_assoc, show a + 1 + m = a + (m + 1) by omega]
theorem wsm_cong {w w' : Nat → Int32} : ∀ (m a : Nat), (∀ i, a ≤ i → i < a + m → w i = w' i) → wsm w a m = wsm w' a m := by
  intro m
  induction m with
  | zero => intro a _; rfl
  | succ m ih =>
    intro a h
    rw [wsm, wsm, h a (Nat.le_refl _) (by omega), ih (a + 1) (fun i h1 h2 => h i (by omega) (by omega))]
theorem dy_tik_cong {ot ot' ch ch' : Nat → Int32} : ∀ (m i : Nat) (a : Int32), (∀ x, i ≤ x → x < i + m → ot x = ot' x ∧ (0 < ot' x → ch x = ch' x)) → dy_tik ot ch i m a = dy_tik ot' ch' i m a := by
  intro m
  induction m with
  | zero => intro i a _; rfl
  | succ m ih =>
    intro i a h
    obtain ⟨h1, h2⟩ := h i (Nat.le_refl _) (by omega)
    rw [dy_tik, dy_tik, h1]
    by_cases ho : 0 < ot' i
    · rw [if_pos ho, if_pos ho, h2 ho]
      exact ih _ _ (fun x h3 h4 => h x (by omega) (by omega))
    · rw [if_neg ho, if_neg ho]
      exact ih _ _ (fun x h3 h4 => h x (by omega) (by omega))
/-- those that aren't out add nothing -/
theorem dy_tik_skip {ot ch : Nat → Int32} : ∀ (k m i : Nat) (a : Int32), (∀ x, i ≤ x → x < i + k → ¬ 0 < ot x) → dy_tik ot ch i (k + m) a = dy_tik ot ch (i + k) m a := by
  intro k
  induction k with
  | zero => intro m i a _; rw [Nat.zero_add, Nat.add_zero]
  | succ k ih =>
    intro m i a h
    rw [show k + 1 + m = (k + m) + 1 by omega, dy_tik, if_neg (h i (Nat.le_refl _) (by omega)), ih m (i + 1) a (fun x h1 h2 => h x (by omega) (by omega)), show i + 1 + k = i + (k + 1) by omega]
theorem dy_clm_eq (s : Int32) : (if (0 : Int32) < (if s < 99 then s else 99) then (if s < 99 then s else 99) else 0) = dy_clm s := by
  unfold dy_clm
  have z0 : Int32.toInt 0 = 0 := rfl
  have z9 : Int32.toInt 99 = 99 := rfl
  by_cases h1 : s < 0
  · have g1 := Int32.lt_iff_toInt_lt.mp h1
    have h2 : s < 99 := Int32.lt_iff_toInt_lt.mpr (by omega)
    have h3 : ¬ (0 : Int32) < s := fun z => by have := Int32.lt_iff_toInt_lt.mp z; omega
    rw [if_pos h2, if_neg h3, if_pos h1]
  · have g1 : ¬ s.toInt < Int32.toInt 0 := fun z => h1 (Int32.lt_iff_toInt_lt.mpr z)
    by_cases h2 : s < 99
    · have g2 := Int32.lt_iff_toInt_lt.mp h2
      have h4 : ¬ (99 : Int32) < s := fun z => by have := Int32.lt_iff_toInt_lt.mp z; omega
      rw [if_pos h2, if_neg h1, if_neg h4]
      by_cases h3 : (0 : Int32) < s
      · rw [if_pos h3]
      · have g3 : ¬ Int32.toInt 0 < s.toInt := fun z => h3 (Int32.lt_iff_toInt_lt.mpr z)
        rw [if_neg h3]
        apply Int32.toInt_inj.mp
        omega
    · have g2 : ¬ s.toInt < Int32.toInt 99 := fun z => h2 (Int32.lt_iff_toInt_lt.mpr z)
      rw [if_neg h2, if_pos (by decide), if_neg h1]
      by_cases h3 : (99 : Int32) < s
      · rw [if_pos h3]
      · have g3 : ¬ Int32.toInt 99 < s.toInt := fun z => h3 (Int32.lt_iff_toInt_lt.mpr z)
        rw [if_neg h3]
        apply Int32.toInt_inj.mp
        omega
theorem dy_clm_ok (s : Int32) : 0 ≤ dy_clm s ∧ dy_clm s ≤ 99 := by
  unfold dy_clm
  split
  · decide
  · split
    · decide
    · next h1 h2 => exact ⟨Int32.not_lt.mp h1, Int32.not_lt.mp h2⟩
theorem dy_lst_ok (k : Int32) : 0 ≤ dy_lst k ∧ dy_lst k ≤ 6 ∧ 0 < dy_lst k := by
  unfold dy_lst
  split
  · decide
  · split <;> decide
theorem le_n (a b : Int32) : (a ≤ b) ↔ ¬ b < a := Int32.not_lt.symm
theorem dy_op_c {lid : Bool} {d : dy_T} {c i : Nat} (h : ¬ c = 3) : (dy_op lid d).2.2.2.2.2 c i = d.2.2.2.2.2 c i := by
  unfold dy_op
  split
  · show (if c = 3 ∧ i = d.2.1 - 1 then dy_lst (d.2.2.2.2.2 0 i) else d.2.2.2.2.2 c i) = _
    rw [if_neg (fun z => h z.1)]
  · rfl
theorem dy_ho_c {lid : Bool} {d : dy_T} {c i : Nat} (h : ¬ c = 3) : (dy_ho lid d).2.2.2.2.2 c i = d.2.2.2.2.2 c i := by
  show (if c = 3 ∧ 0 < (dy_op lid d).2.2.2.2.2 3 i then (dy_op lid d).2.2.2.2.2 3 i - 1 else (dy_op lid d).2.2.2.2.2 c i) = _
  rw [if_neg (fun z => h z.1), dy_op_c h]
theorem dy_ho_3 {lid : Bool} {d : dy_T} {i : Nat} : (dy_ho lid d).2.2.2.2.2 3 i = if 0 < (dy_op lid d).2.2.2.2.2 3 i then (dy_op lid d).2.2.2.2.2 3 i - 1 else (dy_op lid d).2.2.2.2.2 3 i := by
  show (if 3 = 3 ∧ 0 < (dy_op lid d).2.2.2.2.2 3 i then (dy_op lid d).2.2.2.2.2 3 i - 1 else (dy_op lid d).2.2.2.2.2 3 i) = _
  by_cases h : 0 < (dy_op lid d).2.2.2.2.2 3 i
  · rw [if_pos ⟨rfl, h⟩, if_pos h]
  · rw [if_neg (fun z => h z.2), if_neg h]
theorem dy_ch_eq {d e : dy_T} {i : Nat} (hn : e.1 = d.1) (h : ∀ c j, ¬ c = 3 → e.2.2.2.2.2 c j = d.2.2.2.2.2 c j) : dy_ch e i = dy_ch d i := by
  unfold dy_ch dy_ld
  have e2 : e.2.2.2.2.2 2 = d.2.2.2.2.2 2 := funext fun j => h 2 j (by decide)
  rw [hn, h 0 i (by decide), h 1 i (by decide), e2]
theorem dy_ch_ho {lid : Bool} {d : dy_T} {i : Nat} : dy_ch (dy_ho lid d) i = dy_ch d i := dy_ch_eq rfl (fun _ _ h => dy_ho_c h)
theorem i32_dec {x : Int32} (h : 0 < x) : 0 ≤ x - 1 ∧ x - 1 < x := by
  have h1 := Int32.lt_iff_toInt_lt.mp h
  have z0 : Int32.toInt 0 = 0 := rfl
  have hu : x.toInt < 2 ^ 31 := Int32.toInt_lt x
  have e : (x - 1).toInt = x.toInt - 1 := by
    rw [Int32.toInt_sub]
    have : Int32.toInt 1 = 1 := rfl
    rw [this]
    exact Int.bmod_eq_of_le (by omega) (by omega)
  exact ⟨Int32.le_iff_toInt_le.mpr (by omega), Int32.lt_iff_toInt_lt.mpr (by omega)⟩
theorem dy_ok_ho {lid : Bool} {d : dy_T} (h : dy_ok d) : dy_ok (dy_ho lid d) := by
  obtain ⟨h1, h2, h3, h4, h5, h6⟩ := h
  have hop : ∀ i, i < d.1 → 0 ≤ (dy_op lid d).2.2.2.2.2 3 i ∧ (dy_op lid d).2.2.2.2.2 3 i ≤ 6 := by
    intro i hi
    unfold dy_op
    split
    · show 0 ≤ (if 3 = 3 ∧ i = d.2.1 - 1 then dy_lst (d.2.2.2.2.2 0 i) else d.2.2.2.2.2 3 i) ∧ (if 3 = 3 ∧ i = d.2.1 - 1 then dy_lst (d.2.2.2.2.2 0 i) else d.2.2.2.2.2 3 i) ≤ 6
      split
      · exact ⟨(dy_lst_ok _).1, (dy_lst_ok _).2.1⟩
      · exact h4 i hi
    · exact h4 i hi
  refine ⟨h1, ?_, ?_, ?_, (dy_clm_ok _).1, (dy_clm_ok _).2⟩
  · show (dy_op lid d).2.1 ≤ d.1
    unfold dy_op
    split
    · show d.2.1 - 1 ≤ d.1; omega
    · exact h2
  · intro i hi
    have hi : i < (dy_op lid d).2.1 := hi
    have hz : (dy_op lid d).2.2.2.2.2 3 i = 0 := by
      unfold dy_op at hi ⊢
      split
      · next hc =>
        rw [if_pos hc] at hi
        have hi : i < d.2.1 - 1 := hi
        show (if 3 = 3 ∧ i = d.2.1 - 1 then dy_lst (d.2.2.2.2.2 0 i) else d.2.2.2.2.2 3 i) = 0
        rw [if_neg (fun z => by omega)]
        exact h3 i (by omega)
      · next hc =>
        rw [if_neg hc] at hi
        exact h3 i hi
    rw [dy_ho_3, hz, if_neg (by decide)]
  · intro i hi
    have hi : i < d.1 := hi
    rw [dy_ho_3]
    obtain ⟨g1, g2⟩ := hop i hi
    split
    · next hp =>
      obtain ⟨g3, g4⟩ := i32_dec hp
      exact ⟨g3, Int32.le_trans (Int32.le_of_lt g4) g2⟩
    · exact ⟨g1, g2⟩
theorem dy_ok_hs : ∀ (n : Nat) (d : dy_T), dy_ok d → dy_ok (dy_hs n d) := by
  intro n
  induction n with
  | zero => intro d h; exact h
  | succ n ih => intro d h; exact ih _ (dy_ok_ho h)
theorem dy_ch_hs {i : Nat} : ∀ (n : Nat) (d : dy_T), dy_ch (dy_hs n d) i = dy_ch d i := by
  intro n
  induction n with
  | zero => intro d; rfl
  | succ n ih => intro d; exact (ih _).trans dy_ch_ho
/-! what else is done to a day -/
def dy_set (c i : Nat) (v : Int32) (d : dy_T) : dy_T := (d.1, d.2.1, d.2.2.1, d.2.2.2.1, d.2.2.2.2.1, fun c' i' => if c' = c ∧ i' = i then v else d.2.2.2.2.2 c' i')
def dy_add (k g w : Int32) (d : dy_T) : dy_T := (d.1 + 1, d.1 + 1, d.2.2.1, d.2.2.2.1, d.2.2.2.2.1, fun c i => if i = d.1 then (if c = 0 then k else if c = 1 then g else if c = 2 then w else 0) else d.2.2.2.2.2 c i)
def dy_in (d : dy_T) : dy_T := (d.1, d.1, d.2.2.1, d.2.2.2.1, d.2.2.2.2.1, fun c i => if c = 3 then 0 else d.2.2.2.2.2 c i)
def dy_shr (m : Nat) (d : dy_T) : dy_T := (m, m, d.2.2.1, d.2.2.2.1, d.2.2.2.2.1, d.2.2.2.2.2)
def dy_exc (i j : Nat) (d : dy_T) : dy_T := (d.1, d.2.1, d.2.2.1, d.2.2.2.1, d.2.2.2.2.1, fun c x => if c = 3 then d.2.2.2.2.2 c x else if x = i then d.2.2.2.2.2 c j else if x = j then d.2.2.2.2.2 c i else d.2.2.2.2.2 c x)
/-- the thing i goes up to place j, those between come down -/
def dy_rot (i j : Nat) (d : dy_T) : dy_T := (d.1, d.2.1, d.2.2.1, d.2.2.2.1, d.2.2.2.2.1, fun c x => if c = 3 then d.2.2.2.2.2 c x else if i ≤ x ∧ x < j then d.2.2.2.2.2 c (x + 1) else if x = j then d.2.2.2.2.2 c i else d.2.2.2.2.2 c x)
def dy_prm (p : Nat → Nat) (d : dy_T) : dy_T := (d.1, d.2.1, d.2.2.1, d.2.2.2.1, d.2.2.2.2.1, fun c x => d.2.2.2.2.2 c (p x))
def dy_mood (v : Int32) (d : dy_T) : dy_T := (d.1, d.2.1, v, d.2.2.2)
def dy_tire (v : Int32) (d : dy_T) : dy_T := (d.1, d.2.1, d.2.2.1, v, d.2.2.2.2)
/-- bits of those i < n with p -/
def dy_bits (p : Nat → Bool) : Nat → Int32
  | 0 => 0
  | n + 1 => if p n then dy_bits p n ||| (1 <<< (nI n &&& 31)) else dy_bits p n
/-- a day that holds at one place holds wherever the cells are the same -/
theorem hm.mv {M M1 : hd_M} {k : Nat} {d : dy_T} (h : hm M k d) (he : ∀ c j, k ≤ c → c ≤ k + 4 → M1 c j = M c j) : hm M1 k d := by
  obtain ⟨a5, a6, a7, a8, a9, b1, b2, b3, b4⟩ := h
  refine ⟨?_, ?_, ?_, ?_, ?_, fun i hi => ?_, fun i hi => ?_, fun i hi => ?_, fun i hi => ?_⟩
  · rw [he _ _ (by omega) (by omega)]; exact a5
  · rw [he _ _ (by omega) (by omega)]; exact a6
  · rw [he _ _ (by omega) (by omega)]; exact a7
  · rw [he _ _ (by omega) (by omega)]; exact a8
  · rw [he _ _ (by omega) (by omega)]; exact a9
  · rw [he _ _ (by omega) (by omega)]; exact b1 i hi
  · rw [he _ _ (by omega) (by omega)]; exact b2 i hi
  · rw [he _ _ (by omega) (by omega)]; exact b3 i hi
  · rw [he _ _ (by omega) (by omega)]; exact b4 i hi
theorem rf.mv {M M1 : hd_M} {a off : Nat} {d : dy_T} (h : rf M a off d) (hn : d.1 ≤ 7) (he : ∀ j, off ≤ j → j < off + 33 → M1 a j = M a j) : rf M1 a off d := by
  obtain ⟨a5, a6, a7, a8, a9, b⟩ := h
  refine ⟨?_, ?_, ?_, ?_, ?_, fun i hi => ?_⟩
  · rw [he _ (by omega) (by omega)]; exact a5
  · rw [he _ (by omega) (by omega)]; exact a6
  · rw [he _ (by omega) (by omega)]; exact a7
  · rw [he _ (by omega) (by omega)]; exact a8
  · rw [he _ (by omega) (by omega)]; exact a9
  · rw [he _ (by omega) (by omega), he _ (by omega) (by omega), he _ (by omega) (by omega), he _ (by omega) (by omega)]; exact b i hi
