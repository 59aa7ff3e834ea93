/-! THE STATE OF A SYSTEM, AS ONE VALUE: day, seen, tape, images, sheets, torn, fault; how the class's cells hold it (CI), how the reference's (RI) -/
abbrev im_T : Type := Bool × dy_T × se_T
abbrev sh_T : Type := Bool × Int32 × Nat × (Nat → Int32)
abbrev ab_T : Type := dy_T × se_T × (Nat × (Nat → Int32)) × (Nat → im_T) × (Nat → sh_T) × Int32 × Int32
def tpC (M : hd_M) (t : Nat × (Nat → Int32)) : Prop := M 16 1 = nI t.1 ∧ ∀ i, i < t.1 → M 17 i = t.2 i
def imC (M : hd_M) (im : Nat → im_T) : Prop := ∀ k, k < 2 → M (19 + 10 * k) 2 = (if (im k).1 then 1 else 0) ∧ ((im k).1 = true → hm M (20 + 10 * k) (im k).2.1 ∧ seC M (26 + 10 * k) (im k).2.2)
def shC (M : hd_M) (sh : Nat → sh_T) : Prop := ∀ k, k < 4 → ((sh k).1 = true → M (40 + 2 * k) 2 = -1) ∧ ((sh k).1 = false → M (40 + 2 * k) 1 = (sh k).2.1 ∧ M (40 + 2 * k) 2 = nI (sh k).2.2.1 ∧ ∀ i, i < (sh k).2.2.1 → M (41 + 2 * k) i = (sh k).2.2.2 i)
def CI (M : hd_M) (st : ab_T) : Prop := hm M 1 st.1 ∧ seC M 13 st.2.1 ∧ tpC M st.2.2.1 ∧ imC M st.2.2.2.1 ∧ shC M st.2.2.2.2.1 ∧ M 0 9 = st.2.2.2.2.2.1 ∧ M 16 2 = st.2.2.2.2.2.2
def tpR (M : hd_M) (t : Nat × (Nat → Int32)) : Prop := M 51 7 = nI t.1 ∧ ∀ i, i < t.1 → M 56 i = t.2 i
def imR (M : hd_M) (im : Nat → im_T) : Prop := ∀ k, k < 2 → M 54 k = (if (im k).1 then 1 else 0) ∧ ((im k).1 = true → rf M 52 (46 * (k + 1)) (im k).2.1 ∧ seR M (46 * (k + 1)) (im k).2.2)
def shR (M : hd_M) (sh : Nat → sh_T) : Prop := ∀ k, k < 4 → ((sh k).1 = true → M 61 k = -4) ∧ ((sh k).1 = false → M 61 k = (sh k).2.1 ∧ M 62 k = nI (sh k).2.2.1 ∧ ∀ i, i < (sh k).2.2.1 → M 63 (40 * k + i) = (sh k).2.2.2 i)
def RI (M : hd_M) (st : ab_T) : Prop := rf M 52 0 st.1 ∧ seR M 0 st.2.1 ∧ tpR M st.2.2.1 ∧ imR M st.2.2.2.1 ∧ shR M st.2.2.2.2.1 ∧ M 51 26 = st.2.2.2.2.2.1 ∧ M 51 12 = st.2.2.2.2.2.2
def OK (st : ab_T) : Prop := dy_ok st.1 ∧ se_ok st.2.1 ∧ (st.2.2.1.1 ≤ 160 ∧ ∀ i, i < st.2.2.1.1 → ∃ b, b ≤ 127 ∧ st.2.2.1.2 i = nI b) ∧ (∀ k, k < 2 → (st.2.2.2.1 k).1 = true → dy_ok (st.2.2.2.1 k).2.1 ∧ se_ok (st.2.2.2.1 k).2.2) ∧ ∀ k, k < 4 → (st.2.2.2.2.1 k).1 = false → (st.2.2.2.2.1 k).2.2.1 ≤ 40 ∧ ((st.2.2.2.2.1 k).2.1 = 0 ∨ (st.2.2.2.2.1 k).2.1 = 1 ∨ (st.2.2.2.2.1 k).2.1 = 2)
abbrev clsF : Nat → Nat → Prop := fun c _ => c ≤ 50
abbrev refF : Nat → Nat → Prop := fun c _ => 51 ≤ c
/-- a method of the class answers f and comes to f -/
def cA (m : hd_I) (as : List Value) (f : ab_T → Value × ab_T) : Prop := ∀ (M : hd_M) (N : hd_N) (st : ab_T), CI M st → OK st → hd_Ret m (.ref 0 :: as) M N (fun r M1 N1 => r = some (f st).1 ∧ N1 = N ∧ fr clsF M M1 ∧ CI M1 (f st).2)
def rA (m : hd_I) (as : List Value) (f : ab_T → Value × ab_T) : Prop := ∀ (M : hd_M) (N : hd_N) (st : ab_T), RI M st → OK st → hd_Ret m (.ref 51 :: as) M N (fun r M1 _ => r = some (f st).1 ∧ fr refF M M1 ∧ RI M1 (f st).2)
theorem seC.mv {M M1 : hd_M} {k : Nat} {se : se_T} (h : seC M k se) (he : ∀ c j, k ≤ c → c ≤ k + 2 → M1 c j = M c j) : seC M1 k se := by
  obtain ⟨h1, h2, h3⟩ := h
  refine ⟨?_, fun s hs => ?_, fun s hs => ?_⟩
  · rw [he _ _ (by omega) (by omega)]; exact h1
  · rw [he _ _ (by omega) (by omega)]; exact h2 s hs
  · rw [he _ _ (by omega) (by omega)]; exact h3 s hs
theorem tpC.mv {M M1 : hd_M} {t : Nat × (Nat → Int32)} (h : tpC M t) (he : ∀ c j, 16 ≤ c → c ≤ 17 → M1 c j = M c j) : tpC M1 t := by
  refine ⟨?_, fun i hi => ?_⟩
  · rw [he _ _ (by omega) (by omega)]; exact h.1
  · rw [he _ _ (by omega) (by omega)]; exact h.2 i hi
theorem imC.mv {M M1 : hd_M} {im : Nat → im_T} (h : imC M im) (he : ∀ c j, 19 ≤ c → c ≤ 38 → M1 c j = M c j) : imC M1 im := by
  intro k hk
  obtain ⟨h1, h2⟩ := h k hk
  refine ⟨?_, fun hm1 => ?_⟩
  · rw [he _ _ (by omega) (by omega)]; exact h1
  · obtain ⟨h3, h4⟩ := h2 hm1
    exact ⟨h3.mv (fun c j q1 q2 => he c j (by omega) (by omega)), h4.mv (fun c j q1 q2 => he c j (by omega) (by omega))⟩
theorem shC.mv {M M1 : hd_M} {sh : Nat → sh_T} (h : shC M sh) (he : ∀ c j, 40 ≤ c → c ≤ 47 → M1 c j = M c j) : shC M1 sh := by
  intro k hk
  obtain ⟨h1, h2⟩ := h k hk
  refine ⟨fun z => ?_, fun z => ?_⟩
  · rw [he _ _ (by omega) (by omega)]; exact h1 z
  · obtain ⟨h3, h4, h5⟩ := h2 z
    refine ⟨?_, ?_, fun i hi => ?_⟩
    · rw [he _ _ (by omega) (by omega)]; exact h3
    · rw [he _ _ (by omega) (by omega)]; exact h4
    · rw [he _ _ (by omega) (by omega)]; exact h5 i hi
/-- cells that hold nothing of the class's state -/
abbrev idl : Nat → Nat → Prop := fun c _ => (6 ≤ c ∧ c ≤ 12) ∨ 48 ≤ c
theorem CI.mv {M M1 : hd_M} {st : ab_T} (h : CI M st) (he : fr idl M M1) : CI M1 st := by
  obtain ⟨h1, h2, h3, h4, h5, h6, h7⟩ := h
  refine ⟨h1.mv fun c j _ _ => he c j ?_, h2.mv fun c j _ _ => he c j ?_, h3.mv fun c j _ _ => he c j ?_, h4.mv fun c j _ _ => he c j ?_, h5.mv fun c j _ _ => he c j ?_, ?_, ?_⟩
  · show ¬ ((6 ≤ c ∧ c ≤ 12) ∨ 48 ≤ c); omega
  · show ¬ ((6 ≤ c ∧ c ≤ 12) ∨ 48 ≤ c); omega
  · show ¬ ((6 ≤ c ∧ c ≤ 12) ∨ 48 ≤ c); omega
  · show ¬ ((6 ≤ c ∧ c ≤ 12) ∨ 48 ≤ c); omega
  · show ¬ ((6 ≤ c ∧ c ≤ 12) ∨ 48 ≤ c); omega
  · rw [he 0 9 (by simp)]; exact h6
  · rw [he 16 2 (by simp)]; exact h7
/-- only the day has changed (and what is idle) -/
theorem CI.day {M M1 : hd_M} {st : ab_T} {d : dy_T} (h : CI M st) (he : fr (fun c _ => (1 ≤ c ∧ c ≤ 12) ∨ 48 ≤ c) M M1) (hd : hm M1 1 d) : CI M1 (d, st.2) := by
  obtain ⟨h1, h2, h3, h4, h5, h6, h7⟩ := h
  refine ⟨hd, h2.mv fun c j _ _ => he c j ?_, h3.mv fun c j _ _ => he c j ?_, h4.mv fun c j _ _ => he c j ?_, h5.mv fun c j _ _ => he c j ?_, ?_, ?_⟩
  · show ¬ ((1 ≤ c ∧ c ≤ 12) ∨ 48 ≤ c); omega
  · show ¬ ((1 ≤ c ∧ c ≤ 12) ∨ 48 ≤ c); omega
  · show ¬ ((1 ≤ c ∧ c ≤ 12) ∨ 48 ≤ c); omega
  · show ¬ ((1 ≤ c ∧ c ≤ 12) ∨ 48 ≤ c); omega
  · rw [he 0 9 (by simp)]; exact h6
  · rw [he 16 2 (by simp)]; exact h7
theorem CI.seen {M M1 : hd_M} {st : ab_T} {se : se_T} (h : CI M st) (he : fr (fun c _ => 13 ≤ c ∧ c ≤ 15) M M1) (hd : seC M1 13 se) : CI M1 (st.1, se, st.2.2) := by
  obtain ⟨h1, h2, h3, h4, h5, h6, h7⟩ := h
  refine ⟨h1.mv fun c j _ _ => he c j ?_, hd, h3.mv fun c j _ _ => he c j ?_, h4.mv fun c j _ _ => he c j ?_, h5.mv fun c j _ _ => he c j ?_, ?_, ?_⟩
  · show ¬ (13 ≤ c ∧ c ≤ 15); omega
  · show ¬ (13 ≤ c ∧ c ≤ 15); omega
  · show ¬ (13 ≤ c ∧ c ≤ 15); omega
  · show ¬ (13 ≤ c ∧ c ≤ 15); omega
  · rw [he 0 9 (by simp)]; exact h6
  · rw [he 16 2 (by simp)]; exact h7
theorem CI.tape {M M1 : hd_M} {st : ab_T} {t : Nat × (Nat → Int32)} {f : Int32} (h : CI M st) (he : fr (fun c _ => 16 ≤ c ∧ c ≤ 17) M M1) (hd : tpC M1 t) (hf : M1 16 2 = f) : CI M1 (st.1, st.2.1, t, st.2.2.2.1, st.2.2.2.2.1, st.2.2.2.2.2.1, f) := by
  obtain ⟨h1, h2, h3, h4, h5, h6, h7⟩ := h
  refine ⟨h1.mv fun c j _ _ => he c j ?_, h2.mv fun c j _ _ => he c j ?_, hd, h4.mv fun c j _ _ => he c j ?_, h5.mv fun c j _ _ => he c j ?_, ?_, hf⟩
  · show ¬ (16 ≤ c ∧ c ≤ 17); omega
  · show ¬ (16 ≤ c ∧ c ≤ 17); omega
  · show ¬ (16 ≤ c ∧ c ≤ 17); omega
  · show ¬ (16 ≤ c ∧ c ≤ 17); omega
  · rw [he 0 9 (by simp)]; exact h6
theorem CI.img {M M1 : hd_M} {st : ab_T} {im : Nat → im_T} (h : CI M st) (he : fr (fun c _ => 19 ≤ c ∧ c ≤ 38) M M1) (hd : imC M1 im) : CI M1 (st.1, st.2.1, st.2.2.1, im, st.2.2.2.2) := by
  obtain ⟨h1, h2, h3, h4, h5, h6, h7⟩ := h
  refine ⟨h1.mv fun c j _ _ => he c j ?_, h2.mv fun c j _ _ => he c j ?_, h3.mv fun c j _ _ => he c j ?_, hd, h5.mv fun c j _ _ => he c j ?_, ?_, ?_⟩
  · show ¬ (19 ≤ c ∧ c ≤ 38); omega
  · show ¬ (19 ≤ c ∧ c ≤ 38); omega
  · show ¬ (19 ≤ c ∧ c ≤ 38); omega
  · show ¬ (19 ≤ c ∧ c ≤ 38); omega
  · rw [he 0 9 (by simp)]; exact h6
  · rw [he 16 2 (by simp)]; exact h7
theorem CI.she {M M1 : hd_M} {st : ab_T} {sh : Nat → sh_T} (h : CI M st) (he : fr (fun c _ => 40 ≤ c ∧ c ≤ 47) M M1) (hd : shC M1 sh) : CI M1 (st.1, st.2.1, st.2.2.1, st.2.2.2.1, sh, st.2.2.2.2.2) := by
  obtain ⟨h1, h2, h3, h4, h5, h6, h7⟩ := h
  refine ⟨h1.mv fun c j _ _ => he c j ?_, h2.mv fun c j _ _ => he c j ?_, h3.mv fun c j _ _ => he c j ?_, h4.mv fun c j _ _ => he c j ?_, hd, ?_, ?_⟩
  · show ¬ (40 ≤ c ∧ c ≤ 47); omega
  · show ¬ (40 ≤ c ∧ c ≤ 47); omega
  · show ¬ (40 ≤ c ∧ c ≤ 47); omega
  · show ¬ (40 ≤ c ∧ c ≤ 47); omega
  · rw [he 0 9 (by simp)]; exact h6
  · rw [he 16 2 (by simp)]; exact h7
theorem CI.torn {M : hd_M} {st : ab_T} {t : Int32} (h : CI M st) : CI (hd_u M 0 9 t) (st.1, st.2.1, st.2.2.1, st.2.2.2.1, st.2.2.2.2.1, t, st.2.2.2.2.2.2) := by
  obtain ⟨h1, h2, h3, h4, h5, h6, h7⟩ := h
  refine ⟨h1.mv fun c j _ _ => hd_u_n (by omega), h2.mv fun c j _ _ => hd_u_n (by omega), h3.mv fun c j _ _ => hd_u_n (by omega), h4.mv fun c j _ _ => hd_u_n (by omega), h5.mv fun c j _ _ => hd_u_n (by omega), hd_u_s _ _ _ _, ?_⟩
  rw [hd_u_n (by omega)]; exact h7
/-! the answers -/
abbrev an_th (i : Int32) (d : dy_T) : Prop := ¬ i < 0 ∧ i < nI d.1
theorem an_th_nat {i : Int32} {d : dy_T} (h : an_th i d) (hn : d.1 ≤ 7) : ∃ j, j < d.1 ∧ i = nI j := by
  obtain ⟨j, hj, rfl⟩ := nI_of h.1
  refine ⟨j, ?_, rfl⟩
  exact (nI_ltI hj (by omega)).mp h.2
def an_feed (c : Int32) (st : ab_T) : Value × ab_T := if wi c 0 127 then (if st.2.2.1.1 = 160 then (.int (-3), st) else (.int (nI (st.2.2.1.1 + 1)), st.1, st.2.1, (st.2.2.1.1 + 1, fun i => if i = st.2.2.1.1 then c else st.2.2.1.2 i), st.2.2.2)) else (.int (-1), st)
def an_end (n : Int32) (st : ab_T) : Value × ab_T := if wi n 0 (nI st.2.2.1.1) then (.int (nI st.2.2.1.1), st.1, st.2.1, (n.toNatClampNeg, st.2.2.1.2), st.2.2.2) else (.int (-1), st)
def an_fault (st : ab_T) : Value × ab_T := (.int st.2.2.2.2.2.2, st)
def an_torn (st : ab_T) : Value × ab_T := (.int st.2.2.2.2.2.1, st)
def dy_out (d : dy_T) : Int32 := dy_bits (fun i => decide (0 < d.2.2.2.2.2 3 i)) d.1
def dy_cru (d : dy_T) : Int32 := dy_bits (fun i => decide (dy_brs (d.2.2.2.2.2 0 i) (d.2.2.2.2.2 2 i) < dy_ld d i)) d.1
def an_rule (w : Int32) (st : ab_T) : Value × ab_T := (.int (if w = 0 then nI st.1.1 else if w = 1 then st.1.2.2.2.2.1 else if w = 2 then st.1.2.2.1 else if w = 3 then st.1.2.2.2.1 else if w = 4 then nI st.1.2.1 else if w = 5 then dy_out st.1 else if w = 6 then dy_cru st.1 else -1), st)
def dy_tell (d : dy_T) (i : Nat) (w : Int32) : Int32 := if w = 0 then d.2.2.2.2.2 0 i else if w = 1 then d.2.2.2.2.2 1 i else if w = 2 then d.2.2.2.2.2 2 i else if w = 3 then dy_brs (d.2.2.2.2.2 0 i) (d.2.2.2.2.2 2 i) else if w = 4 then dy_ld d i else if w = 5 then 20 + dy_ch d i else if w = 6 then d.2.2.2.2.2 3 i else -1
def an_thing (i w : Int32) (st : ab_T) : Value × ab_T := (.int (if an_th i st.1 then dy_tell st.1 i.toNatClampNeg w else -1), st)
abbrev tra (w v : Int32) : Prop := (w = 0 ∧ wi v 0 3) ∨ (w = 1 ∧ wi v 0 9) ∨ (w = 2 ∧ wi v 1 9)
def an_alter (i w v : Int32) (st : ab_T) : Value × ab_T := if an_th i st.1 ∧ tra w v then (.int (st.1.2.2.2.2.2 w.toNatClampNeg i.toNatClampNeg), dy_set w.toNatClampNeg i.toNatClampNeg v st.1, st.2) else (.int (-1), st)
def an_mood (v : Int32) (st : ab_T) : Value × ab_T := if wi v 0 99 then (.int st.1.2.2.1, dy_mood v st.1, st.2) else (.int (-1), st)
def an_tire (v : Int32) (st : ab_T) : Value × ab_T := if wi v 0 9 then (.int st.1.2.2.2.1, dy_tire v st.1, st.2) else (.int (-1), st)
def an_pack (k g w : Int32) (st : ab_T) : Value × ab_T := if wi k 0 3 ∧ wi g 0 9 ∧ wi w 1 9 then (if dy_all st.1 then (if st.1.1 = 7 then (.int (-3), st) else (.int (nI (st.1.1 + 1)), dy_add k g w st.1, st.2)) else (.int (-2), st)) else (.int (-1), st)
def an_strap (st : ab_T) : Value × ab_T := (.int (nI st.1.1 - nI st.1.2.1), dy_in st.1, st.2)
def an_lift (st : ab_T) : Value × ab_T := if st.1.1 = 0 ∨ ¬ dy_all st.1 then (.int (-2), st) else (.int (nI (st.1.1 - 1)), dy_shr (st.1.1 - 1) st.1, st.2)
def an_hours (n : Int32) (st : ab_T) : Value × ab_T := if wi n 0 30 then (if st.1.2.2.2.2.1 + n < 1000 then (.int (dy_md n.toNatClampNeg st.1), dy_hs n.toNatClampNeg st.1, st.2) else (.int (-3), st)) else (.int (-1), st)
/-- a question leaves all as it was -/
abbrev an_q (x : Int32) (st : ab_T) : Value × ab_T := (.int x, st)
def an_runs (n w : Int32) (st : ab_T) : Value × ab_T := an_q (if wi n 0 60 then (if w = 0 then dy_md n.toNatClampNeg st.1 else if w = 1 then dy_mx n.toNatClampNeg st.1.2.2.1 st.1 else if w = 2 then dy_mn n.toNatClampNeg st.1.2.2.1 st.1 else if w = 3 then dy_out (dy_hs n.toNatClampNeg st.1) else if w = 4 then dy_first (fun d => decide (d.2.2.1 = 0)) n.toNatClampNeg 0 st.1 else -1) else -1) st
abbrev dy_gn (i : Nat) (d : dy_T) : Bool := decide (¬ nI i < nI d.2.1 ∧ d.2.2.2.2.2 3 i = 0)
def an_gone (i : Int32) (st : ab_T) : Value × ab_T := an_q (if an_th i st.1 then (if dy_gn i.toNatClampNeg st.1 then -2 else dy_first (dy_gn i.toNatClampNeg) 59 1 (dy_ho false st.1)) else -1) st
def an_glad (v : Int32) (st : ab_T) : Value × ab_T := an_q (if wi v 0 99 then dy_first (fun d => decide (¬ d.2.2.1 < v)) 60 0 st.1 else -1) st
def dy_opt (f g : Nat → Int32) (m : Nat) (b w : Int32) : Int32 := dy_fob (dy_best f g m 0 b (-4)).2 (dy_best f g m 0 b (-4)).1 w
def an_leave (n w : Int32) (st : ab_T) : Value × ab_T := an_q (if wi n 0 60 ∧ wi w 0 1 then (if dy_all st.1 then dy_opt (fun i => dy_md n.toNatClampNeg (dy_shr (st.1.1 - 1) (dy_rot i (st.1.1 - 1) st.1))) nI st.1.1 (dy_md n.toNatClampNeg st.1) w else -2) else -1) st
def an_top (n w : Int32) (st : ab_T) : Value × ab_T := an_q (if wi n 0 60 ∧ wi w 0 1 then (if dy_all st.1 then dy_opt (fun i => dy_md n.toNatClampNeg (dy_rot i (st.1.1 - 1) st.1)) nI st.1.1 (dy_md n.toNatClampNeg st.1) w else -2) else -1) st
/-- the best exchange: i with all above it, for each i -/
def dy_swp (n : Nat) (d : dy_T) : Nat → Nat → Int32 → Int32 → Int32 × Int32
  | 0, _, b, o => (b, o)
  | m + 1, i, b, o => dy_swp n d m (i + 1) (dy_best (fun j => dy_md n (dy_exc i j d)) (fun j => 10 * nI i + nI j) (d.1 - (i + 1)) (i + 1) b o).1 (dy_best (fun j => dy_md n (dy_exc i j d)) (fun j => 10 * nI i + nI j) (d.1 - (i + 1)) (i + 1) b o).2
def an_swap (n w : Int32) (st : ab_T) : Value × ab_T := an_q (if wi n 0 60 ∧ wi w 0 1 then (if dy_all st.1 then dy_fob (dy_swp n.toNatClampNeg st.1 st.1.1 0 (dy_md n.toNatClampNeg st.1) (-4)).2 (dy_swp n.toNatClampNeg st.1 st.1.1 0 (dy_md n.toNatClampNeg st.1) (-4)).1 w else -2) else -1) st
def an_need (i n v : Int32) (st : ab_T) : Value × ab_T := an_q (if an_th i st.1 ∧ wi n 0 60 ∧ wi v 0 99 then dy_fst (fun g => decide (¬ dy_md n.toNatClampNeg (dy_set 1 i.toNatClampNeg (nI g) st.1) < v)) 10 0 else -1) st
def an_kind (i n w : Int32) (st : ab_T) : Value × ab_T := an_q (if an_th i st.1 ∧ wi n 0 60 ∧ wi w 0 1 then dy_opt (fun k => dy_md n.toNatClampNeg (dy_set 0 i.toNatClampNeg (nI k) st.1)) nI 4 (-1) w else -1) st
def an_bear (n v : Int32) (st : ab_T) : Value × ab_T := an_q (if wi n 0 60 ∧ wi v 0 99 then dy_lstd (fun t => decide (¬ dy_md n.toNatClampNeg (dy_tire (nI t) st.1) < v)) 10 else -1) st
def an_see (n v : Int32) (st : ab_T) : Value × ab_T := if wi n 0 20 ∧ wi v 0 99 then (if st.2.1.1 = 6 then (.int (-3), st) else (.int (nI (st.2.1.1 + 1)), st.1, (st.2.1.1 + 1, (fun i => if i = st.2.1.1 then n else st.2.1.2.1 i), fun i => if i = st.2.1.1 then v else st.2.1.2.2 i), st.2.2)) else (.int (-1), st)
def an_forget (n : Int32) (st : ab_T) : Value × ab_T := if wi n 0 (nI st.2.1.1) then (.int (nI st.2.1.1), st.1, (n.toNatClampNeg, st.2.1.2), st.2.2) else (.int (-1), st)
def an_kinds (i : Int32) (st : ab_T) : Value × ab_T := an_q (if an_th i st.1 then se_bits st.2.1 st.1 0 i.toNatClampNeg 4 else -1) st
def an_goods (i : Int32) (st : ab_T) : Value × ab_T := an_q (if an_th i st.1 then se_bits st.2.1 st.1 1 i.toNatClampNeg 10 else -1) st
def dr_s (s : Int32) : Int32 := s * 1103515245 + 12345
def dr_g (s : Int32) : Nat := s.toBitVec.toNat / 65536 % 32768
/-- n hours by a seed, q the next seed, g what it gives -/
def dy_gen (q : Int32 → Int32) (g : Int32 → Nat) : Nat → Int32 → dy_T → dy_T
  | 0, _, d => d
  | n + 1, s, d => dy_gen q g n (q s) (dy_ho false (dy_blow (g (q s)) d))
def dy_dr (n : Nat) (s : Int32) (d : dy_T) : dy_T := dy_gen dr_s dr_g n s d
theorem dy_dr_0 (s : Int32) (d : dy_T) : dy_dr 0 s d = d := by unfold dy_dr; rw [dy_gen]
theorem dy_dr_s (n : Nat) (s : Int32) (d : dy_T) : dy_dr (n + 1) s d = dy_dr n (dr_s s) (dy_ho false (dy_blow (dr_g (dr_s s)) d)) := by unfold dy_dr; rw [dy_gen]
def an_drift (s n w : Int32) (st : ab_T) : Value × ab_T := an_q (if wi n 1 60 ∧ wi w 0 1 then (if st.1.1 = 0 then -2 else if w = 0 then (dy_dr n.toNatClampNeg s st.1).2.2.1 else dy_out (dy_dr n.toNatClampNeg s st.1)) else -1) st
def an_keep (k : Int32) (st : ab_T) : Value × ab_T := if wi k 0 1 then (.int (if (st.2.2.2.1 k.toNatClampNeg).1 then 1 else 0), st.1, st.2.1, st.2.2.1, (fun j => if j = k.toNatClampNeg then (true, st.1, st.2.1) else st.2.2.2.1 j), st.2.2.2.2) else (.int (-1), st)
def an_back (k : Int32) (st : ab_T) : Value × ab_T := if wi k 0 1 then (if (st.2.2.2.1 k.toNatClampNeg).1 then (.int (st.2.2.2.1 k.toNatClampNeg).2.1.2.2.2.2.1, (st.2.2.2.1 k.toNatClampNeg).2.1, (st.2.2.2.1 k.toNatClampNeg).2.2, st.2.2) else (.int (-2), st)) else (.int (-1), st)
def an_sheet (k l n : Int32) (st : ab_T) : Value × ab_T := if wi k 0 3 ∧ wi l 0 2 ∧ ¬ 40 < n then (if n < 0 then (.int (-14), st) else (.int 1, st.1, st.2.1, st.2.2.1, st.2.2.2.1, (fun j => if j = k.toNatClampNeg then (false, l, n.toNatClampNeg, fun _ => 0) else st.2.2.2.2.1 j), st.2.2.2.2.2)) else (.int (-1), st)
def la_v (l v : Int32) : Int32 := if l = 0 then v.toInt8.toInt32 else if l = 1 then v.toInt16.toInt32 else v
def an_lay (k i v : Int32) (st : ab_T) : Value × ab_T := if wi k 0 3 then (if (st.2.2.2.2.1 k.toNatClampNeg).1 then (.int (-11), st) else if ¬ i < 0 ∧ i < nI (st.2.2.2.2.1 k.toNatClampNeg).2.2.1 then (.int 1, st.1, st.2.1, st.2.2.1, st.2.2.2.1, (fun j => if j = k.toNatClampNeg then (false, (st.2.2.2.2.1 k.toNatClampNeg).2.1, (st.2.2.2.2.1 k.toNatClampNeg).2.2.1, fun x => if x = i.toNatClampNeg then la_v (st.2.2.2.2.1 k.toNatClampNeg).2.1 v else (st.2.2.2.2.1 k.toNatClampNeg).2.2.2 x) else st.2.2.2.2.1 j), st.2.2.2.2.2) else (.int (-12), st)) else (.int (-1), st)
def an_count (w : Int32) (st : ab_T) : Value × ab_T := an_q (if w = 0 then nI st.2.1.1 else if w = 1 then (if (st.2.2.2.1 0).1 then 1 else 0) + (if (st.2.2.2.1 1).1 then 1 else 0) else if w = 2 then nI st.2.2.1.1 else if w = 3 then (if (st.2.2.2.2.1 0).1 then -4 else nI (st.2.2.2.2.1 0).2.2.1) else if w = 4 then wsm (st.1.2.2.2.2.2 1) 0 st.1.1 else if w = 5 then wsm (st.1.2.2.2.2.2 2) 0 st.1.1 else -1) st
