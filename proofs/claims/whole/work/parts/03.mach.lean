/-! THE PURE MACHINE: a memory of ints and longs over a fixed shape of cells; 'hd_Go' says of a frame of a method that it returns, with a post over answer and memory. -/
/-- the words that last -/
def hd_tbl : List Cond := lw_tbl.filter goodWord
theorem hd_good : ∀ w ∈ hd_tbl, goodWord w = true := fun w h => (List.mem_filter.mp h).2
theorem hd_in {w : Cond} (i : Nat) (h : lw_tbl[i]? = some w) (hg : goodWord w = true) : w ∈ hd_tbl := List.mem_filter.mpr ⟨List.mem_of_getElem? h, hg⟩
abbrev hd_M : Type := Nat → Nat → Int32
abbrev hd_N : Type := Nat → Nat → Int64
abbrev hd_L : Type := List (Option Value)
abbrev hd_S : Type := (Nat × Nat) ⊕ ((Nat × List Nat) ⊕ (Nat × List (Nat × Nat)))
abbrev hd_G : Type := va_G × (Nat → Nat) × (Nat → ClassId)
/-- an instruction, where the next one lies, two numbers, its constants, its cases, the places of its words -/
abbrev hd_O : Type := Instr × Nat × Nat × Nat × Int32 × Int64 × List (Int32 × Nat) × List Nat
abbrev hd_Q : Type := Option Value → hd_M → hd_N → Prop
abbrev hd_cl : List vw_C := [(RX0, TX0, 10), (RX1, TX1, 3), (RX2, TX2, 3), (RX3, TX3, 3), (RX4, TX4, 10), (RX5, TX5, 10), (RX6, TX6, 28)]
abbrev hd_tf : List FieldType := [.int, .byte, .boolean, .object "HamperDays$Image", .object "HamperDays$Sheet"]
def hd_tys (dA : Nat → ClassId) : List (ClassId × FieldType) := [(dA 0, .int), (dA 1, .byte), (dA 2, .boolean), (dA 3, .object "HamperDays$Image"), (dA 4, .object "HamperDays$Sheet")]
/-- every cell of the two systems; a field is 0 (an int), 1 (a long), or 2 with the number of the cell that it holds -/
def hd_shp : List hd_S :=
  [.inr (.inr (5, [(2, 1), (2, 7), (2, 13), (2, 16), (2, 18), (2, 39), (2, 48), (2, 49), (2, 50), (0, 0)])),
   .inr (.inr (0, [(2, 2), (2, 3), (2, 4), (2, 5), (2, 6), (0, 0), (0, 0), (0, 0), (0, 0), (0, 0)])), .inl (0, 7), .inl (0, 7), .inl (0, 7), .inl (0, 7), .inl (0, 7),
   .inr (.inr (0, [(2, 8), (2, 9), (2, 10), (2, 11), (2, 12), (0, 0), (0, 0), (0, 0), (0, 0), (0, 0)])), .inl (0, 7), .inl (0, 7), .inl (0, 7), .inl (0, 7), .inl (0, 7),
   .inr (.inr (2, [(2, 14), (2, 15), (0, 0)])), .inl (0, 6), .inl (0, 6),
   .inr (.inr (4, [(2, 17), (0, 0), (0, 0), (0, 0), (0, 0), (0, 0), (0, 0), (0, 0), (0, 0), (0, 0)])), .inl (1, 160),
   .inr (.inl (3, [19, 29])),
   .inr (.inr (1, [(2, 20), (2, 26), (0, 0)])),
   .inr (.inr (0, [(2, 21), (2, 22), (2, 23), (2, 24), (2, 25), (0, 0), (0, 0), (0, 0), (0, 0), (0, 0)])), .inl (0, 7), .inl (0, 7), .inl (0, 7), .inl (0, 7), .inl (0, 7),
   .inr (.inr (2, [(2, 27), (2, 28), (0, 0)])), .inl (0, 6), .inl (0, 6),
   .inr (.inr (1, [(2, 30), (2, 36), (0, 0)])),
   .inr (.inr (0, [(2, 31), (2, 32), (2, 33), (2, 34), (2, 35), (0, 0), (0, 0), (0, 0), (0, 0), (0, 0)])), .inl (0, 7), .inl (0, 7), .inl (0, 7), .inl (0, 7), .inl (0, 7),
   .inr (.inr (2, [(2, 37), (2, 38), (0, 0)])), .inl (0, 6), .inl (0, 6),
   .inr (.inl (4, [40, 42, 44, 46])),
   .inr (.inr (3, [(2, 41), (0, 0), (0, 0)])), .inl (0, 40), .inr (.inr (3, [(2, 43), (0, 0), (0, 0)])), .inl (0, 40), .inr (.inr (3, [(2, 45), (0, 0), (0, 0)])), .inl (0, 40), .inr (.inr (3, [(2, 47), (0, 0), (0, 0)])), .inl (0, 40),
   .inl (0, 5), .inl (0, 5), .inl (0, 210),
   .inr (.inr (6, [(2, 52), (2, 53), (2, 54), (2, 55), (0, 0), (0, 0), (2, 56), (0, 0), (0, 0), (0, 0), (0, 0), (0, 0), (0, 0), (0, 0), (0, 0), (0, 0), (2, 57), (2, 58), (1, 0), (1, 0), (1, 0), (2, 59), (2, 60), (2, 61), (2, 62), (2, 63), (0, 0), (2, 64)])),
   .inl (0, 138), .inl (0, 46), .inl (2, 2), .inl (0, 46), .inl (0, 160), .inl (0, 5), .inl (0, 5), .inl (0, 21), .inl (0, 210), .inl (0, 4), .inl (0, 4), .inl (0, 160), .inl (0, 46)]
def hd_v (ad : Nat → Nat) : Value → Value
  | .ref k => .ref (ad k)
  | v => v
def hd_f (ad : Nat → Nat) (M : hd_M) (N : hd_N) (k j : Nat) (r : Nat × Nat) : Value := match r.1 with
  | 0 => .int (M k j)
  | 1 => .long (N k j)
  | _ => .ref (ad r.2)
def hd_e (G : hd_G) (M : hd_M) (N : hd_N) (k : Nat) : hd_S → Nat × va_E
  | .inl (t, n) => (G.2.1 k, .inl (G.2.2 t, n, .inl (M k)))
  | .inr (.inl (t, rs)) => (G.2.1 k, .inl (G.2.2 t, rs.length, .inr (.inr (.inr (.inr (fun i => rs[i]?.map G.2.1))))))
  | .inr (.inr (ci, fs)) => (G.2.1 k, .inr (ci, fs.mapIdx (hd_f G.2.1 M N k)))
def hd_w (G : hd_G) (M : hd_M) (N : hd_N) : va_W := hd_shp.mapIdx (hd_e G M N)
def hd_u (M : hd_M) (k j : Nat) (x : Int32) : hd_M := fun a b => if a = k ∧ b = j then x else M a b
def hd_uN (N : hd_N) (k j : Nat) (x : Int64) : hd_N := fun a b => if a = k ∧ b = j then x else N a b
theorem hd_v_cat (ad : Nat → Nat) (v : Value) : (hd_v ad v).category = v.category := by cases v <;> rfl
theorem hd_w_at {G : hd_G} {M : hd_M} {N : hd_N} {k : Nat} {sh : hd_S} (h : hd_shp[k]? = some sh) : (hd_w G M N)[k]? = some (hd_e G M N k sh) := by
  unfold hd_w
  rw [List.getElem?_mapIdx, h]
  rfl
theorem hd_e_ad (G : hd_G) (M : hd_M) (N : hd_N) (k : Nat) (sh : hd_S) : (hd_e G M N k sh).1 = G.2.1 k := by
  rcases sh with ⟨t, n⟩ | ⟨t, rs⟩ | ⟨ci, fs⟩ <;> rfl
/-- the world's cells apart and of a kind, whatever they hold -/
theorem hd_D_any {G : hd_G} {A : Nat → Prop} {M M' : hd_M} {N N' : hd_N} (h : va_D A (hd_w G M N)) : va_D A (hd_w G M' N') := by
  have key : ∀ (i : Nat) (p : Nat × va_E), (hd_w G M' N')[i]? = some p → ∃ q : Nat × va_E, (hd_w G M N)[i]? = some q ∧ q.1 = p.1 := by
    intro i p hp
    unfold hd_w at hp ⊢
    rw [List.getElem?_mapIdx] at hp ⊢
    cases hs : hd_shp[i]? with
    | none => rw [hs] at hp; cases hp
    | some sh =>
      rw [hs] at hp
      cases hp
      exact ⟨_, rfl, by rw [hd_e_ad, hd_e_ad]⟩
  refine ⟨fun i j p q hp hq e => ?_, fun k q hq => ?_⟩
  · obtain ⟨p', h1, e1⟩ := key i p hp
    obtain ⟨q', h2, e2⟩ := key j q hq
    exact h.1 i j p' q' h1 h2 (by rw [e1, e2, e])
  · obtain ⟨q', h1, e1⟩ := key k q hq
    rw [← e1]
    exact h.2 k q' h1
theorem hd_w_set {G : hd_G} {M M' : hd_M} {N N' : hd_N} {k : Nat} {sh : hd_S} (h : hd_shp[k]? = some sh) (ho : ∀ a b, a ≠ k → M' a b = M a b) (hoN : ∀ a b, a ≠ k → N' a b = N a b) : (hd_w G M N).set k (hd_e G M' N' k sh) = hd_w G M' N' := by
  apply List.ext_getElem?
  intro i
  rw [List.getElem?_set]
  unfold hd_w
  rw [List.length_mapIdx, List.getElem?_mapIdx, List.getElem?_mapIdx]
  by_cases hi : k = i
  · subst hi
    rw [if_pos rfl, h]
    have hl : k < hd_shp.length := by
      rcases Nat.lt_or_ge k hd_shp.length with q | q
      · exact q
      · rw [List.getElem?_eq_none q] at h; cases h
    rw [if_pos hl]
    rfl
  · rw [if_neg hi]
    cases hs : hd_shp[i]? with
    | none => rfl
    | some s2 =>
      have hne : i ≠ k := fun e => hi e.symm
      have e1 : M' i = M i := funext fun b => ho i b hne
      rcases s2 with ⟨t, n⟩ | ⟨t, rs⟩ | ⟨ci, fs⟩
      · show some (hd_e G M N i _) = some (hd_e G M' N' i _)
        simp only [hd_e, e1]
      · rfl
      · show some (hd_e G M N i _) = some (hd_e G M' N' i _)
        simp only [hd_e]
        have e2 : hd_f G.2.1 M N i = hd_f G.2.1 M' N' i := by
          funext j r
          obtain ⟨z, r⟩ := r
          match z with
          | 0 => simp only [hd_f, e1]
          | 1 => simp only [hd_f, hoN i j hne]
          | z + 2 => rfl
        rw [e2]
theorem hd_fs_set {ad : Nat → Nat} {M : hd_M} {N : hd_N} {k j : Nat} {fs : List (Nat × Nat)} {r0 : Nat} {x : Int32} (h : fs[j]? = some (0, r0)) : (fs.mapIdx (hd_f ad M N k)).set j (.int x) = fs.mapIdx (hd_f ad (hd_u M k j x) N k) := by
  apply List.ext_getElem?
  intro i
  rw [List.getElem?_set, List.length_mapIdx, List.getElem?_mapIdx, List.getElem?_mapIdx]
  by_cases hi : j = i
  · subst hi
    have hl : j < fs.length := by
      rcases Nat.lt_or_ge j fs.length with q | q
      · exact q
      · rw [List.getElem?_eq_none q] at h; cases h
    rw [if_pos rfl, if_pos hl, h]
    simp [hd_f, hd_u]
  · rw [if_neg hi]
    cases hs : fs[i]? with
    | none => rfl
    | some r =>
      obtain ⟨z, r⟩ := r
      match z with
      | 0 => simp [hd_f, hd_u, show ¬ i = j from fun e => hi e.symm]
      | 1 => rfl
      | z + 2 => rfl
theorem hd_fs_setN {ad : Nat → Nat} {M : hd_M} {N : hd_N} {k j : Nat} {fs : List (Nat × Nat)} {r0 : Nat} {x : Int64} (h : fs[j]? = some (1, r0)) : (fs.mapIdx (hd_f ad M N k)).set j (.long x) = fs.mapIdx (hd_f ad M (hd_uN N k j x) k) := by
  apply List.ext_getElem?
  intro i
  rw [List.getElem?_set, List.length_mapIdx, List.getElem?_mapIdx, List.getElem?_mapIdx]
  by_cases hi : j = i
  · subst hi
    have hl : j < fs.length := by
      rcases Nat.lt_or_ge j fs.length with q | q
      · exact q
      · rw [List.getElem?_eq_none q] at h; cases h
    rw [if_pos rfl, if_pos hl, h]
    simp [hd_f, hd_uN]
  · rw [if_neg hi]
    cases hs : fs[i]? with
    | none => rfl
    | some r =>
      obtain ⟨z, r⟩ := r
      match z with
      | 0 => rfl
      | 1 => simp [hd_f, hd_uN, show ¬ i = j from fun e => hi e.symm]
      | z + 2 => rfl
theorem hd_u_row (M : hd_M) (k j : Nat) (x : Int32) : hd_u M k j x k = upd (M k) j x := by
  funext b
  simp [hd_u, upd]
/-! locals, by place -/
def hd_as (ad : Nat → Nat) (L : hd_L) : List (Nat × Value) := (List.range L.length).filterMap (fun i => match L[i]? with | some (some v) => some (i, hd_v ad v) | _ => none)
theorem hd_as_mem {ad : Nat → Nat} {L : hd_L} {q : Nat × Value} : q ∈ hd_as ad L ↔ ∃ v, L[q.1]? = some (some v) ∧ q.2 = hd_v ad v := by
  unfold hd_as
  rw [List.mem_filterMap]
  constructor
  · rintro ⟨i, -, h⟩
    split at h
    · next v hv => cases h; exact ⟨v, hv, rfl⟩
    · cases h
  · rintro ⟨v, hv, e⟩
    refine ⟨q.1, ?_, ?_⟩
    · rw [List.mem_range]
      rcases Nat.lt_or_ge q.1 L.length with h | h
      · exact h
      · rw [List.getElem?_eq_none h] at hv; cases hv
    · rw [hv]
      simp only [← e]
def hd_lo (ls : Array Slot) (nL : Nat) (ad : Nat → Nat) (L : hd_L) : Prop := L.length ≤ nL ∧ lv_has ls nL (hd_as ad L)
theorem hd_lo.at {ls : Array Slot} {nL : Nat} {ad : Nat → Nat} {L : hd_L} (h : hd_lo ls nL ad L) {i : Nat} {v : Value} (hi : L[i]? = some (some v)) : ls[i]? = some (.val (hd_v ad v)) := h.2.2.2 (i, hd_v ad v) (hd_as_mem.mpr ⟨v, hi, rfl⟩)
theorem hd_lo.of {ls : Array Slot} {nL : Nat} {ad : Nat → Nat} {L : hd_L} {lv : List (Nat × Value)} (hL : L.length ≤ nL) (h : lv_has ls nL lv) (hs : ∀ (i : Nat) (v : Value), L[i]? = some (some v) → (i, hd_v ad v) ∈ lv) : hd_lo ls nL ad L := by
  refine ⟨hL, h.1, h.2.1, fun q hq => ?_⟩
  obtain ⟨v, hv, e⟩ := hd_as_mem.mp hq
  have := h.2.2 _ (hs q.1 v hv)
  rw [e]
  exact this
/-- a frame may know less of its locals -/
theorem hd_lo.less {ls : Array Slot} {nL : Nat} {ad : Nat → Nat} {L L' : hd_L} (h : hd_lo ls nL ad L) (hl : L'.length ≤ L.length) (hs : ∀ (i : Nat) (v : Value), L'[i]? = some (some v) → L[i]? = some (some v)) : hd_lo ls nL ad L' :=
  hd_lo.of (Nat.le_trans hl h.1) h.2 (fun i v hv => hd_as_mem.mpr ⟨v, hs i v hv, rfl⟩)
theorem hd_w_set2 {G : hd_G} {M M' : hd_M} {N N' : hd_N} {k : Nat} {sh : hd_S} {x : Nat × va_E} (hx : x = hd_e G M' N' k sh) (h : hd_shp[k]? = some sh) (ho : ∀ a b, a ≠ k → M' a b = M a b) (hoN : ∀ a b, a ≠ k → N' a b = N a b) : (hd_w G M N).set k x = hd_w G M' N' := by
  rw [hx]
  exact hd_w_set h ho hoN
