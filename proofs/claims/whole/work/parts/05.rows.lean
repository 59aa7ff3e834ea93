/-! THE JUDGEMENT'S ROWS, GONE ON: numbers, the stack, jumps, fields, rows of cells, ends -/
section
variable {I : hd_I} {pc : Nat} {lv : hd_L} {st : List Value} {M : hd_M} {N : hd_N} {Q : hd_Q}
theorem hd_iadd {x y : Int32} (hd : decode I.2.2.1 pc = .ok (.iadd, 1)) (h : hd_Go I (pc + 1) lv (.int (x + y) :: st) M N Q) : hd_Go I pc lv (.int y :: .int x :: st) M N Q :=
  fun p l e s m args below meth c H locs G A ls C hH hL => lv_iadd C.1 C.2.1 hd (h p l e s m args below meth c H locs G A ls C hH hL)
theorem hd_isub {x y : Int32} (hd : decode I.2.2.1 pc = .ok (.isub, 1)) (h : hd_Go I (pc + 1) lv (.int (x - y) :: st) M N Q) : hd_Go I pc lv (.int y :: .int x :: st) M N Q :=
  fun p l e s m args below meth c H locs G A ls C hH hL => lv_isub C.1 C.2.1 hd (h p l e s m args below meth c H locs G A ls C hH hL)
theorem hd_imul {x y : Int32} (hd : decode I.2.2.1 pc = .ok (.imul, 1)) (h : hd_Go I (pc + 1) lv (.int (x * y) :: st) M N Q) : hd_Go I pc lv (.int y :: .int x :: st) M N Q :=
  fun p l e s m args below meth c H locs G A ls C hH hL => lv_imul C.1 C.2.1 hd (h p l e s m args below meth c H locs G A ls C hH hL)
theorem hd_ishl {x y : Int32} (hd : decode I.2.2.1 pc = .ok (.ishl, 1)) (h : hd_Go I (pc + 1) lv (.int (x <<< (y &&& 31)) :: st) M N Q) : hd_Go I pc lv (.int y :: .int x :: st) M N Q :=
  fun p l e s m args below meth c H locs G A ls C hH hL => lv_ishl C.1 C.2.1 hd (h p l e s m args below meth c H locs G A ls C hH hL)
theorem hd_ishr {x y : Int32} (hd : decode I.2.2.1 pc = .ok (.ishr, 1)) (h : hd_Go I (pc + 1) lv (.int (x >>> (y &&& 31)) :: st) M N Q) : hd_Go I pc lv (.int y :: .int x :: st) M N Q :=
  fun p l e s m args below meth c H locs G A ls C hH hL => lv_ishr C.1 C.2.1 hd (h p l e s m args below meth c H locs G A ls C hH hL)
theorem hd_iand {x y : Int32} (hd : decode I.2.2.1 pc = .ok (.iand, 1)) (h : hd_Go I (pc + 1) lv (.int (x &&& y) :: st) M N Q) : hd_Go I pc lv (.int y :: .int x :: st) M N Q :=
  fun p l e s m args below meth c H locs G A ls C hH hL => lv_iand C.1 C.2.1 hd (h p l e s m args below meth c H locs G A ls C hH hL)
theorem hd_ior {x y : Int32} (hd : decode I.2.2.1 pc = .ok (.ior, 1)) (h : hd_Go I (pc + 1) lv (.int (x ||| y) :: st) M N Q) : hd_Go I pc lv (.int y :: .int x :: st) M N Q :=
  fun p l e s m args below meth c H locs G A ls C hH hL => lv_ior C.1 C.2.1 hd (h p l e s m args below meth c H locs G A ls C hH hL)
theorem hd_idiv {x y : Int32} (hd : decode I.2.2.1 pc = .ok (.idiv, 1)) (hn : ¬ y = 0) (h : hd_Go I (pc + 1) lv (.int (x / y) :: st) M N Q) : hd_Go I pc lv (.int y :: .int x :: st) M N Q :=
  fun p l e s m args below meth c H locs G A ls C hH hL => lv_idiv C.1 C.2.1 hd hn (h p l e s m args below meth c H locs G A ls C hH hL)
theorem hd_irem {x y : Int32} (hd : decode I.2.2.1 pc = .ok (.irem, 1)) (hn : ¬ y = 0) (h : hd_Go I (pc + 1) lv (.int (x - x / y * y) :: st) M N Q) : hd_Go I pc lv (.int y :: .int x :: st) M N Q :=
  fun p l e s m args below meth c H locs G A ls C hH hL => lv_irem C.1 C.2.1 hd hn (h p l e s m args below meth c H locs G A ls C hH hL)
theorem hd_iushr {x y : Int32} (hd : decode I.2.2.1 pc = .ok (.iushr, 1)) (h : hd_Go I (pc + 1) lv (.int (x.toUInt32 >>> (y.toUInt32 &&& Int32.toUInt32 31)).toInt32 :: st) M N Q) : hd_Go I pc lv (.int y :: .int x :: st) M N Q :=
  fun p l e s m args below meth c H locs G A ls C hH hL => lv_iushr C.1 C.2.1 hd rfl (h p l e s m args below meth c H locs G A ls C hH hL)
theorem hd_ineg {x : Int32} (hd : decode I.2.2.1 pc = .ok (.ineg, 1)) (h : hd_Go I (pc + 1) lv (.int (-x) :: st) M N Q) : hd_Go I pc lv (.int x :: st) M N Q :=
  fun p l e s m args below meth c H locs G A ls C hH hL => lv_ineg C.1 C.2.1 hd (h p l e s m args below meth c H locs G A ls C hH hL)
theorem hd_i2l {x : Int32} (hd : decode I.2.2.1 pc = .ok (.i2l, 1)) (h : hd_Go I (pc + 1) lv (.long x.toInt64 :: st) M N Q) : hd_Go I pc lv (.int x :: st) M N Q :=
  fun p l e s m args below meth c H locs G A ls C hH hL => lv_i2l C.1 C.2.1 hd rfl (h p l e s m args below meth c H locs G A ls C hH hL)
theorem hd_i2b {x : Int32} (hd : decode I.2.2.1 pc = .ok (.i2b, 1)) (h : hd_Go I (pc + 1) lv (.int x.toInt8.toInt32 :: st) M N Q) : hd_Go I pc lv (.int x :: st) M N Q :=
  fun p l e s m args below meth c H locs G A ls C hH hL => lv_i2b C.1 C.2.1 hd rfl (h p l e s m args below meth c H locs G A ls C hH hL)
theorem hd_i2s {x : Int32} (hd : decode I.2.2.1 pc = .ok (.i2s, 1)) (h : hd_Go I (pc + 1) lv (.int x.toInt16.toInt32 :: st) M N Q) : hd_Go I pc lv (.int x :: st) M N Q :=
  fun p l e s m args below meth c H locs G A ls C hH hL => lv_i2s C.1 C.2.1 hd rfl (h p l e s m args below meth c H locs G A ls C hH hL)
theorem hd_ladd {x y : Int64} (hd : decode I.2.2.1 pc = .ok (.ladd, 1)) (h : hd_Go I (pc + 1) lv (.long (x + y) :: st) M N Q) : hd_Go I pc lv (.long y :: .long x :: st) M N Q :=
  fun p l e s m args below meth c H locs G A ls C hH hL => lv_ladd C.1 C.2.1 hd (h p l e s m args below meth c H locs G A ls C hH hL)
theorem hd_lmul {x y : Int64} (hd : decode I.2.2.1 pc = .ok (.lmul, 1)) (h : hd_Go I (pc + 1) lv (.long (x * y) :: st) M N Q) : hd_Go I pc lv (.long y :: .long x :: st) M N Q :=
  fun p l e s m args below meth c H locs G A ls C hH hL => lv_lmul C.1 C.2.1 hd (h p l e s m args below meth c H locs G A ls C hH hL)
theorem hd_ldiv {x y : Int64} (hd : decode I.2.2.1 pc = .ok (.ldiv, 1)) (hn : ¬ y = 0) (h : hd_Go I (pc + 1) lv (.long (x / y) :: st) M N Q) : hd_Go I pc lv (.long y :: .long x :: st) M N Q :=
  fun p l e s m args below meth c H locs G A ls C hH hL => lv_ldiv C.1 C.2.1 hd hn (h p l e s m args below meth c H locs G A ls C hH hL)
theorem hd_lrem {x y : Int64} (hd : decode I.2.2.1 pc = .ok (.lrem, 1)) (hn : ¬ y = 0) (h : hd_Go I (pc + 1) lv (.long (x - x / y * y) :: st) M N Q) : hd_Go I pc lv (.long y :: .long x :: st) M N Q :=
  fun p l e s m args below meth c H locs G A ls C hH hL => lv_lrem C.1 C.2.1 hd hn (h p l e s m args below meth c H locs G A ls C hH hL)
theorem hd_lcmp {x y : Int64} (hd : decode I.2.2.1 pc = .ok (.lcmp, 1)) (h : hd_Go I (pc + 1) lv (.int (lg_cmp x y) :: st) M N Q) : hd_Go I pc lv (.long y :: .long x :: st) M N Q :=
  fun p l e s m args below meth c H locs G A ls C hH hL => W.lcmp C.1 C.2.1 hd (h p l e s m args below meth c H locs G A ls C hH hL)
theorem hd_dup {v : Value} (hd : decode I.2.2.1 pc = .ok (.dup, 1)) (hc : v.category = 1) (h : hd_Go I (pc + 1) lv (v :: v :: st) M N Q) : hd_Go I pc lv (v :: st) M N Q :=
  fun p l e s m args below meth c H locs G A ls C hH hL => lv_dup C.1 C.2.1 hd (by rw [hd_v_cat]; exact hc) (h p l e s m args below meth c H locs G A ls C hH hL)
theorem hd_pop {v : Value} (hd : decode I.2.2.1 pc = .ok (.pop, 1)) (hc : v.category = 1) (h : hd_Go I (pc + 1) lv st M N Q) : hd_Go I pc lv (v :: st) M N Q :=
  fun p l e s m args below meth c H locs G A ls C hH hL => lv_pop C.1 C.2.1 hd (by rw [hd_v_cat]; exact hc) (h p l e s m args below meth c H locs G A ls C hH hL)
theorem hd_dup2 {v u : Value} (hd : decode I.2.2.1 pc = .ok (.dup2, 1)) (hv : v.category = 1) (hu : u.category = 1) (h : hd_Go I (pc + 1) lv (v :: u :: v :: u :: st) M N Q) : hd_Go I pc lv (v :: u :: st) M N Q :=
  fun p l e s m args below meth c H locs G A ls C hH hL => lv_dup2_11 C.1 C.2.1 hd (by rw [hd_v_cat]; exact hv) (by rw [hd_v_cat]; exact hu) (h p l e s m args below meth c H locs G A ls C hH hL)
theorem hd_goto {off : Int} {tgt : Nat} (hd : decode I.2.2.1 pc = .ok (.goto off, 3)) (ht : (pc : Int) + off = (tgt : Int)) (h : hd_Go I tgt lv st M N Q) : hd_Go I pc lv st M N Q :=
  fun p l e s m args below meth c H locs G A ls C hH hL => lv_goto C.1 C.2.1 hd ht (h p l e s m args below meth c H locs G A ls C hH hL)
def hd_ct : ClassFile.Cond → Int32 → Int32 → Prop
  | .eq, x, y => x = y
  | .ne, x, y => ¬ x = y
  | .lt, x, y => x < y
  | .ge, x, y => y ≤ x
  | .gt, x, y => y < x
  | .le, x, y => x ≤ y
def hd_cf : ClassFile.Cond → Int32 → Int32 → Prop
  | .eq, x, y => ¬ x = y
  | .ne, x, y => x = y
  | .lt, x, y => ¬ x < y
  | .ge, x, y => ¬ y ≤ x
  | .gt, x, y => ¬ y < x
  | .le, x, y => ¬ x ≤ y
theorem hd_icmp {op : ClassFile.Cond} {x y : Int32} {off : Int} {tgt : Nat} (hd : decode I.2.2.1 pc = .ok (.if_icmp op off, 3)) (ht : (pc : Int) + off = (tgt : Int)) (ha : hd_ct op x y → hd_Go I tgt lv st M N Q) (hb : hd_cf op x y → hd_Go I (pc + 3) lv st M N Q) : hd_Go I pc lv (.int y :: .int x :: st) M N Q := by
  intro p l e s m args below meth c H locs G A ls C hH hL
  cases op
  · exact lv_icmp_eq C.1 C.2.1 hd ht (fun q => ha q p l e s m args below meth c H locs G A ls C hH hL) (fun q => hb q p l e s m args below meth c H locs G A ls C hH hL)
  · exact lv_icmp_ne C.1 C.2.1 hd ht (fun q => ha q p l e s m args below meth c H locs G A ls C hH hL) (fun q => hb q p l e s m args below meth c H locs G A ls C hH hL)
  · exact lv_icmp_lt C.1 C.2.1 hd ht (fun q => ha q p l e s m args below meth c H locs G A ls C hH hL) (fun q => hb q p l e s m args below meth c H locs G A ls C hH hL)
  · exact lv_icmp_ge C.1 C.2.1 hd ht (fun q => ha q p l e s m args below meth c H locs G A ls C hH hL) (fun q => hb q p l e s m args below meth c H locs G A ls C hH hL)
  · exact lv_icmp_gt C.1 C.2.1 hd ht (fun q => ha q p l e s m args below meth c H locs G A ls C hH hL) (fun q => hb q p l e s m args below meth c H locs G A ls C hH hL)
  · exact lv_icmp_le C.1 C.2.1 hd ht (fun q => ha q p l e s m args below meth c H locs G A ls C hH hL) (fun q => hb q p l e s m args below meth c H locs G A ls C hH hL)
theorem hd_if {op : ClassFile.Cond} {x : Int32} {off : Int} {tgt : Nat} (hd : decode I.2.2.1 pc = .ok (.ifCond op off, 3)) (ht : (pc : Int) + off = (tgt : Int)) (ha : hd_ct op x 0 → hd_Go I tgt lv st M N Q) (hb : hd_cf op x 0 → hd_Go I (pc + 3) lv st M N Q) : hd_Go I pc lv (.int x :: st) M N Q := by
  intro p l e s m args below meth c H locs G A ls C hH hL
  cases op
  · exact lv_if_eq C.1 C.2.1 hd ht (fun q => ha q p l e s m args below meth c H locs G A ls C hH hL) (fun q => hb q p l e s m args below meth c H locs G A ls C hH hL)
  · exact lv_if_ne C.1 C.2.1 hd ht (fun q => ha q p l e s m args below meth c H locs G A ls C hH hL) (fun q => hb q p l e s m args below meth c H locs G A ls C hH hL)
  · exact lv_if_lt C.1 C.2.1 hd ht (fun q => ha q p l e s m args below meth c H locs G A ls C hH hL) (fun q => hb q p l e s m args below meth c H locs G A ls C hH hL)
  · exact lv_if_ge C.1 C.2.1 hd ht (fun q => ha q p l e s m args below meth c H locs G A ls C hH hL) (fun q => hb q p l e s m args below meth c H locs G A ls C hH hL)
  · exact lv_if_gt C.1 C.2.1 hd ht (fun q => ha q p l e s m args below meth c H locs G A ls C hH hL) (fun q => hb q p l e s m args below meth c H locs G A ls C hH hL)
  · exact lv_if_le C.1 C.2.1 hd ht (fun q => ha q p l e s m args below meth c H locs G A ls C hH hL) (fun q => hb q p l e s m args below meth c H locs G A ls C hH hL)
theorem hd_v_f (ad : Nat → Nat) (M : hd_M) (N : hd_N) (k j : Nat) (r : Nat × Nat) : hd_v ad (hd_f id M N k j r) = hd_f ad M N k j r := by
  obtain ⟨z, r⟩ := r
  match z with
  | 0 => rfl
  | 1 => rfl
  | z + 2 => rfl
theorem hd_uws : ∀ (ci : Nat) (q : vw_C), hd_cl[ci]? = some q → ∀ w ∈ u_ws q.1 q.2.1 q.2.2, w ∈ hd_tbl := by
  intro ci q h
  match ci, h with
  | 0, h => cases h; decide +kernel
  | 1, h => cases h; decide +kernel
  | 2, h => cases h; decide +kernel
  | 3, h => cases h; decide +kernel
  | 4, h => cases h; decide +kernel
  | 5, h => cases h; decide +kernel
  | 6, h => cases h; decide +kernel
  | n + 7, h => simp [hd_cl] at h
def hd_ty (ci k : Nat) : FieldType := match ci with
  | 0 => tyX0 k
  | 1 => tyX1 k
  | 2 => tyX2 k
  | 3 => tyX3 k
  | 4 => tyX4 k
  | 5 => tyX5 k
  | _ => tyX6 k
theorem hd_tyok : ∀ (ci : Nat) (q : vw_C), hd_cl[ci]? = some q → (∀ k, k < q.2.2 → parseFieldDescriptor (q.2.1 k).2.2.1 = some (hd_ty ci k)) ∧ ∀ a, a < q.2.2 → ∀ b, b < q.2.2 → a ≠ b → (q.2.1 a).2.1 ≠ (q.2.1 b).2.1 := by
  intro ci q h
  match ci, h with
  | 0, h => cases h; exact ⟨tyX0_ok, nmX0⟩
  | 1, h => cases h; exact ⟨tyX1_ok, nmX1⟩
  | 2, h => cases h; exact ⟨tyX2_ok, nmX2⟩
  | 3, h => cases h; exact ⟨tyX3_ok, nmX3⟩
  | 4, h => cases h; exact ⟨tyX4_ok, nmX4⟩
  | 5, h => cases h; exact ⟨tyX5_ok, nmX5⟩
  | 6, h => cases h; exact ⟨tyX6_ok, nmX6⟩
  | n + 7, h => simp [hd_cl] at h
theorem hd_getf {index ci k a : Nat} {r : Nat × Nat} {fs : List (Nat × Nat)} {q : vw_C} (hd : decode I.2.2.1 pc = .ok (.getfield index, 3)) (hs : hd_shp[a]? = some (.inr (.inr (ci, fs)))) (hq : hd_cl[ci]? = some q) (hk : k < q.2.2) (hl : Cond.fieldLink I.1 index (q.2.1 k).1 (q.2.1 k).2.1 (q.2.1 k).2.2.1 ∈ hd_tbl) (hr : fs[k]? = some r) (h : hd_Go I (pc + 3) lv (hd_f id M N a k r :: st) M N Q) : hd_Go I pc lv (.ref a :: st) M N Q := by
  intro p l e s m args below meth c H locs G A ls C hH hL
  have hT := C.2.2.2.2.2.1
  refine va_get (D := G.1) (cl := hd_cl) (tys := hd_tys G.2.2) (ws := hd_w G M N) (C := q.1) (T := q.2.1) (N := q.2.2) (ci := ci) C.1 C.2.1 hT (hd_uws ci q hq) C.2.2.2.2.1 C.2.2.2.2.2.2.2.1 hH.1 a (hd_w_at hs) hq k hk (hT _ hl) (fun _ h9 => h9) (v := hd_f G.2.1 M N a k r) ?_ hd ?_
  · rw [List.getElem?_mapIdx, hr]; rfl
  · have := h p l e s m args below meth c H locs G A ls C hH hL
    rw [List.map_cons, hd_v_f] at this
    exact this
theorem hd_putf {index ci k a r0 : Nat} {fs : List (Nat × Nat)} {q : vw_C} {x : Int32} (hd : decode I.2.2.1 pc = .ok (.putfield index, 3)) (hs : hd_shp[a]? = some (.inr (.inr (ci, fs)))) (hq : hd_cl[ci]? = some q) (hk : k < q.2.2) (hl : Cond.fieldLink I.1 index (q.2.1 k).1 (q.2.1 k).2.1 (q.2.1 k).2.2.1 ∈ hd_tbl) (hr : fs[k]? = some (0, r0)) (hfin : (q.2.1 k).2.2.2 = false) (hn : narrow (hd_ty ci k) (.int x) = .int x) (hfit : fits (hd_ty ci k) (.int x) = true) (h : hd_Go I (pc + 3) lv st (hd_u M a k x) N Q) : hd_Go I pc lv (.int x :: .ref a :: st) M N Q := by
  intro p l e s m args below meth c H locs G A ls C hH hL
  have hT := C.2.2.2.2.2.1
  have hlen : k < (fs.mapIdx (hd_f G.2.1 M N a)).length := by
    rw [List.length_mapIdx]
    rcases Nat.lt_or_ge k fs.length with z | z
    · exact z
    · rw [List.getElem?_eq_none z] at hr; cases hr
  refine va_put (D := G.1) (cl := hd_cl) (tys := hd_tys G.2.2) (ws := hd_w G M N) (C := q.1) (T := q.2.1) (N := q.2.2) (ci := ci) (v := .int x) C.1 C.2.1 hT (hd_uws ci q hq) (hd_ty ci) (hd_tyok ci q hq).1 (hd_tyok ci q hq).2 C.2.2.2.2.1 C.2.2.2.2.2.2.2.1 hH.1 hH.2.1 hH.2.2 a (hd_w_at hs) hq k hk (hT _ hl) (fun _ h9 => h9) hfin ((hd_tyok ci q hq).1 k hk) hn hfit hlen hd ?_
  intro H1 locs1 hP hD hS
  rw [hd_fs_set hr] at hP hD
  have e9 : (hd_w G M N).set a (G.2.1 a, .inr (ci, fs.mapIdx (hd_f G.2.1 (hd_u M a k x) N a))) = hd_w G (hd_u M a k x) N := hd_w_set2 (M' := hd_u M a k x) (N' := N) rfl hs (fun b d hb => by simp [hd_u, hb]) (fun _ _ _ => rfl)
  rw [e9] at hP hD
  exact h p l e s m args below meth c H1 locs1 G A ls C ⟨hP, hD, hS⟩ hL
theorem hd_putl {index ci k a r0 : Nat} {fs : List (Nat × Nat)} {q : vw_C} {x : Int64} (hd : decode I.2.2.1 pc = .ok (.putfield index, 3)) (hs : hd_shp[a]? = some (.inr (.inr (ci, fs)))) (hq : hd_cl[ci]? = some q) (hk : k < q.2.2) (hl : Cond.fieldLink I.1 index (q.2.1 k).1 (q.2.1 k).2.1 (q.2.1 k).2.2.1 ∈ hd_tbl) (hr : fs[k]? = some (1, r0)) (hfin : (q.2.1 k).2.2.2 = false) (hn : narrow (hd_ty ci k) (.long x) = .long x) (hfit : fits (hd_ty ci k) (.long x) = true) (h : hd_Go I (pc + 3) lv st M (hd_uN N a k x) Q) : hd_Go I pc lv (.long x :: .ref a :: st) M N Q := by
  intro p l e s m args below meth c H locs G A ls C hH hL
  have hT := C.2.2.2.2.2.1
  have hlen : k < (fs.mapIdx (hd_f G.2.1 M N a)).length := by
    rw [List.length_mapIdx]
    rcases Nat.lt_or_ge k fs.length with z | z
    · exact z
    · rw [List.getElem?_eq_none z] at hr; cases hr
  refine va_put (D := G.1) (cl := hd_cl) (tys := hd_tys G.2.2) (ws := hd_w G M N) (C := q.1) (T := q.2.1) (N := q.2.2) (ci := ci) (v := .long x) C.1 C.2.1 hT (hd_uws ci q hq) (hd_ty ci) (hd_tyok ci q hq).1 (hd_tyok ci q hq).2 C.2.2.2.2.1 C.2.2.2.2.2.2.2.1 hH.1 hH.2.1 hH.2.2 a (hd_w_at hs) hq k hk (hT _ hl) (fun _ h9 => h9) hfin ((hd_tyok ci q hq).1 k hk) hn hfit hlen hd ?_
  intro H1 locs1 hP hD hS
  rw [hd_fs_setN hr] at hP hD
  have e9 : (hd_w G M N).set a (G.2.1 a, .inr (ci, fs.mapIdx (hd_f G.2.1 M (hd_uN N a k x) a))) = hd_w G M (hd_uN N a k x) := hd_w_set2 (M' := M) (N' := hd_uN N a k x) rfl hs (fun _ _ _ => rfl) (fun b d hb => by simp [hd_uN, hb])
  rw [e9] at hP hD
  exact h p l e s m args below meth c H1 locs1 G A ls C ⟨hP, hD, hS⟩ hL
theorem hd_iaload {a n : Nat} {i : Int32} (hd : decode I.2.2.1 pc = .ok (.iaload, 1)) (hs : hd_shp[a]? = some (.inl (0, n))) (hin : vp_in i n) (h : hd_Go I (pc + 1) lv (.int (M a i.toNatClampNeg) :: st) M N Q) : hd_Go I pc lv (.int i :: .ref a :: st) M N Q :=
  fun p l e s m args below meth c H locs G A ls C hH hL => va_iald (ws := hd_w G M N) C.1 C.2.1 C.2.2.2.2.2.2.2.1 hH.1 a 0 (hd_w_at hs) rfl hin hd (h p l e s m args below meth c H locs G A ls C hH hL)
theorem hd_baload {a n : Nat} {i : Int32} (hd : decode I.2.2.1 pc = .ok (.baload, 1)) (hs : hd_shp[a]? = some (.inl (1, n)) ∨ hd_shp[a]? = some (.inl (2, n))) (hin : vp_in i n) (h : hd_Go I (pc + 1) lv (.int (M a i.toNatClampNeg) :: st) M N Q) : hd_Go I pc lv (.int i :: .ref a :: st) M N Q := by
  intro p l e s m args below meth c H locs G A ls C hH hL
  rcases hs with hs | hs
  · exact va_bald (ws := hd_w G M N) C.1 C.2.1 C.2.2.2.2.2.2.2.1 hH.1 a 1 (hd_w_at hs) rfl hin hd (h p l e s m args below meth c H locs G A ls C hH hL)
  · exact va_zald (ws := hd_w G M N) C.1 C.2.1 C.2.2.2.2.2.2.2.1 hH.1 a 2 (hd_w_at hs) rfl hin hd (h p l e s m args below meth c H locs G A ls C hH hL)
theorem hd_w_put {G : hd_G} {t a n : Nat} (hs : hd_shp[a]? = some (.inl (t, n))) (j : Nat) (x : Int32) : (hd_w G M N).set a (G.2.1 a, .inl (G.2.2 t, n, .inl (upd (M a) j x))) = hd_w G (hd_u M a j x) N := by
  rw [← hd_u_row]
  exact hd_w_set2 (M' := hd_u M a j x) (N' := N) rfl hs (fun b d hb => by simp [hd_u, hb]) (fun _ _ _ => rfl)
theorem hd_iastore {a n : Nat} {i x : Int32} (hd : decode I.2.2.1 pc = .ok (.iastore, 1)) (hs : hd_shp[a]? = some (.inl (0, n))) (hin : vp_in i n) (h : hd_Go I (pc + 1) lv st (hd_u M a i.toNatClampNeg x) N Q) : hd_Go I pc lv (.int x :: .int i :: .ref a :: st) M N Q := by
  intro p l e s m args below meth c H locs G A ls C hH hL
  refine va_iast (ws := hd_w G M N) C.1 C.2.1 C.2.2.2.2.2.2.2.1 hH.1 hH.2.1 hH.2.2 a 0 (hd_w_at hs) rfl hin hd ?_
  intro H1 locs1 hP hD hS
  rw [hd_w_put hs] at hP hD
  exact h p l e s m args below meth c H1 locs1 G A ls C ⟨hP, hD, hS⟩ hL
theorem hd_bastore {a n : Nat} {i x : Int32} (hd : decode I.2.2.1 pc = .ok (.bastore, 1)) (hs : hd_shp[a]? = some (.inl (1, n)) ∧ vp_nar .byte x = x ∨ hd_shp[a]? = some (.inl (2, n)) ∧ vp_nar .boolean x = x) (hin : vp_in i n) (h : hd_Go I (pc + 1) lv st (hd_u M a i.toNatClampNeg x) N Q) : hd_Go I pc lv (.int x :: .int i :: .ref a :: st) M N Q := by
  intro p l e s m args below meth c H locs G A ls C hH hL
  rcases hs with ⟨hs, hx⟩ | ⟨hs, hx⟩
  · refine va_bast (ws := hd_w G M N) C.1 C.2.1 C.2.2.2.2.2.2.2.1 hH.1 hH.2.1 hH.2.2 a 1 (hd_w_at hs) rfl hin hd ?_
    intro H1 locs1 hP hD hS
    rw [hx, hd_w_put hs] at hP hD
    exact h p l e s m args below meth c H1 locs1 G A ls C ⟨hP, hD, hS⟩ hL
  · refine va_zast (ws := hd_w G M N) C.1 C.2.1 C.2.2.2.2.2.2.2.1 hH.1 hH.2.1 hH.2.2 a 2 (hd_w_at hs) rfl hin hd ?_
    intro H1 locs1 hP hD hS
    rw [hx, hd_w_put hs] at hP hD
    exact h p l e s m args below meth c H1 locs1 G A ls C ⟨hP, hD, hS⟩ hL
theorem hd_aaload {a t k : Nat} {rs : List Nat} {i : Int32} (hd : decode I.2.2.1 pc = .ok (.aaload, 1)) (ht : t = 3 ∨ t = 4) (hs : hd_shp[a]? = some (.inr (.inl (t, rs)))) (hi : ¬ i < 0) (hk : rs[i.toNatClampNeg]? = some k) (h : hd_Go I (pc + 1) lv (.ref k :: st) M N Q) : hd_Go I pc lv (.int i :: .ref a :: st) M N Q := by
  intro p l e s m args below meth c H locs G A ls C hH hL
  have hlt : i.toNatClampNeg < rs.length := by
    rcases Nat.lt_or_ge i.toNatClampNeg rs.length with z | z
    · exact z
    · rw [List.getElem?_eq_none z] at hk; cases hk
  have hin : vp_in i rs.length := fun z => z.elim hi (fun z => absurd hlt (Nat.not_lt.mpr z))
  have e9 : va_rf ((fun j : Nat => rs[j]?.map G.2.1) i.toNatClampNeg) = .ref (G.2.1 k) := by show va_rf (rs[i.toNatClampNeg]?.map G.2.1) = _; rw [hk]; rfl
  have h2 := h p l e s m args below meth c H locs G A ls C hH hL
  rcases ht with rfl | rfl
  · refine va_aldq (ws := hd_w G M N) C.1 C.2.1 C.2.2.2.2.2.2.2.1 hH.1 a 3 (hd_w_at hs) rfl hin hd ?_
    rw [e9]
    exact h2
  · refine va_aldq (ws := hd_w G M N) C.1 C.2.1 C.2.2.2.2.2.2.2.1 hH.1 a 4 (hd_w_at hs) rfl hin hd ?_
    rw [e9]
    exact h2
theorem hd_alen {a t n : Nat} {v : Int32} (hd : decode I.2.2.1 pc = .ok (.arraylength, 1)) (ht : t < 3) (hs : hd_shp[a]? = some (.inl (t, n))) (hv : Int32.ofNat n = v) (h : hd_Go I (pc + 1) lv (.int v :: st) M N Q) : hd_Go I pc lv (.ref a :: st) M N Q := by
  intro p l e s m args below meth c H locs G A ls C hH hL
  rcases (show t = 0 ∨ t = 1 ∨ t = 2 by omega) with rfl | rfl | rfl
  · exact va_alen (ws := hd_w G M N) C.1 C.2.1 C.2.2.2.2.2.2.2.1 hH.1 a 0 (hd_w_at hs) (ty := .int) rfl hv hd (h p l e s m args below meth c H locs G A ls C hH hL)
  · exact va_alen (ws := hd_w G M N) C.1 C.2.1 C.2.2.2.2.2.2.2.1 hH.1 a 1 (hd_w_at hs) (ty := .byte) rfl hv hd (h p l e s m args below meth c H locs G A ls C hH hL)
  · exact va_alen (ws := hd_w G M N) C.1 C.2.1 C.2.2.2.2.2.2.2.1 hH.1 a 2 (hd_w_at hs) (ty := .boolean) rfl hv hd (h p l e s m args below meth c H locs G A ls C hH hL)
theorem hd_S_F {A : Nat → Prop} {s t : State} {H : Heap} {locs : List Loc} (h : va_S A s.heap H locs) (ht : t.heap = H) : va_F A s t := by
  refine ⟨by rw [ht]; exact h.1, fun q h1 h2 => by rw [ht]; exact h.2.1 q h1 h2⟩
theorem hd_ireturn {v : Int32} {ty : FieldType} (hd : decode I.2.2.1 pc = .ok (.ireturn, 1)) (hr : I.2.2.2.2.1 = some ty) (hn : narrow ty (.int v) = .int v) (h : Q (some (.int v)) M N) : hd_Go I pc lv [.int v] M N Q := by
  intro p l e s m args below meth c H locs G A ls C hH hL
  have hlocks := C.2.2.2.2.2.2.1
  exact W.zret (v := v) C.1 C.2.1 (C.2.2.2.1.trans hr) hn (fun t ht _ => ⟨⟨some (.int v), M, N, rfl, h, by rw [ht]; exact hH.1⟩, hd_S_F hH.2.2 ht⟩) hH.2.2.2.2 hd
theorem hd_lreturn {v : Int64} (hd : decode I.2.2.1 pc = .ok (.lreturn, 1)) (hr : I.2.2.2.2.1 = some .long) (h : Q (some (.long v)) M N) : hd_Go I pc lv [.long v] M N Q := by
  intro p l e s m args below meth c H locs G A ls C hH hL
  have hlocks := C.2.2.2.2.2.2.1
  exact W.lret (v := v) C.1 C.2.1 (C.2.2.2.1.trans hr) (fun t ht _ => ⟨⟨some (.long v), M, N, rfl, h, by rw [ht]; exact hH.1⟩, hd_S_F hH.2.2 ht⟩) hH.2.2.2.2 hd
theorem hd_vreturn (hd : decode I.2.2.1 pc = .ok (.return_, 1)) (hr : I.2.2.2.2.1 = none) (h : Q none M N) : hd_Go I pc lv [] M N Q := by
  intro p l e s m args below meth c H locs G A ls C hH hL
  have hlocks := C.2.2.2.2.2.2.1
  exact W.vret C.1 C.2.1 (C.2.2.2.1.trans hr) (fun t ht _ => ⟨⟨none, M, N, rfl, h, by rw [ht]; exact hH.1⟩, hd_S_F hH.2.2 ht⟩) hH.2.2.2.2 hd
end
