/-! THE CLASS'S CONSTRUCTORS; printed by wip/whole/ini1.py -/
abbrev ic_a (dA : Nat → ClassId) (t n : Nat) : va_E := .inl (dA t, n, .inl (fun _ => 0))
abbrev ic_wH : ic_W := fun dA h0 u => [(h0, .inr (0, [.ref (u 0), .ref (u 1), .ref (u 2), .ref (u 3), .ref (u 4), .int 0, .int 0, .int 30, .int 1, .int 0])), (u 0, ic_a dA 0 7), (u 1, ic_a dA 0 7), (u 2, ic_a dA 0 7), (u 3, ic_a dA 0 7), (u 4, ic_a dA 0 7)]
abbrev ic_wS : ic_W := fun dA h0 u => [(h0, .inr (2, [.ref (u 0), .ref (u 1), .int 0])), (u 0, ic_a dA 0 6), (u 1, ic_a dA 0 6)]
abbrev ic_wT : ic_W := fun dA h0 u => [(h0, .inr (3, [.ref (u 0), .int 0, .int (-1)])), (u 0, ic_a dA 0 40)]
abbrev ic_wP : ic_W := fun dA h0 u => [(h0, .inr (4, [.ref (u 0), .int 0, .int 0, .int 0, .int 0, .int 0, .int 0, .int 0, .int 0, .int 0])), (u 0, ic_a dA 1 160)]
abbrev ic_wI : ic_W := fun dA h0 u => [(h0, .inr (1, [.ref (u 0), .ref (u 1), .int 0]))] ++ ic_wH dA (u 0) (fun k => u (k + 2)) ++ ic_wS dA (u 1) (fun k => u (k + 7))
set_option maxRecDepth 100000 in
set_option maxHeartbeats 4000000 in
theorem i_Hamper : ic_Met (yX0_init, cX0_init, 1, 1, 5, 35) (.inr (0, [.null, .null, .null, .null, .null, .int 0, .int 0, .int 0, .int 0, .int 0])) ic_wH := by
  refine ic_met (own := RX0) (by decide) rfl (by decide) ?_
  intro p l e s m below meth c D dA A h0 ls C hnm hr hlk hH hl
  have hx := C.1
  have hb := C.2.1
  have hH : ic_H D A ([] ++ (h0, .inr (0, [.null, .null, .null, .null, .null, .int 0, .int 0, .int 0, .int 0, .int 0])) :: []) s s.heap [] := hH
  refine lv_aload_n hx hb (show decode _ 0 = .ok (.aload_n 0, 1) by decide +kernel) rfl (lv_at hl 0 rfl) ?_
  refine ic_obj (idx := 3) C hl.1 (by decide +kernel) (by decide +kernel) (by decide +kernel) ⟨by decide, by decide⟩ (show decode _ 1 = .ok (.invokespecial 3, 3) by decide +kernel) ?_
  refine lv_aload_n hx hb (show decode _ 4 = .ok (.aload_n 0, 1) by decide +kernel) rfl (lv_at hl 0 rfl) ?_
  refine lv_bipush (v := 7) hx hb (show decode _ 5 = .ok (.bipush 7, 2) by decide +kernel) (by decide) ?_
  refine ic_nf (atype := .int) (ty := .int) (t := 0) (index := 9) (ci := 0) (k := 0) (N' := 7) rfl (fun _ => rfl) C hnm hH (by decide +kernel) (fun _ => rfl) (by decide) (by decide) (by decide) (Nat.le_of_ble_eq_true rfl) (Nat.le_of_ble_eq_true rfl) (show decode _ 7 = .ok (.newarray .int, 2) by decide +kernel) rfl (by decide) (by decide +kernel) rfl rfl (fun _ => rfl) (fun _ => rfl) (Nat.le_of_ble_eq_true rfl) (show decode _ 9 = .ok (.putfield 9, 3) by decide +kernel) (fun q0 H locs hH => ?_)
  refine lv_aload_n hx hb (show decode _ 12 = .ok (.aload_n 0, 1) by decide +kernel) rfl (lv_at hl 0 rfl) ?_
  refine lv_bipush (v := 7) hx hb (show decode _ 13 = .ok (.bipush 7, 2) by decide +kernel) (by decide) ?_
  refine ic_nf (atype := .int) (ty := .int) (t := 0) (index := 15) (ci := 0) (k := 1) (N' := 7) rfl (fun _ => rfl) C hnm hH (by decide +kernel) (fun _ => rfl) (by decide) (by decide) (by decide) (Nat.le_of_ble_eq_true rfl) (Nat.le_of_ble_eq_true rfl) (show decode _ 15 = .ok (.newarray .int, 2) by decide +kernel) rfl (by decide) (by decide +kernel) rfl rfl (fun _ => rfl) (fun _ => rfl) (Nat.le_of_ble_eq_true rfl) (show decode _ 17 = .ok (.putfield 15, 3) by decide +kernel) (fun q1 H locs hH => ?_)
  refine lv_aload_n hx hb (show decode _ 20 = .ok (.aload_n 0, 1) by decide +kernel) rfl (lv_at hl 0 rfl) ?_
  refine lv_bipush (v := 7) hx hb (show decode _ 21 = .ok (.bipush 7, 2) by decide +kernel) (by decide) ?_
  refine ic_nf (atype := .int) (ty := .int) (t := 0) (index := 18) (ci := 0) (k := 2) (N' := 7) rfl (fun _ => rfl) C hnm hH (by decide +kernel) (fun _ => rfl) (by decide) (by decide) (by decide) (Nat.le_of_ble_eq_true rfl) (Nat.le_of_ble_eq_true rfl) (show decode _ 23 = .ok (.newarray .int, 2) by decide +kernel) rfl (by decide) (by decide +kernel) rfl rfl (fun _ => rfl) (fun _ => rfl) (Nat.le_of_ble_eq_true rfl) (show decode _ 25 = .ok (.putfield 18, 3) by decide +kernel) (fun q2 H locs hH => ?_)
  refine lv_aload_n hx hb (show decode _ 28 = .ok (.aload_n 0, 1) by decide +kernel) rfl (lv_at hl 0 rfl) ?_
  refine lv_bipush (v := 7) hx hb (show decode _ 29 = .ok (.bipush 7, 2) by decide +kernel) (by decide) ?_
  refine ic_nf (atype := .int) (ty := .int) (t := 0) (index := 21) (ci := 0) (k := 3) (N' := 7) rfl (fun _ => rfl) C hnm hH (by decide +kernel) (fun _ => rfl) (by decide) (by decide) (by decide) (Nat.le_of_ble_eq_true rfl) (Nat.le_of_ble_eq_true rfl) (show decode _ 31 = .ok (.newarray .int, 2) by decide +kernel) rfl (by decide) (by decide +kernel) rfl rfl (fun _ => rfl) (fun _ => rfl) (Nat.le_of_ble_eq_true rfl) (show decode _ 33 = .ok (.putfield 21, 3) by decide +kernel) (fun q3 H locs hH => ?_)
  refine lv_aload_n hx hb (show decode _ 36 = .ok (.aload_n 0, 1) by decide +kernel) rfl (lv_at hl 0 rfl) ?_
  refine lv_bipush (v := 7) hx hb (show decode _ 37 = .ok (.bipush 7, 2) by decide +kernel) (by decide) ?_
  refine ic_nf (atype := .int) (ty := .int) (t := 0) (index := 24) (ci := 0) (k := 4) (N' := 7) rfl (fun _ => rfl) C hnm hH (by decide +kernel) (fun _ => rfl) (by decide) (by decide) (by decide) (Nat.le_of_ble_eq_true rfl) (Nat.le_of_ble_eq_true rfl) (show decode _ 39 = .ok (.newarray .int, 2) by decide +kernel) rfl (by decide) (by decide +kernel) rfl rfl (fun _ => rfl) (fun _ => rfl) (Nat.le_of_ble_eq_true rfl) (show decode _ 41 = .ok (.putfield 24, 3) by decide +kernel) (fun q4 H locs hH => ?_)
  refine lv_aload_n hx hb (show decode _ 44 = .ok (.aload_n 0, 1) by decide +kernel) rfl (lv_at hl 0 rfl) ?_
  refine lv_iconst (v := 0) hx hb (show decode _ 45 = .ok (.iconst 0, 1) by decide +kernel) (by decide) ?_
  refine ic_put (index := 27) (ci := 0) (k := 5) C hH rfl (by decide) (by decide +kernel) rfl rfl rfl (Nat.le_of_ble_eq_true rfl) (show decode _ 46 = .ok (.putfield 27, 3) by decide +kernel) (fun H locs hH => ?_)
  refine lv_aload_n hx hb (show decode _ 49 = .ok (.aload_n 0, 1) by decide +kernel) rfl (lv_at hl 0 rfl) ?_
  refine lv_iconst (v := 0) hx hb (show decode _ 50 = .ok (.iconst 0, 1) by decide +kernel) (by decide) ?_
  refine ic_put (index := 31) (ci := 0) (k := 6) C hH rfl (by decide) (by decide +kernel) rfl rfl rfl (Nat.le_of_ble_eq_true rfl) (show decode _ 51 = .ok (.putfield 31, 3) by decide +kernel) (fun H locs hH => ?_)
  refine lv_aload_n hx hb (show decode _ 54 = .ok (.aload_n 0, 1) by decide +kernel) rfl (lv_at hl 0 rfl) ?_
  refine lv_bipush (v := 30) hx hb (show decode _ 55 = .ok (.bipush 30, 2) by decide +kernel) (by decide) ?_
  refine ic_put (index := 34) (ci := 0) (k := 7) C hH rfl (by decide) (by decide +kernel) rfl rfl rfl (Nat.le_of_ble_eq_true rfl) (show decode _ 57 = .ok (.putfield 34, 3) by decide +kernel) (fun H locs hH => ?_)
  refine lv_aload_n hx hb (show decode _ 60 = .ok (.aload_n 0, 1) by decide +kernel) rfl (lv_at hl 0 rfl) ?_
  refine lv_iconst (v := 1) hx hb (show decode _ 61 = .ok (.iconst 1, 1) by decide +kernel) (by decide) ?_
  refine ic_put (index := 37) (ci := 0) (k := 8) C hH rfl (by decide) (by decide +kernel) rfl rfl rfl (Nat.le_of_ble_eq_true rfl) (show decode _ 62 = .ok (.putfield 37, 3) by decide +kernel) (fun H locs hH => ?_)
  refine lv_aload_n hx hb (show decode _ 65 = .ok (.aload_n 0, 1) by decide +kernel) rfl (lv_at hl 0 rfl) ?_
  refine lv_iconst (v := 0) hx hb (show decode _ 66 = .ok (.iconst 0, 1) by decide +kernel) (by decide) ?_
  refine ic_put (index := 40) (ci := 0) (k := 9) C hH rfl (by decide) (by decide +kernel) rfl rfl rfl (Nat.le_of_ble_eq_true rfl) (show decode _ 67 = .ok (.putfield 40, 3) by decide +kernel) (fun H locs hH => ?_)
  exact ic_end (w := ic_wH dA h0) (fun k => ([q0, q1, q2, q3, q4] : List Nat).getD k 0) C hr hlk hH rfl rfl rfl (show decode _ 70 = .ok (.return_, 1) by decide +kernel)
set_option maxRecDepth 100000 in
set_option maxHeartbeats 4000000 in
theorem i_Seen : ic_Met (yX2_init, cX2_init, 1, 1, 2, 12) (.inr (2, [.null, .null, .int 0])) ic_wS := by
  refine ic_met (own := RX2) (by decide) rfl (by decide) ?_
  intro p l e s m below meth c D dA A h0 ls C hnm hr hlk hH hl
  have hx := C.1
  have hb := C.2.1
  have hH : ic_H D A ([] ++ (h0, .inr (2, [.null, .null, .int 0])) :: []) s s.heap [] := hH
  refine lv_aload_n hx hb (show decode _ 0 = .ok (.aload_n 0, 1) by decide +kernel) rfl (lv_at hl 0 rfl) ?_
  refine ic_obj (idx := 3) C hl.1 (by decide +kernel) (by decide +kernel) (by decide +kernel) ⟨by decide, by decide⟩ (show decode _ 1 = .ok (.invokespecial 3, 3) by decide +kernel) ?_
  refine lv_aload_n hx hb (show decode _ 4 = .ok (.aload_n 0, 1) by decide +kernel) rfl (lv_at hl 0 rfl) ?_
  refine lv_bipush (v := 6) hx hb (show decode _ 5 = .ok (.bipush 6, 2) by decide +kernel) (by decide) ?_
  refine ic_nf (atype := .int) (ty := .int) (t := 0) (index := 9) (ci := 2) (k := 0) (N' := 6) rfl (fun _ => rfl) C hnm hH (by decide +kernel) (fun _ => rfl) (by decide) (by decide) (by decide) (Nat.le_of_ble_eq_true rfl) (Nat.le_of_ble_eq_true rfl) (show decode _ 7 = .ok (.newarray .int, 2) by decide +kernel) rfl (by decide) (by decide +kernel) rfl rfl (fun _ => rfl) (fun _ => rfl) (Nat.le_of_ble_eq_true rfl) (show decode _ 9 = .ok (.putfield 9, 3) by decide +kernel) (fun q0 H locs hH => ?_)
  refine lv_aload_n hx hb (show decode _ 12 = .ok (.aload_n 0, 1) by decide +kernel) rfl (lv_at hl 0 rfl) ?_
  refine lv_bipush (v := 6) hx hb (show decode _ 13 = .ok (.bipush 6, 2) by decide +kernel) (by decide) ?_
  refine ic_nf (atype := .int) (ty := .int) (t := 0) (index := 15) (ci := 2) (k := 1) (N' := 6) rfl (fun _ => rfl) C hnm hH (by decide +kernel) (fun _ => rfl) (by decide) (by decide) (by decide) (Nat.le_of_ble_eq_true rfl) (Nat.le_of_ble_eq_true rfl) (show decode _ 15 = .ok (.newarray .int, 2) by decide +kernel) rfl (by decide) (by decide +kernel) rfl rfl (fun _ => rfl) (fun _ => rfl) (Nat.le_of_ble_eq_true rfl) (show decode _ 17 = .ok (.putfield 15, 3) by decide +kernel) (fun q1 H locs hH => ?_)
  refine lv_aload_n hx hb (show decode _ 20 = .ok (.aload_n 0, 1) by decide +kernel) rfl (lv_at hl 0 rfl) ?_
  refine lv_iconst (v := 0) hx hb (show decode _ 21 = .ok (.iconst 0, 1) by decide +kernel) (by decide) ?_
  refine ic_put (index := 18) (ci := 2) (k := 2) C hH rfl (by decide) (by decide +kernel) rfl rfl rfl (Nat.le_of_ble_eq_true rfl) (show decode _ 22 = .ok (.putfield 18, 3) by decide +kernel) (fun H locs hH => ?_)
  exact ic_end (w := ic_wS dA h0) (fun k => ([q0, q1] : List Nat).getD k 0) C hr hlk hH rfl rfl rfl (show decode _ 25 = .ok (.return_, 1) by decide +kernel)
set_option maxRecDepth 100000 in
set_option maxHeartbeats 4000000 in
theorem i_Sheet : ic_Met (yX3_init, cX3_init, 1, 1, 1, 40) (.inr (3, [.null, .int 0, .int 0])) ic_wT := by
  refine ic_met (own := RX3) (by decide) rfl (by decide) ?_
  intro p l e s m below meth c D dA A h0 ls C hnm hr hlk hH hl
  have hx := C.1
  have hb := C.2.1
  have hH : ic_H D A ([] ++ (h0, .inr (3, [.null, .int 0, .int 0])) :: []) s s.heap [] := hH
  refine lv_aload_n hx hb (show decode _ 0 = .ok (.aload_n 0, 1) by decide +kernel) rfl (lv_at hl 0 rfl) ?_
  refine ic_obj (idx := 3) C hl.1 (by decide +kernel) (by decide +kernel) (by decide +kernel) ⟨by decide, by decide⟩ (show decode _ 1 = .ok (.invokespecial 3, 3) by decide +kernel) ?_
  refine lv_aload_n hx hb (show decode _ 4 = .ok (.aload_n 0, 1) by decide +kernel) rfl (lv_at hl 0 rfl) ?_
  refine lv_bipush (v := 40) hx hb (show decode _ 5 = .ok (.bipush 40, 2) by decide +kernel) (by decide) ?_
  refine ic_nf (atype := .int) (ty := .int) (t := 0) (index := 9) (ci := 3) (k := 0) (N' := 40) rfl (fun _ => rfl) C hnm hH (by decide +kernel) (fun _ => rfl) (by decide) (by decide) (by decide) (Nat.le_of_ble_eq_true rfl) (Nat.le_of_ble_eq_true rfl) (show decode _ 7 = .ok (.newarray .int, 2) by decide +kernel) rfl (by decide) (by decide +kernel) rfl rfl (fun _ => rfl) (fun _ => rfl) (Nat.le_of_ble_eq_true rfl) (show decode _ 9 = .ok (.putfield 9, 3) by decide +kernel) (fun q0 H locs hH => ?_)
  refine lv_aload_n hx hb (show decode _ 12 = .ok (.aload_n 0, 1) by decide +kernel) rfl (lv_at hl 0 rfl) ?_
  refine lv_iconst (v := 0) hx hb (show decode _ 13 = .ok (.iconst 0, 1) by decide +kernel) (by decide) ?_
  refine ic_put (index := 15) (ci := 3) (k := 1) C hH rfl (by decide) (by decide +kernel) rfl rfl rfl (Nat.le_of_ble_eq_true rfl) (show decode _ 14 = .ok (.putfield 15, 3) by decide +kernel) (fun H locs hH => ?_)
  refine lv_aload_n hx hb (show decode _ 17 = .ok (.aload_n 0, 1) by decide +kernel) rfl (lv_at hl 0 rfl) ?_
  refine lv_iconst (v := (-1)) hx hb (show decode _ 18 = .ok (.iconst (-1), 1) by decide +kernel) (by decide) ?_
  refine ic_put (index := 19) (ci := 3) (k := 2) C hH rfl (by decide) (by decide +kernel) rfl rfl rfl (Nat.le_of_ble_eq_true rfl) (show decode _ 19 = .ok (.putfield 19, 3) by decide +kernel) (fun H locs hH => ?_)
  exact ic_end (w := ic_wT dA h0) (fun k => ([q0] : List Nat).getD k 0) C hr hlk hH rfl rfl rfl (show decode _ 22 = .ok (.return_, 1) by decide +kernel)
set_option maxRecDepth 100000 in
set_option maxHeartbeats 4000000 in
theorem i_Tape : ic_Met (yX4_init, cX4_init, 1, 1, 1, 160) (.inr (4, [.null, .int 0, .int 0, .int 0, .int 0, .int 0, .int 0, .int 0, .int 0, .int 0])) ic_wP := by
  refine ic_met (own := RX4) (by decide) rfl (by decide) ?_
  intro p l e s m below meth c D dA A h0 ls C hnm hr hlk hH hl
  have hx := C.1
  have hb := C.2.1
  have hH : ic_H D A ([] ++ (h0, .inr (4, [.null, .int 0, .int 0, .int 0, .int 0, .int 0, .int 0, .int 0, .int 0, .int 0])) :: []) s s.heap [] := hH
  refine lv_aload_n hx hb (show decode _ 0 = .ok (.aload_n 0, 1) by decide +kernel) rfl (lv_at hl 0 rfl) ?_
  refine ic_obj (idx := 3) C hl.1 (by decide +kernel) (by decide +kernel) (by decide +kernel) ⟨by decide, by decide⟩ (show decode _ 1 = .ok (.invokespecial 3, 3) by decide +kernel) ?_
  refine lv_aload_n hx hb (show decode _ 4 = .ok (.aload_n 0, 1) by decide +kernel) rfl (lv_at hl 0 rfl) ?_
  refine lv_sipush (v := 160) hx hb (show decode _ 5 = .ok (.sipush 160, 3) by decide +kernel) (by decide) ?_
  refine ic_nf (atype := .byte) (ty := .byte) (t := 1) (index := 9) (ci := 4) (k := 0) (N' := 160) rfl (fun _ => rfl) C hnm hH (by decide +kernel) (fun _ => rfl) (by decide) (by decide) (by decide) (Nat.le_of_ble_eq_true rfl) (Nat.le_of_ble_eq_true rfl) (show decode _ 8 = .ok (.newarray .byte, 2) by decide +kernel) rfl (by decide) (by decide +kernel) rfl rfl (fun _ => rfl) (fun _ => rfl) (Nat.le_of_ble_eq_true rfl) (show decode _ 10 = .ok (.putfield 9, 3) by decide +kernel) (fun q0 H locs hH => ?_)
  refine lv_aload_n hx hb (show decode _ 13 = .ok (.aload_n 0, 1) by decide +kernel) rfl (lv_at hl 0 rfl) ?_
  refine lv_iconst (v := 0) hx hb (show decode _ 14 = .ok (.iconst 0, 1) by decide +kernel) (by decide) ?_
  refine ic_put (index := 15) (ci := 4) (k := 1) C hH rfl (by decide) (by decide +kernel) rfl rfl rfl (Nat.le_of_ble_eq_true rfl) (show decode _ 15 = .ok (.putfield 15, 3) by decide +kernel) (fun H locs hH => ?_)
  refine lv_aload_n hx hb (show decode _ 18 = .ok (.aload_n 0, 1) by decide +kernel) rfl (lv_at hl 0 rfl) ?_
  refine lv_iconst (v := 0) hx hb (show decode _ 19 = .ok (.iconst 0, 1) by decide +kernel) (by decide) ?_
  refine ic_put (index := 19) (ci := 4) (k := 2) C hH rfl (by decide) (by decide +kernel) rfl rfl rfl (Nat.le_of_ble_eq_true rfl) (show decode _ 20 = .ok (.putfield 19, 3) by decide +kernel) (fun H locs hH => ?_)
  refine lv_aload_n hx hb (show decode _ 23 = .ok (.aload_n 0, 1) by decide +kernel) rfl (lv_at hl 0 rfl) ?_
  refine lv_iconst (v := 0) hx hb (show decode _ 24 = .ok (.iconst 0, 1) by decide +kernel) (by decide) ?_
  refine ic_put (index := 22) (ci := 4) (k := 3) C hH rfl (by decide) (by decide +kernel) rfl rfl rfl (Nat.le_of_ble_eq_true rfl) (show decode _ 25 = .ok (.putfield 22, 3) by decide +kernel) (fun H locs hH => ?_)
  refine lv_aload_n hx hb (show decode _ 28 = .ok (.aload_n 0, 1) by decide +kernel) rfl (lv_at hl 0 rfl) ?_
  refine lv_iconst (v := 0) hx hb (show decode _ 29 = .ok (.iconst 0, 1) by decide +kernel) (by decide) ?_
  refine ic_put (index := 25) (ci := 4) (k := 4) C hH rfl (by decide) (by decide +kernel) rfl rfl rfl (Nat.le_of_ble_eq_true rfl) (show decode _ 30 = .ok (.putfield 25, 3) by decide +kernel) (fun H locs hH => ?_)
  refine lv_aload_n hx hb (show decode _ 33 = .ok (.aload_n 0, 1) by decide +kernel) rfl (lv_at hl 0 rfl) ?_
  refine lv_iconst (v := 0) hx hb (show decode _ 34 = .ok (.iconst 0, 1) by decide +kernel) (by decide) ?_
  refine ic_put (index := 28) (ci := 4) (k := 5) C hH rfl (by decide) (by decide +kernel) rfl rfl rfl (Nat.le_of_ble_eq_true rfl) (show decode _ 35 = .ok (.putfield 28, 3) by decide +kernel) (fun H locs hH => ?_)
  refine lv_aload_n hx hb (show decode _ 38 = .ok (.aload_n 0, 1) by decide +kernel) rfl (lv_at hl 0 rfl) ?_
  refine lv_iconst (v := 0) hx hb (show decode _ 39 = .ok (.iconst 0, 1) by decide +kernel) (by decide) ?_
  refine ic_put (index := 31) (ci := 4) (k := 6) C hH rfl (by decide) (by decide +kernel) rfl rfl rfl (Nat.le_of_ble_eq_true rfl) (show decode _ 40 = .ok (.putfield 31, 3) by decide +kernel) (fun H locs hH => ?_)
  refine lv_aload_n hx hb (show decode _ 43 = .ok (.aload_n 0, 1) by decide +kernel) rfl (lv_at hl 0 rfl) ?_
  refine lv_iconst (v := 0) hx hb (show decode _ 44 = .ok (.iconst 0, 1) by decide +kernel) (by decide) ?_
  refine ic_put (index := 34) (ci := 4) (k := 7) C hH rfl (by decide) (by decide +kernel) rfl rfl rfl (Nat.le_of_ble_eq_true rfl) (show decode _ 45 = .ok (.putfield 34, 3) by decide +kernel) (fun H locs hH => ?_)
  refine lv_aload_n hx hb (show decode _ 48 = .ok (.aload_n 0, 1) by decide +kernel) rfl (lv_at hl 0 rfl) ?_
  refine lv_iconst (v := 0) hx hb (show decode _ 49 = .ok (.iconst 0, 1) by decide +kernel) (by decide) ?_
  refine ic_put (index := 37) (ci := 4) (k := 8) C hH rfl (by decide) (by decide +kernel) rfl rfl rfl (Nat.le_of_ble_eq_true rfl) (show decode _ 50 = .ok (.putfield 37, 3) by decide +kernel) (fun H locs hH => ?_)
  refine lv_aload_n hx hb (show decode _ 53 = .ok (.aload_n 0, 1) by decide +kernel) rfl (lv_at hl 0 rfl) ?_
  refine lv_iconst (v := 0) hx hb (show decode _ 54 = .ok (.iconst 0, 1) by decide +kernel) (by decide) ?_
  refine ic_put (index := 41) (ci := 4) (k := 9) C hH rfl (by decide) (by decide +kernel) rfl rfl rfl (Nat.le_of_ble_eq_true rfl) (show decode _ 55 = .ok (.putfield 41, 3) by decide +kernel) (fun H locs hH => ?_)
  exact ic_end (w := ic_wP dA h0) (fun k => ([q0] : List Nat).getD k 0) C hr hlk hH rfl rfl rfl (show decode _ 58 = .ok (.return_, 1) by decide +kernel)
set_option maxRecDepth 100000 in
set_option maxHeartbeats 4000000 in
theorem i_Image : ic_Met (yX1_init, cX1_init, 1, 2, 9, 60) (.inr (1, [.null, .null, .int 0])) ic_wI := by
  refine ic_met (own := RX1) (by decide) rfl (by decide) ?_
  intro p l e s m below meth c D dA A h0 ls C hnm hr hlk hH hl
  have hx := C.1
  have hb := C.2.1
  have hH : ic_H D A ([] ++ (h0, .inr (1, [.null, .null, .int 0])) :: []) s s.heap [] := hH
  refine lv_aload_n hx hb (show decode _ 0 = .ok (.aload_n 0, 1) by decide +kernel) rfl (lv_at hl 0 rfl) ?_
  refine ic_obj (idx := 1) C hl.1 (by decide +kernel) (by decide +kernel) (by decide +kernel) ⟨by decide, by decide⟩ (show decode _ 1 = .ok (.invokespecial 1, 3) by decide +kernel) ?_
  refine lv_aload_n hx hb (show decode _ 4 = .ok (.aload_n 0, 1) by decide +kernel) rfl (lv_at hl 0 rfl) ?_
  refine ic_make (idx1 := 7) (idx2 := 9) i_Hamper C hl.1 hH rfl (by decide +kernel) (by decide +kernel) (by decide +kernel) (by decide +kernel) (Nat.le_of_ble_eq_true rfl) (Nat.le_of_ble_eq_true rfl) rfl rfl (by decide +kernel) (by decide +kernel) (by decide +kernel) (Or.inr (by decide)) ⟨Nat.le_of_ble_eq_true rfl, Nat.le_of_ble_eq_true rfl⟩ (Nat.le_of_ble_eq_true rfl) (show decode _ 5 = .ok (.new 7, 3) by decide +kernel) (show decode _ 8 = .ok (.dup, 1) by decide +kernel) (show decode _ 9 = .ok (.invokespecial 9, 3) by decide +kernel) (fun a ua H locs hH => ?_)
  have hH : ic_H D A ([] ++ (h0, .inr (1, [.null, .null, .int 0])) :: ic_wH dA a ua) s H locs := hH
  refine ic_putF (index := 10) (ci := 1) (k := 0) C hnm hH rfl (by decide) (by decide +kernel) rfl rfl rfl rfl (Nat.le_of_ble_eq_true rfl) (show decode _ 12 = .ok (.putfield 10, 3) by decide +kernel) (fun H locs hH => ?_)
  refine lv_aload_n hx hb (show decode _ 15 = .ok (.aload_n 0, 1) by decide +kernel) rfl (lv_at hl 0 rfl) ?_
  refine ic_make (idx1 := 16) (idx2 := 18) i_Seen C hl.1 hH rfl (by decide +kernel) (by decide +kernel) (by decide +kernel) (by decide +kernel) (Nat.le_of_ble_eq_true rfl) (Nat.le_of_ble_eq_true rfl) rfl rfl (by decide +kernel) (by decide +kernel) (by decide +kernel) (Or.inr (by decide)) ⟨Nat.le_of_ble_eq_true rfl, Nat.le_of_ble_eq_true rfl⟩ (Nat.le_of_ble_eq_true rfl) (show decode _ 16 = .ok (.new 16, 3) by decide +kernel) (show decode _ 19 = .ok (.dup, 1) by decide +kernel) (show decode _ 20 = .ok (.invokespecial 18, 3) by decide +kernel) (fun b ub H locs hH => ?_)
  have hH : ic_H D A ([] ++ (h0, .inr (1, [.ref a, .null, .int 0])) :: (ic_wH dA a ua ++ ic_wS dA b ub)) s H locs := hH
  refine ic_putF (index := 19) (ci := 1) (k := 1) C hnm hH rfl (by decide) (by decide +kernel) rfl rfl rfl rfl (Nat.le_of_ble_eq_true rfl) (show decode _ 23 = .ok (.putfield 19, 3) by decide +kernel) (fun H locs hH => ?_)
  refine lv_aload_n hx hb (show decode _ 26 = .ok (.aload_n 0, 1) by decide +kernel) rfl (lv_at hl 0 rfl) ?_
  refine lv_iconst (v := 0) hx hb (show decode _ 27 = .ok (.iconst 0, 1) by decide +kernel) (by decide) ?_
  refine ic_put (index := 23) (ci := 1) (k := 2) C hH rfl (by decide) (by decide +kernel) rfl rfl rfl (Nat.le_of_ble_eq_true rfl) (show decode _ 28 = .ok (.putfield 23, 3) by decide +kernel) (fun H locs hH => ?_)
  exact ic_end (w := ic_wI dA h0) (fun k => ([a, b, ua 0, ua 1, ua 2, ua 3, ua 4, ub 0, ub 1] : List Nat).getD k 0) C hr hlk hH rfl rfl rfl (show decode _ 31 = .ok (.return_, 1) by decide +kernel)
