/-! THE CONSTRUCTOR OF HamperDaysModel, gone on; printed by wip/whole/ini3.py -/
set_option maxRecDepth 100000 in
set_option maxHeartbeats 1000000 in
theorem im_rest {p : Program} {l : Launch} {e : Env} {s : State} {m : MethodId} {below : List Frame} {meth : Method} {c : Code} {H : Heap} {locs : List Loc} {ls : Array Slot} {D : va_G} {dA : Nat → ClassId} {ad ad0 : Nat → Nat} {A : Nat → Prop} (C : ic_C RX6 cX6_init 2 p s m #[.ref (ad 51)] c D dA A) (hr : meth.sig.returnType = none) (hlk : meth.locks = false) (hX : hd_X (D, ad, dA) A s) (hH : hd_H (D, ad, dA) A ic_M (fun _ _ => 0) s H locs) (hl : lv_has ls 2 [(0, .ref (ad 51))]) (a65 : ∀ k, 65 ≤ k → ad k = ad0 k) (a0 : ad 0 = ad0 0) : W p l e (ic_rm 2 13 847) s m #[.ref (ad 51)] below meth c H locs 13 847 (MQ below (va_Qv (ic_SM ad0 (ad 51)) (fun u t => va_P D hd_cl (hd_w (D, u.1, dA) u.2.1 u.2.2) t.heap ∧ va_D A (hd_w (D, u.1, dA) u.2.1 u.2.2)) A) #[.ref (ad 51)] s 13 847 A) (F0 m 107 ls []) := by
  have hx := C.1
  have hb := C.2.1
  refine lv_iconst (v := 0) hx hb (show decode _ 107 = .ok (.iconst 0, 1) by decide +kernel) (by decide) ?_
  refine lv_istore_n (lv' := [(1, .int 0), (0, .ref (ad 51))]) hx hb (show decode _ 108 = .ok (.istore_n 1, 1) by decide +kernel) rfl hl (by decide) rfl (fun ls hl => ?_)
  refine lv_iload_n hx hb (show decode _ 109 = .ok (.iload_n 1, 1) by decide +kernel) rfl (lv_at hl 0 rfl) ?_
  refine lv_iconst (v := 4) hx hb (show decode _ 110 = .ok (.iconst 4, 1) by decide +kernel) (by decide) ?_
  refine lv_icmp_ge (off := 17) (tgt := 128) hx hb (show decode _ 111 = .ok (.if_icmp .ge 17, 3) by decide +kernel) (by decide) (fun h9 => absurd h9 (by decide)) (fun _ => ?_)
  refine lv_aload_n hx hb (show decode _ 114 = .ok (.aload_n 0, 1) by decide +kernel) rfl (lv_at hl 1 rfl) ?_
  refine im_get (index := 38) C hH (by decide +kernel) (show decode _ 115 = .ok (.getfield 38, 3) by decide +kernel) ?_
  refine lv_iload_n hx hb (show decode _ 118 = .ok (.iload_n 1, 1) by decide +kernel) rfl (lv_at hl 0 rfl) ?_
  refine lv_bipush (v := (-4)) hx hb (show decode _ 119 = .ok (.bipush (-4), 2) by decide +kernel) (by decide) ?_
  refine im_ast (j := 0) C hH (by decide) (show ¬ ((0 : Int32) < 0 ∨ 4 ≤ Int32.toNatClampNeg 0) by decide) (show decode _ 121 = .ok (.iastore, 1) by decide +kernel) (fun H locs hH => ?_)
  refine lv_iinc (k := 0) (v := 1) (lv' := [(1, .int 1), (0, .ref (ad 51))]) hx hb (show decode _ 122 = .ok (.iinc 1 1, 3) by decide +kernel) hl rfl (by decide) (by decide) rfl (fun ls hl => ?_)
  refine lv_goto (off := -16) (tgt := 109) hx hb (show decode _ 125 = .ok (.goto (-16), 3) by decide +kernel) (by decide) ?_
  refine lv_iload_n hx hb (show decode _ 109 = .ok (.iload_n 1, 1) by decide +kernel) rfl (lv_at hl 0 rfl) ?_
  refine lv_iconst (v := 4) hx hb (show decode _ 110 = .ok (.iconst 4, 1) by decide +kernel) (by decide) ?_
  refine lv_icmp_ge (off := 17) (tgt := 128) hx hb (show decode _ 111 = .ok (.if_icmp .ge 17, 3) by decide +kernel) (by decide) (fun h9 => absurd h9 (by decide)) (fun _ => ?_)
  refine lv_aload_n hx hb (show decode _ 114 = .ok (.aload_n 0, 1) by decide +kernel) rfl (lv_at hl 1 rfl) ?_
  refine im_get (index := 38) C hH (by decide +kernel) (show decode _ 115 = .ok (.getfield 38, 3) by decide +kernel) ?_
  refine lv_iload_n hx hb (show decode _ 118 = .ok (.iload_n 1, 1) by decide +kernel) rfl (lv_at hl 0 rfl) ?_
  refine lv_bipush (v := (-4)) hx hb (show decode _ 119 = .ok (.bipush (-4), 2) by decide +kernel) (by decide) ?_
  refine im_ast (j := 1) C hH (by decide) (show ¬ ((1 : Int32) < 0 ∨ 4 ≤ Int32.toNatClampNeg 1) by decide) (show decode _ 121 = .ok (.iastore, 1) by decide +kernel) (fun H locs hH => ?_)
  refine lv_iinc (k := 0) (v := 2) (lv' := [(1, .int 2), (0, .ref (ad 51))]) hx hb (show decode _ 122 = .ok (.iinc 1 1, 3) by decide +kernel) hl rfl (by decide) (by decide) rfl (fun ls hl => ?_)
  refine lv_goto (off := -16) (tgt := 109) hx hb (show decode _ 125 = .ok (.goto (-16), 3) by decide +kernel) (by decide) ?_
  refine lv_iload_n hx hb (show decode _ 109 = .ok (.iload_n 1, 1) by decide +kernel) rfl (lv_at hl 0 rfl) ?_
  refine lv_iconst (v := 4) hx hb (show decode _ 110 = .ok (.iconst 4, 1) by decide +kernel) (by decide) ?_
  refine lv_icmp_ge (off := 17) (tgt := 128) hx hb (show decode _ 111 = .ok (.if_icmp .ge 17, 3) by decide +kernel) (by decide) (fun h9 => absurd h9 (by decide)) (fun _ => ?_)
  refine lv_aload_n hx hb (show decode _ 114 = .ok (.aload_n 0, 1) by decide +kernel) rfl (lv_at hl 1 rfl) ?_
  refine im_get (index := 38) C hH (by decide +kernel) (show decode _ 115 = .ok (.getfield 38, 3) by decide +kernel) ?_
  refine lv_iload_n hx hb (show decode _ 118 = .ok (.iload_n 1, 1) by decide +kernel) rfl (lv_at hl 0 rfl) ?_
  refine lv_bipush (v := (-4)) hx hb (show decode _ 119 = .ok (.bipush (-4), 2) by decide +kernel) (by decide) ?_
  refine im_ast (j := 2) C hH (by decide) (show ¬ ((2 : Int32) < 0 ∨ 4 ≤ Int32.toNatClampNeg 2) by decide) (show decode _ 121 = .ok (.iastore, 1) by decide +kernel) (fun H locs hH => ?_)
  refine lv_iinc (k := 0) (v := 3) (lv' := [(1, .int 3), (0, .ref (ad 51))]) hx hb (show decode _ 122 = .ok (.iinc 1 1, 3) by decide +kernel) hl rfl (by decide) (by decide) rfl (fun ls hl => ?_)
  refine lv_goto (off := -16) (tgt := 109) hx hb (show decode _ 125 = .ok (.goto (-16), 3) by decide +kernel) (by decide) ?_
  refine lv_iload_n hx hb (show decode _ 109 = .ok (.iload_n 1, 1) by decide +kernel) rfl (lv_at hl 0 rfl) ?_
  refine lv_iconst (v := 4) hx hb (show decode _ 110 = .ok (.iconst 4, 1) by decide +kernel) (by decide) ?_
  refine lv_icmp_ge (off := 17) (tgt := 128) hx hb (show decode _ 111 = .ok (.if_icmp .ge 17, 3) by decide +kernel) (by decide) (fun h9 => absurd h9 (by decide)) (fun _ => ?_)
  refine lv_aload_n hx hb (show decode _ 114 = .ok (.aload_n 0, 1) by decide +kernel) rfl (lv_at hl 1 rfl) ?_
  refine im_get (index := 38) C hH (by decide +kernel) (show decode _ 115 = .ok (.getfield 38, 3) by decide +kernel) ?_
  refine lv_iload_n hx hb (show decode _ 118 = .ok (.iload_n 1, 1) by decide +kernel) rfl (lv_at hl 0 rfl) ?_
  refine lv_bipush (v := (-4)) hx hb (show decode _ 119 = .ok (.bipush (-4), 2) by decide +kernel) (by decide) ?_
  refine im_ast (j := 3) C hH (by decide) (show ¬ ((3 : Int32) < 0 ∨ 4 ≤ Int32.toNatClampNeg 3) by decide) (show decode _ 121 = .ok (.iastore, 1) by decide +kernel) (fun H locs hH => ?_)
  refine lv_iinc (k := 0) (v := 4) (lv' := [(1, .int 4), (0, .ref (ad 51))]) hx hb (show decode _ 122 = .ok (.iinc 1 1, 3) by decide +kernel) hl rfl (by decide) (by decide) rfl (fun ls hl => ?_)
  refine lv_goto (off := -16) (tgt := 109) hx hb (show decode _ 125 = .ok (.goto (-16), 3) by decide +kernel) (by decide) ?_
  refine lv_iload_n hx hb (show decode _ 109 = .ok (.iload_n 1, 1) by decide +kernel) rfl (lv_at hl 0 rfl) ?_
  refine lv_iconst (v := 4) hx hb (show decode _ 110 = .ok (.iconst 4, 1) by decide +kernel) (by decide) ?_
  refine lv_icmp_ge (off := 17) (tgt := 128) hx hb (show decode _ 111 = .ok (.if_icmp .ge 17, 3) by decide +kernel) (by decide) (fun _ => ?_) (fun h9 => absurd (by decide) h9)
  refine lv_aload_n hx hb (show decode _ 128 = .ok (.aload_n 0, 1) by decide +kernel) rfl (lv_at hl 1 rfl) ?_
  refine im_call (J := mX6_firstDraft) (index := 50) C hX hl.1 hH (show decode _ 129 = .ok (.invokevirtual 50, 3) by decide +kernel) (by decide +kernel) (by decide +kernel) (by decide) rfl (by decide +kernel) (by decide +kernel) (by decide +kernel) (by decide +kernel) rfl (by decide) ⟨by decide, by decide⟩ ⟨by decide, by decide⟩ (r_first _ _) (fun r M1 N1 h9 => h9.1) (fun r M2 N9 h9 H locs hH => ?_)
  obtain ⟨-, -, f2, f3, -, -⟩ := h9
  refine lv_aload_n hx hb (show decode _ 132 = .ok (.aload_n 0, 1) by decide +kernel) rfl (lv_at hl 1 rfl) ?_
  refine im_call (J := mX6_keepDraft) (index := 53) C hX hl.1 hH (show decode _ 133 = .ok (.invokevirtual 53, 3) by decide +kernel) (by decide +kernel) (by decide +kernel) (by decide) rfl (by decide +kernel) (by decide +kernel) (by decide +kernel) (by decide +kernel) rfl (by decide) ⟨by decide, by decide⟩ ⟨by decide, by decide⟩ (r_keep _ _ dy_0 f3 txd_0) (fun r M1 N1 h9 => h9.1) (fun r M3 N9 h9 H locs hH => ?_)
  obtain ⟨-, -, g2, g3, g4, g5, g6⟩ := h9
  exact W.vret hx hb hr (fun t ht hW => ⟨⟨(ad, M3, N9), rfl, ⟨a65, a0, rfl, ic_RI f2 g2 g3 g4 g5 g6⟩, by rw [ht]; exact hH.1, hH.2.1⟩, hH.2.2.F ht⟩) hH.2.2.2.2 (show decode _ 136 = .ok (.return_, 1) by decide +kernel) hlk
set_option maxRecDepth 100000 in
set_option maxHeartbeats 1000000 in
theorem im_rest2 {p : Program} {l : Launch} {e : Env} {s : State} {m : MethodId} {below : List Frame} {meth : Method} {c : Code} {H : Heap} {locs : List Loc} {ls : Array Slot} {D : va_G} {dA : Nat → ClassId} {ad0 u : Nat → Nat} {h0 : Nat} {A : Nat → Prop} (C : ic_C RX6 cX6_init 2 p s m #[.ref h0] c D dA A) (hr : meth.sig.returnType = none) (hlk : meth.locks = false) (hX : hd_X (D, ad0, dA) A s) (hH : ic_H D A (ic_wD dA (ad0 0) ad0 ++ (h0, .inr (6, [.ref (u 0), .ref (u 1), .ref (u 2), .ref (u 3), .int 0, .int 0, .ref (u 4), .int 0, .int 0, .int 0, .int 0, .int 0, .int 0, .int 0, .int 0, .int 0, .ref (u 5), .ref (u 6), .long 0, .long 0, .long 0, .ref (u 7), .ref (u 8), .ref (u 9), .ref (u 10), .ref (u 11), .int 0, .ref (u 12)])) :: [(u 0, ic_a dA 0 138), (u 1, ic_a dA 0 46), (u 2, ic_a dA 2 2), (u 3, ic_a dA 0 46), (u 4, ic_a dA 0 160), (u 5, ic_a dA 0 5), (u 6, ic_a dA 0 5), (u 7, ic_a dA 0 21), (u 8, ic_a dA 0 210), (u 9, ic_a dA 0 4), (u 10, ic_a dA 0 4), (u 11, ic_a dA 0 160), (u 12, ic_a dA 0 46)]) s H locs) (hl : lv_has ls 2 [(0, .ref h0)]) : W p l e (ic_rm 2 13 847) s m #[.ref h0] below meth c H locs 13 847 (MQ below (va_Qv (ic_SM ad0 h0) (fun u t => va_P D hd_cl (hd_w (D, u.1, dA) u.2.1 u.2.2) t.heap ∧ va_D A (hd_w (D, u.1, dA) u.2.1 u.2.2)) A) #[.ref h0] s 13 847 A) (F0 m 107 ls []) := by
  have h51 : ic_ad ad0 h0 u 51 = h0 := rfl
  have h00 : ic_ad ad0 h0 u 0 = ad0 0 := rfl
  have hH2 : hd_H (D, ic_ad ad0 h0 u, dA) A ic_M (fun _ _ => 0) s H locs := by
    unfold hd_H
    rw [ic_weq]
    exact hH
  have hX2 : hd_X (D, ic_ad ad0 h0 u, dA) A s := ic_X (fun k hk => ic_ad_hi hk) hX
  have a65 : ∀ k, 65 ≤ k → ic_ad ad0 h0 u k = ad0 k := fun k hk => ic_ad_hi hk
  clear hH hX
  generalize ic_ad ad0 h0 u = ad at *
  subst h51
  exact im_rest C hr hlk hX2 hH2 hl a65 h00
set_option maxRecDepth 100000 in
set_option maxHeartbeats 4000000 in
theorem im_walk {p : Program} {l : Launch} {e : Env} {s : State} {m : MethodId} {below : List Frame} {meth : Method} {c : Code} {ls : Array Slot} {D : va_G} {dA : Nat → ClassId} {ad0 : Nat → Nat} {h0 : Nat} {A : Nat → Prop} (C : ic_C RX6 cX6_init 2 p s m #[.ref h0] c D dA A) (hnm : meth.name = "<init>") (hr : meth.sig.returnType = none) (hlk : meth.locks = false) (hX : hd_X (D, ad0, dA) A s) (hH : ic_H D A (ic_wD dA (ad0 0) ad0 ++ (h0, .inr (6, ic_oM)) :: []) s s.heap []) (hl : lv_has ls 2 [(0, .ref h0)]) : W p l e (ic_rm 2 13 847) s m #[.ref h0] below meth c s.heap [] 0 0 (MQ below (va_Qv (ic_SM ad0 h0) (fun u t => va_P D hd_cl (hd_w (D, u.1, dA) u.2.1 u.2.2) t.heap ∧ va_D A (hd_w (D, u.1, dA) u.2.1 u.2.2)) A) #[.ref h0] s 13 847 A) (F0 m 0 ls []) := by
  have hx := C.1
  have hb := C.2.1
  refine lv_aload_n hx hb (show decode _ 0 = .ok (.aload_n 0, 1) by decide +kernel) rfl (lv_at hl 0 rfl) ?_
  refine ic_obj (idx := 1) C hl.1 (by decide +kernel) (by decide +kernel) (by decide +kernel) ⟨by decide, by decide⟩ (show decode _ 1 = .ok (.invokespecial 1, 3) by decide +kernel) ?_
  refine lv_aload_n hx hb (show decode _ 4 = .ok (.aload_n 0, 1) by decide +kernel) rfl (lv_at hl 0 rfl) ?_
  refine lv_sipush (v := 138) hx hb (show decode _ 5 = .ok (.sipush 138, 3) by decide +kernel) (by decide) ?_
  refine ic_nf (atype := .int) (ty := .int) (t := 0) (index := 7) (ci := 6) (k := 0) (N' := 138) rfl (fun _ => rfl) C hnm hH (by decide +kernel) (fun _ => rfl) (by decide) (by decide) (by decide) (Nat.le_of_ble_eq_true rfl) (Nat.le_of_ble_eq_true rfl) (show decode _ 8 = .ok (.newarray .int, 2) by decide +kernel) rfl (by decide) (by decide +kernel) rfl rfl (fun _ => rfl) (fun _ => rfl) (Nat.le_of_ble_eq_true rfl) (show decode _ 10 = .ok (.putfield 7, 3) by decide +kernel) (fun q0 H locs hH => ?_)
  have hH : ic_H D A (ic_wD dA (ad0 0) ad0 ++ (h0, .inr (6, [.ref q0, .null, .null, .null, .int 0, .int 0, .null, .int 0, .int 0, .int 0, .int 0, .int 0, .int 0, .int 0, .int 0, .int 0, .null, .null, .long 0, .long 0, .long 0, .null, .null, .null, .null, .null, .int 0, .null])) :: [(q0, ic_a dA 0 138)]) s H locs := hH
  refine lv_aload_n hx hb (show decode _ 13 = .ok (.aload_n 0, 1) by decide +kernel) rfl (lv_at hl 0 rfl) ?_
  refine lv_bipush (v := 46) hx hb (show decode _ 14 = .ok (.bipush 46, 2) by decide +kernel) (by decide) ?_
  refine ic_nf (atype := .int) (ty := .int) (t := 0) (index := 13) (ci := 6) (k := 1) (N' := 46) rfl (fun _ => rfl) C hnm hH (by decide +kernel) (fun _ => rfl) (by decide) (by decide) (by decide) (Nat.le_of_ble_eq_true rfl) (Nat.le_of_ble_eq_true rfl) (show decode _ 16 = .ok (.newarray .int, 2) by decide +kernel) rfl (by decide) (by decide +kernel) rfl rfl (fun _ => rfl) (fun _ => rfl) (Nat.le_of_ble_eq_true rfl) (show decode _ 18 = .ok (.putfield 13, 3) by decide +kernel) (fun q1 H locs hH => ?_)
  have hH : ic_H D A (ic_wD dA (ad0 0) ad0 ++ (h0, .inr (6, [.ref q0, .ref q1, .null, .null, .int 0, .int 0, .null, .int 0, .int 0, .int 0, .int 0, .int 0, .int 0, .int 0, .int 0, .int 0, .null, .null, .long 0, .long 0, .long 0, .null, .null, .null, .null, .null, .int 0, .null])) :: [(q0, ic_a dA 0 138), (q1, ic_a dA 0 46)]) s H locs := hH
  refine lv_aload_n hx hb (show decode _ 21 = .ok (.aload_n 0, 1) by decide +kernel) rfl (lv_at hl 0 rfl) ?_
  refine lv_iconst (v := 2) hx hb (show decode _ 22 = .ok (.iconst 2, 1) by decide +kernel) (by decide) ?_
  refine ic_nf (atype := .boolean) (ty := .boolean) (t := 2) (index := 16) (ci := 6) (k := 2) (N' := 2) rfl (fun _ => rfl) C hnm hH (by decide +kernel) (fun _ => rfl) (by decide) (by decide) (by decide) (Nat.le_of_ble_eq_true rfl) (Nat.le_of_ble_eq_true rfl) (show decode _ 23 = .ok (.newarray .boolean, 2) by decide +kernel) rfl (by decide) (by decide +kernel) rfl rfl (fun _ => rfl) (fun _ => rfl) (Nat.le_of_ble_eq_true rfl) (show decode _ 25 = .ok (.putfield 16, 3) by decide +kernel) (fun q2 H locs hH => ?_)
  have hH : ic_H D A (ic_wD dA (ad0 0) ad0 ++ (h0, .inr (6, [.ref q0, .ref q1, .ref q2, .null, .int 0, .int 0, .null, .int 0, .int 0, .int 0, .int 0, .int 0, .int 0, .int 0, .int 0, .int 0, .null, .null, .long 0, .long 0, .long 0, .null, .null, .null, .null, .null, .int 0, .null])) :: [(q0, ic_a dA 0 138), (q1, ic_a dA 0 46), (q2, ic_a dA 2 2)]) s H locs := hH
  refine lv_aload_n hx hb (show decode _ 28 = .ok (.aload_n 0, 1) by decide +kernel) rfl (lv_at hl 0 rfl) ?_
  refine lv_bipush (v := 46) hx hb (show decode _ 29 = .ok (.bipush 46, 2) by decide +kernel) (by decide) ?_
  refine ic_nf (atype := .int) (ty := .int) (t := 0) (index := 20) (ci := 6) (k := 3) (N' := 46) rfl (fun _ => rfl) C hnm hH (by decide +kernel) (fun _ => rfl) (by decide) (by decide) (by decide) (Nat.le_of_ble_eq_true rfl) (Nat.le_of_ble_eq_true rfl) (show decode _ 31 = .ok (.newarray .int, 2) by decide +kernel) rfl (by decide) (by decide +kernel) rfl rfl (fun _ => rfl) (fun _ => rfl) (Nat.le_of_ble_eq_true rfl) (show decode _ 33 = .ok (.putfield 20, 3) by decide +kernel) (fun q3 H locs hH => ?_)
  have hH : ic_H D A (ic_wD dA (ad0 0) ad0 ++ (h0, .inr (6, [.ref q0, .ref q1, .ref q2, .ref q3, .int 0, .int 0, .null, .int 0, .int 0, .int 0, .int 0, .int 0, .int 0, .int 0, .int 0, .int 0, .null, .null, .long 0, .long 0, .long 0, .null, .null, .null, .null, .null, .int 0, .null])) :: [(q0, ic_a dA 0 138), (q1, ic_a dA 0 46), (q2, ic_a dA 2 2), (q3, ic_a dA 0 46)]) s H locs := hH
  refine lv_aload_n hx hb (show decode _ 36 = .ok (.aload_n 0, 1) by decide +kernel) rfl (lv_at hl 0 rfl) ?_
  refine lv_sipush (v := 160) hx hb (show decode _ 37 = .ok (.sipush 160, 3) by decide +kernel) (by decide) ?_
  refine ic_nf (atype := .int) (ty := .int) (t := 0) (index := 23) (ci := 6) (k := 6) (N' := 160) rfl (fun _ => rfl) C hnm hH (by decide +kernel) (fun _ => rfl) (by decide) (by decide) (by decide) (Nat.le_of_ble_eq_true rfl) (Nat.le_of_ble_eq_true rfl) (show decode _ 40 = .ok (.newarray .int, 2) by decide +kernel) rfl (by decide) (by decide +kernel) rfl rfl (fun _ => rfl) (fun _ => rfl) (Nat.le_of_ble_eq_true rfl) (show decode _ 42 = .ok (.putfield 23, 3) by decide +kernel) (fun q6 H locs hH => ?_)
  have hH : ic_H D A (ic_wD dA (ad0 0) ad0 ++ (h0, .inr (6, [.ref q0, .ref q1, .ref q2, .ref q3, .int 0, .int 0, .ref q6, .int 0, .int 0, .int 0, .int 0, .int 0, .int 0, .int 0, .int 0, .int 0, .null, .null, .long 0, .long 0, .long 0, .null, .null, .null, .null, .null, .int 0, .null])) :: [(q0, ic_a dA 0 138), (q1, ic_a dA 0 46), (q2, ic_a dA 2 2), (q3, ic_a dA 0 46), (q6, ic_a dA 0 160)]) s H locs := hH
  refine lv_aload_n hx hb (show decode _ 45 = .ok (.aload_n 0, 1) by decide +kernel) rfl (lv_at hl 0 rfl) ?_
  refine lv_iconst (v := 5) hx hb (show decode _ 46 = .ok (.iconst 5, 1) by decide +kernel) (by decide) ?_
  refine ic_nf (atype := .int) (ty := .int) (t := 0) (index := 26) (ci := 6) (k := 16) (N' := 5) rfl (fun _ => rfl) C hnm hH (by decide +kernel) (fun _ => rfl) (by decide) (by decide) (by decide) (Nat.le_of_ble_eq_true rfl) (Nat.le_of_ble_eq_true rfl) (show decode _ 47 = .ok (.newarray .int, 2) by decide +kernel) rfl (by decide) (by decide +kernel) rfl rfl (fun _ => rfl) (fun _ => rfl) (Nat.le_of_ble_eq_true rfl) (show decode _ 49 = .ok (.putfield 26, 3) by decide +kernel) (fun q16 H locs hH => ?_)
  have hH : ic_H D A (ic_wD dA (ad0 0) ad0 ++ (h0, .inr (6, [.ref q0, .ref q1, .ref q2, .ref q3, .int 0, .int 0, .ref q6, .int 0, .int 0, .int 0, .int 0, .int 0, .int 0, .int 0, .int 0, .int 0, .ref q16, .null, .long 0, .long 0, .long 0, .null, .null, .null, .null, .null, .int 0, .null])) :: [(q0, ic_a dA 0 138), (q1, ic_a dA 0 46), (q2, ic_a dA 2 2), (q3, ic_a dA 0 46), (q6, ic_a dA 0 160), (q16, ic_a dA 0 5)]) s H locs := hH
  refine lv_aload_n hx hb (show decode _ 52 = .ok (.aload_n 0, 1) by decide +kernel) rfl (lv_at hl 0 rfl) ?_
  refine lv_iconst (v := 5) hx hb (show decode _ 53 = .ok (.iconst 5, 1) by decide +kernel) (by decide) ?_
  refine ic_nf (atype := .int) (ty := .int) (t := 0) (index := 29) (ci := 6) (k := 17) (N' := 5) rfl (fun _ => rfl) C hnm hH (by decide +kernel) (fun _ => rfl) (by decide) (by decide) (by decide) (Nat.le_of_ble_eq_true rfl) (Nat.le_of_ble_eq_true rfl) (show decode _ 54 = .ok (.newarray .int, 2) by decide +kernel) rfl (by decide) (by decide +kernel) rfl rfl (fun _ => rfl) (fun _ => rfl) (Nat.le_of_ble_eq_true rfl) (show decode _ 56 = .ok (.putfield 29, 3) by decide +kernel) (fun q17 H locs hH => ?_)
  have hH : ic_H D A (ic_wD dA (ad0 0) ad0 ++ (h0, .inr (6, [.ref q0, .ref q1, .ref q2, .ref q3, .int 0, .int 0, .ref q6, .int 0, .int 0, .int 0, .int 0, .int 0, .int 0, .int 0, .int 0, .int 0, .ref q16, .ref q17, .long 0, .long 0, .long 0, .null, .null, .null, .null, .null, .int 0, .null])) :: [(q0, ic_a dA 0 138), (q1, ic_a dA 0 46), (q2, ic_a dA 2 2), (q3, ic_a dA 0 46), (q6, ic_a dA 0 160), (q16, ic_a dA 0 5), (q17, ic_a dA 0 5)]) s H locs := hH
  refine lv_aload_n hx hb (show decode _ 59 = .ok (.aload_n 0, 1) by decide +kernel) rfl (lv_at hl 0 rfl) ?_
  refine lv_bipush (v := 21) hx hb (show decode _ 60 = .ok (.bipush 21, 2) by decide +kernel) (by decide) ?_
  refine ic_nf (atype := .int) (ty := .int) (t := 0) (index := 32) (ci := 6) (k := 21) (N' := 21) rfl (fun _ => rfl) C hnm hH (by decide +kernel) (fun _ => rfl) (by decide) (by decide) (by decide) (Nat.le_of_ble_eq_true rfl) (Nat.le_of_ble_eq_true rfl) (show decode _ 62 = .ok (.newarray .int, 2) by decide +kernel) rfl (by decide) (by decide +kernel) rfl rfl (fun _ => rfl) (fun _ => rfl) (Nat.le_of_ble_eq_true rfl) (show decode _ 64 = .ok (.putfield 32, 3) by decide +kernel) (fun q21 H locs hH => ?_)
  have hH : ic_H D A (ic_wD dA (ad0 0) ad0 ++ (h0, .inr (6, [.ref q0, .ref q1, .ref q2, .ref q3, .int 0, .int 0, .ref q6, .int 0, .int 0, .int 0, .int 0, .int 0, .int 0, .int 0, .int 0, .int 0, .ref q16, .ref q17, .long 0, .long 0, .long 0, .ref q21, .null, .null, .null, .null, .int 0, .null])) :: [(q0, ic_a dA 0 138), (q1, ic_a dA 0 46), (q2, ic_a dA 2 2), (q3, ic_a dA 0 46), (q6, ic_a dA 0 160), (q16, ic_a dA 0 5), (q17, ic_a dA 0 5), (q21, ic_a dA 0 21)]) s H locs := hH
  refine lv_aload_n hx hb (show decode _ 67 = .ok (.aload_n 0, 1) by decide +kernel) rfl (lv_at hl 0 rfl) ?_
  refine lv_sipush (v := 210) hx hb (show decode _ 68 = .ok (.sipush 210, 3) by decide +kernel) (by decide) ?_
  refine ic_nf (atype := .int) (ty := .int) (t := 0) (index := 35) (ci := 6) (k := 22) (N' := 210) rfl (fun _ => rfl) C hnm hH (by decide +kernel) (fun _ => rfl) (by decide) (by decide) (by decide) (Nat.le_of_ble_eq_true rfl) (Nat.le_of_ble_eq_true rfl) (show decode _ 71 = .ok (.newarray .int, 2) by decide +kernel) rfl (by decide) (by decide +kernel) rfl rfl (fun _ => rfl) (fun _ => rfl) (Nat.le_of_ble_eq_true rfl) (show decode _ 73 = .ok (.putfield 35, 3) by decide +kernel) (fun q22 H locs hH => ?_)
  have hH : ic_H D A (ic_wD dA (ad0 0) ad0 ++ (h0, .inr (6, [.ref q0, .ref q1, .ref q2, .ref q3, .int 0, .int 0, .ref q6, .int 0, .int 0, .int 0, .int 0, .int 0, .int 0, .int 0, .int 0, .int 0, .ref q16, .ref q17, .long 0, .long 0, .long 0, .ref q21, .ref q22, .null, .null, .null, .int 0, .null])) :: [(q0, ic_a dA 0 138), (q1, ic_a dA 0 46), (q2, ic_a dA 2 2), (q3, ic_a dA 0 46), (q6, ic_a dA 0 160), (q16, ic_a dA 0 5), (q17, ic_a dA 0 5), (q21, ic_a dA 0 21), (q22, ic_a dA 0 210)]) s H locs := hH
  refine lv_aload_n hx hb (show decode _ 76 = .ok (.aload_n 0, 1) by decide +kernel) rfl (lv_at hl 0 rfl) ?_
  refine lv_iconst (v := 4) hx hb (show decode _ 77 = .ok (.iconst 4, 1) by decide +kernel) (by decide) ?_
  refine ic_nf (atype := .int) (ty := .int) (t := 0) (index := 38) (ci := 6) (k := 23) (N' := 4) rfl (fun _ => rfl) C hnm hH (by decide +kernel) (fun _ => rfl) (by decide) (by decide) (by decide) (Nat.le_of_ble_eq_true rfl) (Nat.le_of_ble_eq_true rfl) (show decode _ 78 = .ok (.newarray .int, 2) by decide +kernel) rfl (by decide) (by decide +kernel) rfl rfl (fun _ => rfl) (fun _ => rfl) (Nat.le_of_ble_eq_true rfl) (show decode _ 80 = .ok (.putfield 38, 3) by decide +kernel) (fun q23 H locs hH => ?_)
  have hH : ic_H D A (ic_wD dA (ad0 0) ad0 ++ (h0, .inr (6, [.ref q0, .ref q1, .ref q2, .ref q3, .int 0, .int 0, .ref q6, .int 0, .int 0, .int 0, .int 0, .int 0, .int 0, .int 0, .int 0, .int 0, .ref q16, .ref q17, .long 0, .long 0, .long 0, .ref q21, .ref q22, .ref q23, .null, .null, .int 0, .null])) :: [(q0, ic_a dA 0 138), (q1, ic_a dA 0 46), (q2, ic_a dA 2 2), (q3, ic_a dA 0 46), (q6, ic_a dA 0 160), (q16, ic_a dA 0 5), (q17, ic_a dA 0 5), (q21, ic_a dA 0 21), (q22, ic_a dA 0 210), (q23, ic_a dA 0 4)]) s H locs := hH
  refine lv_aload_n hx hb (show decode _ 83 = .ok (.aload_n 0, 1) by decide +kernel) rfl (lv_at hl 0 rfl) ?_
  refine lv_iconst (v := 4) hx hb (show decode _ 84 = .ok (.iconst 4, 1) by decide +kernel) (by decide) ?_
  refine ic_nf (atype := .int) (ty := .int) (t := 0) (index := 41) (ci := 6) (k := 24) (N' := 4) rfl (fun _ => rfl) C hnm hH (by decide +kernel) (fun _ => rfl) (by decide) (by decide) (by decide) (Nat.le_of_ble_eq_true rfl) (Nat.le_of_ble_eq_true rfl) (show decode _ 85 = .ok (.newarray .int, 2) by decide +kernel) rfl (by decide) (by decide +kernel) rfl rfl (fun _ => rfl) (fun _ => rfl) (Nat.le_of_ble_eq_true rfl) (show decode _ 87 = .ok (.putfield 41, 3) by decide +kernel) (fun q24 H locs hH => ?_)
  have hH : ic_H D A (ic_wD dA (ad0 0) ad0 ++ (h0, .inr (6, [.ref q0, .ref q1, .ref q2, .ref q3, .int 0, .int 0, .ref q6, .int 0, .int 0, .int 0, .int 0, .int 0, .int 0, .int 0, .int 0, .int 0, .ref q16, .ref q17, .long 0, .long 0, .long 0, .ref q21, .ref q22, .ref q23, .ref q24, .null, .int 0, .null])) :: [(q0, ic_a dA 0 138), (q1, ic_a dA 0 46), (q2, ic_a dA 2 2), (q3, ic_a dA 0 46), (q6, ic_a dA 0 160), (q16, ic_a dA 0 5), (q17, ic_a dA 0 5), (q21, ic_a dA 0 21), (q22, ic_a dA 0 210), (q23, ic_a dA 0 4), (q24, ic_a dA 0 4)]) s H locs := hH
  refine lv_aload_n hx hb (show decode _ 90 = .ok (.aload_n 0, 1) by decide +kernel) rfl (lv_at hl 0 rfl) ?_
  refine lv_sipush (v := 160) hx hb (show decode _ 91 = .ok (.sipush 160, 3) by decide +kernel) (by decide) ?_
  refine ic_nf (atype := .int) (ty := .int) (t := 0) (index := 44) (ci := 6) (k := 25) (N' := 160) rfl (fun _ => rfl) C hnm hH (by decide +kernel) (fun _ => rfl) (by decide) (by decide) (by decide) (Nat.le_of_ble_eq_true rfl) (Nat.le_of_ble_eq_true rfl) (show decode _ 94 = .ok (.newarray .int, 2) by decide +kernel) rfl (by decide) (by decide +kernel) rfl rfl (fun _ => rfl) (fun _ => rfl) (Nat.le_of_ble_eq_true rfl) (show decode _ 96 = .ok (.putfield 44, 3) by decide +kernel) (fun q25 H locs hH => ?_)
  have hH : ic_H D A (ic_wD dA (ad0 0) ad0 ++ (h0, .inr (6, [.ref q0, .ref q1, .ref q2, .ref q3, .int 0, .int 0, .ref q6, .int 0, .int 0, .int 0, .int 0, .int 0, .int 0, .int 0, .int 0, .int 0, .ref q16, .ref q17, .long 0, .long 0, .long 0, .ref q21, .ref q22, .ref q23, .ref q24, .ref q25, .int 0, .null])) :: [(q0, ic_a dA 0 138), (q1, ic_a dA 0 46), (q2, ic_a dA 2 2), (q3, ic_a dA 0 46), (q6, ic_a dA 0 160), (q16, ic_a dA 0 5), (q17, ic_a dA 0 5), (q21, ic_a dA 0 21), (q22, ic_a dA 0 210), (q23, ic_a dA 0 4), (q24, ic_a dA 0 4), (q25, ic_a dA 0 160)]) s H locs := hH
  refine lv_aload_n hx hb (show decode _ 99 = .ok (.aload_n 0, 1) by decide +kernel) rfl (lv_at hl 0 rfl) ?_
  refine lv_bipush (v := 46) hx hb (show decode _ 100 = .ok (.bipush 46, 2) by decide +kernel) (by decide) ?_
  refine ic_nf (atype := .int) (ty := .int) (t := 0) (index := 47) (ci := 6) (k := 27) (N' := 46) rfl (fun _ => rfl) C hnm hH (by decide +kernel) (fun _ => rfl) (by decide) (by decide) (by decide) (Nat.le_of_ble_eq_true rfl) (Nat.le_of_ble_eq_true rfl) (show decode _ 102 = .ok (.newarray .int, 2) by decide +kernel) rfl (by decide) (by decide +kernel) rfl rfl (fun _ => rfl) (fun _ => rfl) (Nat.le_of_ble_eq_true rfl) (show decode _ 104 = .ok (.putfield 47, 3) by decide +kernel) (fun q27 H locs hH => ?_)
  have hH : ic_H D A (ic_wD dA (ad0 0) ad0 ++ (h0, .inr (6, [.ref q0, .ref q1, .ref q2, .ref q3, .int 0, .int 0, .ref q6, .int 0, .int 0, .int 0, .int 0, .int 0, .int 0, .int 0, .int 0, .int 0, .ref q16, .ref q17, .long 0, .long 0, .long 0, .ref q21, .ref q22, .ref q23, .ref q24, .ref q25, .int 0, .ref q27])) :: [(q0, ic_a dA 0 138), (q1, ic_a dA 0 46), (q2, ic_a dA 2 2), (q3, ic_a dA 0 46), (q6, ic_a dA 0 160), (q16, ic_a dA 0 5), (q17, ic_a dA 0 5), (q21, ic_a dA 0 21), (q22, ic_a dA 0 210), (q23, ic_a dA 0 4), (q24, ic_a dA 0 4), (q25, ic_a dA 0 160), (q27, ic_a dA 0 46)]) s H locs := hH
  refine W.widen (k := 13) (n := 847) (by omega) (by omega) ?_
  exact im_rest2 (u := fun k => ([q0, q1, q2, q3, q6, q16, q17, q21, q22, q23, q24, q25, q27] : List Nat).getD k 0) C hr hlk hX hH hl
set_option maxRecDepth 100000 in
set_option maxHeartbeats 4000000 in
theorem i_Model (l : Launch) (D : va_G) (dA : Nat → ClassId) (A : Nat → Prop) (ad0 : Nat → Nat) (h0 : Nat) : Met l yX6_init (ic_ws ic_IM) (ic_rm 2 13 847) (va_Pc [.ref h0] (fun U => ic_B D dA A (ic_wD dA (ad0 0) ad0 ++ [(h0, .inr (6, ic_oM))]) U ∧ hd_X (D, ad0, dA) A U)) (va_Qv (ic_SM ad0 h0) (fun u t => va_P D hd_cl (hd_w (D, u.1, dA) u.2.1 u.2.2) t.heap ∧ va_D A (hd_w (D, u.1, dA) u.2.1 u.2.2)) A) 13 847 A := by
  refine Met.ofW (cc := cX6_init) (maxL := 2) (ret := none) (by decide) rfl ?_
  intro p e s m args below meth c s₁ B hml hv
  obtain ⟨rfl, ⟨hP, hD, hK, hN, hA⟩, hX⟩ := hv
  have hts := atoms_spec (ws := ic_ws ic_IM) B.pre
  have hown : s.vm.findClass RX6 = some m.cls := findClass_of_methodNamed B.named
  have hnm : meth.name = "<init>" := (name_of_methodNamed B.named B.method).1
  have C : ic_C RX6 cX6_init 2 p s m #[.ref h0] c D dA A := ⟨B.exec, B.bytes, hml, hown, fun w hw => hts w (List.mem_cons_of_mem _ hw), hK, hN, hA⟩
  have hl := lv_entry ([.ref h0]) (n := 2) (Nat.le_of_ble_eq_true rfl)
  rw [lg_entry_eq]
  exact im_walk C hnm B.returns B.notSynchronized hX ⟨hP, hD, va_S.rf⟩ hl
