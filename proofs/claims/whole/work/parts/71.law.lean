/-! THE LAW FROM ITS ENTRY; printed by wip/whole/st2.py -/
set_option maxRecDepth 100000 in
set_option maxHeartbeats 4000000 in
/-- behind both constructors -/
theorem ws_2 {p : Program} {l : Launch} {e : Env} {s : State} {m : MethodId} {below : List Frame} {meth : Method} {c : Code} {b L : Nat} {xs : Nat → Int32} (hL : L ≤ 320) (C0 : lw_At p s m meth c b L xs) {D : va_G} {dA : Nat → ClassId} {ad : Nat → Nat} (hK : va_K D hd_cl (hd_tys dA) s) (hX : hd_X (D, ad, dA) (lw_A s) s) (hb3 : ad 1300 = b) {M : hd_M} {N : hd_N} (hI : CI M ic_st) (hR : RI M ic_st) {H : Heap} {locs : List Loc} {ls : Array Slot} {cells slots : Nat} (hc : cells ≤ 600000) (hs : slots ≤ 7302250) (hH : hd_H (D, ad, dA) (lw_A s) M N s H locs) (hl : lv_has ls 4 [(1, .ref (ad 0)), (0, .ref b)]) : W p l e room_1 s m #[Value.ref b] below meth c H locs cells slots (lw_Z below #[Value.ref b] s) (F0 m 15 ls [.ref (ad 51)]) := by
  obtain ⟨hx, hb, hr, hml, hown, hts, hXs, hbl, hlocks, hgv⟩ := id C0
  refine lv_astore_n (lv' := [(2, .ref (ad 51)), (1, .ref (ad 0)), (0, .ref b)]) hx hb (show decode code 15 = .ok (.astore_n 2, 1) by decide +kernel) rfl hl (by decide) rfl (fun ls hl => ?_)
  refine lv_iconst (v := 0) hx hb (show decode code 16 = .ok (.iconst 0, 1) by decide +kernel) (by decide) ?_
  refine lv_istore_n (lv' := [(3, .int 0), (2, .ref (ad 51)), (1, .ref (ad 0)), (0, .ref b)]) hx hb (show decode code 17 = .ok (.istore_n 3, 1) by decide +kernel) rfl hl (by decide) rfl (fun ls hl => ?_)
  refine W.widen (k := 600000) (n := 7302250) hc hs ?_
  have C : lw_C p s m meth c b L xs (D, ad, dA) := ⟨C0, hK, hX, hb3⟩
  refine law_loop C hL (L + 1) 0 M N ic_st (Nat.zero_le L) (by omega) hI hR ic_OK H locs ls hH (hd_lo.of (by decide) hl (fun i v hv => ?_))
  match i, hv with
  | 0, hv =>
    cases hv
    show (0, Value.ref (ad 1300)) ∈ _
    rw [hb3]
    simp
  | 1, hv => cases hv; show (1, Value.ref (ad 0)) ∈ _; simp
  | 2, hv => cases hv; show (2, Value.ref (ad 51)) ∈ _; simp
  | 3, hv => cases hv; show (3, Value.int 0) ∈ _; simp
  | i + 4, hv => simp [lw_lv] at hv
set_option maxRecDepth 100000 in
set_option maxHeartbeats 4000000 in
/-- behind the first constructor -/
theorem ws_1 {p : Program} {l : Launch} {e : Env} {s : State} {m : MethodId} {below : List Frame} {meth : Method} {c : Code} {b L : Nat} {xs : Nat → Int32} (hL : L ≤ 320) (C0 : lw_At p s m meth c b L xs) {D : va_G} {dA : Nat → ClassId} {ad : Nat → Nat} (C : ic_C R_law code 4 p s m #[Value.ref b] c D dA (lw_A s)) (hX : hd_X (D, ad, dA) (lw_A s) s) (hb3 : ad 1300 = b) {H : Heap} {locs : List Loc} {ls : Array Slot} {cells slots : Nat} (hc : cells ≤ 1000) (hs : slots ≤ 10000) (hH : ic_H D (lw_A s) (ic_wD dA (ad 0) ad) s H locs) (hl : lv_has ls 4 [(1, .ref (ad 0)), (0, .ref b)]) : W p l e room_1 s m #[Value.ref b] below meth c H locs cells slots (lw_Z below #[Value.ref b] s) (F0 m 8 ls []) := by
  obtain ⟨hx, hb, hml, hown, hts, hK, hN, hA⟩ := id C
  refine va_new (ci := 6) (fs := ic_oM) (C := RX6) (T := TX6) (N := 28) hx hb hts (hd_uws 6 _ rfl) (hd_ty 6) (hd_tyok 6 _ rfl).1 hown (hts (.classLink R_law 10 RX6) (by decide +kernel)) (hts (.instantiable RX6 28) (by decide +kernel)) (hts (.initialized RX6) (by decide +kernel)) hK hH.1 hH.2.1 hH.2.2 hA rfl (by decide +kernel) (Nat.le_trans (Nat.add_le_add_right hc 1) (by decide)) (Nat.le_trans (Nat.add_le_add_right hs 28) (by decide)) (show decode code 8 = .ok (.new 10, 3) by decide +kernel) (fun q1 H hP hD hS => ?_)
  refine lv_dup hx hb (show decode code 11 = .ok (.dup, 1) by decide +kernel) rfl ?_
  refine va_callv (va_runI (As := []) (rest := [.ref q1]) ⟨hx, hb, hml, hown, hts⟩ (i_Model l D dA (lw_A s) ad q1) (cwI 0 hts (ic_good (I := ic_IM) (by decide +kernel)) rfl rfl rfl (hts (.initialized RX6) (by decide +kernel)) (hts (.methodLink R_law 12 yX6_init) (by decide +kernel)) (hts (.instanceMethod yX6_init) (by decide +kernel)) rfl (by decide +kernel) ⟨by decide, by decide⟩) ⟨st_blind, fun U hU hW => ⟨rfl, ⟨by rw [hU]; exact hP, hD, va_K.moved hW.alike hK, hN.warm hW, fun q h => ?_⟩, hX.go hS hU hW⟩⟩ rfl rfl hl.1 rfl (lv_room (Nat.le_of_ble_eq_true rfl)) (show decode code 12 = .ok (.invokespecial 12, 3) by decide +kernel) ⟨?_, ?_⟩) hS (fun q _ h => h) (fun q h => h) (fun u t H1 locs1 ht hvm hw hB hz1 hk1 hS1 => ?_)
  · rw [hU] at h
    exact Nat.le_trans hS.1 h
  · exact Nat.le_trans (Nat.add_le_add_right (Nat.add_le_add_right hc 1) 13) (by decide)
  · exact Nat.le_trans (Nat.add_le_add_right (Nat.add_le_add_right hs 28) 847) (by decide)
  · obtain ⟨ad1, M, N⟩ := u
    obtain ⟨w1, w2, w3, w4, w5⟩ := hw
    obtain ⟨hP1, hD1⟩ := hB
    rw [ht] at hP1
    have w2 : ad1 0 = ad 0 := w2
    have w3 : ad1 51 = q1 := w3
    rw [← w2] at hl
    rw [← w3]
    refine ws_2 hL C0 hK (ic_X w1 hX) ((w1 1300 (by decide)).trans hb3) w4 w5 ?_ ?_ ⟨hP1, hD1, hS1⟩ hl
    · exact Nat.le_trans (Nat.add_le_add_right (Nat.add_le_add_right hc 1) 13) (by decide)
    · exact Nat.le_trans (Nat.add_le_add_right (Nat.add_le_add_right hs 28) 847) (by decide)
set_option maxRecDepth 100000 in
set_option maxHeartbeats 4000000 in
/-- from the entry, for every script of at most 320 ints, the law comes to its end with true -/
theorem whole_start {p : Program} {e : Env} {s : State} {m : MethodId} {below : List Frame} {meth : Method} {c : Code} (l : Launch) {b L : Nat} {xs : Nat → Int32} (hL : L ≤ 320) (C0 : lw_At p s m meth c b L xs) : W p l e room_1 s m #[Value.ref b] below meth c s.heap [] 0 0 (lw_Z below #[Value.ref b] s) (entryFrame m ([Value.ref b] : List Value).toArray 4) := by
  obtain ⟨hx, hb, hr, hml, hown, hts, hXs, hbl, hlocks, hgv⟩ := id C0
  have hT := lw_words hts
  have hN := st_N hts
  obtain ⟨D, dA, hK⟩ := st_K hT hN
  obtain ⟨adK, adV, t, hX⟩ := st_X hts hgv
  have C : ic_C R_law code 4 p s m #[Value.ref b] c D dA (lw_A s) := ⟨hx, hb, hml, hown, hT, hK, hN, fun q h => h⟩
  have hl := lv_entry ([.ref b]) (n := 4) (Nat.le_of_ble_eq_true rfl)
  rw [lg_entry_eq]
  generalize (lg_sl ([.ref b]) ++ List.replicate (4 - (lg_sl ([.ref b])).length) Slot.unset).toArray = ls at hl ⊢
  have hl : lv_has ls 4 [(0, .ref b)] := hl
  have hH : ic_H D (lw_A s) [] s s.heap [] := ⟨fun k q h => by simp at h, ⟨fun i j p q h => by simp at h, fun k q h => by simp at h⟩, va_S.rf⟩
  refine ic_make (idx1 := 7) (idx2 := 9) i_Days C hl.1 hH rfl (by decide +kernel) (by decide +kernel) (by decide +kernel) (by decide +kernel) (by decide) (by decide) rfl rfl (by decide +kernel) (by decide +kernel) (by decide +kernel) (Or.inl (by decide +kernel)) ⟨by decide, by decide⟩ (by decide) (show decode code 0 = .ok (.new 7, 3) by decide +kernel) (show decode code 3 = .ok (.dup, 1) by decide +kernel) (show decode code 4 = .ok (.invokespecial 9, 3) by decide +kernel) (fun q0 u H locs hH => ?_)
  refine lv_astore_n (lv' := [(1, .ref q0), (0, .ref b)]) hx hb (show decode code 7 = .ok (.astore_n 1, 1) by decide +kernel) rfl hl (by decide) rfl (fun ls hl => ?_)
  have hH : ic_H D (lw_A s) (ic_wD dA q0 u) s H locs := hH
  rw [st_w dA q0 u adK adV t b] at hH
  exact ws_1 (ad := st_ad q0 u adK adV t b) hL C0 C (hX D dA q0 b u) rfl (by decide) (by decide) hH hl
