/-! THE CONSTRUCTOR OF HamperDaysModel; printed by wip/whole/ini3.py -/
def ic_M : hd_M := fun k j => bif (Nat.beq k 1 || Nat.beq k 7 || Nat.beq k 20 || Nat.beq k 30) then (bif Nat.beq j 7 then 30 else bif Nat.beq j 8 then 1 else 0) else bif (Nat.beq k 40 || Nat.beq k 42 || Nat.beq k 44 || Nat.beq k 46) then (bif Nat.beq j 2 then -1 else 0) else 0
def ic_ad (ad0 : Nat → Nat) (h0 : Nat) (u : Nat → Nat) : Nat → Nat := fun k => bif Nat.blt k 51 then ad0 k else bif Nat.blt k 65 then (bif Nat.beq k 51 then h0 else u (k - 52)) else ad0 k
theorem ic_ad_hi {ad0 : Nat → Nat} {h0 : Nat} {u : Nat → Nat} {k : Nat} (h : 65 ≤ k) : ic_ad ad0 h0 u k = ad0 k := by
  have h1 : Nat.blt k 51 = false := Bool.eq_false_iff.mpr (fun z => by have := Nat.le_of_ble_eq_true z; omega)
  have h2 : Nat.blt k 65 = false := Bool.eq_false_iff.mpr (fun z => by have := Nat.le_of_ble_eq_true z; omega)
  unfold ic_ad
  rw [h1, h2]
  rfl
abbrev ic_oM : List Value := [.null, .null, .null, .null, .int 0, .int 0, .null, .int 0, .int 0, .int 0, .int 0, .int 0, .int 0, .int 0, .int 0, .int 0, .null, .null, .long 0, .long 0, .long 0, .null, .null, .null, .null, .null, .int 0, .null]
def wr_go {α β : Type} (f : Nat → α → β) : Nat → List α → List β
  | _, [] => []
  | k, a :: r => f k a :: wr_go f (k + 1) r
theorem wr_at {α β : Type} (f : Nat → α → β) : ∀ (l : List α) (k i : Nat), (wr_go f k l)[i]? = l[i]?.map (f (k + i)) := by
  intro l
  induction l with
  | nil => intro k i; rfl
  | cons a r ih =>
    intro k i
    match i with
    | 0 => rfl
    | i + 1 =>
      show (wr_go f (k + 1) r)[i]? = r[i]?.map _
      rw [ih, show k + 1 + i = k + (i + 1) by omega]
theorem wr_eq {α β : Type} (f : Nat → α → β) (l : List α) : l.mapIdx f = wr_go f 0 l := by
  apply List.ext_getElem?
  intro i
  rw [List.getElem?_mapIdx, wr_at, Nat.zero_add]
def ic_e (ad : Nat → Nat) (dA : Nat → ClassId) (M : hd_M) (N : hd_N) (k : Nat) : hd_S → Nat × va_E
  | .inl (t, n) => (ad k, .inl (dA t, n, .inl (M k)))
  | .inr (.inl (t, rs)) => (ad k, .inl (dA t, rs.length, .inr (.inr (.inr (.inr (ic_ar rs ad))))))
  | .inr (.inr (ci, fs)) => (ad k, .inr (ci, wr_go (hd_f ad M N k) 0 fs))
theorem ic_w (D : va_G) (dA : Nat → ClassId) (ad : Nat → Nat) (M : hd_M) (N : hd_N) : hd_w (D, ad, dA) M N = wr_go (ic_e ad dA M N) 0 hd_shp := by
  unfold hd_w
  rw [wr_eq]
  congr 1
  funext k sh
  rcases sh with ⟨t, n⟩ | ⟨t, rs⟩ | ⟨ci, fs⟩
  · rfl
  · rfl
  · show (ad k, Sum.inr (ci, fs.mapIdx (hd_f ad M N k))) = (ad k, Sum.inr (ci, wr_go (hd_f ad M N k) 0 fs))
    rw [wr_eq]
set_option maxRecDepth 100000 in
theorem ic_weq (D : va_G) (dA : Nat → ClassId) (ad0 : Nat → Nat) (h0 : Nat) (u : Nat → Nat) : hd_w (D, ic_ad ad0 h0 u, dA) ic_M (fun _ _ => 0) = ic_wD dA (ad0 0) ad0 ++ (h0, .inr (6, [.ref (u 0), .ref (u 1), .ref (u 2), .ref (u 3), .int 0, .int 0, .ref (u 4), .int 0, .int 0, .int 0, .int 0, .int 0, .int 0, .int 0, .int 0, .int 0, .ref (u 5), .ref (u 6), .long 0, .long 0, .long 0, .ref (u 7), .ref (u 8), .ref (u 9), .ref (u 10), .ref (u 11), .int 0, .ref (u 12)])) :: [(u 0, ic_a dA 0 138), (u 1, ic_a dA 0 46), (u 2, ic_a dA 2 2), (u 3, ic_a dA 0 46), (u 4, ic_a dA 0 160), (u 5, ic_a dA 0 5), (u 6, ic_a dA 0 5), (u 7, ic_a dA 0 21), (u 8, ic_a dA 0 210), (u 9, ic_a dA 0 4), (u 10, ic_a dA 0 4), (u 11, ic_a dA 0 160), (u 12, ic_a dA 0 46)] := by
  have e1 : ic_ar [19, 29] ad0 = ic_ar [19, 29] (ic_ad ad0 h0 u) := by rw [ic_ar2, ic_ar2]; rfl
  have e2 : ic_ar [40, 42, 44, 46] ad0 = ic_ar [40, 42, 44, 46] (ic_ad ad0 h0 u) := by rw [ic_ar4, ic_ar4]; rfl
  rw [ic_w]
  show _ = ic_wD2 dA (ad0 0) ad0 (ic_ar [19, 29] ad0) (ic_ar [40, 42, 44, 46] ad0) ++ _
  rw [e1, e2]
  rfl
theorem ic_X {D : va_G} {dA : Nat → ClassId} {A : Nat → Prop} {s : State} {ad ad0 : Nat → Nat} (h : ∀ k, 65 ≤ k → ad k = ad0 k) (hX : hd_X (D, ad0, dA) A s) : hd_X (D, ad, dA) A s := by
  have e1 : (fun i => ad (1000 + i)) = fun i => ad0 (1000 + i) := funext fun i => h _ (by omega)
  have e2 : (fun i => ad (1100 + i)) = fun i => ad0 (1100 + i) := funext fun i => h _ (by omega)
  obtain ⟨⟨h1, h2⟩, h3, h4, h5⟩ := hX
  refine ⟨⟨h1, ?_⟩, ?_, fun i q hq => ?_, h5⟩
  · show _ ∨ va_Z _ _ _ (.ref (ad 1200)) A s s.heap
    rw [h 1200 (by omega)]
    exact h2
  · show vk_S _ _ _ (fun i => ad (1000 + i)) (fun i => ad (1100 + i)) A s s.heap
    rw [e1, e2]
    exact h3
  · show vk_R _ _ _ (ad (1000 + i)) s
    rw [h _ (by omega)]
    exact h4 i q hq
def ic_st : ab_T := (dy_0, (0, fun _ => 0, fun _ => 0), (0, fun _ => 0), (fun _ => (false, dy_0, 0, fun _ => 0, fun _ => 0)), (fun _ => (true, 0, 0, fun _ => 0)), 0, 0)
theorem ic_OK : OK ic_st := by
  refine ⟨txd_0.ok, ⟨by decide, fun s h => absurd h (Nat.not_lt_zero s)⟩, ⟨by decide, fun i h => absurd h (Nat.not_lt_zero i)⟩, fun k hk h => (by cases h), fun k hk h => (by cases h)⟩
theorem ic_CI : CI ic_M ic_st := by
  refine ⟨⟨rfl, rfl, rfl, rfl, rfl, fun i h => absurd h (Nat.not_lt_zero i), fun i h => absurd h (Nat.not_lt_zero i), fun i h => absurd h (Nat.not_lt_zero i), fun i h => absurd h (Nat.not_lt_zero i)⟩, ⟨rfl, fun i h => absurd h (Nat.not_lt_zero i), fun i h => absurd h (Nat.not_lt_zero i)⟩, ⟨rfl, fun i h => absurd h (Nat.not_lt_zero i)⟩, fun k hk => ⟨?_, fun h => by cases h⟩, fun k hk => ⟨fun _ => ?_, fun h => by cases h⟩, rfl, rfl⟩
  · match k, hk with
    | 0, _ => rfl
    | 1, _ => rfl
  · match k, hk with
    | 0, _ => rfl
    | 1, _ => rfl
    | 2, _ => rfl
    | 3, _ => rfl
abbrev ic_f51 : List (Nat × Nat) := [(2, 52), (2, 53), (2, 54), (2, 55), (0, 0), (0, 0), (2, 56), (0, 0), (0, 0), (0, 0), (0, 0), (0, 0), (0, 0), (0, 0), (0, 0), (0, 0), (2, 57), (2, 58), (1, 0), (1, 0), (1, 0), (2, 59), (2, 60), (2, 61), (2, 62), (2, 63), (0, 0), (2, 64)]
theorem ic_s51 : hd_shp[51]? = some (.inr (.inr (6, ic_f51))) := rfl
section
variable {p : Program} {l : Launch} {e : Env} {R : Room} {s : State} {m : MethodId} {args : Array Value} {below : List Frame} {meth : Method} {c : Code} {H : Heap} {locs : List Loc} {cells slots : Nat} {Q : State → Prop}
variable {cc : ByteArray} {pc : Nat} {ls : Array Slot} {rest : List Value} {D : va_G} {dA : Nat → ClassId} {ad : Nat → Nat} {A : Nat → Prop} {M : hd_M} {N : hd_N}
theorem im_get {index : Nat} (C : ic_C RX6 cc 2 p s m args c D dA A) (hH : hd_H (D, ad, dA) A M N s H locs) (hl : Cond.fieldLink RX6 index "HamperDaysModel" "lanes" "[I" ∈ hd_tbl) (hdg : decode cc pc = .ok (.getfield index, 3)) (kk : W p l e R s m args below meth c H locs cells slots Q (F0 m (pc + 3) ls (.ref (ad 61) :: rest))) : W p l e R s m args below meth c H locs cells slots Q (F0 m pc ls (.ref (ad 51) :: rest)) := by
  obtain ⟨hx, hb, hml, hown, hts, hK, hN9, hA⟩ := C
  exact va_get (D := D) (cl := hd_cl) (tys := hd_tys dA) (ws := hd_w (D, ad, dA) M N) (C := RX6) (T := TX6) (N := 28) (ci := 6) hx hb hts (hd_uws 6 _ rfl) hown hK hH.1 51 (hd_w_at ic_s51) rfl 23 (by decide) (hts _ hl) (fun _ h9 => h9) (v := .ref (ad 61)) (by rw [List.getElem?_mapIdx]; rfl) hdg kk
theorem im_ast {j : Nat} {i x : Int32} (C : ic_C RX6 cc 2 p s m args c D dA A) (hH : hd_H (D, ad, dA) A M N s H locs) (hi : i.toNatClampNeg = j) (hin : vp_in i 4) (hdg : decode cc pc = .ok (.iastore, 1)) (kk : ∀ (H1 : Heap) (locs1 : List Loc), hd_H (D, ad, dA) A (hd_u M 61 j x) N s H1 locs1 → W p l e R s m args below meth c H1 locs1 cells slots Q (F0 m (pc + 1) ls rest)) : W p l e R s m args below meth c H locs cells slots Q (F0 m pc ls (.int x :: .int i :: .ref (ad 61) :: rest)) := by
  obtain ⟨hx, hb, hml, hown, hts, hK, hN9, hA⟩ := C
  subst hi
  have hs : hd_shp[61]? = some (.inl (0, 4)) := rfl
  refine va_iast (ws := hd_w (D, ad, dA) M N) hx hb hK hH.1 hH.2.1 hH.2.2 61 0 (hd_w_at hs) rfl hin hdg ?_
  intro H1 locs1 hP hD hS
  rw [hd_w_put hs] at hP hD
  exact kk H1 locs1 ⟨hP, hD, hS⟩
theorem im_call {J : hd_I} {index : Nat} {P : hd_Q} (C : ic_C RX6 cc 2 p s m args c D dA A) (hX : hd_X (D, ad, dA) A s) (hls : ls.size = 2) (hH : hd_H (D, ad, dA) A M N s H locs) (hd : decode cc pc = .ok (.invokevirtual index, 3)) (q1 : Cond.code J.2.1 J.2.2.1 J.2.2.2.1 J.2.2.2.2.1 ∈ hd_tbl) (q2 : Cond.initialized J.2.1.cls ∈ hd_tbl) (q3 : plainName J.2.1.cls = true) (q4 : J.1 = J.2.1.cls) (q5 : J.2.1.cls ≠ "java/lang/invoke/MethodHandle" ∧ J.2.1.cls ≠ "java/lang/invoke/VarHandle" ∧ (parseMethodDescriptor J.2.1.desc).map (fun d => d.parameters.length) = some 0) (hl : Cond.methodLink RX6 index J.2.1 ∈ hd_tbl) (hin : Cond.instanceMethod J.2.1 ∈ hd_tbl) (hsel : Cond.selects J.2.1.cls J.2.1 J.2.1 ∈ hd_tbl) (hcls : RX6 = J.2.1.cls) (hlen : 1 ≤ J.2.2.2.1) (hR : J.2.2.2.2.2.1 + 1 ≤ R.frames ∧ 8 + (J.2.2.2.1 + 11) + 36 * J.2.2.2.2.2.1 ≤ R.locals) (hf : cells ≤ R.cells ∧ slots ≤ R.slots)
    (h : hd_Ret J [.ref 51] M N P) (hP0 : ∀ r M1 N1, P r M1 N1 → r = none) (kk : ∀ r M1 N1, P r M1 N1 → ∀ (H1 : Heap) (locs1 : List Loc), hd_H (D, ad, dA) A M1 N1 s H1 locs1 → W p l e R s m args below meth c H1 locs1 cells slots Q (F0 m (pc + 3) ls [])) : W p l e R s m args below meth c H locs cells slots Q (F0 m pc ls [.ref (ad 51)]) := by
  obtain ⟨hx, hb, hml, hown, hT, hK, hN9, hA⟩ := C
  have hrecv := va_recv (ws := hd_w (D, ad, dA) M N) (a := ad 51) hK hH.1 (q := (RX6, TX6, 28)) (ci := 6) rfl (q0 := 51) (hd_w_at ic_s51)
  have hrecv : ∃ cell : Cell, H[ad 51]? = some cell ∧ cell.vm.isStatics = false ∧ s.vm.findClass J.2.1.cls = some cell.cls := by rw [← hcls]; exact hrecv
  refine hd_after (P := P) (st := []) (G := (D, ad, dA)) (a := (([.ref 51] : List Value).map (hd_v ad)).toArray) (va_runV (C := J.2.1.cls) (b := ad 51) (As := []) (rest := []) ⟨hx, hb, hml, hown, hT⟩ (hd_met h q3 q4 hlen l (D, ad, dA) A) ⟨callB_of 0 hT (hd_goodws q1) rfl rfl rfl (hT _ q2) (hT _ hl) q5 hR, hT _ hin, hT _ hsel⟩ ⟨hd_blind, hrecv, fun U hU hW => ⟨rfl, hd_enter hK hX hH U hU hW⟩⟩ rfl rfl hls rfl (Nat.zero_le _) hd hf) hH ?_
  intro r M1 N1 hp H1 locs1 hH1
  have e := hP0 r M1 N1 hp
  have := kk r M1 N1 hp H1 locs1 hH1
  subst e
  exact this
end
abbrev ic_IM : ic_I := (yX6_init, cX6_init, 2, 2, 13, 847)
abbrev ic_SM (ad0 : Nat → Nat) (h0 : Nat) (u : (Nat → Nat) × hd_M × hd_N) : Prop := (∀ k, 65 ≤ k → u.1 k = ad0 k) ∧ u.1 0 = ad0 0 ∧ u.1 51 = h0 ∧ CI u.2.1 ic_st ∧ RI u.2.1 ic_st
theorem ic_RI {M2 M3 : hd_M} (h2 : fr (fun c j => c = 55 ∨ (c = 51 ∧ 4 ≤ j ∧ j ≤ 5)) (hd_u (hd_u (hd_u (hd_u ic_M 61 0 (-4)) 61 1 (-4)) 61 2 (-4)) 61 3 (-4)) M2) (h3 : fr (fun c _ => c = 52 ∨ c = 54 ∨ c = 55) M2 M3) (h4 : rf M3 52 0 dy_0) (h5 : M3 52 33 = 0) (h6 : M3 54 0 = 0) (h7 : M3 54 1 = 0) : CI M3 ic_st ∧ RI M3 ic_st := by
  have k1 : ∀ c j, c ≠ 52 → c ≠ 54 → c ≠ 55 → ¬ (c = 51 ∧ 4 ≤ j ∧ j ≤ 5) → M3 c j = hd_u (hd_u (hd_u (hd_u ic_M 61 0 (-4)) 61 1 (-4)) 61 2 (-4)) 61 3 (-4) c j := by
    intro c j a b d e
    rw [h3 c j (by omega), h2 c j (by omega)]
  have k2 : ∀ c j, c ≠ 52 → c ≠ 54 → c ≠ 55 → c ≠ 61 → ¬ (c = 51 ∧ 4 ≤ j ∧ j ≤ 5) → M3 c j = ic_M c j := by
    intro c j a b d g e
    rw [k1 c j a b d e, hd_u_n (by omega), hd_u_n (by omega), hd_u_n (by omega), hd_u_n (by omega)]
  refine ⟨CI.mv ic_CI (fun c j hc => ?_), h4, ⟨h5, fun i h => absurd h (Nat.not_lt_zero i)⟩, ⟨?_, fun i h => absurd h (Nat.not_lt_zero i)⟩, fun k hk => ⟨?_, fun h => by cases h⟩, fun k hk => ⟨fun _ => ?_, fun h => by cases h⟩, ?_, ?_⟩
  · have hc : ¬ ((6 ≤ c ∧ c ≤ 12) ∨ 48 ≤ c) := hc
    exact k2 c j (by omega) (by omega) (by omega) (by omega) (by omega)
  · exact k2 51 7 (by omega) (by omega) (by omega) (by omega) (by omega)
  · match k, hk with
    | 0, _ => exact h6
    | 1, _ => exact h7
  · rw [k1 61 k (by omega) (by omega) (by omega) (by omega)]
    match k, hk with
    | 0, _ => rfl
    | 1, _ => rfl
    | 2, _ => rfl
    | 3, _ => rfl
  · exact k2 51 26 (by omega) (by omega) (by omega) (by omega) (by omega)
  · exact k2 51 12 (by omega) (by omega) (by omega) (by omega) (by omega)
