/-! THE LAW'S LOOP: 38 calls, each on both sides; printed by wip/whole/law1.py -/
abbrev lw_A (s : State) : Nat → Prop := fun q => s.heap.size ≤ q
def lw_C (p : Program) (s : State) (m : MethodId) (meth : Method) (c : Code) (b L : Nat) (xs : Nat → Int32) (G : hd_G) : Prop := lw_At p s m meth c b L xs ∧ va_K G.1 hd_cl (hd_tys G.2.2) s ∧ hd_X G (lw_A s) s ∧ G.2.1 1300 = b
/-- the law's frame comes to its end, with true -/
def lw_Go (p : Program) (l : Launch) (e : Env) (s : State) (m : MethodId) (below : List Frame) (meth : Method) (c : Code) (b : Nat) (G : hd_G) (pc : Nat) (lv : hd_L) (st : List Value) (M : hd_M) (N : hd_N) : Prop :=
  ∀ (H : Heap) (locs : List Loc) (ls : Array Slot), hd_H G (lw_A s) M N s H locs → hd_lo ls 4 G.2.1 lv → W p l e room_1 s m #[Value.ref b] below meth c H locs 600000 7302250 (lw_Z below #[Value.ref b] s) (F0 m pc ls (st.map (hd_v G.2.1)))
def mLaw : hd_I := (R_law, x, code, 4, some .boolean, 11, [])
theorem lw_words {s : State} {b : Nat} (h : ∀ w ∈ lw_tbl, w.before #[Value.ref b] s = true) : ∀ w ∈ hd_tbl, w.before #[Value.ref b] s = true := fun w hw => h w (List.mem_filter.mp hw).1
section
variable {p : Program} {l : Launch} {e : Env} {s : State} {m : MethodId} {below : List Frame} {meth : Method} {c : Code} {b L : Nat} {xs : Nat → Int32} {G : hd_G} {pc : Nat} {lv : hd_L} {st : List Value} {M : hd_M} {N : hd_N}
theorem lw_call {J : hd_I} {index ci b0 : Nat} {fs : List (Nat × Nat)} {q : vw_C} {as st0 : List Value} {P : hd_Q} (C : lw_C p s m meth c b L xs G) (hd : decode code pc = .ok (.invokevirtual index, 3)) (hc : hd_cal mLaw J index as.length) (hl : Cond.methodLink R_law index J.2.1 ∈ hd_tbl) (hin : Cond.instanceMethod J.2.1 ∈ hd_tbl) (hsel : Cond.selects J.2.1.cls J.2.1 J.2.1 ∈ hd_tbl) (hs : hd_shp[b0]? = some (.inr (.inr (ci, fs)))) (hq : hd_cl[ci]? = some q) (hqc : q.1 = J.2.1.cls) (hst0 : st0 = as.reverse ++ .ref b0 :: st) (hlen : (hd_en1 (.ref b0 :: as)).length ≤ J.2.2.2.1) (hcat : (st.map fun v => v.category).sum ≤ 8)
    (h : hd_Ret J (.ref b0 :: as) M N P) (k : ∀ r M1 N1, P r M1 N1 → lw_Go p l e s m below meth c b G (pc + 3) lv (r.toList ++ st) M1 N1) : lw_Go p l e s m below meth c b G pc lv st0 M N := by
  intro H locs ls hH hL
  obtain ⟨⟨hx, hb, hr, hml, hown, hts, -⟩, hK, hX, -⟩ := C
  have hT := lw_words hts
  obtain ⟨q1, q2, q3, q4, q5, q6, q7⟩ := hc
  have hrecv := va_recv (ws := hd_w G M N) (a := G.2.1 b0) hK hH.1 hq (q0 := b0) (hd_w_at hs)
  rw [hqc] at hrecv
  obtain ⟨r1, r2⟩ := hd_room (d := 11) q6 q7
  have r1 : (hd_rm J.2.2.2.2.2.1).frames + 1 ≤ room_1.frames := Nat.le_trans r1 (by decide)
  have r2 : 8 + (J.2.2.2.1 + 11) + (hd_rm J.2.2.2.2.2.1).locals ≤ room_1.locals := Nat.le_trans r2 (by decide)
  refine hd_after (P := P) (a := ((.ref b0 :: as).map (hd_v G.2.1)).toArray) (va_runV (C := J.2.1.cls) (b := G.2.1 b0) (As := as.map (hd_v G.2.1)) (rest := st.map (hd_v G.2.1)) ⟨hx, hb, hml, hown, hT⟩ (hd_met h q3 q4 hlen l G (lw_A s)) ⟨callB_of as.length hT (hd_goodws q1) rfl rfl rfl (hT _ q2) (hT _ hl) q5 ⟨r1, r2⟩, hT _ hin, hT _ hsel⟩ ⟨hd_blind, hrecv, fun U hU hW => ⟨rfl, hd_enter hK hX hH U hU hW⟩⟩ rfl (List.length_map _) hL.2.1 ?_ ?_ hd ⟨Nat.le_refl _, Nat.le_refl _⟩) hH ?_
  · show st0.map (hd_v G.2.1) = _
    rw [hst0, List.map_append, List.map_reverse]
    rfl
  · rw [hd_cats]
    show 2 * 0 + _ ≤ 8
    omega
  · intro r M1 N1 hp H1 locs1 hH1
    exact k r M1 N1 hp H1 locs1 ls hH1 hL
theorem lw_aload {k : Fin 4} {i y : Nat} (C : lw_C p s m meth c b L xs G) (hd : decode code pc = .ok (.aload_n k, 1)) (hi : (k : Nat) = i) (hx : lv[i]? = some (some (.ref y))) (h : lw_Go p l e s m below meth c b G (pc + 1) lv (.ref y :: st) M N) : lw_Go p l e s m below meth c b G pc lv st M N :=
  fun H locs ls hH hL => lv_aload_n C.1.1 C.1.2.1 hd hi (hL.at hx) (h H locs ls hH hL)
theorem lw_iload {k : Fin 4} {i : Nat} {y : Int32} (C : lw_C p s m meth c b L xs G) (hd : decode code pc = .ok (.iload_n k, 1)) (hi : (k : Nat) = i) (hx : lv[i]? = some (some (.int y))) (h : lw_Go p l e s m below meth c b G (pc + 1) lv (.int y :: st) M N) : lw_Go p l e s m below meth c b G pc lv st M N :=
  fun H locs ls hH hL => lv_iload_n C.1.1 C.1.2.1 hd hi (hL.at hx) (h H locs ls hH hL)
theorem lw_iconst {n : Int} {v : Int32} (C : lw_C p s m meth c b L xs G) (hd : decode code pc = .ok (.iconst n, 1)) (hv : Int32.ofInt n = v) (h : lw_Go p l e s m below meth c b G (pc + 1) lv (.int v :: st) M N) : lw_Go p l e s m below meth c b G pc lv st M N :=
  fun H locs ls hH hL => lv_iconst C.1.1 C.1.2.1 hd hv (h H locs ls hH hL)
theorem lw_bipush {n : Int} {v : Int32} (C : lw_C p s m meth c b L xs G) (hd : decode code pc = .ok (.bipush n, 2)) (hv : (Int8.ofInt n).toInt32 = v) (h : lw_Go p l e s m below meth c b G (pc + 2) lv (.int v :: st) M N) : lw_Go p l e s m below meth c b G pc lv st M N :=
  fun H locs ls hH hL => lv_bipush C.1.1 C.1.2.1 hd hv (h H locs ls hH hL)
theorem lw_iadd {x y : Int32} (C : lw_C p s m meth c b L xs G) (hd : decode code pc = .ok (.iadd, 1)) (h : lw_Go p l e s m below meth c b G (pc + 1) lv (.int (x + y) :: st) M N) : lw_Go p l e s m below meth c b G pc lv (.int y :: .int x :: st) M N :=
  fun H locs ls hH hL => lv_iadd C.1.1 C.1.2.1 hd (h H locs ls hH hL)
theorem lw_isub {x y : Int32} (C : lw_C p s m meth c b L xs G) (hd : decode code pc = .ok (.isub, 1)) (h : lw_Go p l e s m below meth c b G (pc + 1) lv (.int (x - y) :: st) M N) : lw_Go p l e s m below meth c b G pc lv (.int y :: .int x :: st) M N :=
  fun H locs ls hH hL => lv_isub C.1.1 C.1.2.1 hd (h H locs ls hH hL)
theorem lw_iand {x y : Int32} (C : lw_C p s m meth c b L xs G) (hd : decode code pc = .ok (.iand, 1)) (h : lw_Go p l e s m below meth c b G (pc + 1) lv (.int (x &&& y) :: st) M N) : lw_Go p l e s m below meth c b G pc lv (.int y :: .int x :: st) M N :=
  fun H locs ls hH hL => lv_iand C.1.1 C.1.2.1 hd (h H locs ls hH hL)
theorem lw_lcmp {x y : Int64} (C : lw_C p s m meth c b L xs G) (hd : decode code pc = .ok (.lcmp, 1)) (h : lw_Go p l e s m below meth c b G (pc + 1) lv (.int (lg_cmp x y) :: st) M N) : lw_Go p l e s m below meth c b G pc lv (.long y :: .long x :: st) M N :=
  fun H locs ls hH hL => W.lcmp C.1.1 C.1.2.1 hd (h H locs ls hH hL)
theorem lw_eq {x y : Int32} {off : Int} {tgt : Nat} (C : lw_C p s m meth c b L xs G) (hd : decode code pc = .ok (.if_icmp .eq off, 3)) (ht : (pc : Int) + off = (tgt : Int)) (ee : x = y) (h : lw_Go p l e s m below meth c b G tgt lv st M N) : lw_Go p l e s m below meth c b G pc lv (.int y :: .int x :: st) M N :=
  fun H locs ls hH hL => lv_icmp_eq C.1.1 C.1.2.1 hd ht (fun _ => h H locs ls hH hL) (fun q => absurd ee q)
theorem lw_gt {x y : Int32} {off : Int} {tgt : Nat} (C : lw_C p s m meth c b L xs G) (hd : decode code pc = .ok (.if_icmp .gt off, 3)) (ht : (pc : Int) + off = (tgt : Int)) (h1 : y < x → lw_Go p l e s m below meth c b G tgt lv st M N) (h2 : ¬ y < x → lw_Go p l e s m below meth c b G (pc + 3) lv st M N) : lw_Go p l e s m below meth c b G pc lv (.int y :: .int x :: st) M N :=
  fun H locs ls hH hL => lv_icmp_gt C.1.1 C.1.2.1 hd ht (fun q => h1 q H locs ls hH hL) (fun q => h2 q H locs ls hH hL)
theorem lw_if0 {x : Int32} {off : Int} {tgt : Nat} (C : lw_C p s m meth c b L xs G) (hd : decode code pc = .ok (.ifCond .eq off, 3)) (ht : (pc : Int) + off = (tgt : Int)) (ee : x = 0) (h : lw_Go p l e s m below meth c b G tgt lv st M N) : lw_Go p l e s m below meth c b G pc lv (.int x :: st) M N :=
  fun H locs ls hH hL => lv_if_eq C.1.1 C.1.2.1 hd ht (fun _ => h H locs ls hH hL) (fun q => absurd ee q)
theorem lw_goto {off : Int} {tgt : Nat} (C : lw_C p s m meth c b L xs G) (hd : decode code pc = .ok (.goto off, 3)) (ht : (pc : Int) + off = (tgt : Int)) (h : lw_Go p l e s m below meth c b G tgt lv st M N) : lw_Go p l e s m below meth c b G pc lv st M N :=
  fun H locs ls hH hL => lv_goto C.1.1 C.1.2.1 hd ht (h H locs ls hH hL)
theorem lw_ad (C : lw_C p s m meth c b L xs G) : hd_v G.2.1 (.ref 1300) = .ref b := by
  show Value.ref (G.2.1 1300) = _
  rw [C.2.2.2]
theorem lw_sld {i : Int32} (C : lw_C p s m meth c b L xs G) (hd : decode code pc = .ok (.iaload, 1)) (hin : vp_in i L) (h : lw_Go p l e s m below meth c b G (pc + 1) lv (.int (xs i.toNatClampNeg) :: st) M N) : lw_Go p l e s m below meth c b G pc lv (.int i :: .ref 1300 :: st) M N := by
  intro H locs ls hH hL
  have hbA : ¬ lw_A s b := Nat.not_le.mpr C.1.2.2.2.2.2.2.2.1
  show W p l e room_1 s m #[Value.ref b] below meth c H locs 600000 7302250 (lw_Z below #[Value.ref b] s) (F0 m pc ls (.int i :: hd_v G.2.1 (.ref 1300) :: st.map (hd_v G.2.1)))
  rw [lw_ad C]
  exact va_sld C.1.1 C.1.2.1 C.1.2.2.2.2.2.2.1 C.1.2.2.2.2.2.2.2.1 hbA hH.2.2 hin hd (h H locs ls hH hL)
theorem lw_slen (C : lw_C p s m meth c b L xs G) (hd : decode code pc = .ok (.arraylength, 1)) (h : lw_Go p l e s m below meth c b G (pc + 1) lv (.int (nI L) :: st) M N) : lw_Go p l e s m below meth c b G pc lv (.ref 1300 :: st) M N := by
  intro H locs ls hH hL
  have hbA : ¬ lw_A s b := Nat.not_le.mpr C.1.2.2.2.2.2.2.2.1
  show W p l e room_1 s m #[Value.ref b] below meth c H locs 600000 7302250 (lw_Z below #[Value.ref b] s) (F0 m pc ls (hd_v G.2.1 (.ref 1300) :: st.map (hd_v G.2.1)))
  rw [lw_ad C]
  exact va_slen C.1.1 C.1.2.1 C.1.2.2.2.2.2.2.1 C.1.2.2.2.2.2.2.2.1 hbA hH.2.2 hd (h H locs ls hH hL)
theorem lw_swi {y : Int32} {dflt lo hi : Int} {offs : Array Int} {len a : Nat} {sw : List (Int32 × Nat)} (C : lw_C p s m meth c b L xs G) (hd : decode code pc = .ok (.tableswitch dflt lo hi offs, len)) (h3 : (pc : Int) + dflt = (a : Int)) (h4 : hd_al pc sw (hd_tps lo offs.toList) = true) (h5 : lo + offs.toList.length = hi + 1) (h : lw_Go p l e s m below meth c b G (hd_sw a y sw) lv st M N) : lw_Go p l e s m below meth c b G pc lv (.int y :: st) M N := by
  have hl := hd_sw_look (x := y) h3 sw _ h4
  rw [hd_tps_off] at hl
  intro H locs ls hH hL
  by_cases hx : lo ≤ y.toInt ∧ y.toInt < lo + offs.toList.length
  · rw [if_pos hx] at hl
    have hlt : (y.toInt - lo).toNat < offs.size := by
      have : offs.toList.length = offs.size := Array.length_toList
      omega
    have ho : offs[(y.toInt - lo).toNat]? = some (offs.toList.getD (y.toInt - lo).toNat dflt) := by
      rw [Array.getElem?_eq_getElem hlt]
      simp [hlt]
    exact lv_tableIn C.1.1 C.1.2.1 hd (by omega) (by omega) ho hl (h H locs ls hH hL)
  · rw [if_neg hx] at hl
    exact lv_tableOut C.1.1 C.1.2.1 hd (by omega) hl (h H locs ls hH hL)
theorem lw_swall {y : Int32} {a : Nat} (ha : lw_Go p l e s m below meth c b G a lv st M N) : ∀ sw : List (Int32 × Nat), (∀ q ∈ sw, lw_Go p l e s m below meth c b G q.2 lv st M N) → lw_Go p l e s m below meth c b G (hd_sw a y sw) lv st M N := by
  intro sw
  induction sw with
  | nil => intro _; exact ha
  | cons z sw ih =>
    obtain ⟨v, t⟩ := z
    intro h
    unfold hd_sw
    split
    · exact h (v, t) List.mem_cons_self
    · exact ih (fun q hq => h q (List.mem_cons_of_mem _ hq))
end
abbrev lw_lv (i : Nat) : hd_L := [some (.ref 1300), some (.ref 0), some (.ref 51), some (.int (nI i))]
/-- the arguments from the (k+1)th on, n of them -/
def lw_as (xs : Nat → Int32) (i : Nat) : Nat → Nat → List Value
  | _, 0 => []
  | k, n + 1 => .int (xs (i + (k + 1))) :: lw_as xs i (k + 1) n
def lw_pu : Nat → Nat → Nat → Bool
  | _, _, 0 => true
  | pc, k, n + 1 => decide (decode code pc = .ok (.aload_n 0, 1)) && decide (decode code (pc + 1) = .ok (.iload_n 3, 1)) && decide (decode code (pc + 2) = .ok (.iconst ((k + 1 : Nat) : Int), 1)) && decide (decode code (pc + 3) = .ok (.iadd, 1)) && decide (decode code (pc + 4) = .ok (.iaload, 1)) && decide (Int32.ofInt ((k + 1 : Nat) : Int) = nI (k + 1)) && lw_pu (pc + 5) (k + 1) n
theorem lw_push {p : Program} {l : Launch} {e : Env} {s : State} {m : MethodId} {below : List Frame} {meth : Method} {c : Code} {b L : Nat} {xs : Nat → Int32} {G : hd_G} {M : hd_M} {N : hd_N} (C : lw_C p s m meth c b L xs G) (hL : L ≤ 320) {i : Nat} (hi : i + 5 ≤ L) : ∀ (n k pc : Nat) (st : List Value), k + n ≤ 4 → lw_pu pc k n = true → lw_Go p l e s m below meth c b G (pc + 5 * n) (lw_lv i) ((lw_as xs i k n).reverse ++ st) M N → lw_Go p l e s m below meth c b G pc (lw_lv i) st M N := by
  intro n
  induction n with
  | zero => intro k pc st _ _ h; exact h
  | succ n ih =>
    intro k pc st hk hp h
    unfold lw_pu at hp
    simp only [Bool.and_eq_true, decide_eq_true_eq] at hp
    obtain ⟨⟨⟨⟨⟨⟨d0, d1⟩, d2⟩, d3⟩, d4⟩, d5⟩, hp⟩ := hp
    refine lw_aload (i := 0) C d0 rfl rfl ?_
    refine lw_iload (i := 3) C d1 rfl rfl ?_
    refine lw_iconst C d2 d5 ?_
    refine lw_iadd C d3 ?_
    rw [nI_add]
    refine lw_sld C d4 (vp_in_nI (by omega) (by omega)) ?_
    rw [nI_clamp (show i + (k + 1) < 2 ^ 31 by omega)]
    refine ih (k + 1) (pc + 5) _ (by omega) hp ?_
    rw [show pc + 5 + 5 * n = pc + 5 * (n + 1) by omega]
    rw [lw_as, List.reverse_cons, List.append_assoc] at h
    exact h
/-- what is static of a case: pc its place, n its arguments, i1, i2 the two links; w1, w2 the places of the words -/
def lw_cs (pc n i1 i2 : Nat) (J1 J2 : hd_I) (w1 w2 : List Nat) : Bool := decide (decode code pc = .ok (.aload_n 1, 1)) && lw_pu (pc + 1) 0 n && decide (decode code (pc + 1 + 5 * n) = .ok (.invokevirtual i1, 3)) && decide (decode code (pc + 1 + 5 * n + 3) = .ok (.aload_n 2, 1)) && lw_pu (pc + 1 + 5 * n + 3 + 1) 0 n && decide (decode code (pc + 1 + 5 * n + 3 + 1 + 5 * n) = .ok (.invokevirtual i2, 3)) && hd_calB mLaw J1 n w1 && hd_calB mLaw J2 n w2 && hd_wd (w1.getD 2 0) (Cond.methodLink R_law i1 J1.2.1) && hd_wd (w1.getD 3 0) (Cond.instanceMethod J1.2.1) && hd_wd (w1.getD 4 0) (Cond.selects J1.2.1.cls J1.2.1 J1.2.1) && hd_wd (w2.getD 2 0) (Cond.methodLink R_law i2 J2.2.1) && hd_wd (w2.getD 3 0) (Cond.instanceMethod J2.2.1) && hd_wd (w2.getD 4 0) (Cond.selects J2.2.1.cls J2.2.1 J2.2.1) && decide (RX5 = J1.2.1.cls) && decide (RX6 = J2.2.1.cls) && decide (1 + n ≤ J1.2.2.2.1) && decide (1 + n ≤ J2.2.2.2.1) && decide (n ≤ 4)
theorem lw_as_len (xs : Nat → Int32) (i : Nat) : ∀ n k, (lw_as xs i k n).length = n := by
  intro n
  induction n with
  | zero => intro k; rfl
  | succ n ih => intro k; rw [lw_as, List.length_cons, ih]
theorem lw_as_en (xs : Nat → Int32) (i : Nat) : ∀ n k, (hd_en1 (lw_as xs i k n)).length = n := by
  intro n
  induction n with
  | zero => intro k; rfl
  | succ n ih => intro k; rw [lw_as]; show (hd_en1 (lw_as xs i (k + 1) n)).length + 1 = n + 1; rw [ih]
theorem CI.fr {M M1 : hd_M} {st : ab_T} (h : CI M st) (hf : fr refF M M1) : CI M1 st := by
  have o : ∀ c j, c ≤ 50 → M1 c j = M c j := fun c j hc => hf c j (fun z => by have z : 51 ≤ c := z; omega)
  obtain ⟨h1, h2, h3, h4, h5, h6, h7⟩ := h
  exact ⟨h1.mv fun c j _ _ => o c j (by omega), h2.mv fun c j _ _ => o c j (by omega), h3.mv fun c j _ _ => o c j (by omega), h4.mv fun c j _ _ => o c j (by omega), h5.mv fun c j _ _ => o c j (by omega), by rw [o 0 9 (by omega)]; exact h6, by rw [o 16 2 (by omega)]; exact h7⟩
theorem RI.fr {M M1 : hd_M} {st : ab_T} (h : RI M st) (ok : OK st) (hf : fr clsF M M1) : RI M1 st := by
  have o : ∀ c j, 51 ≤ c → M1 c j = M c j := fun c j hc => hf c j (fun z => by have z : c ≤ 50 := z; omega)
  obtain ⟨h1, h2, h3, h4, h5, h6, h7⟩ := h
  exact ⟨h1.mv ok.1.1 (fun j _ _ => o 52 j (by decide)), h2.mv ok.2.1.1 (fun j _ _ => o 52 j (by decide)), h3.mv (o 51 7 (by decide)) (fun j => o 56 j (by decide)), h4.mv ok.2.2.2.1 (fun k _ => o 54 k (by decide)) (fun j _ => o 52 j (by decide)), h5.mv (fun c j z _ => o c j (by omega)), by rw [o 51 26 (by decide)]; exact h6, by rw [o 51 12 (by decide)]; exact h7⟩
theorem lw_case {p : Program} {l : Launch} {e : Env} {s : State} {m : MethodId} {below : List Frame} {meth : Method} {c : Code} {b L : Nat} {xs : Nat → Int32} {G : hd_G} (C : lw_C p s m meth c b L xs G) (hL : L ≤ 320) {i : Nat} (hi : i + 5 ≤ L) {pc n i1 i2 : Nat} {off : Int} {J1 J2 : hd_I} {w1 w2 : List Nat} {f : ab_T → Value × ab_T} (hs : lw_cs pc n i1 i2 J1 J2 w1 w2 = true) (hd : decode code (pc + 1 + 5 * n + 3 + 1 + 5 * n + 3) = .ok (.if_icmp .eq off, 3)) (ht : ((pc + 1 + 5 * n + 3 + 1 + 5 * n + 3 : Nat) : Int) + off = ((1326 : Nat) : Int)) (c1 : cA J1 (lw_as xs i 0 n) f) (c2 : rA J2 (lw_as xs i 0 n) f) (k : kp f) (hv : ∀ st, ∃ r, (f st).1 = .int r) {M : hd_M} {N : hd_N} {st : ab_T} (hI : CI M st) (hR : RI M st) (hO : OK st) (nx : ∀ M1 N1 st1, CI M1 st1 → RI M1 st1 → OK st1 → lw_Go p l e s m below meth c b G 1326 (lw_lv i) [] M1 N1) : lw_Go p l e s m below meth c b G pc (lw_lv i) [] M N := by
  unfold lw_cs at hs
  simp only [Bool.and_eq_true, decide_eq_true_eq] at hs
  obtain ⟨⟨⟨⟨⟨⟨⟨⟨⟨⟨⟨⟨⟨⟨⟨⟨⟨⟨d0, p1⟩, d1⟩, d2⟩, p2⟩, d3⟩, b1⟩, b2⟩, l1⟩, n1⟩, s1⟩, l2⟩, n2⟩, s2⟩, e1⟩, e2⟩, g1⟩, g2⟩, n4⟩ := hs
  have a1 : (lw_as xs i 0 n).length = n := lw_as_len xs i n 0
  have a2 : (hd_en1 (lw_as xs i 0 n)).length = n := lw_as_en xs i n 0
  refine lw_aload (i := 1) C d0 rfl rfl ?_
  refine lw_push C hL hi n 0 (pc + 1) [.ref 0] (by omega) p1 ?_
  refine lw_call (J := J1) (index := i1) (b0 := 0) (as := lw_as xs i 0 n) (st := []) C d1 (by rw [a1]; exact hd_calB_ok b1 i1) (hd_wd_ok l1) (hd_wd_ok n1) (hd_wd_ok s1) rfl rfl e1 rfl (by show (hd_en1 (lw_as xs i 0 n)).length + 1 ≤ _; rw [a2]; omega) (by decide) (c1 M N st hI hO) ?_
  rintro r M1 N1 ⟨rfl, rfl, hf, hI1⟩
  obtain ⟨v, hv⟩ := hv st
  rw [hv]
  refine lw_aload (i := 2) C d2 rfl rfl ?_
  refine lw_push C hL hi n 0 _ [.ref 51, .int v] (by omega) p2 ?_
  refine lw_call (J := J2) (index := i2) (b0 := 51) (as := lw_as xs i 0 n) (st := [.int v]) C d3 (by rw [a1]; exact hd_calB_ok b2 i2) (hd_wd_ok l2) (hd_wd_ok n2) (hd_wd_ok s2) rfl rfl e2 rfl (by show (hd_en1 (lw_as xs i 0 n)).length + 1 ≤ _; rw [a2]; omega) (by show 1 ≤ 8; decide) (c2 M1 N1 st (hR.fr hO hf) hO) ?_
  rintro r M2 N2 ⟨rfl, hf2, hR2⟩
  rw [hv]
  refine lw_eq C hd ht rfl ?_
  exact nx M2 N2 _ (hI1.fr hf2) hR2 (k st hO)
theorem lw_casel {p : Program} {l : Launch} {e : Env} {s : State} {m : MethodId} {below : List Frame} {meth : Method} {c : Code} {b L : Nat} {xs : Nat → Int32} {G : hd_G} (C : lw_C p s m meth c b L xs G) (hL : L ≤ 320) {i : Nat} (hi : i + 5 ≤ L) {pc n i1 i2 : Nat} {off : Int} {J1 J2 : hd_I} {w1 w2 : List Nat} {f : ab_T → Value × ab_T} (hs : lw_cs pc n i1 i2 J1 J2 w1 w2 = true) (hd0 : decode code (pc + 1 + 5 * n + 3 + 1 + 5 * n + 3) = .ok (.lcmp, 1)) (hd : decode code (pc + 1 + 5 * n + 3 + 1 + 5 * n + 3 + 1) = .ok (.ifCond .eq off, 3)) (ht : ((pc + 1 + 5 * n + 3 + 1 + 5 * n + 3 + 1 : Nat) : Int) + off = ((1326 : Nat) : Int)) (c1 : cA J1 (lw_as xs i 0 n) f) (c2 : rA J2 (lw_as xs i 0 n) f) (k : kp f) (hv : ∀ st, ∃ r, (f st).1 = .long r) {M : hd_M} {N : hd_N} {st : ab_T} (hI : CI M st) (hR : RI M st) (hO : OK st) (nx : ∀ M1 N1 st1, CI M1 st1 → RI M1 st1 → OK st1 → lw_Go p l e s m below meth c b G 1326 (lw_lv i) [] M1 N1) : lw_Go p l e s m below meth c b G pc (lw_lv i) [] M N := by
  unfold lw_cs at hs
  simp only [Bool.and_eq_true, decide_eq_true_eq] at hs
  obtain ⟨⟨⟨⟨⟨⟨⟨⟨⟨⟨⟨⟨⟨⟨⟨⟨⟨⟨d0, p1⟩, d1⟩, d2⟩, p2⟩, d3⟩, b1⟩, b2⟩, l1⟩, n1⟩, s1⟩, l2⟩, n2⟩, s2⟩, e1⟩, e2⟩, g1⟩, g2⟩, n4⟩ := hs
  have a1 : (lw_as xs i 0 n).length = n := lw_as_len xs i n 0
  have a2 : (hd_en1 (lw_as xs i 0 n)).length = n := lw_as_en xs i n 0
  refine lw_aload (i := 1) C d0 rfl rfl ?_
  refine lw_push C hL hi n 0 (pc + 1) [.ref 0] (by omega) p1 ?_
  refine lw_call (J := J1) (index := i1) (b0 := 0) (as := lw_as xs i 0 n) (st := []) C d1 (by rw [a1]; exact hd_calB_ok b1 i1) (hd_wd_ok l1) (hd_wd_ok n1) (hd_wd_ok s1) rfl rfl e1 rfl (by show (hd_en1 (lw_as xs i 0 n)).length + 1 ≤ _; rw [a2]; omega) (by decide) (c1 M N st hI hO) ?_
  rintro r M1 N1 ⟨rfl, rfl, hf, hI1⟩
  obtain ⟨v, hv⟩ := hv st
  rw [hv]
  refine lw_aload (i := 2) C d2 rfl rfl ?_
  refine lw_push C hL hi n 0 _ [.ref 51, .long v] (by omega) p2 ?_
  refine lw_call (J := J2) (index := i2) (b0 := 51) (as := lw_as xs i 0 n) (st := [.long v]) C d3 (by rw [a1]; exact hd_calB_ok b2 i2) (hd_wd_ok l2) (hd_wd_ok n2) (hd_wd_ok s2) rfl rfl e2 rfl (by show (hd_en1 (lw_as xs i 0 n)).length + 1 ≤ _; rw [a2]; omega) (by show 2 ≤ 8; decide) (c2 M1 N1 st (hR.fr hO hf) hO) ?_
  rintro r M2 N2 ⟨rfl, hf2, hR2⟩
  rw [hv]
  refine lw_lcmp C hd0 ?_
  refine lw_if0 C hd ht ((lg_eq v v).mpr rfl) ?_
  exact nx M2 N2 _ (hI1.fr hf2) hR2 (k st hO)
theorem lw_iinc {p : Program} {l : Launch} {e : Env} {s : State} {m : MethodId} {below : List Frame} {meth : Method} {c : Code} {b L : Nat} {xs : Nat → Int32} {G : hd_G} {pc i : Nat} {st : List Value} {M : hd_M} {N : hd_N} (C : lw_C p s m meth c b L xs G) (hd : decode code pc = .ok (.iinc 3 5, 3)) (h : lw_Go p l e s m below meth c b G (pc + 3) (lw_lv (i + 5)) st M N) : lw_Go p l e s m below meth c b G pc (lw_lv i) st M N := by
  intro H locs ls hH hL
  have hm : (3, hd_v G.2.1 (.int (nI i))) ∈ hd_as G.2.1 (lw_lv i) := hd_as_mem.mpr ⟨_, rfl, rfl⟩
  obtain ⟨k, hk⟩ := List.mem_iff_getElem?.mp hm
  have hp : ∀ u : Value, (lw_lv i)[3 - 1]? = some (some u) → 0 < 3 → u.category ≠ 2 := fun u hu _ => by cases hu; decide
  refine lv_iinc (v := nI i + 5) C.1.1 C.1.2.1 hd hL.2 (k := k) hk rfl (by decide) rfl (fun ls' h' => ?_)
  have h2 := hL.set (i := 3) (v := .int (nI i + 5)) hp h'
  refine h H locs ls' hH ?_
  have e9 : (lw_lv i).set 3 (some (.int (nI i + 5))) = lw_lv (i + 5) := by
    show ([some (.ref 1300), some (.ref 0), some (.ref 51), some (.int (nI i + 5))] : hd_L) = _
    rw [show nI i + 5 = nI (i + 5) from nI_add i 5]
  rw [e9] at h2
  exact h2
theorem v_feed (c : Int32) (st : ab_T) : ∃ r, (an_feed c st).1 = .int r := by
  unfold an_feed
  repeat' split
  all_goals exact ⟨_, rfl⟩
theorem v_end (n : Int32) (st : ab_T) : ∃ r, (an_end n st).1 = .int r := by
  unfold an_end
  repeat' split
  all_goals exact ⟨_, rfl⟩
theorem v_text (st : ab_T) : ∃ r, (an_text st).1 = .int r := by
  unfold an_text
  repeat' split
  all_goals exact ⟨_, rfl⟩
theorem v_fault (st : ab_T) : ∃ r, (an_fault st).1 = .int r := ⟨_, rfl⟩
theorem v_rule (w : Int32) (st : ab_T) : ∃ r, (an_rule w st).1 = .int r := ⟨_, rfl⟩
theorem v_thing (i w : Int32) (st : ab_T) : ∃ r, (an_thing i w st).1 = .int r := ⟨_, rfl⟩
theorem v_alter (i w v : Int32) (st : ab_T) : ∃ r, (an_alter i w v st).1 = .int r := by
  unfold an_alter
  repeat' split
  all_goals exact ⟨_, rfl⟩
theorem v_mood (v : Int32) (st : ab_T) : ∃ r, (an_mood v st).1 = .int r := by
  unfold an_mood
  repeat' split
  all_goals exact ⟨_, rfl⟩
theorem v_tire (v : Int32) (st : ab_T) : ∃ r, (an_tire v st).1 = .int r := by
  unfold an_tire
  repeat' split
  all_goals exact ⟨_, rfl⟩
theorem v_pack (k g w : Int32) (st : ab_T) : ∃ r, (an_pack k g w st).1 = .int r := by
  unfold an_pack
  repeat' split
  all_goals exact ⟨_, rfl⟩
theorem v_strap (st : ab_T) : ∃ r, (an_strap st).1 = .int r := ⟨_, rfl⟩
theorem v_lift (st : ab_T) : ∃ r, (an_lift st).1 = .int r := by
  unfold an_lift
  repeat' split
  all_goals exact ⟨_, rfl⟩
theorem v_hours (n : Int32) (st : ab_T) : ∃ r, (an_hours n st).1 = .int r := by
  unfold an_hours
  repeat' split
  all_goals exact ⟨_, rfl⟩
theorem v_runs (n w : Int32) (st : ab_T) : ∃ r, (an_runs n w st).1 = .int r := ⟨_, rfl⟩
theorem v_gone (i : Int32) (st : ab_T) : ∃ r, (an_gone i st).1 = .int r := ⟨_, rfl⟩
theorem v_glad (v : Int32) (st : ab_T) : ∃ r, (an_glad v st).1 = .int r := ⟨_, rfl⟩
theorem v_order (w : Int32) (st : ab_T) : ∃ r, (an_order w st).1 = .int r := ⟨_, rfl⟩
theorem v_leave (n w : Int32) (st : ab_T) : ∃ r, (an_leave n w st).1 = .int r := ⟨_, rfl⟩
theorem v_top (n w : Int32) (st : ab_T) : ∃ r, (an_top n w st).1 = .int r := ⟨_, rfl⟩
theorem v_swap (n w : Int32) (st : ab_T) : ∃ r, (an_swap n w st).1 = .int r := ⟨_, rfl⟩
theorem v_need (i n v : Int32) (st : ab_T) : ∃ r, (an_need i n v st).1 = .int r := ⟨_, rfl⟩
theorem v_kind (i n w : Int32) (st : ab_T) : ∃ r, (an_kind i n w st).1 = .int r := ⟨_, rfl⟩
theorem v_bear (n v : Int32) (st : ab_T) : ∃ r, (an_bear n v st).1 = .int r := ⟨_, rfl⟩
theorem v_luck (v n w q : Int32) (st : ab_T) : ∃ r, (an_luck v n w q st).1 = .long r := ⟨_, rfl⟩
theorem v_mean (v n q : Int32) (st : ab_T) : ∃ r, (an_mean v n q st).1 = .long r := ⟨_, rfl⟩
theorem v_see (n v : Int32) (st : ab_T) : ∃ r, (an_see n v st).1 = .int r := by
  unfold an_see
  repeat' split
  all_goals exact ⟨_, rfl⟩
theorem v_forget (n : Int32) (st : ab_T) : ∃ r, (an_forget n st).1 = .int r := by
  unfold an_forget
  repeat' split
  all_goals exact ⟨_, rfl⟩
theorem v_kinds (i : Int32) (st : ab_T) : ∃ r, (an_kinds i st).1 = .int r := ⟨_, rfl⟩
theorem v_goods (i : Int32) (st : ab_T) : ∃ r, (an_goods i st).1 = .int r := ⟨_, rfl⟩
theorem v_ask (i w : Int32) (st : ab_T) : ∃ r, (an_ask i w st).1 = .int r := ⟨_, rfl⟩
theorem v_drift (s n w : Int32) (st : ab_T) : ∃ r, (an_drift s n w st).1 = .int r := ⟨_, rfl⟩
theorem v_keep (k : Int32) (st : ab_T) : ∃ r, (an_keep k st).1 = .int r := by
  unfold an_keep
  repeat' split
  all_goals exact ⟨_, rfl⟩
theorem v_back (k : Int32) (st : ab_T) : ∃ r, (an_back k st).1 = .int r := by
  unfold an_back
  repeat' split
  all_goals exact ⟨_, rfl⟩
theorem v_sheet (k l n : Int32) (st : ab_T) : ∃ r, (an_sheet k l n st).1 = .int r := by
  unfold an_sheet
  repeat' split
  all_goals exact ⟨_, rfl⟩
theorem v_lay (k i v : Int32) (st : ab_T) : ∃ r, (an_lay k i v st).1 = .int r := by
  unfold an_lay
  repeat' split
  all_goals exact ⟨_, rfl⟩
theorem v_rd (st : ab_T) (sh : sh_T) (l f : Int32) : ∀ (m i : Nat) (d : dy_T), ∃ r, (rd_go st sh l f m i d).1 = .int r := by
  intro m
  induction m with
  | zero => intro i d; exact ⟨_, rfl⟩
  | succ m ih =>
    intro i d
    rw [rd_go]
    split
    · split
      · exact ih _ _
      · exact ⟨_, rfl⟩
    · exact ⟨_, rfl⟩
theorem v_read (k l f n : Int32) (st : ab_T) : ∃ r, (an_read k l f n st).1 = .int r := by
  unfold an_read
  split
  · exact v_rd _ _ _ _ _ _ _
  · exact ⟨_, rfl⟩
theorem v_torn (st : ab_T) : ∃ r, (an_torn st).1 = .int r := ⟨_, rfl⟩
theorem v_count (w : Int32) (st : ab_T) : ∃ r, (an_count w st).1 = .int r := ⟨_, rfl⟩
