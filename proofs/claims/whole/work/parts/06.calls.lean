/-! CALLS: a method's contract out of its judgement, and a row for each kind of call -/
def hd_en1 : List Value → hd_L
  | [] => []
  | .long x :: vs => some (.long x) :: none :: hd_en1 vs
  | .double x :: vs => some (.double x) :: none :: hd_en1 vs
  | v :: vs => some v :: hd_en1 vs
/-- the locals at a method's entry -/
def hd_en (n : Nat) (vs : List Value) : hd_L := hd_en1 vs ++ List.replicate (n - (hd_en1 vs).length) none
/-- the method I, called with these values on this memory, returns, and its end is as told -/
def hd_Ret (I : hd_I) (vs : List Value) (M : hd_M) (N : hd_N) (Q : hd_Q) : Prop := hd_Go I 0 (hd_en I.2.2.2.1 vs) [] M N Q
theorem hd_en1_cons (v : Value) (vs : List Value) : hd_en1 (v :: vs) = if v.category = 2 then some v :: none :: hd_en1 vs else some v :: hd_en1 vs := by
  cases v <;> rfl
theorem hd_en1_len (ad : Nat → Nat) : ∀ vs : List Value, (hd_en1 vs).length = (lg_sl (vs.map (hd_v ad))).length := by
  intro vs
  induction vs with
  | nil => rfl
  | cons v vs ih =>
    rw [hd_en1_cons, List.map_cons, lg_sl, List.flatMap_cons, List.length_append, hd_v_cat]
    rw [lg_sl] at ih
    by_cases h : v.category = 2
    · rw [if_pos h, if_pos h]
      simp only [List.length_cons, List.length_nil, ih]
      omega
    · rw [if_neg h, if_neg h]
      simp only [List.length_cons, List.length_nil, ih]
      omega
theorem hd_en1_at (ad : Nat → Nat) : ∀ (vs : List Value) (b i : Nat) (v : Value), (hd_en1 vs)[i]? = some (some v) → (b + i, hd_v ad v) ∈ lv_args b (vs.map (hd_v ad)) := by
  intro vs
  induction vs with
  | nil => intro b i v h; simp [hd_en1] at h
  | cons w vs ih =>
    intro b i v h
    rw [hd_en1_cons] at h
    rw [List.map_cons, lv_args, hd_v_cat]
    by_cases hc : w.category = 2
    · rw [if_pos hc] at h ⊢
      match i, h with
      | 0, h => cases h; exact List.mem_cons_self
      | 1, h => cases h
      | i + 2, h =>
        refine List.mem_cons_of_mem _ ?_
        have := ih (b + 2) i v h
        rw [show b + (i + 2) = b + 2 + i by omega]
        exact this
    · rw [if_neg hc] at h ⊢
      match i, h with
      | 0, h => cases h; exact List.mem_cons_self
      | i + 1, h =>
        refine List.mem_cons_of_mem _ ?_
        have := ih (b + 1) i v h
        rw [show b + (i + 1) = b + 1 + i by omega]
        exact this
/-- what a caller must show of the state at the callee's entry -/
def hd_B (G : hd_G) (A : Nat → Prop) (M : hd_M) (N : hd_N) (U : State) : Prop := va_P G.1 hd_cl (hd_w G M N) U.heap ∧ va_D A (hd_w G M N) ∧ va_K G.1 hd_cl (hd_tys G.2.2) U ∧ hd_X G A U
abbrev hd_ws (I : hd_I) : List Cond := Cond.code I.2.1 I.2.2.1 I.2.2.2.1 I.2.2.2.2.1 :: hd_tbl
theorem hd_met {I : hd_I} {vs : List Value} {M : hd_M} {N : hd_N} {Q : hd_Q} (h : hd_Ret I vs M N Q) (hy : plainName I.2.1.cls = true) (ho : I.1 = I.2.1.cls) (hn : (hd_en1 vs).length ≤ I.2.2.2.1) (l : Launch) (G : hd_G) (A : Nat → Prop) :
    Met l I.2.1 (hd_ws I) (hd_rm I.2.2.2.2.2.1) (va_Pc (vs.map (hd_v G.2.1)) (hd_B G A M N)) (hd_E G A Q) 0 0 A := by
  refine Met.ofW (cc := I.2.2.1) (maxL := I.2.2.2.1) (ret := I.2.2.2.2.1) hy rfl ?_
  intro p e s m args below meth c s₁ B hml hv
  obtain ⟨rfl, hP, hD, hK, hX⟩ := hv
  have hts := atoms_spec (ws := hd_ws I) B.pre
  have hown : s.vm.findClass I.1 = some m.cls := by rw [ho]; exact findClass_of_methodNamed B.named
  have hC : hd_C I p s m (vs.map (hd_v G.2.1)).toArray meth c G A := ⟨B.exec, B.bytes, hml, B.returns, hown, fun w hw => hts w (List.mem_cons_of_mem _ hw), B.notSynchronized, hK, hX⟩
  have hlen := hd_en1_len G.2.1 vs
  have hl := lv_entry (vs.map (hd_v G.2.1)) (n := I.2.2.2.1) (by rw [← hlen]; exact hn)
  rw [lg_entry_eq]
  have hlo : hd_lo ((lg_sl (vs.map (hd_v G.2.1)) ++ List.replicate (I.2.2.2.1 - (lg_sl (vs.map (hd_v G.2.1))).length) Slot.unset).toArray) I.2.2.2.1 G.2.1 (hd_en I.2.2.2.1 vs) := by
    refine hd_lo.of ?_ hl ?_
    · unfold hd_en
      rw [List.length_append, List.length_replicate]
      omega
    · intro i v hv
      unfold hd_en at hv
      rw [List.getElem?_append] at hv
      split at hv
      · have := hd_en1_at G.2.1 vs 0 i v hv
        rw [Nat.zero_add] at this
        exact this
      · rw [List.getElem?_replicate] at hv
        split at hv <;> cases hv
  exact h p l e s m _ below meth c s.heap [] G A _ hC ⟨hP, hD, va_S.rf⟩ hlo
theorem hd_X.go {G : hd_G} {A : Nat → Prop} {s U : State} {H : Heap} {locs : List Loc} (hX : hd_X G A s) (hS : va_S A s.heap H locs) (hU : U.heap = H) (hW : s.WarmedH U.vm) : hd_X G A U := by
  subst hU
  exact ⟨⟨(hX.1.1.moved hW.alike).kept hS.2.1, hX.1.2.elim (fun z => Or.inl ((z.moved hW.alike).kept hS.2.1)) (fun z => Or.inr ((z.moved hW.alike).kept hS.2.1))⟩, (hX.2.1.moved hW.alike).kept hS.2.1, fun i q hq => (hX.2.2.1 i q hq).warm hW, hX.2.2.2.warmM hW⟩
theorem hd_blind {G : hd_G} {A : Nat → Prop} {M : hd_M} {N : hd_N} {vs : List Value} : FrameBlind (va_Pc vs (hd_B G A M N)) := by
  intro a U g mk ⟨h0, hP, hD, hK, hX⟩
  refine ⟨h0, hP, hD, va_K.moved (u := U) (U := U.calling g mk a) (Vm.Alike.refl U.vm) hK, ?_⟩
  exact ⟨⟨hX.1.1.moved (u := U) (U := U.calling g mk a) (Vm.Alike.refl U.vm), hX.1.2.elim (fun z => Or.inl (z.moved (u := U) (U := U.calling g mk a) (Vm.Alike.refl U.vm))) (fun z => Or.inr (z.moved (u := U) (U := U.calling g mk a) (Vm.Alike.refl U.vm)))⟩, hX.2.1.moved (u := U) (U := U.calling g mk a) (Vm.Alike.refl U.vm), fun i q hq => vk_R.same (u := U) (U := U.calling g mk a) rfl (hX.2.2.1 i q hq), hX.2.2.2.same (u := U) (U := U.calling g mk a) rfl rfl⟩
theorem hd_enter {G : hd_G} {A : Nat → Prop} {M : hd_M} {N : hd_N} {s : State} {H : Heap} {locs : List Loc} (hK : va_K G.1 hd_cl (hd_tys G.2.2) s) (hX : hd_X G A s) (hH : hd_H G A M N s H locs) : ∀ U : State, U.heap = H → s.WarmedH U.vm → hd_B G A M N U := by
  intro U hU hW
  exact ⟨by rw [hU]; exact hH.1, hH.2.1, va_K.moved hW.alike hK, hX.go hH.2.2 hU hW⟩
theorem hd_goodws {I : hd_I} (h : Cond.code I.2.1 I.2.2.1 I.2.2.2.1 I.2.2.2.2.1 ∈ hd_tbl) : GoodIn hd_tbl (hd_ws I) := by
  intro w hw
  rcases List.mem_cons.mp hw with e | hw
  · rw [e]; exact ⟨h, good_of_word (hd_good _ h)⟩
  · exact ⟨hw, good_of_word (hd_good _ hw)⟩
section
variable {I : hd_I} {pc : Nat} {lv : hd_L} {st : List Value} {M : hd_M} {N : hd_N} {Q : hd_Q}
/-- a call, however it is found: what comes behind it -/
theorem hd_after {P : hd_Q} {p : Program} {l : Launch} {e : Env} {R : Room} {s : State} {m : MethodId} {args : Array Value} {below : List Frame} {meth : Method} {c : Code} {H : Heap} {locs : List Loc} {G : hd_G} {A : Nat → Prop} {ls : Array Slot} {st0 : List Value} {Z : State → Prop} {a : Array Value} {cells slots : Nat}
    (hr : va_Run p l e R s m args below meth c H locs cells slots 0 0 (F0 m pc ls st0) (st.map (hd_v G.2.1)) (hd_E G A P a) A) (hH : hd_H G A M N s H locs)
    (k : ∀ r M1 N1, P r M1 N1 → ∀ H1 locs1, hd_H G A M1 N1 s H1 locs1 → W p l e R s m args below meth c H1 locs1 cells slots Z (F0 m (pc + 3) ls ((r.toList ++ st).map (hd_v G.2.1)))) : W p l e R s m args below meth c H locs cells slots Z (F0 m pc ls st0) := by
  intro T hT X
  obtain ⟨v, st₀, t, T', L, h0, X', hL, e1, e2, ⟨⟨r, M1, N1, hv, hp, hP⟩, hz, hk⟩, go⟩ := hr T hT X
  rw [h0] at hz hk
  have hv : v = r.map (hd_v G.2.1) := by
    have := hv
    injection this
  have hS := hH.2.2
  obtain ⟨t2, a1, b1⟩ := k r M1 N1 hp T'.heap (locs ++ L) ⟨by rw [e1]; exact hP, hd_D_any hH.2.1, ⟨Nat.le_trans hS.1 (by rw [e1]; exact hz), fun q h1 h2 => by rw [e1, hk q (Nat.lt_of_lt_of_le h1 hS.1) h2]; exact hS.2.1 q h1 h2, fun q hq => by
      rcases List.mem_append.mp hq with h | h
      · exact hS.2.2 q h
      · exact hL q h⟩⟩ T' rfl X'
  refine ⟨t2, go t2 ?_, b1⟩
  rw [hv]
  rw [List.map_append] at a1
  have e9 : (r.toList).map (hd_v G.2.1) = (r.map (hd_v G.2.1)).toList := by cases r <;> rfl
  rw [e9] at a1
  exact a1
/-- what is static at a call of J by its link -/
def hd_cal (I J : hd_I) (index n : Nat) : Prop := Cond.code J.2.1 J.2.2.1 J.2.2.2.1 J.2.2.2.2.1 ∈ hd_tbl ∧ Cond.initialized J.2.1.cls ∈ hd_tbl ∧ plainName J.2.1.cls = true ∧ J.1 = J.2.1.cls ∧ (J.2.1.cls ≠ "java/lang/invoke/MethodHandle" ∧ J.2.1.cls ≠ "java/lang/invoke/VarHandle" ∧ (parseMethodDescriptor J.2.1.desc).map (fun d => d.parameters.length) = some n) ∧ J.2.2.2.2.2.1 < I.2.2.2.2.2.1 ∧ J.2.2.2.1 ≤ 17
theorem hd_room {d d' x : Nat} (h : d' < d) (hx : x ≤ 17) : (hd_rm d').frames + 1 ≤ (hd_rm d).frames ∧ 8 + (x + 11) + (hd_rm d').locals ≤ (hd_rm d).locals := by
  show d' + 1 ≤ d ∧ 8 + (x + 11) + 36 * d' ≤ 36 * d
  omega
theorem hd_cats {ad : Nat → Nat} {st : List Value} : ((st.map (hd_v ad)).map fun v => v.category).sum = (st.map fun v => v.category).sum := by
  rw [List.map_map]
  congr 1
  apply List.map_congr_left
  intro v _
  exact hd_v_cat ad v
theorem hd_callS {J : hd_I} {index : Nat} {as st0 : List Value} {P : hd_Q} (hd : decode I.2.2.1 pc = .ok (.invokestatic index, 3)) (hc : hd_cal I J index as.length) (hl : Cond.methodLink I.1 index J.2.1 ∈ hd_tbl) (hst : Cond.static J.2.1 ∈ hd_tbl) (hst0 : st0 = as.reverse ++ st) (hlen : (hd_en1 as).length ≤ J.2.2.2.1) (hcat : (st.map fun v => v.category).sum ≤ 8)
    (h : hd_Ret J as M N P) (k : ∀ r M1 N1, P r M1 N1 → hd_Go I (pc + 3) lv (r.toList ++ st) M1 N1 Q) : hd_Go I pc lv st0 M N Q := by
  intro p l e s m args below meth c H locs G A ls C hH hL
  have hT := C.2.2.2.2.2.1
  obtain ⟨q1, q2, q3, q4, q5, q6, q7⟩ := hc
  refine hd_after (P := P) (a := (as.map (hd_v G.2.1)).toArray) (va_runS (As := as.map (hd_v G.2.1)) (rest := st.map (hd_v G.2.1)) ⟨C.1, C.2.1, C.2.2.1, C.2.2.2.2.1, hT⟩ (hd_met h q3 q4 hlen l G A) ⟨callB_of as.length hT (hd_goodws q1) rfl rfl rfl (hT _ q2) (hT _ hl) q5 (hd_room q6 q7), hT _ hst⟩ ⟨hd_blind, fun U hU hW => ⟨rfl, hd_enter C.2.2.2.2.2.2.2.1 C.2.2.2.2.2.2.2.2 hH U hU hW⟩⟩ rfl (List.length_map _) hL.2.1 ?_ ?_ hd ⟨Nat.le_refl _, Nat.le_refl _⟩) hH ?_
  · show st0.map (hd_v G.2.1) = _
    rw [hst0, List.map_append, List.map_reverse]
  · rw [hd_cats]
    show 2 * 0 + _ ≤ 8
    omega
  · intro r M1 N1 hp H1 locs1 hH1
    exact k r M1 N1 hp p l e s m args below meth c H1 locs1 G A ls C hH1 hL
theorem hd_callSN {J : hd_I} {index : Nat} {as st0 : List Value} {P : hd_Q} (hd : decode I.2.2.1 pc = .ok (.invokestatic index, 3)) (hc : hd_cal I J index as.length) (hl : I.1 = RX4 ∧ index = hd_nx ∧ J.2.1 = yX5_isWithin) (hst : Cond.static J.2.1 ∈ hd_tbl) (hst0 : st0 = as.reverse ++ st) (hlen : (hd_en1 as).length ≤ J.2.2.2.1) (hcat : (st.map fun v => v.category).sum ≤ 8)
    (h : hd_Ret J as M N P) (k : ∀ r M1 N1, P r M1 N1 → hd_Go I (pc + 3) lv (r.toList ++ st) M1 N1 Q) : hd_Go I pc lv st0 M N Q := by
  intro p l e s m args below meth c H locs G A ls C hH hL
  have hT := C.2.2.2.2.2.1
  obtain ⟨q1, q2, q3, q4, q5, q6, q7⟩ := hc
  have hN : va_Nw (.methodLinkNest I.1 index J.2.1 RX5) s := by
    rw [hl.1, hl.2.1, hl.2.2]
    exact C.2.2.2.2.2.2.2.2.2.2.2
  refine hd_after (P := P) (a := (as.map (hd_v G.2.1)).toArray) (va_runSN (As := as.map (hd_v G.2.1)) (rest := st.map (hd_v G.2.1)) ⟨C.1, C.2.1, C.2.2.1, C.2.2.2.2.1, hT⟩ (hd_met h q3 q4 hlen l G A) ⟨va_cnB as.length hT (hd_goodws q1) rfl rfl rfl hN (hT _ q2) q5 (hd_room q6 q7), hT _ hst, trivial⟩ ⟨hd_blind, fun U hU hW => ⟨rfl, hd_enter C.2.2.2.2.2.2.2.1 C.2.2.2.2.2.2.2.2 hH U hU hW⟩⟩ rfl (List.length_map _) hL.2.1 ?_ ?_ hd ⟨Nat.le_refl _, Nat.le_refl _⟩) hH ?_
  · show st0.map (hd_v G.2.1) = _
    rw [hst0, List.map_append, List.map_reverse]
  · rw [hd_cats]
    show 2 * 0 + _ ≤ 8
    omega
  · intro r M1 N1 hp H1 locs1 hH1
    exact k r M1 N1 hp p l e s m args below meth c H1 locs1 G A ls C hH1 hL
theorem hd_callV {J : hd_I} {index ci b : Nat} {fs : List (Nat × Nat)} {q : vw_C} {as st0 : List Value} {P : hd_Q} (hd : decode I.2.2.1 pc = .ok (.invokevirtual index, 3)) (hc : hd_cal I J index as.length) (hl : Cond.methodLink I.1 index J.2.1 ∈ hd_tbl) (hin : Cond.instanceMethod J.2.1 ∈ hd_tbl) (hsel : Cond.selects J.2.1.cls J.2.1 J.2.1 ∈ hd_tbl) (hs : hd_shp[b]? = some (.inr (.inr (ci, fs)))) (hq : hd_cl[ci]? = some q) (hqc : q.1 = J.2.1.cls) (hst0 : st0 = as.reverse ++ .ref b :: st) (hlen : (hd_en1 (.ref b :: as)).length ≤ J.2.2.2.1) (hcat : (st.map fun v => v.category).sum ≤ 8)
    (h : hd_Ret J (.ref b :: as) M N P) (k : ∀ r M1 N1, P r M1 N1 → hd_Go I (pc + 3) lv (r.toList ++ st) M1 N1 Q) : hd_Go I pc lv st0 M N Q := by
  intro p l e s m args below meth c H locs G A ls C hH hL
  have hT := C.2.2.2.2.2.1
  obtain ⟨q1, q2, q3, q4, q5, q6, q7⟩ := hc
  have hrecv := va_recv (ws := hd_w G M N) (a := G.2.1 b) C.2.2.2.2.2.2.2.1 hH.1 hq (q0 := b) (hd_w_at hs)
  rw [hqc] at hrecv
  refine hd_after (P := P) (a := ((.ref b :: as).map (hd_v G.2.1)).toArray) (va_runV (C := J.2.1.cls) (b := G.2.1 b) (As := as.map (hd_v G.2.1)) (rest := st.map (hd_v G.2.1)) ⟨C.1, C.2.1, C.2.2.1, C.2.2.2.2.1, hT⟩ (hd_met h q3 q4 hlen l G A) ⟨callB_of as.length hT (hd_goodws q1) rfl rfl rfl (hT _ q2) (hT _ hl) q5 (hd_room q6 q7), hT _ hin, hT _ hsel⟩ ⟨hd_blind, hrecv, fun U hU hW => ⟨rfl, hd_enter C.2.2.2.2.2.2.2.1 C.2.2.2.2.2.2.2.2 hH U hU hW⟩⟩ rfl (List.length_map _) hL.2.1 ?_ ?_ hd ⟨Nat.le_refl _, Nat.le_refl _⟩) hH ?_
  · show st0.map (hd_v G.2.1) = _
    rw [hst0, List.map_append, List.map_reverse]
    rfl
  · rw [hd_cats]
    show 2 * 0 + _ ≤ 8
    omega
  · intro r M1 N1 hp H1 locs1 hH1
    exact k r M1 N1 hp p l e s m args below meth c H1 locs1 G A ls C hH1 hL
theorem hd_ldcs {index i : Nat} {tx : String} (hd : decode I.2.2.1 pc = .ok (.ldc index, 2)) (ho : I.1 = RX4) (hx : hd_tx[i]? = some (index, tx)) (h : hd_Go I (pc + 2) lv (.ref (1000 + i) :: st) M N Q) : hd_Go I pc lv st M N Q :=
  fun p l e s m args below meth c H locs G A ls C hH hL => va_ldcS C.1 C.2.1 (own := RX4) (by rw [← ho]; exact C.2.2.2.2.1) (C.2.2.2.2.2.2.2.2.2.2.1 i (index, tx) hx) hd (h p l e s m args below meth c H locs G A ls C hH hL)
theorem hd_d1 {d : Nat} (h : 0 < d) {st : List Value} {ad : Nat → Nat} (hc : (st.map fun v => v.category).sum ≤ 8) : 1 ≤ (hd_rm d).frames ∧ ((st.map (hd_v ad)).map fun v => v.category).sum + 13 ≤ (hd_rm d).locals := by
  rw [hd_cats]
  show 1 ≤ d ∧ _ + 13 ≤ 36 * d
  omega
theorem hd_mmax {index : Nat} {x y : Int32} (hd : decode I.2.2.1 pc = .ok (.invokestatic index, 3)) (hl : Cond.methodLink I.1 index Lib.Math.max.name ∈ hd_tbl) (hst : Cond.static Lib.Math.max.name ∈ hd_tbl) (hini : Cond.initialized "java/lang/Math" ∈ hd_tbl) (hco : Cond.code Lib.Math.max.name Lib.Math.max.code 2 (some .int) ∈ hd_tbl) (h0 : 0 < I.2.2.2.2.2.1) (hcat : (st.map fun v => v.category).sum ≤ 8) (h : hd_Go I (pc + 3) lv (.int (if x < y then y else x) :: st) M N Q) : hd_Go I pc lv (.int y :: .int x :: st) M N Q := by
  intro p l e s m args below meth c H locs G A ls C hH hL
  have hT := C.2.2.2.2.2.1
  obtain ⟨r1, r2⟩ := hd_d1 (ad := G.2.1) h0 hcat
  exact va_mmax C.1 C.2.1 (C.2.2.1.trans hL.2.1.symm) C.2.2.2.2.1 (hT _ hl) (hT _ hst) (hT _ hini) (hT _ hco) r1 r2 (Nat.zero_le _) (Nat.zero_le _) hd (h p l e s m args below meth c H locs G A ls C hH hL)
theorem hd_mmin {index : Nat} {x y : Int32} (hd : decode I.2.2.1 pc = .ok (.invokestatic index, 3)) (hl : Cond.methodLink I.1 index Lib.Math.min.name ∈ hd_tbl) (hst : Cond.static Lib.Math.min.name ∈ hd_tbl) (hini : Cond.initialized "java/lang/Math" ∈ hd_tbl) (hco : Cond.code Lib.Math.min.name Lib.Math.min.code 2 (some .int) ∈ hd_tbl) (h0 : 0 < I.2.2.2.2.2.1) (hcat : (st.map fun v => v.category).sum ≤ 8) (h : hd_Go I (pc + 3) lv (.int (if y < x then y else x) :: st) M N Q) : hd_Go I pc lv (.int y :: .int x :: st) M N Q := by
  intro p l e s m args below meth c H locs G A ls C hH hL
  have hT := C.2.2.2.2.2.1
  obtain ⟨r1, r2⟩ := hd_d1 (ad := G.2.1) h0 hcat
  exact va_mmin C.1 C.2.1 (C.2.2.1.trans hL.2.1.symm) C.2.2.2.2.1 (hT _ hl) (hT _ hst) (hT _ hini) (hT _ hco) r1 r2 (Nat.zero_le _) (Nat.zero_le _) hd (h p l e s m args below meth c H locs G A ls C hH hL)
/-- arraycopy between rows of ints -/
def hd_cp (M : hd_M) (a b sp dp n : Nat) : hd_M := fun c j => if c = b then va_cpy (M a) (M b) sp dp n j else M c j
theorem hd_copy {index a b n0 n1 : Nat} {sp dp n : Int32} (hd : decode I.2.2.1 pc = .ok (.invokestatic index, 3)) (hl : Cond.methodLink I.1 index arraycopyName ∈ hd_tbl) (hnat : Cond.native arraycopyName ∈ hd_tbl) (hst : Cond.static arraycopyName ∈ hd_tbl) (hini : Cond.initialized "java/lang/System" ∈ hd_tbl) (h0 : 0 < I.2.2.2.2.2.1) (hcat : st = []) (hs0 : hd_shp[a]? = some (.inl (0, n0))) (hs1 : hd_shp[b]? = some (.inl (0, n1))) (h1 : ¬ sp < 0) (h2 : ¬ dp < 0) (h3 : ¬ n < 0) (h4 : sp.toNatClampNeg + n.toNatClampNeg ≤ n0) (h5 : dp.toNatClampNeg + n.toNatClampNeg ≤ n1) (h : hd_Go I (pc + 3) lv st (hd_cp M a b sp.toNatClampNeg dp.toNatClampNeg n.toNatClampNeg) N Q) : hd_Go I pc lv (.int n :: .int dp :: .ref b :: .int sp :: .ref a :: st) M N Q := by
  intro p l e s m args below meth c H locs G A ls C hH hL
  subst hcat
  have hT := C.2.2.2.2.2.1
  refine va_copyi (ws := hd_w G M N) C.1 C.2.1 (C.2.2.1.trans hL.2.1.symm) C.2.2.2.2.1 (hT _ hl) (hT _ hnat) (hT _ hst) (hT _ hini) C.2.2.2.2.2.2.2.1 hH.1 hH.2.1 hH.2.2 a b 0 0 (hd_w_at hs0) (hd_w_at hs1) (ty := .int) rfl rfl rfl h1 h2 h3 h4 h5 (fun _ _ => rfl) ?_ ?_ hd ?_
  · show 1 ≤ I.2.2.2.2.2.1
    omega
  · show 0 + (nativeFrameWords "java/lang/System" "arraycopy" 5 + 11) ≤ 36 * I.2.2.2.2.2.1
    have : nativeFrameWords "java/lang/System" "arraycopy" 5 ≤ 25 := by decide +kernel
    omega
  · intro H1 locs1 hP hD hS
    have e9 : (hd_w G M N).set b (G.2.1 b, .inl (G.2.2 0, n1, .inl (va_cpy (M a) (M b) sp.toNatClampNeg dp.toNatClampNeg n.toNatClampNeg))) = hd_w G (hd_cp M a b sp.toNatClampNeg dp.toNatClampNeg n.toNatClampNeg) N := by
      refine hd_w_set2 (M' := hd_cp M a b sp.toNatClampNeg dp.toNatClampNeg n.toNatClampNeg) (N' := N) ?_ hs1 (fun c d hc => by simp [hd_cp, hc]) (fun _ _ _ => rfl)
      show _ = (G.2.1 b, Sum.inl (G.2.2 0, n1, Sum.inl (hd_cp M a b sp.toNatClampNeg dp.toNatClampNeg n.toNatClampNeg b)))
      have : hd_cp M a b sp.toNatClampNeg dp.toNatClampNeg n.toNatClampNeg b = va_cpy (M a) (M b) sp.toNatClampNeg dp.toNatClampNeg n.toNatClampNeg := by
        funext j
        simp [hd_cp]
      rw [this]
    rw [e9] at hP hD
    exact h p l e s m args below meth c H1 locs1 G A ls C ⟨hP, hD, hS⟩ hL
/-! switches -/
def hd_sw (dflt : Nat) (x : Int32) : List (Int32 × Nat) → Nat
  | [] => dflt
  | (v, t) :: r => if x = v then t else hd_sw dflt x r
end
