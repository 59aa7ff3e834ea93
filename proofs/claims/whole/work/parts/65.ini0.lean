/-! CONSTRUCTORS: rows over the kit's; the world is a list of cells, the object that is made among them -/
/-- links to a nest mate's constructor -/
def ic_nl : List (String × Nat × MethodName × String) := [(RX5, 9, yX0_init, RX5), (RX5, 21, yX2_init, RX5), (RX5, 28, yX4_init, RX5), (RX5, 59, yX1_init, RX5), (RX5, 60, yX3_init, RX5), (RX1, 9, yX0_init, RX5), (RX1, 18, yX2_init, RX5)]
def ic_N (U : State) : Prop := va_AO "HamperDays$Image" U ∧ va_AO "HamperDays$Sheet" U ∧ ∀ q ∈ ic_nl, va_Nw (.methodLinkNest q.1 q.2.1 q.2.2.1 q.2.2.2) U
theorem ic_N.warm {s U : State} (hW : s.WarmedH U.vm) (h : ic_N s) : ic_N U := ⟨h.1.moved hW.alike, h.2.1.moved hW.alike, fun q hq => (h.2.2 q hq).warmM hW⟩
theorem ic_N.calling {U : State} {g : JFrame} {mk : MethodId} {a : Array Value} (h : ic_N U) : ic_N (U.calling g mk a) :=
  ⟨h.1.moved (u := U) (U := U.calling g mk a) (Vm.Alike.refl U.vm), h.2.1.moved (u := U) (U := U.calling g mk a) (Vm.Alike.refl U.vm), fun q hq => (h.2.2 q hq).same (u := U) (U := U.calling g mk a) rfl rfl⟩
/-- what a caller must show of the state at a constructor's entry -/
def ic_B (D : va_G) (dA : Nat → ClassId) (A : Nat → Prop) (ws : va_W) (U : State) : Prop := va_P D hd_cl ws U.heap ∧ va_D A ws ∧ va_K D hd_cl (hd_tys dA) U ∧ ic_N U ∧ ∀ q, U.heap.size ≤ q → A q
theorem ic_blind {D : va_G} {dA : Nat → ClassId} {A : Nat → Prop} {ws : va_W} {vs : List Value} : FrameBlind (va_Pc vs (ic_B D dA A ws)) := by
  intro a U g mk ⟨h0, hP, hD, hK, hN, hA⟩
  exact ⟨h0, hP, hD, va_K.moved (u := U) (U := U.calling g mk a) (Vm.Alike.refl U.vm) hK, hN.calling, hA⟩
def ic_rm (d mc ms : Nat) : Room := { frames := d, cells := mc, slots := ms, locals := 36 * d }
abbrev ic_E {S : Type} (D : va_G) (A : Nat → Prop) (w : S → va_W) : Array Value → State → Outcome → State → Prop := va_Qv (fun _ : S => True) (fun u t => va_P D hd_cl (w u) t.heap ∧ va_D A (w u)) A
/-- a constructor: its name, bytes, locals, depth, cells, slots -/
abbrev ic_I : Type := MethodName × ByteArray × Nat × Nat × Nat × Nat
abbrev ic_ws (I : ic_I) : List Cond := Cond.code I.1 I.2.1 I.2.2.1 none :: hd_tbl
abbrev ic_W : Type := (Nat → ClassId) → Nat → (Nat → Nat) → va_W
/-- the constructor I makes, of an object with the fields o, the cells w -/
def ic_Met (I : ic_I) (o : va_E) (w : ic_W) : Prop := ∀ (l : Launch) (D : va_G) (dA : Nat → ClassId) (A : Nat → Prop) (h0 : Nat), Met l I.1 (ic_ws I) (ic_rm I.2.2.2.1 I.2.2.2.2.1 I.2.2.2.2.2) (va_Pc [.ref h0] (ic_B D dA A [(h0, o)])) (ic_E D A (w dA h0)) I.2.2.2.2.1 I.2.2.2.2.2 A
def ic_C (own : String) (cc : ByteArray) (nL : Nat) (p : Program) (s : State) (m : MethodId) (args : Array Value) (c : Code) (D : va_G) (dA : Nat → ClassId) (A : Nat → Prop) : Prop :=
  p.tables.exec = Jvm.exec ∧ c.code = cc ∧ c.maxLocals = nL ∧ s.vm.findClass own = some m.cls ∧ (∀ w ∈ hd_tbl, w.before args s = true) ∧ va_K D hd_cl (hd_tys dA) s ∧ ic_N s ∧ ∀ q, s.heap.size ≤ q → A q
def ic_H (D : va_G) (A : Nat → Prop) (ws : va_W) (s : State) (H : Heap) (locs : List Loc) : Prop := va_P D hd_cl ws H ∧ va_D A ws ∧ va_S A s.heap H locs
theorem ic_arr {D : va_G} {dA : Nat → ClassId} {s : State} {cA : ClassId} {ty : FieldType} {t : Nat} (hK : va_K D hd_cl (hd_tys dA) s) (ht : (hd_tys dA)[t]? = some (dA t, ty)) (h : va_RA s cA ty) : cA = dA t := by
  have h2 := (hK.2 t _ ht).2
  cases ty with
  | object C =>
    obtain ⟨_, _, -, -, -, e1⟩ := h
    obtain ⟨_, _, -, -, -, e2⟩ := h2
    exact Option.some.inj (e1.symm.trans e2)
  | _ => exact Option.some.inj ((show _ = some cA from h).symm.trans h2)
theorem ic_met {I : ic_I} {own : String} {o : va_E} {w : ic_W} (hy : plainName I.1.cls = true) (ho : I.1.cls = own) (hn : 1 ≤ I.2.2.1)
    (h : ∀ (p : Program) (l : Launch) (e : Env) (s : State) (m : MethodId) (below : List Frame) (meth : Method) (c : Code) (D : va_G) (dA : Nat → ClassId) (A : Nat → Prop) (h0 : Nat) (ls : Array Slot), ic_C own I.2.1 I.2.2.1 p s m #[.ref h0] c D dA A → meth.name = I.1.name → meth.sig.returnType = none → meth.locks = false → ic_H D A [(h0, o)] s s.heap [] → lv_has ls I.2.2.1 [(0, .ref h0)] →
      W p l e (ic_rm I.2.2.2.1 I.2.2.2.2.1 I.2.2.2.2.2) s m #[.ref h0] below meth c s.heap [] 0 0 (MQ below (ic_E D A (w dA h0)) #[.ref h0] s I.2.2.2.2.1 I.2.2.2.2.2 A) (F0 m 0 ls [])) : ic_Met I o w := by
  intro l D dA A h0
  refine Met.ofW (cc := I.2.1) (maxL := I.2.2.1) (ret := none) hy rfl ?_
  intro p e s m args below meth c s₁ B hml hv
  obtain ⟨rfl, hP, hD, hK, hN, hA⟩ := hv
  have hts := atoms_spec (ws := ic_ws I) B.pre
  have hown : s.vm.findClass own = some m.cls := by rw [← ho]; exact findClass_of_methodNamed B.named
  have hl := lv_entry ([.ref h0]) (n := I.2.2.1) hn
  rw [lg_entry_eq]
  exact h p l e s m below meth c D dA A h0 _ ⟨B.exec, B.bytes, hml, hown, fun w hw => hts w (List.mem_cons_of_mem _ hw), hK, hN, hA⟩ (name_of_methodNamed B.named B.method).1 B.returns B.notSynchronized ⟨hP, hD, va_S.rf⟩ hl
theorem ic_good {I : ic_I} (h : Cond.code I.1 I.2.1 I.2.2.1 none ∈ hd_tbl) : GoodIn hd_tbl (ic_ws I) := by
  intro w hw
  rcases List.mem_cons.mp hw with e | hw
  · rw [e]; exact ⟨h, good_of_word (hd_good _ h)⟩
  · exact ⟨hw, good_of_word (hd_good _ hw)⟩
theorem ic_at {ws0 r : va_W} {x : Nat × va_E} : (ws0 ++ x :: r)[ws0.length]? = some x := by simp
theorem ic_set {ws0 r : va_W} {x y : Nat × va_E} : (ws0 ++ x :: r).set ws0.length y = ws0 ++ y :: r := by simp
section
variable {p : Program} {l : Launch} {e : Env} {R : Room} {s : State} {m : MethodId} {args : Array Value} {below : List Frame} {meth : Method} {c : Code} {H : Heap} {locs : List Loc} {cells slots : Nat} {Q : State → Prop}
variable {own : String} {cc : ByteArray} {nL pc : Nat} {ls : Array Slot} {rest : List Value} {D : va_G} {dA : Nat → ClassId} {A : Nat → Prop} {ws ws0 r : va_W} {h0 : Nat}
theorem ic_obj {idx a : Nat} (C : ic_C own cc nL p s m args c D dA A) (hls : ls.size = nL) (hl : Cond.methodLink own idx objectInit ∈ hd_tbl) (h1 : Cond.instanceMethod objectInit ∈ hd_tbl) (h2 : Cond.code objectInit ⟨#[0xb1]⟩ 1 none ∈ hd_tbl) (hR : 1 ≤ R.frames ∧ 12 ≤ R.locals) (hdg : decode cc pc = .ok (.invokespecial idx, 3))
    (kk : W p l e R s m args below meth c H locs cells slots Q (F0 m (pc + 3) ls [])) : W p l e R s m args below meth c H locs cells slots Q (F0 m pc ls [.ref a]) := by
  obtain ⟨hx, hb, hml, hown, hts, -⟩ := C
  exact W.objInit hx hb hown (hts _ hl) (hts _ h1) (hts _ h2) rfl (by rw [hml]; exact hls) rfl hdg hR.1 hR.2 kk
theorem ic_newa {atype : ArrayType} {ty : FieldType} {t : Nat} (hty : newarray.typeOf atype = ty) (ht : ∀ dA, (hd_tys dA)[t]? = some (dA t, ty)) (C : ic_C own cc nL p s m args c D dA A) (hH : ic_H D A ws s H locs) (harr : Cond.arrayClass ty ∈ hd_tbl) {n : Int32} {N' : Nat} (h9 : ∀ cA : ClassId, vp_cell cA (N', .inl (fun _ => 0)) = arrV cA N' (fun _ => defaultValue ty)) (hn : ¬ n < 0) (hN : n.toNatClampNeg = N') (hbytes : N' * componentBytes ty ≤ 536870912) (hcells : cells + 1 ≤ R.cells) (hslots : slots + N' ≤ R.slots) (hdg : decode cc pc = .ok (.newarray atype, 2))
    (kk : ∀ (q : Nat) (H1 : Heap), ic_H D A (ws ++ [(q, .inl (dA t, N', .inl (fun _ => 0)))]) s H1 locs → W p l e R s m args below meth c H1 locs (cells + 1) (slots + N') Q (F0 m (pc + 2) ls (.ref q :: rest))) : W p l e R s m args below meth c H locs cells slots Q (F0 m pc ls (.int n :: rest)) := by
  obtain ⟨hx, hb, hml, hown, hts, hK, hN9, hA⟩ := C
  refine va_newa hx hb (by rw [hty]; exact hts _ harr) hty hK hH.1 hH.2.1 hH.2.2 hA (a0 := (N', .inl (fun _ => 0))) h9 hn hN hbytes hcells hslots hdg (fun q cA H1 hK1 hP hD hS => ?_)
  have e := ic_arr hK (ht dA) (hK1.2 (hd_tys dA).length (cA, ty) (by simp)).2
  subst e
  exact kk q H1 ⟨hP, hD, hS⟩
theorem ic_newq {C9 : String} {index t : Nat} (ht : ∀ dA, (hd_tys dA)[t]? = some (dA t, .object C9)) (C : ic_C own cc nL p s m args c D dA A) (hH : ic_H D A ws s H locs) (hcl : Cond.classLink own index C9 ∈ hd_tbl) (hO : va_AO C9 s) {n : Int32} {N' : Nat} (hn : ¬ n < 0) (hN : n.toNatClampNeg = N') (hbytes : N' * 4 ≤ 536870912) (hcells : cells + 1 ≤ R.cells) (hslots : slots + N' ≤ R.slots) (hdg : decode cc pc = .ok (.anewarray index, 3))
    (kk : ∀ (q : Nat) (H1 : Heap), ic_H D A (ws ++ [(q, .inl (dA t, N', .inr (.inr (.inr (.inr (fun _ => none))))))]) s H1 locs → W p l e R s m args below meth c H1 locs (cells + 1) (slots + N') Q (F0 m (pc + 3) ls (.ref q :: rest))) : W p l e R s m args below meth c H locs cells slots Q (F0 m pc ls (.int n :: rest)) := by
  obtain ⟨hx, hb, hml, hown, hts, hK, hN9, hA⟩ := C
  refine va_newq hx hb hown (hts _ hcl) hO hK hH.1 hH.2.1 hH.2.2 hA hn hN hbytes hcells hslots hdg (fun q cA H1 hK1 hP hD hS => ?_)
  have e := ic_arr hK (ht dA) (hK1.2 (hd_tys dA).length (cA, .object C9) (by simp)).2
  subst e
  exact kk q H1 ⟨hP, hD, hS⟩
theorem ic_putF {index ci k : Nat} {q : vw_C} {fs : List Value} {v : Value} (C : ic_C own cc nL p s m args c D dA A) (hin2 : meth.name = "<init>") (hH : ic_H D A (ws0 ++ (h0, .inr (ci, fs)) :: r) s H locs) (hq : hd_cl[ci]? = some q) (hk : k < q.2.2) (hl : Cond.fieldLink own index (q.2.1 k).1 (q.2.1 k).2.1 (q.2.1 k).2.2.1 ∈ hd_tbl) (hfin : (q.2.1 k).2.2.2 = true) (hdecl : (q.2.1 k).1 = own) (hn : narrow (hd_ty ci k) v = v) (hfit : fits (hd_ty ci k) v = true) (hlen : k < fs.length) (hdg : decode cc pc = .ok (.putfield index, 3))
    (kk : ∀ (H1 : Heap) (locs1 : List Loc), ic_H D A (ws0 ++ (h0, .inr (ci, fs.set k v)) :: r) s H1 locs1 → W p l e R s m args below meth c H1 locs1 cells slots Q (F0 m (pc + 3) ls rest)) : W p l e R s m args below meth c H locs cells slots Q (F0 m pc ls (v :: .ref h0 :: rest)) := by
  obtain ⟨hx, hb, hml, hown, hts, hK, hN9, hA⟩ := C
  refine va_putF (D := D) (cl := hd_cl) (ci := ci) (C := q.1) (T := q.2.1) (N := q.2.2) hx hb hts (hd_uws ci q hq) (hd_ty ci) (hd_tyok ci q hq).1 (hd_tyok ci q hq).2 hown hK hH.1 hH.2.1 hH.2.2 ws0.length ic_at hq k hk (hts _ hl) (fun _ h9 => h9) hfin hin2 hdecl ((hd_tyok ci q hq).1 k hk) hn hfit hlen hdg (fun H1 locs1 hP hD hS => ?_)
  rw [ic_set] at hP hD
  exact kk H1 locs1 ⟨hP, hD, hS⟩
theorem ic_put {index ci k : Nat} {q : vw_C} {fs : List Value} {v : Value} (C : ic_C own cc nL p s m args c D dA A) (hH : ic_H D A (ws0 ++ (h0, .inr (ci, fs)) :: r) s H locs) (hq : hd_cl[ci]? = some q) (hk : k < q.2.2) (hl : Cond.fieldLink own index (q.2.1 k).1 (q.2.1 k).2.1 (q.2.1 k).2.2.1 ∈ hd_tbl) (hfin : (q.2.1 k).2.2.2 = false) (hn : narrow (hd_ty ci k) v = v) (hfit : fits (hd_ty ci k) v = true) (hlen : k < fs.length) (hdg : decode cc pc = .ok (.putfield index, 3))
    (kk : ∀ (H1 : Heap) (locs1 : List Loc), ic_H D A (ws0 ++ (h0, .inr (ci, fs.set k v)) :: r) s H1 locs1 → W p l e R s m args below meth c H1 locs1 cells slots Q (F0 m (pc + 3) ls rest)) : W p l e R s m args below meth c H locs cells slots Q (F0 m pc ls (v :: .ref h0 :: rest)) := by
  obtain ⟨hx, hb, hml, hown, hts, hK, hN9, hA⟩ := C
  refine va_put (D := D) (cl := hd_cl) (ci := ci) (C := q.1) (T := q.2.1) (N := q.2.2) hx hb hts (hd_uws ci q hq) (hd_ty ci) (hd_tyok ci q hq).1 (hd_tyok ci q hq).2 hown hK hH.1 hH.2.1 hH.2.2 ws0.length ic_at hq k hk (hts _ hl) (fun _ h9 => h9) hfin ((hd_tyok ci q hq).1 k hk) hn hfit hlen hdg (fun H1 locs1 hP hD hS => ?_)
  rw [ic_set] at hP hD
  exact kk H1 locs1 ⟨hP, hD, hS⟩
/-- a new row of numbers into a final field -/
theorem ic_nf {atype : ArrayType} {ty : FieldType} {t index ci k : Nat} {q : vw_C} {fs : List Value} (hty : newarray.typeOf atype = ty) (ht : ∀ dA, (hd_tys dA)[t]? = some (dA t, ty)) (C : ic_C own cc nL p s m args c D dA A) (hin2 : meth.name = "<init>") (hH : ic_H D A (ws0 ++ (h0, .inr (ci, fs)) :: r) s H locs) (harr : Cond.arrayClass ty ∈ hd_tbl) {n : Int32} {N' : Nat} (h9 : ∀ cA : ClassId, vp_cell cA (N', .inl (fun _ => 0)) = arrV cA N' (fun _ => defaultValue ty)) (hn : ¬ n < 0) (hN : n.toNatClampNeg = N') (hbytes : N' * componentBytes ty ≤ 536870912) (hcells : cells + 1 ≤ R.cells) (hslots : slots + N' ≤ R.slots) (hdg : decode cc pc = .ok (.newarray atype, 2))
    (hq : hd_cl[ci]? = some q) (hk : k < q.2.2) (hl : Cond.fieldLink own index (q.2.1 k).1 (q.2.1 k).2.1 (q.2.1 k).2.2.1 ∈ hd_tbl) (hfin : (q.2.1 k).2.2.2 = true) (hdecl : (q.2.1 k).1 = own) (hnr : ∀ v : Nat, narrow (hd_ty ci k) (.ref v) = .ref v) (hfit : ∀ v : Nat, fits (hd_ty ci k) (.ref v) = true) (hlen : k < fs.length) (hdg2 : decode cc (pc + 2) = .ok (.putfield index, 3))
    (kk : ∀ (q : Nat) (H1 : Heap) (locs1 : List Loc), ic_H D A (ws0 ++ (h0, .inr (ci, fs.set k (.ref q))) :: (r ++ [(q, .inl (dA t, N', .inl (fun _ => 0)))])) s H1 locs1 → W p l e R s m args below meth c H1 locs1 (cells + 1) (slots + N') Q (F0 m (pc + 5) ls rest)) : W p l e R s m args below meth c H locs cells slots Q (F0 m pc ls (.int n :: .ref h0 :: rest)) := by
  refine ic_newa hty ht C hH harr h9 hn hN hbytes hcells hslots hdg (fun q1 H1 hH1 => ?_)
  rw [List.append_assoc, List.cons_append] at hH1
  exact ic_putF C hin2 hH1 hq hk hl hfin hdecl (hnr q1) (hfit q1) hlen hdg2 (fun H2 locs2 hH2 => kk q1 H2 locs2 hH2)
theorem ic_end {S : Type} {w : S → va_W} {mc ms : Nat} (u : S) (C : ic_C own cc nL p s m args c D dA A) (hr : meth.sig.returnType = none) (hlocks : meth.locks = false) (hH : ic_H D A ws s H locs) (hw : w u = ws) (hc : cells = mc) (hs : slots = ms) (hdg : decode cc pc = .ok (.return_, 1)) : W p l e R s m args below meth c H locs cells slots (MQ below (ic_E D A w) args s mc ms A) (F0 m pc ls []) := by
  subst hw; subst hc; subst hs
  exact W.vret C.1 C.2.1 hr (fun t ht hW => ⟨⟨u, rfl, trivial, by rw [ht]; exact hH.1, hH.2.1⟩, hH.2.2.F ht⟩) hH.2.2.2.2 hdg hlocks
/-- new C; dup; C's constructor: its cells behind the others -/
theorem ic_make {I : ic_I} {o : List Value} {ci : Nat} {w : ic_W} {q : vw_C} {idx1 idx2 : Nat} (hI : ic_Met I (.inr (ci, o)) w) (C : ic_C own cc nL p s m args c D dA A) (hls : ls.size = nL) (hH : ic_H D A ws s H locs) (hq : hd_cl[ci]? = some q) (hcl : Cond.classLink own idx1 q.1 ∈ hd_tbl) (hins : Cond.instantiable q.1 q.2.2 ∈ hd_tbl) (hini : Cond.initialized q.1 ∈ hd_tbl) (hfs : ∀ j, j < q.2.2 → defaultValue (hd_ty ci j) = vp_V o j) (hc1 : cells + (1 + I.2.2.2.2.1) ≤ R.cells) (hs1 : slots + (q.2.2 + I.2.2.2.2.2) ≤ R.slots)
    (hy : I.1.name = "<init>") (hyc : I.1.cls = q.1) (hcode : Cond.code I.1 I.2.1 I.2.2.1 none ∈ hd_tbl) (hinst : Cond.instanceMethod I.1 ∈ hd_tbl) (hd9 : I.1.cls ≠ "java/lang/invoke/MethodHandle" ∧ I.1.cls ≠ "java/lang/invoke/VarHandle" ∧ (parseMethodDescriptor I.1.desc).map (fun d => d.parameters.length) = some 0) (hlink : Cond.methodLink own idx2 I.1 ∈ hd_tbl ∨ (own, idx2, I.1, RX5) ∈ ic_nl) (hR : I.2.2.2.1 + 1 ≤ R.frames ∧ 8 + (I.2.2.1 + 11) + 36 * I.2.2.2.1 ≤ R.locals) (hcat : (rest.map fun v => v.category).sum ≤ 7) (d1 : decode cc pc = .ok (.new idx1, 3)) (d2 : decode cc (pc + 3) = .ok (.dup, 1)) (d3 : decode cc (pc + 4) = .ok (.invokespecial idx2, 3))
    (kk : ∀ (q1 : Nat) (u : Nat → Nat) (H1 : Heap) (locs1 : List Loc), ic_H D A (ws ++ w dA q1 u) s H1 locs1 → W p l e R s m args below meth c H1 locs1 (cells + (1 + I.2.2.2.2.1)) (slots + (q.2.2 + I.2.2.2.2.2)) Q (F0 m (pc + 7) ls (.ref q1 :: rest))) : W p l e R s m args below meth c H locs cells slots Q (F0 m pc ls rest) := by
  obtain ⟨hx, hb, hml, hown, hts, hK, hN, hA⟩ := id C
  refine va_new (ci := ci) (fs := o) (C := q.1) (T := q.2.1) (N := q.2.2) hx hb hts (hd_uws ci q hq) (hd_ty ci) (hd_tyok ci q hq).1 hown (hts _ hcl) (hts _ hins) (hts _ hini) hK hH.1 hH.2.1 hH.2.2 hA hq hfs (by omega) (by omega) d1 (fun q1 H hP hD hS => ?_)
  refine lv_dup hx hb d2 rfl ?_
  have hat : (ws ++ [(q1, .inr (ci, o))])[ws.length]? = some (q1, .inr (ci, o)) := by simp
  have hPc : va_P D hd_cl [(q1, .inr (ci, o))] H := by
    intro k x hx
    match k, hx with
    | 0, hx => cases hx; exact hP _ _ hat
    | k + 1, hx => simp at hx
  have hDc : va_D (va_A [(q1, .inr (ci, o))] H.size) [(q1, .inr (ci, o))] := by
    refine va_D.self (A := fun _ => True) ⟨fun i j x y hx hy _ => ?_, fun _ _ _ => trivial⟩
    have h1 := (List.getElem?_eq_some_iff.mp hx).1
    have h2 := (List.getElem?_eq_some_iff.mp hy).1
    simp at h1 h2
    omega
  have hAc : ∀ x, va_A [(q1, .inr (ci, o))] H.size x → A x := by
    intro x h
    rcases h with ⟨k, e9, h⟩ | h
    · match k, h with
      | 0, h => cases h; exact hD.2 _ _ hat
      | k + 1, h => simp at h
    · exact hA x (Nat.le_trans hS.1 h)
  have hB : ∀ U : State, U.heap = H → s.WarmedH U.vm → ic_B D dA (va_A [(q1, .inr (ci, o))] H.size) [(q1, .inr (ci, o))] U := by
    intro U hU hW
    subst hU
    exact ⟨hPc, hDc, va_K.moved hW.alike hK, hN.warm hW, fun x h => Or.inr h⟩
  have hini2 : (Cond.initialized I.1.cls).before args s = true := by rw [hyc]; exact hts _ hini
  have hroom : 2 * (F0 m (pc + 4) ls (.ref q1 :: .ref q1 :: rest)).monitorRoom + ((Value.ref q1 :: rest).map fun v => v.category).sum ≤ 8 := by
    refine lv_room ?_
    rw [List.map_cons, List.sum_cons]
    show 1 + _ ≤ 8
    omega
  have hrun : va_Run p l e R s m args below meth c H locs (cells + 1) (slots + q.2.2) I.2.2.2.2.1 I.2.2.2.2.2 (F0 m (pc + 4) ls (.ref q1 :: .ref q1 :: rest)) (.ref q1 :: rest) (ic_E D (va_A [(q1, .inr (ci, o))] H.size) (w dA q1) #[.ref q1]) (va_A [(q1, .inr (ci, o))] H.size) := by
    rcases hlink with hl | hl
    · exact va_runI (As := []) (rest := .ref q1 :: rest) ⟨hx, hb, hml, hown, hts⟩ (hI l D dA _ q1) (cwI 0 hts (ic_good hcode) rfl rfl rfl hini2 (hts _ hl) (hts _ hinst) hy hd9 hR) ⟨ic_blind, fun U hU hW => ⟨rfl, hB U hU hW⟩⟩ rfl rfl hls rfl hroom d3 ⟨by omega, by omega⟩
    · exact va_runIN (As := []) (rest := .ref q1 :: rest) ⟨hx, hb, hml, hown, hts⟩ (hI l D dA _ q1) ⟨va_cnB 0 hts (ic_good hcode) rfl rfl rfl (hN.2.2 _ hl) hini2 hd9 hR, hy, hts _ hinst⟩ ⟨ic_blind, fun U hU hW => ⟨rfl, hB U hU hW⟩⟩ rfl rfl hls rfl hroom d3 ⟨by omega, by omega⟩
  refine va_callv hrun hS (fun x _ h => hAc x h) hAc (fun u t H1 locs1 ht hvm hpost hBu hz hk hS1 => ?_)
  obtain ⟨hP1, hD1⟩ := hBu
  rw [ht] at hP1
  have key : ∀ (k : Nat) (x : Nat × va_E), ws[k]? = some x → x.1 < H.size ∧ ¬ va_A [(q1, .inr (ci, o))] H.size x.1 ∧ va_at D hd_cl x H := by
    intro k x hx
    have hkl : k < ws.length := (List.getElem?_eq_some_iff.mp hx).1
    have hx2 : (ws ++ [(q1, .inr (ci, o))])[k]? = some x := by rw [List.getElem?_append_left hkl]; exact hx
    have hlt := (hP k x hx2).lt
    refine ⟨hlt, fun h => ?_, hP k x hx2⟩
    rcases h with ⟨k2, e9, h⟩ | h
    · match k2, h with
      | 0, h =>
        have e1 : q1 = x.1 := by
          have := Option.some.inj h
          exact congrArg Prod.fst this
        have := hD.1 k ws.length x _ hx2 hat e1.symm
        omega
      | k2 + 1, h => simp at h
    · omega
  have e5 : cells + 1 + I.2.2.2.2.1 = cells + (1 + I.2.2.2.2.1) := by omega
  have e6 : slots + q.2.2 + I.2.2.2.2.2 = slots + (q.2.2 + I.2.2.2.2.2) := by omega
  rw [e5, e6]
  refine kk q1 u H1 locs1 ⟨va_P.app (fun k x hx => ?_) hP1, va_D.app ⟨fun i j x y hx hy exy => ?_, fun k x hx => ?_⟩ (hD1.weaken (fun _ x _ h => hAc x.1 h)) (fun i j x y hx hy exy => ?_), hS1⟩
  · obtain ⟨g1, g2, g3⟩ := key k x hx
    exact g3.kept (hk x.1 g1 g2)
  · exact hH.2.1.1 i j x y hx hy exy
  · exact hH.2.1.2 k x hx
  · exact (key i x hx).2.1 (by rw [exy]; exact hD1.2 j y hy)
end
