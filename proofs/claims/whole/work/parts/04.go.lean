/-! WHAT A FRAME COMES TO: the judgement, and a row for each instruction -/
/-- the literals of the system: at place i of java/lang/String's, at 1000 + i in the addresses; their bytes at 1100 + i -/
def hd_tx : List (Nat × String) := [(105, "plain"), (111, "glass"), (113, "shower"), (115, "view"), (117, "mood"), (118, "tire")]
/-- the one link to a nest mate's method (Tape calls HamperDays.isWithin) -/
def hd_nx : Nat := 95
/-- a method: its own class, its name, its bytes, locals, answer, height above the leaves, instructions -/
abbrev hd_I : Type := String × MethodName × ByteArray × Nat × Option FieldType × Nat × List (Nat × hd_O)
def hd_rm (d : Nat) : Room := { frames := d, cells := 0, slots := 0, locals := 36 * d }
/-- the surroundings of a run: strings and statics that no one writes -/
def hd_X (G : hd_G) (A : Nat → Prop) (s : State) : Prop := (va_Z "java/lang/String" "COMPACT_STRINGS" "Z" (.int 1) A s s.heap ∧ (va_Z "jdk/internal/util/Preconditions" "SIOOBE_FORMATTER" "Ljava/util/function/BiFunction;" .null A s s.heap ∨ va_Z "jdk/internal/util/Preconditions" "SIOOBE_FORMATTER" "Ljava/util/function/BiFunction;" (.ref (G.2.1 1200)) A s s.heap)) ∧ vk_S 6 [5, 5, 6, 4, 4, 4] [[112, 108, 97, 105, 110], [103, 108, 97, 115, 115], [115, 104, 111, 119, 101, 114], [118, 105, 101, 119], [109, 111, 111, 100], [116, 105, 114, 101]] (fun i => G.2.1 (1000 + i)) (fun i => G.2.1 (1100 + i)) A s s.heap ∧ (∀ i : Nat, ∀ q : Nat × String, hd_tx[i]? = some q → vk_R RX4 q.1 q.2 (G.2.1 (1000 + i)) s) ∧ va_Nw (.methodLinkNest RX4 hd_nx yX5_isWithin RX5) s
/-- the machine, the method's own facts, the words, the classes -/
def hd_C (I : hd_I) (p : Program) (s : State) (m : MethodId) (args : Array Value) (meth : Method) (c : Code) (G : hd_G) (A : Nat → Prop) : Prop :=
  p.tables.exec = Jvm.exec ∧ c.code = I.2.2.1 ∧ c.maxLocals = I.2.2.2.1 ∧ meth.sig.returnType = I.2.2.2.2.1 ∧ s.vm.findClass I.1 = some m.cls ∧ (∀ w ∈ hd_tbl, w.before args s = true) ∧ meth.locks = false ∧ va_K G.1 hd_cl (hd_tys G.2.2) s ∧ hd_X G A s
/-- the heap -/
def hd_H (G : hd_G) (A : Nat → Prop) (M : hd_M) (N : hd_N) (s : State) (H : Heap) (locs : List Loc) : Prop :=
  va_P G.1 hd_cl (hd_w G M N) H ∧ va_D A (hd_w G M N) ∧ va_S A s.heap H locs
/-- a method's end -/
def hd_E (G : hd_G) (A : Nat → Prop) (Q : hd_Q) : Array Value → State → Outcome → State → Prop := fun _ st oc t =>
  (∃ (r : Option Value) (M : hd_M) (N : hd_N), oc = .returned (r.map (hd_v G.2.1)) ∧ Q r M N ∧ va_P G.1 hd_cl (hd_w G M N) t.heap) ∧ va_F A st t
def hd_Go (I : hd_I) (pc : Nat) (lv : hd_L) (st : List Value) (M : hd_M) (N : hd_N) (Q : hd_Q) : Prop :=
  ∀ (p : Program) (l : Launch) (e : Env) (s : State) (m : MethodId) (args : Array Value) (below : List Frame) (meth : Method) (c : Code) (H : Heap) (locs : List Loc) (G : hd_G) (A : Nat → Prop) (ls : Array Slot),
    hd_C I p s m args meth c G A → hd_H G A M N s H locs → hd_lo ls I.2.2.2.1 G.2.1 lv →
    W p l e (hd_rm I.2.2.2.2.2.1) s m args below meth c H locs 0 0 (MQ below (hd_E G A Q) args s 0 0 A) (F0 m pc ls (st.map (hd_v G.2.1)))
section
variable {I : hd_I} {pc : Nat} {lv : hd_L} {st : List Value} {M : hd_M} {N : hd_N} {Q : hd_Q}
/-- a frame may know less -/
theorem hd_Go.less {lv' : hd_L} (hl : lv'.length ≤ lv.length) (hs : ∀ (i : Nat) (v : Value), lv'[i]? = some (some v) → lv[i]? = some (some v)) (h : hd_Go I pc lv' st M N Q) : hd_Go I pc lv st M N Q :=
  fun p l e s m args below meth c H locs G A ls C hH hL => h p l e s m args below meth c H locs G A ls C hH (hL.less hl hs)
theorem hd_Go.post {Q' : hd_Q} (hq : ∀ r M N, Q' r M N → Q r M N) (h : hd_Go I pc lv st M N Q') : hd_Go I pc lv st M N Q := by
  intro p l e s m args below meth c H locs G A ls C hH hL T hT X
  obtain ⟨t, a, o, h1, h2, ⟨⟨r, M1, N1, h3, h4, h5⟩, h6⟩, h7⟩ := h p l e s m args below meth c H locs G A ls C hH hL T hT X
  exact ⟨t, a, o, h1, h2, ⟨⟨r, M1, N1, h3, hq _ _ _ h4, h5⟩, h6⟩, h7⟩
theorem hd_iconst {n : Int} {v : Int32} (hd : decode I.2.2.1 pc = .ok (.iconst n, 1)) (hv : Int32.ofInt n = v) (h : hd_Go I (pc + 1) lv (.int v :: st) M N Q) : hd_Go I pc lv st M N Q :=
  fun p l e s m args below meth c H locs G A ls C hH hL => lv_iconst C.1 C.2.1 hd hv (h p l e s m args below meth c H locs G A ls C hH hL)
theorem hd_bipush {n : Int} {v : Int32} (hd : decode I.2.2.1 pc = .ok (.bipush n, 2)) (hv : (Int8.ofInt n).toInt32 = v) (h : hd_Go I (pc + 2) lv (.int v :: st) M N Q) : hd_Go I pc lv st M N Q :=
  fun p l e s m args below meth c H locs G A ls C hH hL => lv_bipush C.1 C.2.1 hd hv (h p l e s m args below meth c H locs G A ls C hH hL)
theorem hd_sipush {n : Int} {v : Int32} (hd : decode I.2.2.1 pc = .ok (.sipush n, 3)) (hv : (Int16.ofInt n).toInt32 = v) (h : hd_Go I (pc + 3) lv (.int v :: st) M N Q) : hd_Go I pc lv st M N Q :=
  fun p l e s m args below meth c H locs G A ls C hH hL => lv_sipush C.1 C.2.1 hd hv (h p l e s m args below meth c H locs G A ls C hH hL)
theorem hd_lconst {n : Fin 2} {v : Int64} (hd : decode I.2.2.1 pc = .ok (.lconst n, 1)) (hv : Int64.ofNat (n : Nat) = v) (h : hd_Go I (pc + 1) lv (.long v :: st) M N Q) : hd_Go I pc lv st M N Q :=
  fun p l e s m args below meth c H locs G A ls C hH hL => lv_lconst C.1 C.2.1 hd hv (h p l e s m args below meth c H locs G A ls C hH hL)
theorem hd_ldc {index : Nat} {v : Int32} (hd : decode I.2.2.1 pc = .ok (.ldc index, 2)) (hc : Cond.constant I.1 index v ∈ hd_tbl) (h : hd_Go I (pc + 2) lv (.int v :: st) M N Q) : hd_Go I pc lv st M N Q :=
  fun p l e s m args below meth c H locs G A ls C hH hL => lv_ldc C.1 C.2.1 C.2.2.2.2.1 (C.2.2.2.2.2.1 _ hc) hd (h p l e s m args below meth c H locs G A ls C hH hL)
theorem hd_ldcw {index : Nat} {v : Int32} (hd : decode I.2.2.1 pc = .ok (.ldc_w index, 3)) (hc : Cond.constant I.1 index v ∈ hd_tbl) (h : hd_Go I (pc + 3) lv (.int v :: st) M N Q) : hd_Go I pc lv st M N Q :=
  fun p l e s m args below meth c H locs G A ls C hH hL => lv_ldcw C.1 C.2.1 C.2.2.2.2.1 (C.2.2.2.2.2.1 _ hc) hd (h p l e s m args below meth c H locs G A ls C hH hL)
theorem hd_ldc2 {index : Nat} {v : Int64} (hd : decode I.2.2.1 pc = .ok (.ldc2_w index, 3)) (hc : Cond.constantLong I.1 index v ∈ hd_tbl) (h : hd_Go I (pc + 3) lv (.long v :: st) M N Q) : hd_Go I pc lv st M N Q :=
  fun p l e s m args below meth c H locs G A ls C hH hL => lv_ldc2 C.1 C.2.1 C.2.2.2.2.1 (C.2.2.2.2.2.1 _ hc) hd (h p l e s m args below meth c H locs G A ls C hH hL)
theorem hd_iload_n {k : Fin 4} {i : Nat} {x : Int32} (hd : decode I.2.2.1 pc = .ok (.iload_n k, 1)) (hi : (k : Nat) = i) (hx : lv[i]? = some (some (.int x))) (h : hd_Go I (pc + 1) lv (.int x :: st) M N Q) : hd_Go I pc lv st M N Q :=
  fun p l e s m args below meth c H locs G A ls C hH hL => lv_iload_n C.1 C.2.1 hd hi (hL.at hx) (h p l e s m args below meth c H locs G A ls C hH hL)
theorem hd_iload {i : Nat} {x : Int32} (hd : decode I.2.2.1 pc = .ok (.iload i, 2)) (hx : lv[i]? = some (some (.int x))) (h : hd_Go I (pc + 2) lv (.int x :: st) M N Q) : hd_Go I pc lv st M N Q :=
  fun p l e s m args below meth c H locs G A ls C hH hL => lv_iload C.1 C.2.1 hd (hL.at hx) (h p l e s m args below meth c H locs G A ls C hH hL)
theorem hd_lload_n {k : Fin 4} {i : Nat} {x : Int64} (hd : decode I.2.2.1 pc = .ok (.lload_n k, 1)) (hi : (k : Nat) = i) (hx : lv[i]? = some (some (.long x))) (h : hd_Go I (pc + 1) lv (.long x :: st) M N Q) : hd_Go I pc lv st M N Q :=
  fun p l e s m args below meth c H locs G A ls C hH hL => lv_lload_n C.1 C.2.1 hd hi (hL.at hx) (h p l e s m args below meth c H locs G A ls C hH hL)
theorem hd_lload {i : Nat} {x : Int64} (hd : decode I.2.2.1 pc = .ok (.lload i, 2)) (hx : lv[i]? = some (some (.long x))) (h : hd_Go I (pc + 2) lv (.long x :: st) M N Q) : hd_Go I pc lv st M N Q :=
  fun p l e s m args below meth c H locs G A ls C hH hL => lv_lload C.1 C.2.1 hd (hL.at hx) (h p l e s m args below meth c H locs G A ls C hH hL)
theorem hd_aload_n {k : Fin 4} {i : Nat} {x : Nat} (hd : decode I.2.2.1 pc = .ok (.aload_n k, 1)) (hi : (k : Nat) = i) (hx : lv[i]? = some (some (.ref x))) (h : hd_Go I (pc + 1) lv (.ref x :: st) M N Q) : hd_Go I pc lv st M N Q :=
  fun p l e s m args below meth c H locs G A ls C hH hL => lv_aload_n C.1 C.2.1 hd hi (hL.at hx) (h p l e s m args below meth c H locs G A ls C hH hL)
theorem hd_aload {i : Nat} {x : Nat} (hd : decode I.2.2.1 pc = .ok (.aload i, 2)) (hx : lv[i]? = some (some (.ref x))) (h : hd_Go I (pc + 2) lv (.ref x :: st) M N Q) : hd_Go I pc lv st M N Q :=
  fun p l e s m args below meth c H locs G A ls C hH hL => lv_aload C.1 C.2.1 hd (hL.at hx) (h p l e s m args below meth c H locs G A ls C hH hL)
/-- a local is set: what is known behind it -/
theorem hd_lo.set {ls : Array Slot} {nL : Nat} {ad : Nat → Nat} {lv : hd_L} {i : Nat} {v : Value} (hL : hd_lo ls nL ad lv) (hp : ∀ u : Value, lv[i - 1]? = some (some u) → 0 < i → u.category ≠ 2) {ls' : Array Slot} (h : lv_has ls' nL ((i, hd_v ad v) :: (hd_as ad lv).filter (fun q => !(q.1 == i) && !(q.1 + 1 == i && q.2.category == 2)))) : hd_lo ls' nL ad (lv.set i (some v)) := by
  refine hd_lo.of (by rw [List.length_set]; exact hL.1) h (fun j u hu => ?_)
  rw [List.getElem?_set] at hu
  by_cases hj : i = j
  · subst hj
    rw [if_pos rfl] at hu
    split at hu
    · cases hu; exact List.mem_cons_self
    · cases hu
  · rw [if_neg hj] at hu
    refine List.mem_cons_of_mem _ (List.mem_filter.mpr ⟨hd_as_mem.mpr ⟨u, hu, rfl⟩, ?_⟩)
    have h1 : (j == i) = false := beq_eq_false_iff_ne.mpr (fun e => hj e.symm)
    have h2 : ((j + 1 == i) && ((hd_v ad u).category == 2)) = false := by
      by_cases hji : j + 1 = i
      · have hc := hp u (by rw [show i - 1 = j by omega]; exact hu) (by omega)
        rw [hd_v_cat]
        simp [hc]
      · simp [hji]
    simp [h1, h2]
theorem hd_lo.set2 {ls : Array Slot} {nL : Nat} {ad : Nat → Nat} {lv : hd_L} {i : Nat} {v : Value} (hL : hd_lo ls nL ad lv) (hp : ∀ u : Value, lv[i - 1]? = some (some u) → 0 < i → u.category ≠ 2) {ls' : Array Slot} (h : lv_has ls' nL ((i, hd_v ad v) :: (hd_as ad lv).filter (fun q => !(q.1 == i) && (!(q.1 == i + 1) && !(q.1 + 1 == i && q.2.category == 2))))) : hd_lo ls' nL ad ((lv.set i (some v)).set (i + 1) none) := by
  refine hd_lo.of (by rw [List.length_set, List.length_set]; exact hL.1) h (fun j u hu => ?_)
  rw [List.getElem?_set] at hu
  by_cases hk : i + 1 = j
  · rw [if_pos hk] at hu
    split at hu <;> cases hu
  rw [if_neg hk, List.getElem?_set] at hu
  by_cases hj : i = j
  · subst hj
    rw [if_pos rfl] at hu
    split at hu
    · cases hu; exact List.mem_cons_self
    · cases hu
  · rw [if_neg hj] at hu
    refine List.mem_cons_of_mem _ (List.mem_filter.mpr ⟨hd_as_mem.mpr ⟨u, hu, rfl⟩, ?_⟩)
    have h1 : (j == i) = false := beq_eq_false_iff_ne.mpr (fun e => hj e.symm)
    have h3 : (j == i + 1) = false := beq_eq_false_iff_ne.mpr (fun e => hk e.symm)
    have h2 : ((j + 1 == i) && ((hd_v ad u).category == 2)) = false := by
      by_cases hji : j + 1 = i
      · have hc := hp u (by rw [show i - 1 = j by omega]; exact hu) (by omega)
        rw [hd_v_cat]
        simp [hc]
      · simp [hji]
    simp [h1, h2, h3]
theorem hd_istore_n {k : Fin 4} {i : Nat} {x : Int32} (hd : decode I.2.2.1 pc = .ok (.istore_n k, 1)) (hi : (k : Nat) = i) (hn : i < lv.length) (hp : ∀ u : Value, lv[i - 1]? = some (some u) → 0 < i → u.category ≠ 2) (h : hd_Go I (pc + 1) (lv.set i (some (.int x))) st M N Q) : hd_Go I pc lv (.int x :: st) M N Q :=
  fun p l e s m args below meth c H locs G A ls C hH hL => lv_istore_n C.1 C.2.1 hd hi hL.2 (Nat.lt_of_lt_of_le hn hL.1) rfl (fun ls' h' => h p l e s m args below meth c H locs G A ls' C hH (hL.set hp h'))
theorem hd_istore {i : Nat} {x : Int32} (hd : decode I.2.2.1 pc = .ok (.istore i, 2)) (hn : i < lv.length) (hp : ∀ u : Value, lv[i - 1]? = some (some u) → 0 < i → u.category ≠ 2) (h : hd_Go I (pc + 2) (lv.set i (some (.int x))) st M N Q) : hd_Go I pc lv (.int x :: st) M N Q :=
  fun p l e s m args below meth c H locs G A ls C hH hL => lv_istore C.1 C.2.1 hd hL.2 (Nat.lt_of_lt_of_le hn hL.1) rfl (fun ls' h' => h p l e s m args below meth c H locs G A ls' C hH (hL.set hp h'))
theorem hd_astore_n {k : Fin 4} {i : Nat} {x : Nat} (hd : decode I.2.2.1 pc = .ok (.astore_n k, 1)) (hi : (k : Nat) = i) (hn : i < lv.length) (hp : ∀ u : Value, lv[i - 1]? = some (some u) → 0 < i → u.category ≠ 2) (h : hd_Go I (pc + 1) (lv.set i (some (.ref x))) st M N Q) : hd_Go I pc lv (.ref x :: st) M N Q :=
  fun p l e s m args below meth c H locs G A ls C hH hL => lv_astore_n C.1 C.2.1 hd hi hL.2 (Nat.lt_of_lt_of_le hn hL.1) rfl (fun ls' h' => h p l e s m args below meth c H locs G A ls' C hH (hL.set (v := .ref x) hp h'))
theorem hd_astore {i : Nat} {x : Nat} (hd : decode I.2.2.1 pc = .ok (.astore i, 2)) (hn : i < lv.length) (hp : ∀ u : Value, lv[i - 1]? = some (some u) → 0 < i → u.category ≠ 2) (h : hd_Go I (pc + 2) (lv.set i (some (.ref x))) st M N Q) : hd_Go I pc lv (.ref x :: st) M N Q :=
  fun p l e s m args below meth c H locs G A ls C hH hL => lv_astore C.1 C.2.1 hd hL.2 (Nat.lt_of_lt_of_le hn hL.1) rfl (fun ls' h' => h p l e s m args below meth c H locs G A ls' C hH (hL.set (v := .ref x) hp h'))
theorem hd_lstore_n {k : Fin 4} {i : Nat} {x : Int64} (hd : decode I.2.2.1 pc = .ok (.lstore_n k, 1)) (hi : (k : Nat) = i) (hn : i + 1 < lv.length) (hp : ∀ u : Value, lv[i - 1]? = some (some u) → 0 < i → u.category ≠ 2) (h : hd_Go I (pc + 1) ((lv.set i (some (.long x))).set (i + 1) none) st M N Q) : hd_Go I pc lv (.long x :: st) M N Q :=
  fun p l e s m args below meth c H locs G A ls C hH hL => lv_lstore_n C.1 C.2.1 hd hi hL.2 (Nat.lt_of_lt_of_le hn hL.1) rfl (fun ls' h' => h p l e s m args below meth c H locs G A ls' C hH (hL.set2 (v := .long x) hp h'))
theorem hd_lstore {i : Nat} {x : Int64} (hd : decode I.2.2.1 pc = .ok (.lstore i, 2)) (hn : i + 1 < lv.length) (hp : ∀ u : Value, lv[i - 1]? = some (some u) → 0 < i → u.category ≠ 2) (h : hd_Go I (pc + 2) ((lv.set i (some (.long x))).set (i + 1) none) st M N Q) : hd_Go I pc lv (.long x :: st) M N Q :=
  fun p l e s m args below meth c H locs G A ls C hH hL => lv_lstore C.1 C.2.1 hd hL.2 (Nat.lt_of_lt_of_le hn hL.1) rfl (fun ls' h' => h p l e s m args below meth c H locs G A ls' C hH (hL.set2 (v := .long x) hp h'))
theorem hd_iinc {i : Nat} {n : Int} {x v : Int32} (hd : decode I.2.2.1 pc = .ok (.iinc i n, 3)) (hx : lv[i]? = some (some (.int x))) (hv : Int32.ofInt n = v) (hp : ∀ u : Value, lv[i - 1]? = some (some u) → 0 < i → u.category ≠ 2) (h : hd_Go I (pc + 3) (lv.set i (some (.int (x + v)))) st M N Q) : hd_Go I pc lv st M N Q := by
  intro p l e s m args below meth c H locs G A ls C hH hL
  have hm : (i, hd_v G.2.1 (.int x)) ∈ hd_as G.2.1 lv := hd_as_mem.mpr ⟨_, hx, rfl⟩
  obtain ⟨k, hk⟩ := List.mem_iff_getElem?.mp hm
  have hn : i < lv.length := by
    rcases Nat.lt_or_ge i lv.length with q | q
    · exact q
    · rw [List.getElem?_eq_none q] at hx; cases hx
  exact lv_iinc C.1 C.2.1 hd hL.2 (k := k) hk (by rw [hv]) (Nat.lt_of_lt_of_le hn hL.1) rfl (fun ls' h' => h p l e s m args below meth c H locs G A ls' C hH (hL.set (v := .int (x + v)) hp h'))
end
