/-! STRINGS: the six literals, which no one writes: at 1000 + i, their bytes at 1100 + i; printed by wip/whole/str1.py -/
def sx_len : List Nat := [5, 5, 6, 4, 4, 4]
def sx_byt : List (List Int32) := [[112, 108, 97, 105, 110], [103, 108, 97, 115, 115], [115, 104, 111, 119, 101, 114], [118, 105, 101, 119], [109, 111, 111, 100], [116, 105, 114, 101]]
section
variable {I : hd_I} {pc : Nat} {lv : hd_L} {st : List Value} {M : hd_M} {N : hd_N} {Q : hd_Q}
theorem sx_cs {index : Nat} (hd : decode I.2.2.1 pc = .ok (.getstatic index, 3)) (hl : Cond.fieldLink I.1 index "java/lang/String" "COMPACT_STRINGS" "Z" ∈ hd_tbl) (h : hd_Go I (pc + 3) lv (.int 1 :: st) M N Q) : hd_Go I pc lv st M N Q :=
  fun p l e s m args below meth c H locs G A ls C hH hL => va_gets C.1 C.2.1 C.2.2.2.2.2.2.2.2.1.1 hH.2.2 C.2.2.2.2.1 (C.2.2.2.2.2.1 _ hl) (fun _ z => z) hd (h p l e s m args below meth c H locs G A ls C hH hL)
theorem sx_ff {index : Nat} (hd : decode I.2.2.1 pc = .ok (.getstatic index, 3)) (hl : Cond.fieldLink I.1 index "jdk/internal/util/Preconditions" "SIOOBE_FORMATTER" "Ljava/util/function/BiFunction;" ∈ hd_tbl) (h0 : hd_Go I (pc + 3) lv (.null :: st) M N Q) (h1 : hd_Go I (pc + 3) lv (.ref 1200 :: st) M N Q) : hd_Go I pc lv st M N Q := by
  intro p l e s m args below meth c H locs G A ls C hH hL
  rcases C.2.2.2.2.2.2.2.2.1.2 with z | z
  · exact va_gets C.1 C.2.1 z hH.2.2 C.2.2.2.2.1 (C.2.2.2.2.2.1 _ hl) (fun _ z => z) hd (h0 p l e s m args below meth c H locs G A ls C hH hL)
  · exact va_gets C.1 C.2.1 z hH.2.2 C.2.2.2.2.1 (C.2.2.2.2.2.1 _ hl) (fun _ z => z) hd (h1 p l e s m args below meth c H locs G A ls C hH hL)
theorem sx_val {index i : Nat} (hi : i < 6) (hd : decode I.2.2.1 pc = .ok (.getfield index, 3)) (hl : Cond.fieldLink I.1 index "java/lang/String" "value" "[B" ∈ hd_tbl) (h : hd_Go I (pc + 3) lv (.ref (1100 + i) :: st) M N Q) : hd_Go I pc lv (.ref (1000 + i) :: st) M N Q :=
  fun p l e s m args below meth c H locs G A ls C hH hL => vk_getf C.1 C.2.1 (C.2.2.2.2.2.2.2.2.2.1.1 i hi).2.2.1 hH.2.2 C.2.2.2.2.1 (C.2.2.2.2.2.1 _ hl) (fun _ z => z) hd (h p l e s m args below meth c H locs G A ls C hH hL)
theorem sx_cod {index i : Nat} (hi : i < 6) (hd : decode I.2.2.1 pc = .ok (.getfield index, 3)) (hl : Cond.fieldLink I.1 index "java/lang/String" "coder" "B" ∈ hd_tbl) (h : hd_Go I (pc + 3) lv (.int 0 :: st) M N Q) : hd_Go I pc lv (.ref (1000 + i) :: st) M N Q :=
  fun p l e s m args below meth c H locs G A ls C hH hL => vk_getf C.1 C.2.1 (C.2.2.2.2.2.2.2.2.2.1.1 i hi).2.1 hH.2.2 C.2.2.2.2.1 (C.2.2.2.2.2.1 _ hl) (fun _ z => z) hd (h p l e s m args below meth c H locs G A ls C hH hL)
theorem sx_alen {i : Nat} (hi : i < 6) (hd : decode I.2.2.1 pc = .ok (.arraylength, 1)) (h : hd_Go I (pc + 1) lv (.int (nI (sx_len.getD i 0)) :: st) M N Q) : hd_Go I pc lv (.ref (1100 + i) :: st) M N Q :=
  fun p l e s m args below meth c H locs G A ls C hH hL => va_tlen C.1 C.2.1 (C.2.2.2.2.2.2.2.2.2.1.1 i hi).2.2.2 hH.2.2 (v := nI (sx_len.getD i 0)) rfl hd (h p l e s m args below meth c H locs G A ls C hH hL)
theorem sx_bld {i j : Nat} (hi : i < 6) (hj : j < sx_len.getD i 0) (hj2 : j < 2 ^ 31) (hd : decode I.2.2.1 pc = .ok (.baload, 1)) (h : hd_Go I (pc + 1) lv (.int ((sx_byt.getD i []).getD j 0) :: st) M N Q) : hd_Go I pc lv (.int (nI j) :: .ref (1100 + i) :: st) M N Q :=
  fun p l e s m args below meth c H locs G A ls C hH hL => va_tb C.1 C.2.1 (C.2.2.2.2.2.2.2.2.2.1.1 i hi).2.2.2 hH.2.2 (i := nI j) (fun z => by
      rcases z with z | z
      · exact absurd z (nI_pos hj2)
      · rw [nI_clamp hj2] at z; exact absurd hj (Nat.not_lt.mpr z)) (v := .int ((sx_byt.getD i []).getD j 0)) (by rw [nI_clamp hj2]; rfl) hd (h p l e s m args below meth c H locs G A ls C hH hL)
theorem sx_i2c {x v : Int32} (hd : decode I.2.2.1 pc = .ok (.i2c, 1)) (hv : (x.toUInt32 % 65536).toInt32 = v) (h : hd_Go I (pc + 1) lv (.int v :: st) M N Q) : hd_Go I pc lv (.int x :: st) M N Q :=
  fun p l e s m args below meth c H locs G A ls C hH hL => lv_i2c C.1 C.2.1 hd hv (h p l e s m args below meth c H locs G A ls C hH hL)
theorem sx_call {J : hd_I} {index i : Nat} {as st0 : List Value} {P : hd_Q} (hi : i < 6) (hd : decode I.2.2.1 pc = .ok (.invokevirtual index, 3)) (hc : hd_cal I J index as.length) (hl : Cond.methodLink I.1 index J.2.1 ∈ hd_tbl) (hin : Cond.instanceMethod J.2.1 ∈ hd_tbl) (hsel : Cond.selects J.2.1.cls J.2.1 J.2.1 ∈ hd_tbl) (hqc : J.2.1.cls = "java/lang/String") (hst0 : st0 = as.reverse ++ .ref (1000 + i) :: st) (hlen : (hd_en1 (.ref (1000 + i) :: as)).length ≤ J.2.2.2.1) (hcat : (st.map fun v => v.category).sum ≤ 8)
    (h : hd_Ret J (.ref (1000 + i) :: as) M N P) (k : ∀ r M1 N1, P r M1 N1 → hd_Go I (pc + 3) lv (r.toList ++ st) M1 N1 Q) : hd_Go I pc lv st0 M N Q := by
  intro p l e s m args below meth c H locs G A ls C hH hL
  have hT := C.2.2.2.2.2.1
  obtain ⟨q1, q2, q3, q4, q5, q6, q7⟩ := hc
  have hrecv := vk_recv (H := H) (locs := locs) C.2.2.2.2.2.2.2.2.2.1 hi hH.2.2
  rw [← hqc] at hrecv
  refine hd_after (P := P) (a := ((.ref (1000 + i) :: as).map (hd_v G.2.1)).toArray) (va_runV (C := J.2.1.cls) (b := G.2.1 (1000 + i)) (As := as.map (hd_v G.2.1)) (rest := st.map (hd_v G.2.1)) ⟨C.1, C.2.1, C.2.2.1, C.2.2.2.2.1, hT⟩ (hd_met h q3 q4 hlen l G A) ⟨callB_of as.length hT (hd_goodws q1) rfl rfl rfl (hT _ q2) (hT _ hl) q5 (hd_room q6 q7), hT _ hin, hT _ hsel⟩ ⟨hd_blind, hrecv, fun U hU hW => ⟨rfl, hd_enter C.2.2.2.2.2.2.2.1 C.2.2.2.2.2.2.2.2 hH U hU hW⟩⟩ rfl (List.length_map _) hL.2.1 ?_ ?_ hd ⟨Nat.le_refl _, Nat.le_refl _⟩) hH ?_
  · show st0.map (hd_v G.2.1) = _
    rw [hst0, List.map_append, List.map_reverse]
    rfl
  · rw [hd_cats]
    show 2 * 0 + _ ≤ 8
    omega
  · intro r M1 N1 hp H1 locs1 hH1
    exact k r M1 N1 hp p l e s m args below meth c H1 locs1 G A ls C hH1 hL
theorem sx_callI {J : hd_I} {index i : Nat} {as st0 : List Value} {v : Value} (hi : i < 6) (hd : decode I.2.2.1 pc = .ok (.invokevirtual index, 3)) (hc : hd_cal I J index as.length) (hl : Cond.methodLink I.1 index J.2.1 ∈ hd_tbl) (hin : Cond.instanceMethod J.2.1 ∈ hd_tbl) (hsel : Cond.selects J.2.1.cls J.2.1 J.2.1 ∈ hd_tbl) (hqc : J.2.1.cls = "java/lang/String") (hst0 : st0 = as.reverse ++ .ref (1000 + i) :: st) (hlen : (hd_en1 (.ref (1000 + i) :: as)).length ≤ J.2.2.2.1) (hcat : (st.map fun v => v.category).sum ≤ 8)
    (h : hd_Ret J (.ref (1000 + i) :: as) M N (hd_is v M N)) (k : hd_Go I (pc + 3) lv (v :: st) M N Q) : hd_Go I pc lv st0 M N Q :=
  sx_call hi hd hc hl hin hsel hqc hst0 hlen hcat h (fun r M1 N1 ⟨e1, e2, e3⟩ => by subst e1; subst e2; subst e3; exact k)
end
theorem sx_coder (M : hd_M) (N : hd_N) (i : Nat) (hi : i < 6) : hd_Ret mJ0_coder_7d493 [.ref (1000 + i)] M N (hd_is (.int 0) M N) := by
  change hd_Go mJ0_coder_7d493 0 [some (.ref (1000 + i))] [] M N _
  refine sx_cs (index := 38) (by decide +kernel) (hd_wd_ok (i := 346) (by decide +kernel)) ?_
  refine hd_if (op := .eq) (off := 10) (tgt := 13) (by decide +kernel) (by decide) (fun c => absurd (show (1 : Int32) = 0 from c) (by decide)) (fun _ => ?_)
  refine hd_aload_n (k := 0) (i := 0) (by decide +kernel) rfl rfl ?_
  refine sx_cod (index := 15) hi (by decide +kernel) (hd_wd_ok (i := 1265) (by decide +kernel)) ?_
  refine hd_goto (off := 4) (tgt := 14) (by decide +kernel) (by decide) ?_
  exact hd_ireturn (by decide +kernel) rfl rfl ⟨rfl, rfl, rfl⟩
theorem sx_latin (M : hd_M) (N : hd_N) (i : Nat) (hi : i < 6) : hd_Ret mJ0_isLatin1_aae02 [.ref (1000 + i)] M N (hd_is (.int 1) M N) := by
  change hd_Go mJ0_isLatin1_aae02 0 [some (.ref (1000 + i))] [] M N _
  refine sx_cs (index := 38) (by decide +kernel) (hd_wd_ok (i := 346) (by decide +kernel)) ?_
  refine hd_if (op := .eq) (off := 14) (tgt := 17) (by decide +kernel) (by decide) (fun c => absurd (show (1 : Int32) = 0 from c) (by decide)) (fun _ => ?_)
  refine hd_aload_n (k := 0) (i := 0) (by decide +kernel) rfl rfl ?_
  refine sx_cod (index := 15) hi (by decide +kernel) (hd_wd_ok (i := 1265) (by decide +kernel)) ?_
  refine hd_if (op := .ne) (off := 7) (tgt := 17) (by decide +kernel) (by decide) (fun c => absurd rfl c) (fun _ => ?_)
  refine hd_iconst (n := 1) (v := 1) (by decide +kernel) (by decide) ?_
  refine hd_goto (off := 4) (tgt := 18) (by decide +kernel) (by decide) ?_
  exact hd_ireturn (by decide +kernel) rfl rfl ⟨rfl, rfl, rfl⟩
theorem sx_length (M : hd_M) (N : hd_N) (i : Nat) (hi : i < 6) : hd_Ret mJ0_length_8abf5 [.ref (1000 + i)] M N (hd_is (.int (nI (sx_len.getD i 0))) M N) := by
  change hd_Go mJ0_length_8abf5 0 [some (.ref (1000 + i))] [] M N _
  refine hd_aload_n (k := 0) (i := 0) (by decide +kernel) rfl rfl ?_
  refine sx_val (index := 9) hi (by decide +kernel) (hd_wd_ok (i := 1264) (by decide +kernel)) ?_
  refine sx_alen hi (by decide +kernel) ?_
  refine hd_aload_n (k := 0) (i := 0) (by decide +kernel) rfl rfl ?_
  refine sx_callI (J := mJ0_coder_7d493) (index := 335) (i := i) (as := []) (st := [.int (nI (sx_len.getD i 0))]) hi (by decide +kernel) (hd_calB_ok (n := 0) (ws := [345, 83]) (by decide +kernel) _) (hd_wd_ok (i := 342) (by decide +kernel)) (hd_wd_ok (i := 343) (by decide +kernel)) (hd_wd_ok (i := 344) (by decide +kernel)) rfl rfl (by show 1 ≤ 1; decide) (by show 1 ≤ 8; decide) (sx_coder M N i hi) ?_
  refine hd_ishr (by decide +kernel) ?_
  refine hd_ireturn (by decide +kernel) rfl rfl ⟨?_, rfl, rfl⟩
  rcases (show i = 0 ∨ i = 1 ∨ i = 2 ∨ i = 3 ∨ i = 4 ∨ i = 5 by omega) with rfl | rfl | rfl | rfl | rfl | rfl <;> rfl
theorem sx_chk3 (M : hd_M) (N : hd_N) (i n : Nat) (h : i < n) (hn : n < 2 ^ 31) (v : Value) (hv : v = .null ∨ v = .ref 1200) : hd_Ret mJ3_checkIndex_8e157 [.int (nI i), .int (nI n), v] M N (hd_is (.int (nI i)) M N) := by
  rcases hv with rfl | rfl
  · change hd_Go mJ3_checkIndex_8e157 0 [some (.int (nI i)), some (.int (nI n)), some .null] [] M N _
    refine hd_iload_n (k := 0) (i := 0) (by decide +kernel) rfl rfl ?_
    refine hd_if (op := .lt) (off := 8) (tgt := 9) (by decide +kernel) (by decide) (fun c => absurd c (nI_pos (by omega))) (fun _ => ?_)
    refine hd_iload_n (k := 0) (i := 0) (by decide +kernel) rfl rfl ?_
    refine hd_iload_n (k := 1) (i := 1) (by decide +kernel) rfl rfl ?_
    refine hd_icmp (op := .lt) (off := 10) (tgt := 16) (by decide +kernel) (by decide) (fun _ => ?_) (fun c => absurd (nI_lt h hn) c)
    refine hd_iload_n (k := 0) (i := 0) (by decide +kernel) rfl rfl ?_
    exact hd_ireturn (by decide +kernel) rfl rfl ⟨rfl, rfl, rfl⟩
  · change hd_Go mJ3_checkIndex_8e157 0 [some (.int (nI i)), some (.int (nI n)), some (.ref 1200)] [] M N _
    refine hd_iload_n (k := 0) (i := 0) (by decide +kernel) rfl rfl ?_
    refine hd_if (op := .lt) (off := 8) (tgt := 9) (by decide +kernel) (by decide) (fun c => absurd c (nI_pos (by omega))) (fun _ => ?_)
    refine hd_iload_n (k := 0) (i := 0) (by decide +kernel) rfl rfl ?_
    refine hd_iload_n (k := 1) (i := 1) (by decide +kernel) rfl rfl ?_
    refine hd_icmp (op := .lt) (off := 10) (tgt := 16) (by decide +kernel) (by decide) (fun _ => ?_) (fun c => absurd (nI_lt h hn) c)
    refine hd_iload_n (k := 0) (i := 0) (by decide +kernel) rfl rfl ?_
    exact hd_ireturn (by decide +kernel) rfl rfl ⟨rfl, rfl, rfl⟩
theorem sx_chk0 (M : hd_M) (N : hd_N) (i n : Nat) (h : i < n) (hn : n < 2 ^ 31) : hd_Ret mJ0_checkIndex_df160 [.int (nI i), .int (nI n)] M N (fun r M1 N1 => r = none ∧ M1 = M ∧ N1 = N) := by
  change hd_Go mJ0_checkIndex_df160 0 [some (.int (nI i)), some (.int (nI n))] [] M N _
  have fin : ∀ v : Value, v = .null ∨ v = .ref 1200 → hd_Go mJ0_checkIndex_df160 5 [some (.int (nI i)), some (.int (nI n))] [v, .int (nI n), .int (nI i)] M N (fun r M1 N1 => r = none ∧ M1 = M ∧ N1 = N) := by
    intro v hv
    refine hd_callS (J := mJ3_checkIndex_8e157) (index := 1059) (as := [.int (nI i), .int (nI n), v]) (st := []) (by decide +kernel) (hd_calB_ok (n := 3) (ws := [366, 85]) (by decide +kernel) _) (hd_wd_ok (i := 364) (by decide +kernel)) (hd_wd_ok (i := 365) (by decide +kernel)) rfl (by rcases hv with rfl | rfl <;> (show 3 ≤ 3; decide)) (by decide) (sx_chk3 M N i n h hn v hv) ?_
    rintro r M1 N1 ⟨rfl, rfl, rfl⟩
    refine hd_pop (by decide +kernel) rfl ?_
    exact hd_vreturn (by decide +kernel) rfl ⟨rfl, rfl, rfl⟩
  refine hd_iload_n (k := 0) (i := 0) (by decide +kernel) rfl rfl ?_
  refine hd_iload_n (k := 1) (i := 1) (by decide +kernel) rfl rfl ?_
  refine sx_ff (index := 1053) (by decide +kernel) (hd_wd_ok (i := 362) (by decide +kernel)) ?_ ?_
  · exact fin _ (Or.inl rfl)
  · exact fin _ (Or.inr rfl)
theorem sx_char1 (M : hd_M) (N : hd_N) (i j : Nat) (hi : i < 6) (hj : j < sx_len.getD i 0) : hd_Ret mJ1_charAt_3b067 [.ref (1100 + i), .int (nI j)] M N (hd_is (.int ((sx_byt.getD i []).getD j 0)) M N) := by
  change hd_Go mJ1_charAt_3b067 0 [some (.ref (1100 + i)), some (.int (nI j))] [] M N _
  have hl : sx_len.getD i 0 < 2 ^ 31 := by rcases (show i = 0 ∨ i = 1 ∨ i = 2 ∨ i = 3 ∨ i = 4 ∨ i = 5 by omega) with rfl | rfl | rfl | rfl | rfl | rfl <;> decide
  refine hd_iload_n (k := 1) (i := 1) (by decide +kernel) rfl rfl ?_
  refine hd_aload_n (k := 0) (i := 0) (by decide +kernel) rfl rfl ?_
  refine sx_alen hi (by decide +kernel) ?_
  refine hd_callS (J := mJ0_checkIndex_df160) (index := 9) (as := [.int (nI j), .int (nI (sx_len.getD i 0))]) (st := []) (by decide +kernel) (hd_calB_ok (n := 2) (ws := [361, 83]) (by decide +kernel) _) (hd_wd_ok (i := 359) (by decide +kernel)) (hd_wd_ok (i := 360) (by decide +kernel)) rfl (by show 2 ≤ 2; decide) (by decide) (sx_chk0 M N j _ hj hl) ?_
  rintro r M1 N1 ⟨rfl, rfl, rfl⟩
  refine hd_aload_n (k := 0) (i := 0) (by decide +kernel) rfl rfl ?_
  refine hd_iload_n (k := 1) (i := 1) (by decide +kernel) rfl rfl ?_
  refine sx_bld hi hj (by omega) (by decide +kernel) ?_
  refine hd_sipush (n := 255) (v := 255) (by decide +kernel) (by decide) ?_
  refine hd_iand (by decide +kernel) ?_
  refine sx_i2c (v := (sx_byt.getD i []).getD j 0) (by decide +kernel) ?_ ?_
  · rcases (show i = 0 ∨ i = 1 ∨ i = 2 ∨ i = 3 ∨ i = 4 ∨ i = 5 by omega) with rfl | rfl | rfl | rfl | rfl | rfl
    all_goals
      simp only [sx_len, List.getD_cons_zero, List.getD_cons_succ] at hj
      rcases (show j = 0 ∨ j = 1 ∨ j = 2 ∨ j = 3 ∨ j = 4 ∨ j = 5 by omega) with rfl | rfl | rfl | rfl | rfl | rfl
      all_goals first
        | decide +kernel
        | (exfalso; omega)
  · refine hd_ireturn (by decide +kernel) rfl ?_ ⟨rfl, rfl, rfl⟩
    rcases (show i = 0 ∨ i = 1 ∨ i = 2 ∨ i = 3 ∨ i = 4 ∨ i = 5 by omega) with rfl | rfl | rfl | rfl | rfl | rfl
    all_goals
      simp only [sx_len, List.getD_cons_zero, List.getD_cons_succ] at hj
      rcases (show j = 0 ∨ j = 1 ∨ j = 2 ∨ j = 3 ∨ j = 4 ∨ j = 5 by omega) with rfl | rfl | rfl | rfl | rfl | rfl
      all_goals first
        | rfl
        | decide +kernel
        | (exfalso; omega)
theorem sx_charAt (M : hd_M) (N : hd_N) (i j : Nat) (hi : i < 6) (hj : j < sx_len.getD i 0) : hd_Ret mJ0_charAt_5068e [.ref (1000 + i), .int (nI j)] M N (hd_is (.int ((sx_byt.getD i []).getD j 0)) M N) := by
  change hd_Go mJ0_charAt_5068e 0 [some (.ref (1000 + i)), some (.int (nI j))] [] M N _
  refine hd_aload_n (k := 0) (i := 0) (by decide +kernel) rfl rfl ?_
  refine sx_callI (J := mJ0_isLatin1_aae02) (index := 492) (i := i) (as := []) (st := []) hi (by decide +kernel) (hd_calB_ok (n := 0) (ws := [355, 83]) (by decide +kernel) _) (hd_wd_ok (i := 352) (by decide +kernel)) (hd_wd_ok (i := 353) (by decide +kernel)) (hd_wd_ok (i := 354) (by decide +kernel)) rfl rfl (by show 1 ≤ 1; decide) (by decide) (sx_latin M N i hi) ?_
  refine hd_if (op := .eq) (off := 12) (tgt := 16) (by decide +kernel) (by decide) (fun c => absurd (show (1 : Int32) = 0 from c) (by decide)) (fun _ => ?_)
  refine hd_aload_n (k := 0) (i := 0) (by decide +kernel) rfl rfl ?_
  refine sx_val (index := 9) hi (by decide +kernel) (hd_wd_ok (i := 1264) (by decide +kernel)) ?_
  refine hd_iload_n (k := 1) (i := 1) (by decide +kernel) rfl rfl ?_
  refine hd_callS (J := mJ1_charAt_3b067) (index := 495) (as := [.ref (1100 + i), .int (nI j)]) (st := []) (by decide +kernel) (hd_calB_ok (n := 2) (ws := [358, 84]) (by decide +kernel) _) (hd_wd_ok (i := 356) (by decide +kernel)) (hd_wd_ok (i := 357) (by decide +kernel)) rfl (by show 2 ≤ 2; decide) (by decide) (sx_char1 M N i j hi hj) ?_
  rintro r M1 N1 ⟨rfl, rfl, rfl⟩
  refine hd_ireturn (by decide +kernel) rfl ?_ ⟨rfl, rfl, rfl⟩
  rcases (show i = 0 ∨ i = 1 ∨ i = 2 ∨ i = 3 ∨ i = 4 ∨ i = 5 by omega) with rfl | rfl | rfl | rfl | rfl | rfl
  all_goals
    simp only [sx_len, List.getD_cons_zero, List.getD_cons_succ] at hj
    rcases (show j = 0 ∨ j = 1 ∨ j = 2 ∨ j = 3 ∨ j = 4 ∨ j = 5 by omega) with rfl | rfl | rfl | rfl | rfl | rfl
    all_goals first
      | rfl
      | decide +kernel
      | (exfalso; omega)
