/-! THE LAW'S LOOP; printed by wip/whole/law1.py -/
theorem lw_5 {L i : Nat} (hL : L ≤ 320) (hi : i ≤ L) (h : ¬ nI L - 5 < nI i) : i + 5 ≤ L := by
  have e : (nI L - 5).toInt = (L : Int) - 5 := by
    rw [Int32.toInt_sub, nI_toInt (by omega), show Int32.toInt 5 = 5 from rfl]
    exact Int.bmod_eq_of_le (by omega) (by omega)
  have e2 : (nI i).toInt = (i : Int) := nI_toInt (by omega)
  rw [Int32.lt_iff_toInt_lt, e, e2] at h
  omega
set_option maxRecDepth 100000 in
theorem law_loop {p : Program} {l : Launch} {e : Env} {s : State} {m : MethodId} {below : List Frame} {meth : Method} {c : Code} {b L : Nat} {xs : Nat → Int32} {G : hd_G} (C : lw_C p s m meth c b L xs G) (hL : L ≤ 320) : ∀ (n i : Nat) (M : hd_M) (N : hd_N) (st : ab_T), i ≤ L → L + 1 ≤ i + n → CI M st → RI M st → OK st → lw_Go p l e s m below meth c b G 18 (lw_lv i) [] M N := by
  intro n
  induction n with
  | zero => intro i M N st h1 h2; omega
  | succ n ih =>
    intro i M N st h1 h2 hI hR hO
    refine lw_iload (k := 3) (i := 3) C (by decide +kernel) rfl rfl ?_
    refine lw_aload (k := 0) (i := 0) C (by decide +kernel) rfl rfl ?_
    refine lw_slen C (by decide +kernel) ?_
    refine lw_iconst (n := 5) (v := 5) C (by decide +kernel) (by decide) ?_
    refine lw_isub C (by decide +kernel) ?_
    refine lw_gt (off := 1309) (tgt := 1332) C (by decide +kernel) (by decide) (fun _ => ?_) (fun h5 => ?_)
    · intro H locs ls hH hLo
      obtain ⟨hx, hb, hr, hml, hown, hts, hX, hbl, hlocks, hgv⟩ := C.1
      refine lv_iconst (v := 1) hx hb (show decode code 1332 = .ok (.iconst 1, 1) by decide +kernel) (by decide) ?_
      refine va_forget (fun q hq => hH.2.2.2.2 q hq) ?_
      exact lw_ret hx hb hr hlocks (show decode code 1333 = .ok (.ireturn, 1) by decide +kernel)
    · have hi := lw_5 hL h1 h5
      have nx : ∀ M1 N1 st1, CI M1 st1 → RI M1 st1 → OK st1 → lw_Go p l e s m below meth c b G 1326 (lw_lv i) [] M1 N1 := by
        intro M1 N1 st1 g1 g2 g3
        refine lw_iinc C (by decide +kernel) ?_
        refine lw_goto (off := -1311) (tgt := 18) C (by decide +kernel) (by decide) ?_
        exact ih (i + 5) M1 N1 st1 (by omega) (by omega) g1 g2 g3
      refine lw_aload (k := 0) (i := 0) C (by decide +kernel) rfl rfl ?_
      refine lw_iload (k := 3) (i := 3) C (by decide +kernel) rfl rfl ?_
      refine lw_sld C (by decide +kernel) (vp_in_nI (by omega) (by omega)) ?_
      refine lw_bipush (n := 63) (v := 63) C (by decide +kernel) (by decide) ?_
      refine lw_iand C (by decide +kernel) ?_
      refine lw_swi (a := 1326) (len := 168) (sw := [(0, 200), (1, 223), (2, 246), (3, 259), (4, 272), (5, 295), (6, 328), (7, 371), (8, 394), (9, 417), (10, 460), (11, 473), (12, 486), (13, 509), (14, 542), (15, 565), (16, 588), (17, 611), (18, 644), (19, 677), (20, 710), (21, 753), (22, 796), (23, 829), (24, 883), (25, 927), (26, 960), (27, 983), (28, 1006), (29, 1029), (30, 1062), (31, 1105), (32, 1128), (33, 1151), (34, 1194), (35, 1237), (36, 1290), (37, 1303)]) C (show decode code 32 = .ok (.tableswitch 1294 0 37 #[168, 191, 214, 227, 240, 263, 296, 339, 362, 385, 428, 441, 454, 477, 510, 533, 556, 579, 612, 645, 678, 721, 764, 797, 851, 895, 928, 951, 974, 997, 1030, 1073, 1096, 1119, 1162, 1205, 1258, 1271], 168) by decide +kernel) (by decide) (by decide +kernel) (by decide) ?_
      refine lw_swall (nx M N st hI hR hO) _ (fun q hq => ?_)
      simp only [List.mem_cons, List.not_mem_nil, or_false] at hq
      rcases hq with rfl | rfl | rfl | rfl | rfl | rfl | rfl | rfl | rfl | rfl | rfl | rfl | rfl | rfl | rfl | rfl | rfl | rfl | rfl | rfl | rfl | rfl | rfl | rfl | rfl | rfl | rfl | rfl | rfl | rfl | rfl | rfl | rfl | rfl | rfl | rfl | rfl | rfl
      · exact lw_c0 C hL hi hI hR hO nx
      · exact lw_c1 C hL hi hI hR hO nx
      · exact lw_c2 C hL hi hI hR hO nx
      · exact lw_c3 C hL hi hI hR hO nx
      · exact lw_c4 C hL hi hI hR hO nx
      · exact lw_c5 C hL hi hI hR hO nx
      · exact lw_c6 C hL hi hI hR hO nx
      · exact lw_c7 C hL hi hI hR hO nx
      · exact lw_c8 C hL hi hI hR hO nx
      · exact lw_c9 C hL hi hI hR hO nx
      · exact lw_c10 C hL hi hI hR hO nx
      · exact lw_c11 C hL hi hI hR hO nx
      · exact lw_c12 C hL hi hI hR hO nx
      · exact lw_c13 C hL hi hI hR hO nx
      · exact lw_c14 C hL hi hI hR hO nx
      · exact lw_c15 C hL hi hI hR hO nx
      · exact lw_c16 C hL hi hI hR hO nx
      · exact lw_c17 C hL hi hI hR hO nx
      · exact lw_c18 C hL hi hI hR hO nx
      · exact lw_c19 C hL hi hI hR hO nx
      · exact lw_c20 C hL hi hI hR hO nx
      · exact lw_c21 C hL hi hI hR hO nx
      · exact lw_c22 C hL hi hI hR hO nx
      · exact lw_c23 C hL hi hI hR hO nx
      · exact lw_c24 C hL hi hI hR hO nx
      · exact lw_c25 C hL hi hI hR hO nx
      · exact lw_c26 C hL hi hI hR hO nx
      · exact lw_c27 C hL hi hI hR hO nx
      · exact lw_c28 C hL hi hI hR hO nx
      · exact lw_c29 C hL hi hI hR hO nx
      · exact lw_c30 C hL hi hI hR hO nx
      · exact lw_c31 C hL hi hI hR hO nx
      · exact lw_c32 C hL hi hI hR hO nx
      · exact lw_c33 C hL hi hI hR hO nx
      · exact lw_c34 C hL hi hI hR hO nx
      · exact lw_c35 C hL hi hI hR hO nx
      · exact lw_c36 C hL hi hI hR hO nx
      · exact lw_c37 C hL hi hI hR hO nx
