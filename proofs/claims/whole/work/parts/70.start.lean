/-! THE START: classes, rows, strings, statics; printed by wip/whole/st1.py -/
theorem st_ins : ∀ (ci : Nat) (q : vw_C), hd_cl[ci]? = some q → Cond.instantiable q.1 q.2.2 ∈ hd_tbl := by
  intro ci q h
  match ci, h with
  | 0, h => cases h; decide +kernel
  | 1, h => cases h; decide +kernel
  | 2, h => cases h; decide +kernel
  | 3, h => cases h; decide +kernel
  | 4, h => cases h; decide +kernel
  | 5, h => cases h; decide +kernel
  | 6, h => cases h; decide +kernel
  | n + 7, h => simp [hd_cl] at h
theorem st_D {s : State} {args : Array Value} (hts : ∀ w ∈ hd_tbl, w.before args s = true) : ∃ D : va_G, ∀ (c : Nat) (q : vw_C), hd_cl[c]? = some q → u_Kn s q.1 q.2.1 q.2.2 (D.1 c) (D.2 c) := by
  have h0 : ∀ c : Nat, ∃ z : ClassId × (Nat → Nat), ∀ q : vw_C, hd_cl[c]? = some q → u_Kn s q.1 q.2.1 q.2.2 z.1 z.2 := by
    intro c
    cases h : hd_cl[c]? with
    | none => exact ⟨(0, fun _ => 0), fun q hq => by cases hq⟩
    | some q =>
      obtain ⟨cC, iS, hk⟩ := u_known (C := q.1) (T := q.2.1) (N := q.2.2) (n := q.2.2) hts (hd_uws c q h) (hts _ (st_ins c q h))
      exact ⟨(cC, iS), fun q' hq => by cases hq; exact hk⟩
  obtain ⟨f, hf⟩ := Classical.axiomOfChoice h0
  exact ⟨(fun c => (f c).1, fun c => (f c).2), fun c q hq => hf c q hq⟩
theorem st_a {s : State} {args : Array Value} {ty : FieldType} (h : (Cond.arrayClass ty).before args s = true) (hty : ∀ cA : ClassId, s.vm.findClass ("[" ++ ty.toString) = some cA → va_RA s cA ty) : ∃ cA : ClassId, ArrOfT s cA ty ∧ va_RA s cA ty := by
  obtain ⟨c, k, comp, h1, h2, h3⟩ := Cond.arrayClass_spec h
  exact ⟨c, fun n z => ⟨fun k h => (by cases h), k, h2, comp, h3⟩, hty c h1⟩
theorem st_o {s : State} {C : String} (h : va_AO C s) : ∃ cA : ClassId, ArrOfT s cA (.object C) ∧ va_RA s cA (.object C) := by
  obtain ⟨comp, c, k, h1, h2, h3, h4, h5⟩ := Cond.arrayOver_spec h
  exact ⟨c, fun n z => ⟨fun k h => (by cases h), k, h3, comp, h4⟩, k, comp, h3, h4, h1, h5⟩
theorem st_K {s : State} {args : Array Value} (hts : ∀ w ∈ hd_tbl, w.before args s = true) (hN : ic_N s) : ∃ (D : va_G) (dA : Nat → ClassId), va_K D hd_cl (hd_tys dA) s := by
  obtain ⟨D, hD⟩ := st_D hts
  obtain ⟨c0, h0⟩ := st_a (s := s) (ty := .int) (hts _ (by decide +kernel)) (fun _ h => h)
  obtain ⟨c1, h1⟩ := st_a (s := s) (ty := .byte) (hts _ (by decide +kernel)) (fun _ h => h)
  obtain ⟨c2, h2⟩ := st_a (s := s) (ty := .boolean) (hts _ (by decide +kernel)) (fun _ h => h)
  obtain ⟨c3, h3⟩ := st_o hN.1
  obtain ⟨c4, h4⟩ := st_o hN.2.1
  refine ⟨D, fun t => match t with | 0 => c0 | 1 => c1 | 2 => c2 | 3 => c3 | _ => c4, hD, fun k q hk => ?_⟩
  match k, hk with
  | 0, hk => cases hk; exact h0
  | 1, hk => cases hk; exact h1
  | 2, hk => cases hk; exact h2
  | 3, hk => cases hk; exact h3
  | 4, hk => cases hk; exact h4
  | n + 5, hk => simp [hd_tys] at hk
theorem st_N {s : State} {args : Array Value} (hts : ∀ w ∈ lw_tbl, w.before args s = true) : ic_N s := by
  refine ⟨va_AO.of (hts _ (by decide +kernel)), va_AO.of (hts _ (by decide +kernel)), fun q hq => ?_⟩
  have hm : ∀ q ∈ ic_nl, Cond.methodLinkNest q.1 q.2.1 q.2.2.1 q.2.2.2 ∈ lw_tbl := by decide +kernel
  exact va_Nw.of rfl (hts _ (hm q hq))
def st_tm (i : Nat) : Term := .string "HamperDays$Tape" (([105, 111, 113, 115, 117, 118] : List Nat).getD i 0)
abbrev st_len : List Nat := [5, 5, 6, 4, 4, 4]
abbrev st_byt : List (List Int32) := [[112, 108, 97, 105, 110], [103, 108, 97, 115, 115], [115, 104, 111, 119, 101, 114], [118, 105, 101, 119], [109, 111, 111, 100], [116, 105, 114, 101]]
abbrev st_fl : List Cond := flatC (Jvm.Cond.and given_1 narrow_1)
set_option maxRecDepth 100000 in
theorem st_1 : ∀ i, i < 6 → Cond.exactly (st_tm i) "java/lang/String" ∈ st_fl := by decide +kernel
set_option maxRecDepth 100000 in
theorem st_2 : ∀ i, i < 6 → Cond.eq (.field (st_tm i) "java/lang/String" "coder" "B") (.int 0) ∈ st_fl := by decide +kernel
set_option maxRecDepth 100000 in
theorem st_3 : ∀ i, i < 6 → Cond.arrayOf (.field (st_tm i) "java/lang/String" "value" "[B") .byte ∈ st_fl := by decide +kernel
set_option maxRecDepth 100000 in
theorem st_4 : ∀ i, i < 6 → Cond.eq (.length (.field (st_tm i) "java/lang/String" "value" "[B")) (.int (Int32.ofNat (st_len.getD i 0))) ∈ st_fl := by decide +kernel
set_option maxRecDepth 100000 in
theorem st_5 : ∀ i, i < 6 → ∀ j, j < st_len.getD i 0 → Cond.eq (.elem (.field (st_tm i) "java/lang/String" "value" "[B") (.int (Int32.ofNat j))) (.int ((st_byt.getD i []).getD j 0)) ∈ st_fl := by decide +kernel
set_option maxRecDepth 100000 in
theorem st_6 : ∀ i, i < 6 → ∀ j, j < 6 → i ≠ j → Cond.not (Cond.eq (st_tm i) (st_tm j)) ∈ st_fl ∨ Cond.not (Cond.eq (st_tm j) (st_tm i)) ∈ st_fl := by decide +kernel
theorem st_len_lt : ∀ i, i < 6 → st_len.getD i 0 < 2 ^ 31 := by decide +kernel
theorem st_7 : ∀ i, i < 6 → Cond.stringRef RX4 (([105, 111, 113, 115, 117, 118] : List Nat).getD i 0) ((["plain", "glass", "shower", "view", "mood", "tire"] : List String).getD i "") ∈ lw_tbl := by decide +kernel
/-- what lies where: the class's cells, the strings, the script -/
def st_ad (q0 : Nat) (u adK adV : Nat → Nat) (t b : Nat) : Nat → Nat := fun k => bif Nat.blt k 65 then (bif Nat.beq k 0 then q0 else u k) else bif Nat.blt k 1100 then adK (k - 1000) else bif Nat.blt k 1200 then adV (k - 1100) else bif Nat.beq k 1200 then t else b
theorem st_X {s : State} {args : Array Value} (hts : ∀ w ∈ lw_tbl, w.before args s = true) (hg : (Jvm.Cond.and given_1 narrow_1).before args s = true) : ∃ (adK adV : Nat → Nat) (t : Nat), ∀ (D : va_G) (dA : Nat → ClassId) (q0 b : Nat) (u : Nat → Nat), hd_X (D, st_ad q0 u adK adV t b, dA) (lw_A s) s := by
  have hs := flat_of_before _ hg
  have hA : ∀ a : Nat, a < s.heap.size → ¬ lw_A s a := fun a h => Nat.not_le.mpr h
  obtain ⟨adK, adV, hS, hE⟩ := vk_Sof (args := args) (s := s) (N := 6) (tm := st_tm) (len := st_len) (byt := st_byt) (A := lw_A s) st_len_lt (fun i hi => hs _ (st_1 i hi)) (fun i hi => hs _ (st_2 i hi)) (fun i hi => hs _ (st_3 i hi)) (fun i hi => hs _ (st_4 i hi)) (fun i hi j hj => hs _ (st_5 i hi j hj)) (fun i j hi hj hij => (st_6 i hi j hj hij).elim (fun h => Or.inl (hs _ h)) (fun h => Or.inr (hs _ h))) hA
  have hC : va_Z "java/lang/String" "COMPACT_STRINGS" "Z" (.int 1) (lw_A s) s s.heap := va_Zof (args := args) (hts _ (by decide +kernel)) (hts _ (by decide +kernel)) (va_eqi (hs _ (by decide +kernel))) hA
  have hF : va_Zq "jdk/internal/util/Preconditions" "SIOOBE_FORMATTER" "Ljava/util/function/BiFunction;" (lw_A s) s s.heap := va_Zqof (args := args) (hts _ (by decide +kernel)) (hts _ (by decide +kernel)) (hs _ (by decide +kernel)) hA
  obtain ⟨t, hF⟩ : ∃ t : Nat, va_Z "jdk/internal/util/Preconditions" "SIOOBE_FORMATTER" "Ljava/util/function/BiFunction;" .null (lw_A s) s s.heap ∨ va_Z "jdk/internal/util/Preconditions" "SIOOBE_FORMATTER" "Ljava/util/function/BiFunction;" (.ref t) (lw_A s) s s.heap := by
    rcases hF with h | ⟨t, h⟩
    · exact ⟨0, Or.inl h⟩
    · exact ⟨t, Or.inr h⟩
  have hW : va_Nw (.methodLinkNest RX4 hd_nx yX5_isWithin RX5) s := va_Nw.of rfl (hts _ (by decide +kernel))
  refine ⟨adK, adV, t, fun D dA q0 b u => ?_⟩
  have e1 : ∀ i, i < 6 → st_ad q0 u adK adV t b (1000 + i) = adK i := by
    intro i hi
    match i, hi with
    | 0, _ => rfl
    | 1, _ => rfl
    | 2, _ => rfl
    | 3, _ => rfl
    | 4, _ => rfl
    | 5, _ => rfl
  have e2 : ∀ i, i < 6 → st_ad q0 u adK adV t b (1100 + i) = adV i := by
    intro i hi
    match i, hi with
    | 0, _ => rfl
    | 1, _ => rfl
    | 2, _ => rfl
    | 3, _ => rfl
    | 4, _ => rfl
    | 5, _ => rfl
  refine ⟨⟨hC, hF⟩, ⟨fun i hi => ?_, fun i j hi hj e => ?_⟩, fun i q hq => ?_, hW⟩
  · show va_O _ (st_ad q0 u adK adV t b (1000 + i)) _ _ _ ∧ va_OF _ _ _ _ (st_ad q0 u adK adV t b (1000 + i)) _ _ _ ∧ va_OF _ _ _ (.ref (st_ad q0 u adK adV t b (1100 + i))) (st_ad q0 u adK adV t b (1000 + i)) _ _ _ ∧ va_T _ (st_ad q0 u adK adV t b (1100 + i)) _ _ _ _ _
    rw [e1 i hi, e2 i hi]
    exact hS.1 i hi
  · have e : st_ad q0 u adK adV t b (1000 + i) = st_ad q0 u adK adV t b (1000 + j) := e
    rw [e1 i hi, e1 j hj] at e
    exact hS.2 i j hi hj e
  · have hi : i < 6 := (List.getElem?_eq_some_iff.mp hq).1
    show vk_R _ _ _ (st_ad q0 u adK adV t b (1000 + i)) s
    rw [e1 i hi]
    have h7 := hts _ (st_7 i hi)
    have h8 := hE i hi
    match i, hi, hq with
    | 0, _, hq => cases hq; exact vk_R.of h7 h8
    | 1, _, hq => cases hq; exact vk_R.of h7 h8
    | 2, _, hq => cases hq; exact vk_R.of h7 h8
    | 3, _, hq => cases hq; exact vk_R.of h7 h8
    | 4, _, hq => cases hq; exact vk_R.of h7 h8
    | 5, _, hq => cases hq; exact vk_R.of h7 h8
theorem st_w (dA : Nat → ClassId) (q0 : Nat) (u adK adV : Nat → Nat) (t b : Nat) : ic_wD dA q0 u = ic_wD dA (st_ad q0 u adK adV t b 0) (st_ad q0 u adK adV t b) := by
  have e1 : ic_ar [19, 29] u = ic_ar [19, 29] (st_ad q0 u adK adV t b) := by rw [ic_ar2, ic_ar2]; rfl
  have e2 : ic_ar [40, 42, 44, 46] u = ic_ar [40, 42, 44, 46] (st_ad q0 u adK adV t b) := by rw [ic_ar4, ic_ar4]; rfl
  show ic_wD2 dA q0 u (ic_ar [19, 29] u) (ic_ar [40, 42, 44, 46] u) = _
  rw [e1, e2]
  rfl
theorem st_Xc {G : hd_G} {A : Nat → Prop} {U : State} {g : JFrame} {mk : MethodId} {a : Array Value} (hX : hd_X G A U) : hd_X G A (U.calling g mk a) :=
  ⟨⟨hX.1.1.moved (u := U) (U := U.calling g mk a) (Vm.Alike.refl U.vm), hX.1.2.elim (fun z => Or.inl (z.moved (u := U) (U := U.calling g mk a) (Vm.Alike.refl U.vm))) (fun z => Or.inr (z.moved (u := U) (U := U.calling g mk a) (Vm.Alike.refl U.vm)))⟩, hX.2.1.moved (u := U) (U := U.calling g mk a) (Vm.Alike.refl U.vm), fun i q hq => vk_R.same (u := U) (U := U.calling g mk a) rfl (hX.2.2.1 i q hq), hX.2.2.2.same (u := U) (U := U.calling g mk a) rfl rfl⟩
theorem st_blind {D : va_G} {dA : Nat → ClassId} {A : Nat → Prop} {ws : va_W} {vs : List Value} {G : hd_G} : FrameBlind (va_Pc vs (fun U => ic_B D dA A ws U ∧ hd_X G A U)) := by
  intro a U g mk ⟨h0, h1, h2⟩
  exact ⟨h0, (ic_blind a U g mk ⟨h0, h1⟩).2, st_Xc h2⟩
