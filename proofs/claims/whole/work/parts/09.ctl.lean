/-! CONTROL: jumps, switches, ends, calls, read off the list of instructions -/
def hd_brK (l : List (Nat × hd_O)) (st : List Value) (k : Prop → Prop → Nat → Nat → List Value → Prop) : Prop := match l with
  | [] => False
  | (_, o) :: _ => (match o with
    | (i, nx, a, _, _, _, _, _) => (match i with
      | .if_icmp op _ => hd_i2 st (fun x y st => (match op with
        | .eq => k (x = y) (¬ x = y) a nx st
        | .ne => k (¬ x = y) (x = y) a nx st
        | .lt => k (x < y) (¬ x < y) a nx st
        | .ge => k (y ≤ x) (¬ y ≤ x) a nx st
        | .gt => k (y < x) (¬ y < x) a nx st
        | .le => k (x ≤ y) (¬ x ≤ y) a nx st))
      | .ifCond op _ => hd_i1 st (fun x st => (match op with
        | .eq => k (x = 0) (¬ x = 0) a nx st
        | .ne => k (¬ x = 0) (x = 0) a nx st
        | .lt => k (x < 0) (¬ x < 0) a nx st
        | .ge => k (0 ≤ x) (¬ 0 ≤ x) a nx st
        | .gt => k (0 < x) (¬ 0 < x) a nx st
        | .le => k (x ≤ 0) (¬ x ≤ 0) a nx st))
      | _ => False))
def hd_rtK (ret : Option FieldType) (l : List (Nat × hd_O)) (st : List Value) (k : Prop → Option Value → Prop) : Prop := match l with
  | [] => False
  | (_, o) :: _ => (match o.1 with
    | .ireturn => (match st with
      | [.int v] => (match ret with
        | some .int => k True (some (.int v))
        | some .boolean => k (v = 0 ∨ v = 1) (some (.int v))
        | some ty => k (narrow ty (.int v) = .int v) (some (.int v))
        | none => False)
      | _ => False)
    | .lreturn => (match st with
      | [.long v] => (match ret with
        | some .long => k True (some (.long v))
        | _ => False)
      | _ => False)
    | .return_ => (match st with
      | [] => (match ret with
        | none => k True none
        | some _ => False)
      | _ => False)
    | _ => False)
def hd_fit : hd_L → Nat → Prop → Prop
  | [], _, k => k
  | _ :: xs, n + 1, k => hd_fit xs n k
  | _ :: _, 0, _ => False
theorem hd_fit_ok : ∀ (l : hd_L) (n : Nat) (k : Prop), hd_fit l n k → l.length ≤ n ∧ k := by
  intro l
  induction l with
  | nil => intro n k h; exact ⟨Nat.zero_le _, by simpa [hd_fit] using h⟩
  | cons x xs ih =>
    intro n k h
    match n, h with
    | 0, h => exact h.elim
    | n + 1, h =>
      obtain ⟨h1, h2⟩ := ih n k h
      exact ⟨by simp only [List.length_cons]; omega, h2⟩
def hd_pp : Nat → List Value → List Value → (List Value → List Value → Prop) → Prop
  | 0, st, acc, k => k acc st
  | n + 1, v :: st, acc, k => hd_pp n st (v :: acc) k
  | _ + 1, [], _, _ => False
theorem hd_pp_ok : ∀ (n : Nat) (st acc : List Value) (k : List Value → List Value → Prop), hd_pp n st acc k → ∃ as r, k (as ++ acc) r ∧ st = as.reverse ++ r ∧ as.length = n := by
  intro n
  induction n with
  | zero => intro st acc k h; exact ⟨[], st, h, rfl, rfl⟩
  | succ n ih =>
    intro st acc k h
    match st, h with
    | [], h => exact h.elim
    | v :: st, h =>
      obtain ⟨as, r, h1, h2, h3⟩ := ih st (v :: acc) k h
      refine ⟨as ++ [v], r, by rw [List.append_assoc]; exact h1, ?_, by rw [List.length_append, h3]; rfl⟩
      rw [h2, List.reverse_append]
      rfl
/-- a call: whom, where it goes on, with what, what stays on the stack -/
def hd_clK (T : List hd_I) (l : List (Nat × hd_O)) (st : List Value) (k : hd_I → Nat → List Value → List Value → Prop) : Prop := match l with
  | [] => False
  | (_, o) :: _ => (match o with
    | (i, nx, a, b, _, _, _, ws) => (match hd_nth T a with
      | none => False
      | some J => (match i with
        | .invokestatic _ => hd_pp b st [] (fun as st => hd_fit (hd_en1 as) J.2.2.2.1 (hd_few st 4 (k J nx as st)))
        | .invokevirtual _ => hd_pp b st [] (fun as st => (match as with
          | .ref c :: as => hd_obj c (fun ci _ => hd_bq ci (ws.getD 5 0) (hd_fit (hd_en1 (.ref c :: as)) J.2.2.2.1 (hd_few st 4 (k J nx (.ref c :: as) st))))
          | _ => False))
        | _ => False)))
def hd_calB (I J : hd_I) (n : Nat) (ws : List Nat) : Bool := hd_wd (ws.getD 0 0) (Cond.code J.2.1 J.2.2.1 J.2.2.2.1 J.2.2.2.2.1) && hd_wd (ws.getD 1 0) (Cond.initialized J.2.1.cls) && plainName J.2.1.cls && decide (J.1 = J.2.1.cls) && (decide (J.2.1.cls ≠ "java/lang/invoke/MethodHandle") && decide (J.2.1.cls ≠ "java/lang/invoke/VarHandle") && decide ((parseMethodDescriptor J.2.1.desc).map (fun d => d.parameters.length) = some n)) && decide (J.2.2.2.2.2.1 < I.2.2.2.2.2.1) && decide (J.2.2.2.1 ≤ 17)
theorem hd_calB_ok {I J : hd_I} {n : Nat} {ws : List Nat} (h : hd_calB I J n ws = true) (index : Nat) : hd_cal I J index n := by
  unfold hd_calB at h
  simp only [Bool.and_eq_true, decide_eq_true_eq] at h
  obtain ⟨⟨⟨⟨⟨⟨h1, h2⟩, h3⟩, h4⟩, ⟨h5, h6⟩, h7⟩, h8⟩, h9⟩ := h
  exact ⟨hd_wd_ok h1, hd_wd_ok h2, h3, h4, ⟨h5, h6, h7⟩, h8, h9⟩
/-- what is static of a call -/
def hd_okc (T : List hd_I) (I : hd_I) (o : hd_O) : Bool := match o with
  | (i, _, a, b, v, _, _, ws) => (match hd_nth T a with
    | none => true
    | some J => (match i with
      | .invokestatic k => hd_calB I J b ws && hd_wd (ws.getD 3 0) (Cond.static J.2.1) && (if v = 0 then hd_wd (ws.getD 2 0) (Cond.methodLink I.1 k J.2.1) else decide (I.1 = RX4) && decide (k = hd_nx) && decide (J.2.1 = yX5_isWithin))
      | .invokevirtual k => decide (0 < b) && hd_calB I J (b - 1) ws && hd_wd (ws.getD 2 0) (Cond.methodLink I.1 k J.2.1) && hd_wd (ws.getD 3 0) (Cond.instanceMethod J.2.1) && hd_wd (ws.getD 4 0) (Cond.selects J.2.1.cls J.2.1 J.2.1) && (match hd_nth hd_cl (ws.getD 5 0) with
        | some q => decide (q.1 = J.2.1.cls)
        | none => false)
      | _ => true))
def hd_okC (T : List hd_I) (I : hd_I) : List (Nat × hd_O) → Bool
  | [] => true
  | (_, o) :: r => hd_okc T I o && hd_okC T I r
theorem hd_okC_from {T : List hd_I} {I : hd_I} (pc : Nat) : ∀ l : List (Nat × hd_O), hd_okC T I l = true → ∀ q o r, hd_from pc l = (q, o) :: r → hd_okc T I o = true := by
  intro l
  induction l with
  | nil => intro _ q o r e; cases e
  | cons x l ih =>
    obtain ⟨p, o⟩ := x
    intro h q o1 r e
    unfold hd_okC at h
    rw [Bool.and_eq_true] at h
    unfold hd_from at e
    split at e
    · cases e; exact h.1
    · exact ih h.2 q o1 r e
section
variable {I : hd_I} {pc : Nat} {lv : hd_L} {st : List Value} {M : hd_M} {N : hd_N} {Q : hd_Q}
theorem hd_br (ok : hd_okL I (hd_pg I) = true) (h : ∀ k : Prop → Prop → Nat → Nat → List Value → Prop, (∀ ct cf t f st', (ct → hd_Go I t lv st' M N Q) → (cf → hd_Go I f lv st' M N Q) → k ct cf t f st') → hd_brK (hd_from pc (hd_pg I)) st k) : hd_Go I pc lv st M N Q := by
  have h0 := h (fun ct cf t f st' => (ct → hd_Go I t lv st' M N Q) ∧ (cf → hd_Go I f lv st' M N Q)) (fun _ _ _ _ _ a b => ⟨a, b⟩)
  obtain ⟨h1, h2⟩ := hd_from_ok (hd_pg I) pc ok
  generalize hd_from pc (hd_pg I) = l at h0 h1 h2
  cases l with
  | nil => exact h0.elim
  | cons x r =>
    obtain ⟨q, i, nx, a, b, v, v64, sw, ws⟩ := x
    have e := h2 q _ r rfl
    subst e
    unfold hd_okL at h1
    rw [Bool.and_eq_true, Bool.and_eq_true] at h1
    have hok := h1.1.1
    cases i
    case if_icmp op off =>
      simp only [hd_ok1, Bool.and_eq_true, decide_eq_true_eq] at hok
      obtain ⟨⟨hd, rfl⟩, ht⟩ := hok
      obtain ⟨x, y, r, rfl, h3⟩ := hd_i2_ok h0
      cases op <;> exact hd_icmp hd ht h3.1 h3.2
    case ifCond op off =>
      simp only [hd_ok1, Bool.and_eq_true, decide_eq_true_eq] at hok
      obtain ⟨⟨hd, rfl⟩, ht⟩ := hok
      obtain ⟨x, r, rfl, h3⟩ := hd_i1_ok h0
      cases op <;> exact hd_if hd ht h3.1 h3.2
    all_goals exact h0.elim
theorem hd_rt (ok : hd_okL I (hd_pg I) = true) (h : ∀ k : Prop → Option Value → Prop, (∀ C r, C → Q r M N → k C r) → hd_rtK I.2.2.2.2.1 (hd_from pc (hd_pg I)) st k) : hd_Go I pc lv st M N Q := by
  have h0 := h (fun C r => C ∧ Q r M N) (fun _ _ a b => ⟨a, b⟩)
  obtain ⟨h1, h2⟩ := hd_from_ok (hd_pg I) pc ok
  generalize hd_from pc (hd_pg I) = l at h0 h1 h2
  cases l with
  | nil => exact h0.elim
  | cons x r =>
    obtain ⟨q, i, nx, a, b, v, v64, sw, ws⟩ := x
    have e := h2 q _ r rfl
    subst e
    unfold hd_okL at h1
    rw [Bool.and_eq_true, Bool.and_eq_true] at h1
    have hok := h1.1.1
    cases i
    case ireturn =>
      simp only [hd_ok1, Bool.and_eq_true, decide_eq_true_eq] at hok
      simp only [hd_rtK] at h0
      split at h0
      · split at h0
        · next e => exact hd_ireturn hok.1.1 e rfl h0.2
        · next e => exact hd_ireturn hok.1.1 e (by rcases h0.1 with rfl | rfl <;> rfl) h0.2
        · next e => exact hd_ireturn hok.1.1 e h0.1 h0.2
        · exact h0.elim
      · exact h0.elim
    case lreturn =>
      simp only [hd_ok1, Bool.and_eq_true, decide_eq_true_eq] at hok
      simp only [hd_rtK] at h0
      split at h0
      · split at h0
        · next e => exact hd_lreturn hok.1.1 e h0.2
        · exact h0.elim
      · exact h0.elim
    case return_ =>
      simp only [hd_ok1, Bool.and_eq_true, decide_eq_true_eq] at hok
      simp only [hd_rtK] at h0
      split at h0
      · split at h0
        · next e => exact hd_vreturn hok.1.1 e h0.2
        · exact h0.elim
      · exact h0.elim
    all_goals exact h0.elim
theorem hd_cll {T : List hd_I} (ok : hd_okL I (hd_pg I) = true) (okc : hd_okC T I (hd_pg I) = true) (h : ∀ k : hd_I → Nat → List Value → List Value → Prop, (∀ J nx as st', (∃ P : hd_Q, hd_Ret J as M N P ∧ ∀ r M1 N1, P r M1 N1 → hd_Go I nx lv (r.toList ++ st') M1 N1 Q) → k J nx as st') → hd_clK T (hd_from pc (hd_pg I)) st k) : hd_Go I pc lv st M N Q := by
  have h0 := h (fun J nx as st' => ∃ P : hd_Q, hd_Ret J as M N P ∧ ∀ r M1 N1, P r M1 N1 → hd_Go I nx lv (r.toList ++ st') M1 N1 Q) (fun _ _ _ _ a => a)
  obtain ⟨h1, h2⟩ := hd_from_ok (hd_pg I) pc ok
  have h3 := hd_okC_from pc (hd_pg I) okc
  generalize hd_from pc (hd_pg I) = l at h0 h1 h2 h3
  cases l with
  | nil => exact h0.elim
  | cons x r =>
    obtain ⟨q, i, nx, a, b, v, v64, sw, ws⟩ := x
    have e := h2 q _ r rfl
    have hc := h3 q _ r rfl
    subst e
    unfold hd_okL at h1
    rw [Bool.and_eq_true, Bool.and_eq_true] at h1
    have hok := h1.1.1
    simp only [hd_clK] at h0
    simp only [hd_okc] at hc
    cases hJ : hd_nth T a with
    | none => rw [hJ] at h0; exact h0.elim
    | some J =>
      rw [hJ] at h0 hc
      cases i
      case invokestatic index =>
        simp only [hd_ok1, Bool.and_eq_true, decide_eq_true_eq] at hok
        obtain ⟨⟨hd, rfl⟩, -⟩ := hok
        simp only [Bool.and_eq_true] at hc
        obtain ⟨⟨c1, c2⟩, c3⟩ := hc
        obtain ⟨as, r2, h4, h5, h6⟩ := hd_pp_ok _ _ _ _ h0
        rw [List.append_nil] at h4
        obtain ⟨h7, h8⟩ := hd_fit_ok _ _ _ h4
        obtain ⟨h9, P, h10, h11⟩ := hd_few_ok _ _ _ h8
        rw [← h6] at c1
        by_cases hv : v = 0
        · rw [if_pos hv] at c3
          exact hd_callS hd (hd_calB_ok c1 index) (hd_wd_ok c3) (hd_wd_ok c2) h5 h7 h9 h10 h11
        · rw [if_neg hv] at c3
          simp only [Bool.and_eq_true, decide_eq_true_eq] at c3
          exact hd_callSN hd (hd_calB_ok c1 index) ⟨c3.1.1, c3.1.2, c3.2⟩ (hd_wd_ok c2) h5 h7 h9 h10 h11
      case invokevirtual index =>
        simp only [hd_ok1, Bool.and_eq_true, decide_eq_true_eq] at hok
        obtain ⟨⟨hd, rfl⟩, -⟩ := hok
        simp only [Bool.and_eq_true, decide_eq_true_eq] at hc
        obtain ⟨⟨⟨⟨⟨c0, c1⟩, c2⟩, c3⟩, c4⟩, c5⟩ := hc
        obtain ⟨as, r2, h4, h5, h6⟩ := hd_pp_ok _ _ _ _ h0
        rw [List.append_nil] at h4
        split at h4
        · next c as' =>
          obtain ⟨ci, fs, hsh, h4⟩ := hd_obj_ok h4
          obtain ⟨e1, h4⟩ := hd_bq_ok h4
          obtain ⟨h7, h8⟩ := hd_fit_ok _ _ _ h4
          obtain ⟨h9, P, h10, h11⟩ := hd_few_ok _ _ _ h8
          rw [← e1, hd_nth_eq] at c5
          cases hq : hd_cl[ci]? with
          | none => rw [hq] at c5; cases c5
          | some q =>
            rw [hq] at c5
            have c5 : q.1 = J.2.1.cls := of_decide_eq_true c5
            have hn : as'.length = b - 1 := by
              rw [List.length_cons] at h6
              omega
            rw [← hn] at c1
            refine hd_callV hd (hd_calB_ok c1 index) (hd_wd_ok c2) (hd_wd_ok c3) (hd_wd_ok c4) hsh hq c5 (h5.trans ?_) h7 h9 h10 h11
            simp
        · exact h4.elim
      all_goals exact h0.elim
/-! switches -/
theorem hd_sw_look {x : Int32} {dflt : Int} {d : Nat} (hd : (pc : Int) + dflt = (d : Int)) : ∀ (sw : List (Int32 × Nat)) (ps : List (Int × Int)), hd_al pc sw ps = true → (pc : Int) + Op.lookupswitch.offset ps dflt x.toInt = (hd_sw d x sw : Int) := by
  intro sw
  induction sw with
  | nil =>
    intro ps h
    cases ps with
    | nil => exact hd
    | cons y ps => cases h
  | cons y sw ih =>
    obtain ⟨v, t⟩ := y
    intro ps h
    cases ps with
    | nil => cases h
    | cons z ps =>
      obtain ⟨k, o⟩ := z
      unfold hd_al at h
      simp only [Bool.and_eq_true, decide_eq_true_eq] at h
      obtain ⟨⟨h1, h2⟩, h3⟩ := h
      rw [Op.lookupswitch.offset_cons, hd_sw]
      by_cases hx : x = v
      · subst hx
        rw [if_pos h1.symm, if_pos rfl]
        exact h2
      · rw [if_neg hx, if_neg (fun e => hx (Int32.toInt_inj.mp (by rw [← e, h1])))]
        exact ih ps h3
theorem hd_tps_off (dflt k : Int) : ∀ (os : List Int) (lo : Int), Op.lookupswitch.offset (hd_tps lo os) dflt k = if lo ≤ k ∧ k < lo + os.length then os.getD (k - lo).toNat dflt else dflt := by
  intro os
  induction os with
  | nil =>
    intro lo
    rw [if_neg (by simp only [List.length_nil]; omega)]
    rfl
  | cons o os ih =>
    intro lo
    show Op.lookupswitch.offset ((lo, o) :: hd_tps (lo + 1) os) dflt k = _
    rw [Op.lookupswitch.offset_cons, ih (lo + 1)]
    simp only [List.length_cons]
    by_cases h : lo = k
    · subst h
      rw [if_pos rfl, if_pos (by omega)]
      simp
    · rw [if_neg h]
      by_cases h2 : lo + 1 ≤ k ∧ k < lo + 1 + os.length
      · rw [if_pos h2, if_pos (by omega), show (k - lo).toNat = (k - (lo + 1)).toNat + 1 by omega]
        simp
      · rw [if_neg h2, if_neg (by omega)]
def hd_swP (I : hd_I) (lv : hd_L) (st : List Value) (M : hd_M) (N : hd_N) (Q : hd_Q) (x : Int32) (d : Nat) : List (Int32 × Nat) → Prop
  | [] => hd_Go I d lv st M N Q
  | (v, t) :: r => (x = v → hd_Go I t lv st M N Q) ∧ (¬ x = v → hd_swP I lv st M N Q x d r)
theorem hd_swP_ok {x : Int32} {d : Nat} : ∀ sw : List (Int32 × Nat), hd_swP I lv st M N Q x d sw → hd_Go I (hd_sw d x sw) lv st M N Q := by
  intro sw
  induction sw with
  | nil => intro h; exact h
  | cons y sw ih =>
    obtain ⟨v, t⟩ := y
    intro h
    unfold hd_sw
    by_cases hx : x = v
    · rw [if_pos hx]; exact h.1 hx
    · rw [if_neg hx]; exact ih (h.2 hx)
def hd_swK (l : List (Nat × hd_O)) (st : List Value) (k : Int32 → Nat → List (Int32 × Nat) → List Value → Prop) : Prop := match l with
  | [] => False
  | (_, o) :: _ => (match o with
    | (i, _, a, _, _, _, sw, _) => (match i with
      | .tableswitch _ _ _ _ => hd_i1 st (fun x st => k x a sw st)
      | .lookupswitch _ _ => hd_i1 st (fun x st => k x a sw st)
      | _ => False))
theorem hd_swi (ok : hd_okL I (hd_pg I) = true) (h : ∀ k : Int32 → Nat → List (Int32 × Nat) → List Value → Prop, (∀ x d sw st', hd_swP I lv st' M N Q x d sw → k x d sw st') → hd_swK (hd_from pc (hd_pg I)) st k) : hd_Go I pc lv st M N Q := by
  have h0 := h (fun x d sw st' => hd_swP I lv st' M N Q x d sw) (fun _ _ _ _ a => a)
  obtain ⟨h1, h2⟩ := hd_from_ok (hd_pg I) pc ok
  generalize hd_from pc (hd_pg I) = l at h0 h1 h2
  cases l with
  | nil => exact h0.elim
  | cons x r =>
    obtain ⟨q, i, nx, a, b, v, v64, sw, ws⟩ := x
    have e := h2 q _ r rfl
    subst e
    unfold hd_okL at h1
    rw [Bool.and_eq_true, Bool.and_eq_true] at h1
    have hok := h1.1.1
    cases i
    case tableswitch dflt lo hi offs =>
      simp only [hd_ok1, Bool.and_eq_true, decide_eq_true_eq] at hok
      obtain ⟨⟨⟨hd, h3⟩, h4⟩, h5⟩ := hok
      obtain ⟨x, r, rfl, h6⟩ := hd_i1_ok h0
      have hg := hd_swP_ok sw h6
      have hl := hd_sw_look (x := x) h3 sw _ h4
      rw [hd_tps_off] at hl
      intro p l e s m args below meth c H locs G A ls C hH hL
      by_cases hx : lo ≤ x.toInt ∧ x.toInt < lo + offs.toList.length
      · rw [if_pos hx] at hl
        have hlt : (x.toInt - lo).toNat < offs.size := by
          have : offs.toList.length = offs.size := Array.length_toList
          omega
        have ho : offs[(x.toInt - lo).toNat]? = some (offs.toList.getD (x.toInt - lo).toNat dflt) := by
          rw [Array.getElem?_eq_getElem hlt]
          simp [hlt]
        exact lv_tableIn C.1 C.2.1 hd (by omega) (by omega) ho hl (hg p l e s m args below meth c H locs G A ls C hH hL)
      · rw [if_neg hx] at hl
        exact lv_tableOut C.1 C.2.1 hd (by omega) hl (hg p l e s m args below meth c H locs G A ls C hH hL)
    case lookupswitch dflt ps =>
      simp only [hd_ok1, Bool.and_eq_true, decide_eq_true_eq] at hok
      obtain ⟨⟨⟨hd, h3⟩, h4⟩, h5⟩ := hok
      obtain ⟨x, r, rfl, h6⟩ := hd_i1_ok h0
      have hg := hd_swP_ok sw h6
      have hl := hd_sw_look (x := x) h3 sw _ h4
      intro p l e s m args below meth c H locs G A ls C hH hL
      exact lv_lookup C.1 C.2.1 hd h5 rfl hl (hg p l e s m args below meth c H locs G A ls C hH hL)
    all_goals exact h0.elim
end
