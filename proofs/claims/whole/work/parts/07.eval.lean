/-! THE EVALUATOR: straight stretches of a method, by reckoning alone -/
abbrev hd_K : Type := Prop → Nat → hd_L → List Value → hd_M → hd_N → Prop
def hd_nth {α : Type} : List α → Nat → Option α
  | [], _ => none
  | x :: _, 0 => some x
  | _ :: xs, n + 1 => hd_nth xs n
theorem hd_nth_eq {α : Type} : ∀ (l : List α) (n : Nat), hd_nth l n = l[n]? := by
  intro l
  induction l with
  | nil => intro n; rfl
  | cons x xs ih =>
    intro n
    match n with
    | 0 => rfl
    | n + 1 => rw [hd_nth, List.getElem?_cons_succ]; exact ih n
def hd_ld : hd_L → Nat → (Value → Prop) → Prop
  | [], _, _ => False
  | x :: _, 0, k => (match x with | some v => k v | none => False)
  | _ :: xs, n + 1, k => hd_ld xs n k
theorem hd_ld_ok : ∀ (l : hd_L) (n : Nat) (k : Value → Prop), hd_ld l n k → ∃ v, l[n]? = some (some v) ∧ k v := by
  intro l
  induction l with
  | nil => intro n k h; exact h.elim
  | cons x xs ih =>
    intro n k h
    match n, h with
    | 0, h =>
      cases x with
      | none => exact h.elim
      | some v => exact ⟨v, rfl, h⟩
    | n + 1, h =>
      obtain ⟨v, h1, h2⟩ := ih n k h
      exact ⟨v, by rw [List.getElem?_cons_succ]; exact h1, h2⟩
def hd_no2 : Option Value → Prop → Prop
  | some (.long _), _ => False
  | some (.double _), _ => False
  | _, k => k
theorem hd_no2_ok {x : Option Value} {k : Prop} (h : hd_no2 x k) : k ∧ ∀ u : Value, x = some u → u.category ≠ 2 := by
  cases x with
  | none => exact ⟨h, fun _ e => by cases e⟩
  | some v => cases v <;> first | exact h.elim | exact ⟨h, fun u e => by cases e; decide⟩ | exact ⟨h, fun u e => by cases e; intro z; cases z⟩
def hd_sv : hd_L → Nat → Option Value → (hd_L → Prop) → Prop
  | [], _, _, _ => False
  | _ :: xs, 0, v, k => k (v :: xs)
  | x :: xs, 1, v, k => (match xs with | [] => False | _ :: ys => hd_no2 x (k (x :: v :: ys)))
  | x :: xs, n + 2, v, k => hd_sv xs (n + 1) v (fun ys => k (x :: ys))
theorem hd_sv_ok : ∀ (l : hd_L) (n : Nat) (v : Option Value) (k : hd_L → Prop), hd_sv l n v k → k (l.set n v) ∧ n < l.length ∧ ∀ u : Value, l[n - 1]? = some (some u) → 0 < n → u.category ≠ 2 := by
  intro l
  induction l with
  | nil => intro n v k h; unfold hd_sv at h; exact h.elim
  | cons x xs ih =>
    intro n v k h
    match n, h with
    | 0, h => exact ⟨h, Nat.zero_lt_succ _, fun u _ z => absurd z (Nat.lt_irrefl 0)⟩
    | 1, h =>
      cases xs with
      | nil => exact h.elim
      | cons y ys =>
        obtain ⟨h1, h2⟩ := hd_no2_ok h
        exact ⟨h1, by simp, fun u hu _ => h2 u (by simpa using hu)⟩
    | n + 2, h =>
      obtain ⟨h1, h2, h3⟩ := ih (n + 1) v _ h
      refine ⟨h1, by simp only [List.length_cons]; omega, fun u hu _ => h3 u ?_ (by omega)⟩
      simpa using hu
def hd_bq (a b : Nat) (P : Prop) : Prop := match Nat.beq a b with
  | true => P
  | false => False
theorem hd_bq_ok {a b : Nat} {P : Prop} (h : hd_bq a b P) : a = b ∧ P := by
  unfold hd_bq at h
  split at h
  · next e => exact ⟨Nat.eq_of_beq_eq_true e, h⟩
  · exact h.elim
def hd_i1 (st : List Value) (k : Int32 → List Value → Prop) : Prop := match st with
  | .int x :: st => k x st
  | _ => False
def hd_i2 (st : List Value) (k : Int32 → Int32 → List Value → Prop) : Prop := match st with
  | .int y :: .int x :: st => k x y st
  | _ => False
def hd_l2 (st : List Value) (k : Int64 → Int64 → List Value → Prop) : Prop := match st with
  | .long y :: .long x :: st => k x y st
  | _ => False
def hd_l1 (st : List Value) (k : Int64 → List Value → Prop) : Prop := match st with
  | .long x :: st => k x st
  | _ => False
def hd_r1 (st : List Value) (k : Nat → List Value → Prop) : Prop := match st with
  | .ref x :: st => k x st
  | _ => False
def hd_isI (v : Value) (k : Int32 → Prop) : Prop := match v with
  | .int x => k x
  | _ => False
def hd_isL (v : Value) (k : Int64 → Prop) : Prop := match v with
  | .long x => k x
  | _ => False
def hd_isR (v : Value) (k : Nat → Prop) : Prop := match v with
  | .ref x => k x
  | _ => False
def hd_obj (c : Nat) (k : Nat → List (Nat × Nat) → Prop) : Prop := match hd_nth hd_shp c with
  | some (.inr (.inr (ci, fs))) => k ci fs
  | _ => False
def hd_arr (c : Nat) (k : Nat → Nat → Prop) : Prop := match hd_nth hd_shp c with
  | some (.inl (t, n)) => k t n
  | _ => False
def hd_rar (c : Nat) (k : Nat → List Nat → Prop) : Prop := match hd_nth hd_shp c with
  | some (.inr (.inl (t, rs))) => k t rs
  | _ => False
theorem hd_obj_ok {c : Nat} {k : Nat → List (Nat × Nat) → Prop} (h : hd_obj c k) : ∃ ci fs, hd_shp[c]? = some (.inr (.inr (ci, fs))) ∧ k ci fs := by
  unfold hd_obj at h
  rw [hd_nth_eq] at h
  split at h
  · next ci fs e => exact ⟨ci, fs, e, h⟩
  · exact h.elim
theorem hd_arr_ok {c : Nat} {k : Nat → Nat → Prop} (h : hd_arr c k) : ∃ t n, hd_shp[c]? = some (.inl (t, n)) ∧ k t n := by
  unfold hd_arr at h
  rw [hd_nth_eq] at h
  split at h
  · next ci fs e => exact ⟨ci, fs, e, h⟩
  · exact h.elim
theorem hd_rar_ok {c : Nat} {k : Nat → List Nat → Prop} (h : hd_rar c k) : ∃ t rs, hd_shp[c]? = some (.inr (.inl (t, rs))) ∧ k t rs := by
  unfold hd_rar at h
  rw [hd_nth_eq] at h
  split at h
  · next ci fs e => exact ⟨ci, fs, e, h⟩
  · exact h.elim
theorem hd_i1_ok {st : List Value} {k : Int32 → List Value → Prop} (h : hd_i1 st k) : ∃ x r, st = .int x :: r ∧ k x r := by
  unfold hd_i1 at h
  split at h
  · exact ⟨_, _, rfl, h⟩
  · exact h.elim
theorem hd_i2_ok {st : List Value} {k : Int32 → Int32 → List Value → Prop} (h : hd_i2 st k) : ∃ x y r, st = .int y :: .int x :: r ∧ k x y r := by
  unfold hd_i2 at h
  split at h
  · exact ⟨_, _, _, rfl, h⟩
  · exact h.elim
theorem hd_l1_ok {st : List Value} {k : Int64 → List Value → Prop} (h : hd_l1 st k) : ∃ x r, st = .long x :: r ∧ k x r := by
  unfold hd_l1 at h
  split at h
  · exact ⟨_, _, rfl, h⟩
  · exact h.elim
theorem hd_l2_ok {st : List Value} {k : Int64 → Int64 → List Value → Prop} (h : hd_l2 st k) : ∃ x y r, st = .long y :: .long x :: r ∧ k x y r := by
  unfold hd_l2 at h
  split at h
  · exact ⟨_, _, _, rfl, h⟩
  · exact h.elim
theorem hd_r1_ok {st : List Value} {k : Nat → List Value → Prop} (h : hd_r1 st k) : ∃ x r, st = .ref x :: r ∧ k x r := by
  unfold hd_r1 at h
  split at h
  · exact ⟨_, _, rfl, h⟩
  · exact h.elim
theorem hd_isI_ok {v : Value} {k : Int32 → Prop} (h : hd_isI v k) : ∃ x, v = .int x ∧ k x := by
  unfold hd_isI at h
  split at h
  · exact ⟨_, rfl, h⟩
  · exact h.elim
theorem hd_isL_ok {v : Value} {k : Int64 → Prop} (h : hd_isL v k) : ∃ x, v = .long x ∧ k x := by
  unfold hd_isL at h
  split at h
  · exact ⟨_, rfl, h⟩
  · exact h.elim
theorem hd_isR_ok {v : Value} {k : Nat → Prop} (h : hd_isR v k) : ∃ x, v = .ref x ∧ k x := by
  unfold hd_isR at h
  split at h
  · exact ⟨_, rfl, h⟩
  · exact h.elim
def hd_few : List Value → Nat → Prop → Prop
  | [], _, k => k
  | _ :: xs, n + 1, k => hd_few xs n k
  | _ :: _, 0, _ => False
theorem hd_cat_le (v : Value) : v.category ≤ 2 := by cases v <;> first | exact Nat.le_refl 2 | exact Nat.le_succ 1
theorem hd_few_ok : ∀ (l : List Value) (n : Nat) (k : Prop), hd_few l n k → (l.map fun v => v.category).sum ≤ 2 * n ∧ k := by
  intro l
  induction l with
  | nil => intro n k h; exact ⟨Nat.zero_le _, by simpa [hd_few] using h⟩
  | cons x xs ih =>
    intro n k h
    match n, h with
    | 0, h => exact h.elim
    | n + 1, h =>
      obtain ⟨h1, h2⟩ := ih n k h
      refine ⟨?_, h2⟩
      rw [List.map_cons, List.sum_cons]
      have := hd_cat_le x
      omega
/-- an instruction's length in bytes -/
def hd_len : Instr → Nat
  | .bipush _ => 2
  | .ldc _ => 2
  | .iload _ => 2
  | .lload _ => 2
  | .aload _ => 2
  | .istore _ => 2
  | .lstore _ => 2
  | .astore _ => 2
  | .sipush _ => 3
  | .ldc_w _ => 3
  | .ldc2_w _ => 3
  | .iinc _ _ => 3
  | .goto _ => 3
  | .if_icmp _ _ => 3
  | .ifCond _ _ => 3
  | .getfield _ => 3
  | .putfield _ => 3
  | .invokevirtual _ => 3
  | .invokestatic _ => 3
  | _ => 1
/-- the word w stands at place i of the tables, and lasts -/
def hd_wd (i : Nat) (w : Cond) : Bool := decide (lw_tbl[i]? = some w) && goodWord w
theorem hd_wd_ok {i : Nat} {w : Cond} (h : hd_wd i w = true) : w ∈ hd_tbl := by
  unfold hd_wd at h
  rw [Bool.and_eq_true, decide_eq_true_eq] at h
  exact hd_in i h.1 h.2
def hd_fld (I : hd_I) (index ci k i : Nat) : Bool := match hd_nth hd_cl ci with
  | some q => decide (k < q.2.2) && hd_wd i (Cond.fieldLink I.1 index (q.2.1 k).1 (q.2.1 k).2.1 (q.2.1 k).2.2.1)
  | none => false
theorem hd_fld_ok {I : hd_I} {index ci k i : Nat} (h : hd_fld I index ci k i = true) : ∃ q : vw_C, hd_cl[ci]? = some q ∧ k < q.2.2 ∧ Cond.fieldLink I.1 index (q.2.1 k).1 (q.2.1 k).2.1 (q.2.1 k).2.2.1 ∈ hd_tbl := by
  unfold hd_fld at h
  rw [hd_nth_eq] at h
  split at h
  · next q e =>
    rw [Bool.and_eq_true, decide_eq_true_eq] at h
    exact ⟨q, e, h.1, hd_wd_ok h.2⟩
  · cases h
def hd_fin (ci k : Nat) : Bool := match hd_nth hd_cl ci with
  | some q => !(q.2.1 k).2.2.2
  | none => false
/-- 0: an int; 1: a boolean; 2: a long -/
def hd_kd (ci k : Nat) (v : Int32) : Bool := match hd_ty ci k with
  | .int => decide (v = 0)
  | .boolean => decide (v = 1)
  | .long => decide (v = 2)
  | _ => false
def hd_al (pc : Nat) : List (Int32 × Nat) → List (Int × Int) → Bool
  | [], [] => true
  | (v, t) :: r, (k, o) :: r' => decide (v.toInt = k) && decide ((pc : Int) + o = (t : Int)) && hd_al pc r r'
  | _, _ => false
def hd_tps : Int → List Int → List (Int × Int)
  | _, [] => []
  | lo, o :: r => (lo, o) :: hd_tps (lo + 1) r
/-- what is static of an instruction -/
def hd_ok1 (I : hd_I) (pc : Nat) (o : hd_O) : Bool := match o with
  | (i, nx, a, b, v, v64, sw, ws) => (match i with
    | .tableswitch dflt lo hi offs => decide (decode I.2.2.1 pc = .ok (i, nx - pc)) && decide ((pc : Int) + dflt = (a : Int)) && hd_al pc sw (hd_tps lo offs.toList) && decide (lo + offs.toList.length = hi + 1)
    | .lookupswitch dflt ps => decide (decode I.2.2.1 pc = .ok (i, nx - pc)) && decide ((pc : Int) + dflt = (a : Int)) && hd_al pc sw ps.toList && (ps.toList.zip (ps.toList.drop 1)).all (fun (a, next) => a.1 < next.1)
    | i => decide (decode I.2.2.1 pc = .ok (i, hd_len i)) && decide (nx = pc + hd_len i) && (match i with
      | .iconst n => decide (Int32.ofInt n = v)
      | .bipush n => decide ((Int8.ofInt n).toInt32 = v)
      | .sipush n => decide ((Int16.ofInt n).toInt32 = v)
      | .lconst n => decide (Int64.ofNat (n : Nat) = v64)
      | .ldc k => (match b with
        | 0 => hd_wd (ws.getD 0 0) (Cond.constant I.1 k v)
        | j + 1 => decide (I.1 = RX4) && decide (a = 1000 + j) && decide ((hd_tx[j]?).map Prod.fst = some k))
      | .ldc_w k => hd_wd (ws.getD 0 0) (Cond.constant I.1 k v)
      | .ldc2_w k => hd_wd (ws.getD 0 0) (Cond.constantLong I.1 k v64)
      | .iload_n k => decide ((k : Nat) = a)
      | .lload_n k => decide ((k : Nat) = a)
      | .aload_n k => decide ((k : Nat) = a)
      | .istore_n k => decide ((k : Nat) = a)
      | .lstore_n k => decide ((k : Nat) = a)
      | .astore_n k => decide ((k : Nat) = a)
      | .iload k => decide (k = a)
      | .lload k => decide (k = a)
      | .aload k => decide (k = a)
      | .istore k => decide (k = a)
      | .lstore k => decide (k = a)
      | .astore k => decide (k = a)
      | .iinc k n => decide (k = a) && decide (Int32.ofInt n = v)
      | .goto off => decide ((pc : Int) + off = (a : Int))
      | .if_icmp _ off => decide ((pc : Int) + off = (a : Int))
      | .ifCond _ off => decide ((pc : Int) + off = (a : Int))
      | .invokestatic k => (match Nat.beq a 9001 with
        | true => hd_wd (ws.getD 0 0) (Cond.code Lib.Math.max.name Lib.Math.max.code 2 (some .int)) && hd_wd (ws.getD 1 0) (Cond.initialized "java/lang/Math") && hd_wd (ws.getD 2 0) (Cond.methodLink I.1 k Lib.Math.max.name) && hd_wd (ws.getD 3 0) (Cond.static Lib.Math.max.name) && decide (0 < I.2.2.2.2.2.1)
        | false => (match Nat.beq a 9002 with
          | true => hd_wd (ws.getD 0 0) (Cond.code Lib.Math.min.name Lib.Math.min.code 2 (some .int)) && hd_wd (ws.getD 1 0) (Cond.initialized "java/lang/Math") && hd_wd (ws.getD 2 0) (Cond.methodLink I.1 k Lib.Math.min.name) && hd_wd (ws.getD 3 0) (Cond.static Lib.Math.min.name) && decide (0 < I.2.2.2.2.2.1)
          | false => (match Nat.beq a 9003 with
            | true => hd_wd (ws.getD 0 0) (Cond.native arraycopyName) && hd_wd (ws.getD 1 0) (Cond.initialized "java/lang/System") && hd_wd (ws.getD 2 0) (Cond.methodLink I.1 k arraycopyName) && hd_wd (ws.getD 3 0) (Cond.static arraycopyName) && decide (0 < I.2.2.2.2.2.1)
            | false => true)))
      | .getfield k => hd_fld I k a b (ws.getD 0 0)
      | .putfield k => hd_fld I k a b (ws.getD 0 0) && hd_fin a b && hd_kd a b v
      | _ => true))
/-- one instruction of a straight stretch; else the stretch stops -/
def hd_st1 (o : hd_O) (pc : Nat) (lv : hd_L) (st : List Value) (M : hd_M) (N : hd_N) (C : Prop) (k : hd_L → List Value → hd_M → hd_N → Prop → Prop) (stop : Nat → Prop) : Prop := match o with
  | (i, _, a, b, v, v64, _, _) => (match i with
    | .iconst _ => k lv (.int v :: st) M N C
    | .bipush _ => k lv (.int v :: st) M N C
    | .sipush _ => k lv (.int v :: st) M N C
    | .lconst _ => k lv (.long v64 :: st) M N C
    | .ldc _ => (match b with
      | 0 => k lv (.int v :: st) M N C
      | _ => k lv (.ref a :: st) M N C)
    | .ldc_w _ => k lv (.int v :: st) M N C
    | .ldc2_w _ => k lv (.long v64 :: st) M N C
    | .iload_n _ => hd_ld lv a (fun z => hd_isI z (fun x => k lv (.int x :: st) M N C))
    | .iload _ => hd_ld lv a (fun z => hd_isI z (fun x => k lv (.int x :: st) M N C))
    | .lload_n _ => hd_ld lv a (fun z => hd_isL z (fun x => k lv (.long x :: st) M N C))
    | .lload _ => hd_ld lv a (fun z => hd_isL z (fun x => k lv (.long x :: st) M N C))
    | .aload_n _ => hd_ld lv a (fun z => hd_isR z (fun x => k lv (.ref x :: st) M N C))
    | .aload _ => hd_ld lv a (fun z => hd_isR z (fun x => k lv (.ref x :: st) M N C))
    | .istore_n _ => hd_i1 st (fun x st => hd_sv lv a (some (.int x)) (fun lv => k lv st M N C))
    | .istore _ => hd_i1 st (fun x st => hd_sv lv a (some (.int x)) (fun lv => k lv st M N C))
    | .astore_n _ => hd_r1 st (fun x st => hd_sv lv a (some (.ref x)) (fun lv => k lv st M N C))
    | .astore _ => hd_r1 st (fun x st => hd_sv lv a (some (.ref x)) (fun lv => k lv st M N C))
    | .lstore_n _ => hd_l1 st (fun x st => hd_sv lv (a + 1) none (fun lv => hd_sv lv a (some (.long x)) (fun lv => k lv st M N C)))
    | .lstore _ => hd_l1 st (fun x st => hd_sv lv (a + 1) none (fun lv => hd_sv lv a (some (.long x)) (fun lv => k lv st M N C)))
    | .iinc _ _ => hd_ld lv a (fun z => hd_isI z (fun x => hd_sv lv a (some (.int (x + v))) (fun lv => k lv st M N C)))
    | .iadd => hd_i2 st (fun x y st => k lv (.int (x + y) :: st) M N C)
    | .isub => hd_i2 st (fun x y st => k lv (.int (x - y) :: st) M N C)
    | .imul => hd_i2 st (fun x y st => k lv (.int (x * y) :: st) M N C)
    | .ishl => hd_i2 st (fun x y st => k lv (.int (x <<< (y &&& 31)) :: st) M N C)
    | .ishr => hd_i2 st (fun x y st => k lv (.int (x >>> (y &&& 31)) :: st) M N C)
    | .iand => hd_i2 st (fun x y st => k lv (.int (x &&& y) :: st) M N C)
    | .ior => hd_i2 st (fun x y st => k lv (.int (x ||| y) :: st) M N C)
    | .idiv => hd_i2 st (fun x y st => k lv (.int (x / y) :: st) M N (C ∧ ¬ y = 0))
    | .irem => hd_i2 st (fun x y st => k lv (.int (x - x / y * y) :: st) M N (C ∧ ¬ y = 0))
    | .iushr => hd_i2 st (fun x y st => k lv (.int (x.toUInt32 >>> (y.toUInt32 &&& Int32.toUInt32 31)).toInt32 :: st) M N C)
    | .ineg => hd_i1 st (fun x st => k lv (.int (-x) :: st) M N C)
    | .i2l => hd_i1 st (fun x st => k lv (.long x.toInt64 :: st) M N C)
    | .i2b => hd_i1 st (fun x st => k lv (.int x.toInt8.toInt32 :: st) M N C)
    | .i2s => hd_i1 st (fun x st => k lv (.int x.toInt16.toInt32 :: st) M N C)
    | .ladd => hd_l2 st (fun x y st => k lv (.long (x + y) :: st) M N C)
    | .lmul => hd_l2 st (fun x y st => k lv (.long (x * y) :: st) M N C)
    | .ldiv => hd_l2 st (fun x y st => k lv (.long (x / y) :: st) M N (C ∧ ¬ y = 0))
    | .lrem => hd_l2 st (fun x y st => k lv (.long (x - x / y * y) :: st) M N (C ∧ ¬ y = 0))
    | .lcmp => hd_l2 st (fun x y st => k lv (.int (lg_cmp x y) :: st) M N C)
    | .dup => (match st with
      | .int x :: st => k lv (.int x :: .int x :: st) M N C
      | .ref x :: st => k lv (.ref x :: .ref x :: st) M N C
      | _ => False)
    | .pop => (match st with
      | .int _ :: st => k lv st M N C
      | .ref _ :: st => k lv st M N C
      | _ => False)
    | .dup2 => (match st with
      | .int x :: .ref y :: st => k lv (.int x :: .ref y :: .int x :: .ref y :: st) M N C
      | .int x :: .int y :: st => k lv (.int x :: .int y :: .int x :: .int y :: st) M N C
      | _ => False)
    | .getfield _ => hd_r1 st (fun c st => hd_obj c (fun ci fs => hd_bq ci a (match hd_nth fs b with
      | some (z, r) => (match z with
        | 0 => k lv (.int (M c b) :: st) M N C
        | 1 => k lv (.long (N c b) :: st) M N C
        | _ => k lv (.ref r :: st) M N C)
      | none => False)))
    | .putfield _ => (match st with
      | .int x :: .ref c :: st => hd_obj c (fun ci fs => hd_bq ci a (match hd_nth fs b with
        | some r => hd_bq r.1 0 (if v = 0 then k lv st (hd_u M c b x) N C else if v = 1 then k lv st (hd_u M c b x) N (C ∧ (x = 0 ∨ x = 1)) else False)
        | none => False))
      | .long x :: .ref c :: st => hd_obj c (fun ci fs => hd_bq ci a (match hd_nth fs b with
        | some r => hd_bq r.1 1 (if v = 2 then k lv st M (hd_uN N c b x) C else False)
        | none => False))
      | _ => False)
    | .iaload => hd_i1 st (fun i st => hd_r1 st (fun c st => hd_arr c (fun t n => hd_bq t 0 (k lv (.int (M c i.toNatClampNeg) :: st) M N (C ∧ vp_in i n)))))
    | .iastore => hd_i2 st (fun i x st => hd_r1 st (fun c st => hd_arr c (fun t n => hd_bq t 0 (k lv st (hd_u M c i.toNatClampNeg x) N (C ∧ vp_in i n)))))
    | .baload => hd_i1 st (fun i st => hd_r1 st (fun c st => hd_arr c (fun t n => (match t with
      | 1 => k lv (.int (M c i.toNatClampNeg) :: st) M N (C ∧ vp_in i n)
      | 2 => k lv (.int (M c i.toNatClampNeg) :: st) M N (C ∧ vp_in i n)
      | _ => False))))
    | .bastore => hd_i2 st (fun i x st => hd_r1 st (fun c st => hd_arr c (fun t n => (match t with
      | 1 => k lv st (hd_u M c i.toNatClampNeg x) N (C ∧ vp_in i n ∧ vp_nar .byte x = x)
      | 2 => k lv st (hd_u M c i.toNatClampNeg x) N (C ∧ vp_in i n ∧ (x = 0 ∨ x = 1))
      | _ => False))))
    | .aaload => hd_i1 st (fun i st => hd_r1 st (fun c st => hd_rar c (fun t rs => (match hd_nth rs i.toNatClampNeg with
      | some r => k lv (.ref r :: st) M N (C ∧ (t = 3 ∨ t = 4) ∧ ¬ i < 0)
      | none => False))))
    | .arraylength => hd_r1 st (fun c st => hd_arr c (fun t n => k lv (.int (Int32.ofNat n) :: st) M N (C ∧ t < 3)))
    | .invokestatic _ => (match Nat.beq a 9001 with
      | true => hd_i2 st (fun x y st => hd_few st 4 (k lv (.int (if x < y then y else x) :: st) M N C))
      | false => (match Nat.beq a 9002 with
        | true => hd_i2 st (fun x y st => hd_few st 4 (k lv (.int (if y < x then y else x) :: st) M N C))
        | false => (match Nat.beq a 9003 with
          | true => hd_i2 st (fun dp n st => hd_r1 st (fun q1 st => hd_i1 st (fun sp st => hd_r1 st (fun q0 st => hd_arr q0 (fun t0 n0 => hd_arr q1 (fun t1 n1 => hd_bq t0 0 (hd_bq t1 0 (hd_few st 0 (k lv st (hd_cp M q0 q1 sp.toNatClampNeg dp.toNatClampNeg n.toNatClampNeg) N (C ∧ ¬ sp < 0 ∧ ¬ dp < 0 ∧ ¬ n < 0 ∧ sp.toNatClampNeg + n.toNatClampNeg ≤ n0 ∧ dp.toNatClampNeg + n.toNatClampNeg ≤ n1))))))))))
          | false => stop pc)))
    | .goto _ => stop a
    | _ => stop pc)
/-- a stretch of instructions, up to the first that isn't straight, or to the place 'till' -/
def hd_ev1 (till : Nat) (k : hd_K) : List (Nat × hd_O) → hd_L → List Value → hd_M → hd_N → Prop → Prop
  | [], _, _, _, _, _ => False
  | (pc, o) :: r, lv, st, M, N, C => (match Nat.beq pc till with
    | true => k C pc lv st M N
    | false => hd_st1 o pc lv st M N C (fun lv st M N C => hd_ev1 till k r lv st M N C) (fun pc => k C pc lv st M N))
def hd_from (pc : Nat) : List (Nat × hd_O) → List (Nat × hd_O)
  | [] => []
  | (q, o) :: r => (match Nat.beq q pc with
    | true => (q, o) :: r
    | false => hd_from pc r)
/-- the first instruction, whatever 'till' says; then the stretch -/
def hd_ev0 (till : Nat) (k : hd_K) : List (Nat × hd_O) → hd_L → List Value → hd_M → hd_N → Prop
  | [], _, _, _, _ => False
  | (pc, o) :: r, lv, st, M, N => hd_st1 o pc lv st M N True (fun lv st M N C => hd_ev1 till k r lv st M N C) (fun pc => k True pc lv st M N)
