/-! LUCK AND MEAN, THE CLASS'S SIDE; printed by wip/whole/luck1.py -/
/-! LIDS -/
def lw (v s : Nat) : Nat → Nat → Nat → Nat
  | 0, _, x => x
  | m + 1, k, x => lw v s m (k + 1) (x * (if s.testBit k then v else 10 - v))
def ldd (s : Nat) : Nat → Nat → dy_T → dy_T
  | 0, _, d => d
  | m + 1, k, d => ldd s m (k + 1) (dy_ho (s.testBit k) d)
def lk (f : Nat → Nat) : Nat → Nat → Nat → Nat
  | 0, _, a => a
  | m + 1, i, a => lk f m (i + 1) (a + f i)
def lm (n : Nat) (d : dy_T) (s : Nat) : Int32 := (ldd s n 0 d).2.2.1
def lk_l (v n : Nat) (w : Int32) (d : dy_T) (s : Nat) : Nat := if lm n d s < w then 0 else lw v s n 0 1
def lk_m (v n : Nat) (d : dy_T) (s : Nat) : Nat := lw v s n 0 1 * (lm n d s).toNatClampNeg
def lk_a (S n : Nat) (w : Int32) : Int64 := lN ((if w = 0 then S else 10 ^ n) / Nat.gcd S (10 ^ n))
def an_luck (v n w q : Int32) (st : ab_T) : Value × ab_T := (.long (if (wi v 0 10 ∧ wi n 0 8) ∧ wi w 0 99 ∧ wi q 0 1 then lk_a (lk (lk_l v.toNatClampNeg n.toNatClampNeg w st.1) (2 ^ n.toNatClampNeg) 0 0) n.toNatClampNeg q else -1), st)
def an_mean (v n q : Int32) (st : ab_T) : Value × ab_T := (.long (if (wi v 0 10 ∧ wi n 0 8) ∧ wi q 0 1 then lk_a (lk (lk_m v.toNatClampNeg n.toNatClampNeg st.1) (2 ^ n.toNatClampNeg) 0 0) n.toNatClampNeg q else -1), st)
set_option maxRecDepth 20000 in
theorem lw_le (v s : Nat) (hv : v ≤ 10) : ∀ m k x, lw v s m k x ≤ x * 10 ^ m := by
  intro m
  induction m with
  | zero => intro k x; rw [lw]; omega
  | succ m ih =>
    intro k x
    rw [lw]
    refine Nat.le_trans (ih _ _) ?_
    rw [Nat.pow_succ, Nat.mul_comm (10 ^ m) 10, ← Nat.mul_assoc]
    refine Nat.mul_le_mul_right _ (Nat.mul_le_mul_left _ ?_)
    split
    · exact hv
    · omega
set_option maxRecDepth 20000 in
theorem lw_le8 {v s n : Nat} (hv : v ≤ 10) (hn : n ≤ 8) : lw v s n 0 1 ≤ 100000000 := by
  refine Nat.le_trans (lw_le v s hv n 0 1) ?_
  rw [Nat.one_mul]
  exact Nat.pow_le_pow_right (n := 10) (by decide) hn
set_option maxRecDepth 20000 in
theorem lw_00 : ∀ n, n ≤ 8 → lw 0 0 n 0 1 = 10 ^ n := by decide +kernel
set_option maxRecDepth 20000 in
theorem lk_le {f : Nat → Nat} {B : Nat} (hf : ∀ i, f i ≤ B) : ∀ m i a, lk f m i a ≤ a + m * B := by
  intro m
  induction m with
  | zero => intro i a; rw [lk]; omega
  | succ m ih =>
    intro i a
    rw [lk]
    have := ih (i + 1) (a + f i)
    have := hf i
    rw [Nat.succ_mul]
    omega
set_option maxRecDepth 20000 in
theorem ldd_ok (s : Nat) : ∀ m k d, dy_ok d → dy_ok (ldd s m k d) := by
  intro m
  induction m with
  | zero => intro k d h; exact h
  | succ m ih => intro k d h; exact ih _ _ (dy_ok_ho h)
set_option maxRecDepth 20000 in
theorem lm_nat {n s : Nat} {d : dy_T} (ok : dy_ok d) : ∃ j, j ≤ 99 ∧ lm n d s = nI j ∧ (lm n d s).toNatClampNeg = j := by
  have h := (ldd_ok s n 0 d ok).2.2.2.2
  obtain ⟨j, hj, e⟩ := nI_of2 (M := 99) (n := 99) rfl (Int32.not_lt.mpr h.1) h.2
  exact ⟨j, hj, e, by unfold lm; rw [e]; exact nI_clamp (by omega)⟩
set_option maxRecDepth 20000 in
theorem lk_l_le {v n : Nat} {w : Int32} {d : dy_T} (hv : v ≤ 10) (hn : n ≤ 8) : ∀ s, lk_l v n w d s ≤ 100000000 := by
  intro s
  unfold lk_l
  split
  · omega
  · exact lw_le8 hv hn
set_option maxRecDepth 20000 in
theorem lk_m_le {v n : Nat} {d : dy_T} (ok : dy_ok d) (hv : v ≤ 10) (hn : n ≤ 8) : ∀ s, lk_m v n d s ≤ 100000000 * 99 := by
  intro s
  unfold lk_m
  obtain ⟨j, hj, _, e⟩ := lm_nat (n := n) (s := s) ok
  rw [e]
  exact Nat.mul_le_mul (lw_le8 hv hn) hj
set_option maxRecDepth 20000 in
theorem pw2 : ∀ n, n ≤ 8 → (1 : Int32) <<< (nI n &&& 31) = nI (2 ^ n) ∧ 2 ^ n ≤ 256 := by decide +kernel
set_option maxRecDepth 20000 in
theorem pw10 {n : Nat} (hn : n ≤ 8) : 10 ^ n ≤ 100000000 ∧ 0 < 10 ^ n := ⟨Nat.pow_le_pow_right (n := 10) (by decide) hn, Nat.pow_pos (by decide)⟩
set_option maxRecDepth 20000 in
theorem nI_sb {a b : Nat} (h : b ≤ a) : nI a - nI b = nI (a - b) := by
  obtain ⟨c, rfl⟩ : ∃ c, a = c + b := ⟨a - b, by omega⟩
  rw [Nat.add_sub_cancel, ← nI_add]
  exact Int32.add_sub_cancel _ _
set_option maxRecDepth 20000 in
theorem hd_fgW {I : hd_I} {pc : Nat} {st : List Value} {M : hd_M} {N : hd_N} {Q : hd_Q} {a0 a1 a2 a3 a4 a5 : Option Value} (h : hd_Go I pc [a0, a1, a2, none, none, a5] st M N Q) : hd_Go I pc [a0, a1, a2, a3, a4, a5] st M N Q := by
  refine hd_Go.less (lv' := [a0, a1, a2, none, none, a5]) (by simp) ?_ h
  intro j v h
  match j, h with
  | 0, h => exact h
  | 1, h => exact h
  | 2, h => exact h
  | 3, h => cases h
  | 4, h => cases h
  | 5, h => exact h
  | j + 6, h => cases h
set_option maxRecDepth 20000 in
theorem s_ways_l (M : hd_M) (N : hd_N) (s v n : Nat) (hs : s < 1024) (hv : v ≤ 10) (hn : n ≤ 8) : ∀ (m k x : Nat), k + m = n → hd_Go mX5_waysOfLids 5 [some (.int (nI s)), some (.int (nI v)), some (.int (nI n)), some (.long (lN x)), none, some (.int (nI k))] [] M N (hd_is (.long (lN (lw v s m k x))) M N) := by
  intro m
  induction m with
  | zero =>
    intro k x hk
    refine hd_go kX5_waysOfLids 999 (fun _ => rfl) rfl trivial ?_
    refine hd_ju kX5_waysOfLids (fun _ => rfl) (fun c => ?_) (fun c => absurd (nI_le (by omega) (by omega)) c)
    refine hd_go kX5_waysOfLids 999 (fun _ => rfl) rfl trivial ?_
    exact hd_en_ kX5_waysOfLids (fun _ => rfl) trivial ⟨rfl, rfl, rfl⟩
  | succ m ih =>
    intro k x hk
    rw [lw]
    have b := as_t2 s hs k (by omega)
    have nx : ∀ y : Nat, hd_Go mX5_waysOfLids 5 [some (.int (nI s)), some (.int (nI v)), some (.int (nI n)), some (.long (lN (x * y))), none, some (.int (nI (k + 1)))] [] M N (hd_is (.long (lN (lw v s m (k + 1) (x * y)))) M N) → y < 100 → hd_Go mX5_waysOfLids 32 [some (.int (nI s)), some (.int (nI v)), some (.int (nI n)), some (.long (lN x)), none, some (.int (nI k))] [.long (nI y).toInt64, .long (lN x)] M N (hd_is (.long (lN (lw v s m (k + 1) (x * y)))) M N) := by
      intro y h hy
      rw [nI_l (by omega)]
      refine hd_go kX5_waysOfLids 33 (fun _ => rfl) rfl trivial ?_
      rw [lN_mul]
      refine hd_fgW ?_
      refine hd_go kX5_waysOfLids 5 (fun _ => rfl) rfl trivial ?_
      rw [nI_1]
      exact h
    refine hd_go kX5_waysOfLids 999 (fun _ => rfl) rfl trivial ?_
    refine hd_ju kX5_waysOfLids (fun _ => rfl) (fun c => absurd c (nI_ge (by omega) (by omega))) (fun c => ?_)
    refine hd_go kX5_waysOfLids 999 (fun _ => rfl) rfl trivial ?_
    refine hd_ju kX5_waysOfLids (fun _ => rfl) (fun c => ?_) (fun c => ?_)
    · have hb : ¬ s.testBit k = true := fun z => c (b.mpr z)
      rw [if_neg hb]
      refine hd_go kX5_waysOfLids 32 (fun _ => rfl) rfl trivial ?_
      rw [show (10 : Int32) - nI v = nI (10 - v) from nI_sb (a := 10) hv]
      exact nx _ (ih (k + 1) _ (by omega)) (by omega)
    · rw [if_pos (b.mp c)]
      refine hd_go kX5_waysOfLids 32 (fun _ => rfl) rfl trivial ?_
      exact nx _ (ih (k + 1) _ (by omega)) (by omega)
set_option maxRecDepth 20000 in
theorem s_ways (M : hd_M) (N : hd_N) (s v n : Nat) (hs : s < 1024) (hv : v ≤ 10) (hn : n ≤ 8) : hd_Ret mX5_waysOfLids [.int (nI s), .int (nI v), .int (nI n)] M N (hd_is (.long (lN (lw v s n 0 1))) M N) := by
  change hd_Go mX5_waysOfLids 0 [some (.int (nI s)), some (.int (nI v)), some (.int (nI n)), none, none, none] [] M N _
  refine hd_go kX5_waysOfLids 5 (fun _ => rfl) rfl trivial ?_
  exact s_ways_l M N s v n hs hv hn n 0 1 (by omega)
set_option maxRecDepth 20000 in
theorem s_lids_l (M0 : hd_M) (N : hd_N) (s n : Nat) (hs : s < 1024) (hn : n ≤ 8) : ∀ (m k : Nat) (d : dy_T) (M : hd_M), k + m = n → trS M0 M d → hd_Go mX5_moodUnderLids 6 [some (.ref 0), some (.int (nI s)), some (.int (nI n)), some (.int (nI k))] [] M N (fun r M1 N1 => r = some (.int (ldd s m k d).2.2.1) ∧ N1 = N ∧ fr tri M0 M1) := by
  intro m
  induction m with
  | zero =>
    intro k d M hk ht
    refine hd_go kX5_moodUnderLids 999 (fun _ => rfl) rfl trivial ?_
    refine hd_ju kX5_moodUnderLids (fun _ => rfl) (fun c => ?_) (fun c => absurd (nI_le (by omega) (by omega)) c)
    refine hd_go kX5_moodUnderLids 999 (fun _ => rfl) rfl trivial ?_
    exact hd_en_ kX5_moodUnderLids (fun _ => rfl) trivial ⟨by rw [ht.2.1.2.2.1]; rfl, rfl, ht.1⟩
  | succ m ih =>
    intro k d M hk ht
    rw [ldd]
    have b := as_t2 s hs k (by omega)
    have nx : ∀ x : Int32, x = (if s.testBit k then 1 else 0) → hd_Go mX5_moodUnderLids 29 [some (.ref 0), some (.int (nI s)), some (.int (nI n)), some (.int (nI k))] [.int x, .ref 7] M N (fun r M1 N1 => r = some (.int (ldd s m (k + 1) (dy_ho (s.testBit k) d)).2.2.1) ∧ N1 = N ∧ fr tri M0 M1) := by
      intro x hx
      refine hd_ca kX5_moodUnderLids qX5_moodUnderLids (fun _ => rfl) (s_one M0 M N d ht x (s.testBit k) hx) ?_
      rintro r M1 N1 ⟨rfl, rfl, ht1⟩
      refine hd_go kX5_moodUnderLids 6 (fun _ => rfl) rfl trivial ?_
      rw [nI_1]
      exact ih (k + 1) _ M1 (by omega) ht1
    refine hd_go kX5_moodUnderLids 999 (fun _ => rfl) rfl trivial ?_
    refine hd_ju kX5_moodUnderLids (fun _ => rfl) (fun c => absurd c (nI_ge (by omega) (by omega))) (fun c => ?_)
    refine hd_go kX5_moodUnderLids 999 (fun _ => rfl) rfl trivial ?_
    refine hd_ju kX5_moodUnderLids (fun _ => rfl) (fun c => ?_) (fun c => ?_)
    · refine hd_go kX5_moodUnderLids 29 (fun _ => rfl) rfl trivial ?_
      exact nx 0 (by rw [if_neg (fun z => c (b.mpr z))])
    · refine hd_go kX5_moodUnderLids 29 (fun _ => rfl) rfl trivial ?_
      exact nx 1 (by rw [if_pos (b.mp c)])
set_option maxRecDepth 20000 in
theorem s_lids (M : hd_M) (N : hd_N) (d : dy_T) (hd : hm M 1 d) (ok : dy_ok d) (s n : Nat) (hs : s < 1024) (hn : n ≤ 8) : hd_Ret mX5_moodUnderLids [.ref 0, .int (nI s), .int (nI n)] M N (fun r M1 N1 => r = some (.int (lm n d s)) ∧ N1 = N ∧ fr tri M M1) := by
  change hd_Go mX5_moodUnderLids 0 [some (.ref 0), some (.int (nI s)), some (.int (nI n)), none] [] M N _
  refine hd_go kX5_moodUnderLids 999 (fun _ => rfl) rfl trivial ?_
  refine hd_ca kX5_moodUnderLids qX5_moodUnderLids (fun _ => rfl) (s_start M N d hd ok) ?_
  rintro r M1 N1 ⟨rfl, rfl, ht⟩
  refine hd_go kX5_moodUnderLids 6 (fun _ => rfl) rfl trivial ?_
  exact s_lids_l M N1 s n hs hn n 0 d M1 (by omega) ht
set_option maxRecDepth 20000 in
theorem hd_fgP5 {I : hd_I} {pc : Nat} {st : List Value} {M : hd_M} {N : hd_N} {Q : hd_Q} {a0 a1 a2 a3 a4 a5 a6 a7 a8 a9 a10 a11 : Option Value} (h : hd_Go I pc [a0, a1, a2, a3, a4, none, none, a7, a8, a9, a10, a11] st M N Q) : hd_Go I pc [a0, a1, a2, a3, a4, a5, a6, a7, a8, a9, a10, a11] st M N Q := by
  refine hd_Go.less (lv' := [a0, a1, a2, a3, a4, none, none, a7, a8, a9, a10, a11]) (by simp) ?_ h
  intro j v h
  match j, h with
  | 0, h => exact h
  | 1, h => exact h
  | 2, h => exact h
  | 3, h => exact h
  | 4, h => exact h
  | 5, h => cases h
  | 6, h => cases h
  | 7, h => exact h
  | 8, h => exact h
  | 9, h => exact h
  | 10, h => exact h
  | 11, h => exact h
  | j + 12, h => cases h
set_option maxRecDepth 20000 in
theorem hd_fgP7 {I : hd_I} {pc : Nat} {st : List Value} {M : hd_M} {N : hd_N} {Q : hd_Q} {a0 a1 a2 a3 a4 a5 a6 a7 a8 a9 a10 a11 : Option Value} (h : hd_Go I pc [a0, a1, a2, a3, a4, a5, a6, none, none, a9, a10, a11] st M N Q) : hd_Go I pc [a0, a1, a2, a3, a4, a5, a6, a7, a8, a9, a10, a11] st M N Q := by
  refine hd_Go.less (lv' := [a0, a1, a2, a3, a4, a5, a6, none, none, a9, a10, a11]) (by simp) ?_ h
  intro j v h
  match j, h with
  | 0, h => exact h
  | 1, h => exact h
  | 2, h => exact h
  | 3, h => exact h
  | 4, h => exact h
  | 5, h => exact h
  | 6, h => exact h
  | 7, h => cases h
  | 8, h => cases h
  | 9, h => exact h
  | 10, h => exact h
  | 11, h => exact h
  | j + 12, h => cases h
set_option maxRecDepth 20000 in
theorem hd_fgP10 {I : hd_I} {pc : Nat} {st : List Value} {M : hd_M} {N : hd_N} {Q : hd_Q} {a0 a1 a2 a3 a4 a5 a6 a7 a8 a9 a10 a11 : Option Value} (h : hd_Go I pc [a0, a1, a2, a3, a4, a5, a6, a7, a8, a9, none, none] st M N Q) : hd_Go I pc [a0, a1, a2, a3, a4, a5, a6, a7, a8, a9, a10, a11] st M N Q := by
  refine hd_Go.less (lv' := [a0, a1, a2, a3, a4, a5, a6, a7, a8, a9, none, none]) (by simp) ?_ h
  intro j v h
  match j, h with
  | 0, h => exact h
  | 1, h => exact h
  | 2, h => exact h
  | 3, h => exact h
  | 4, h => exact h
  | 5, h => exact h
  | 6, h => exact h
  | 7, h => exact h
  | 8, h => exact h
  | 9, h => exact h
  | 10, h => cases h
  | 11, h => cases h
  | j + 12, h => cases h
set_option maxRecDepth 20000 in
theorem lg_eqc (x y : Int64) : lg_cmp x y = 0 ↔ x = y := by
  unfold lg_cmp
  by_cases h1 : x > y
  · rw [if_pos h1]
    exact ⟨fun z => absurd z (by decide), fun z => by rw [z] at h1; exact absurd h1 Int64.lt_irrefl⟩
  · rw [if_neg h1]
    by_cases h2 : x = y
    · rw [if_pos h2]; exact ⟨fun _ => h2, fun _ => rfl⟩
    · rw [if_neg h2]; exact ⟨fun z => absurd z (by decide), fun z => absurd z h2⟩
set_option maxRecDepth 20000 in
theorem eu_half {a b : Nat} (h0 : 0 < b) (h : b ≤ a) : 2 * (a % b) ≤ a := by
  have h1 := Nat.mod_lt a h0
  have h2 := Nat.div_add_mod a b
  have h3 : 1 ≤ a / b := (Nat.one_le_div_iff h0).mpr h
  have h4 : b * 1 ≤ b * (a / b) := Nat.mul_le_mul_left b h3
  omega
set_option maxRecDepth 20000 in
theorem s_eu (M : hd_M) (N : hd_N) (U D : Nat) (q : Int32) (Q : hd_Q) : ∀ (f k a b : Nat), k + f ≤ 199 → b ≤ a → a < 2 ^ 50 → a * b < 2 ^ f → (∀ x : Int32, hd_Go mX5_partOfFraction 45 [some (.long (lN U)), none, some (.long (lN D)), none, some (.int q), some (.long (lN (Nat.gcd b a))), none, some (.long (lN 0)), none, some (.int x), none, none] [] M N Q) → hd_Go mX5_partOfFraction 9 [some (.long (lN U)), none, some (.long (lN D)), none, some (.int q), some (.long (lN a)), none, some (.long (lN b)), none, some (.int (nI k)), none, none] [] M N Q := by
  intro f
  induction f with
  | zero =>
    intro k a b hk hab ha hf hQ
    have hb : b = 0 := by
      rcases Nat.eq_zero_or_pos b with z | z
      · exact z
      · have : 0 < a * b := Nat.mul_pos (by omega) z
        omega
    subst hb
    rw [Nat.gcd_zero_left] at hQ
    refine hd_go kX5_partOfFraction 999 (fun _ => rfl) rfl trivial ?_
    refine hd_ju kX5_partOfFraction (fun _ => rfl) (fun c => hQ _) (fun c => ?_)
    refine hd_go kX5_partOfFraction 999 (fun _ => rfl) rfl trivial ?_
    exact hd_ju kX5_partOfFraction (fun _ => rfl) (fun c => hQ _) (fun c => absurd ((lg_eqc (lN 0) 0).mpr rfl) c)
  | succ f ih =>
    intro k a b hk hab ha hf hQ
    refine hd_go kX5_partOfFraction 999 (fun _ => rfl) rfl trivial ?_
    refine hd_ju kX5_partOfFraction (fun _ => rfl) (fun c => absurd c (nI_ge (b := 200) (by omega) (by decide))) (fun c => ?_)
    refine hd_go kX5_partOfFraction 999 (fun _ => rfl) rfl trivial ?_
    rcases Nat.eq_zero_or_pos b with z | z
    · subst z
      rw [Nat.gcd_zero_left] at hQ
      exact hd_ju kX5_partOfFraction (fun _ => rfl) (fun c => hQ _) (fun c => absurd ((lg_eqc (lN 0) 0).mpr rfl) c)
    · have hb0 : ¬ lN b = 0 := fun e => by
        have := (pk_lEQ (a := b) (b := 0) (by omega) (by decide)).mp e
        omega
      refine hd_ju kX5_partOfFraction (fun _ => rfl) (fun c => absurd ((lg_eqc _ _).mp c) hb0) (fun c => ?_)
      refine hd_go kX5_partOfFraction 33 (fun _ => rfl) rfl ⟨trivial, hb0⟩ ?_
      rw [pk_lRem (by omega) z (by omega)]
      refine hd_fgP5 ?_
      refine hd_go kX5_partOfFraction 37 (fun _ => rfl) rfl trivial ?_
      refine hd_fgP7 ?_
      refine hd_go kX5_partOfFraction 9 (fun _ => rfl) rfl trivial ?_
      rw [nI_1]
      refine hd_fgP10 ?_
      have hm := Nat.mod_lt a z
      have hh := eu_half z hab
      refine ih (k + 1) b (a % b) (by omega) (by omega) (by omega) ?_ ?_
      · have e1 : 2 * (b * (a % b)) ≤ a * b := by
          rw [← Nat.mul_assoc, Nat.mul_comm 2 b, Nat.mul_assoc, Nat.mul_comm a b]
          exact Nat.mul_le_mul_left b hh
        rw [Nat.pow_succ] at hf
        omega
      · rw [← Nat.gcd_rec]
        exact hQ
set_option maxRecDepth 20000 in
theorem s_part (M : hd_M) (N : hd_N) (U n : Nat) (hn : n ≤ 8) (hU : U < 2 ^ 42) (q : Int32) : hd_Ret mX5_partOfFraction [.long (lN U), .long (lN (10 ^ n)), .int q] M N (hd_is (.long (lk_a U n q)) M N) := by
  obtain ⟨p1, p2⟩ := pw10 hn
  have hD : ∃ D, D = 10 ^ n := ⟨_, rfl⟩
  obtain ⟨D, hD⟩ := hD
  unfold lk_a
  rw [← hD] at p1 p2 ⊢
  change hd_Go mX5_partOfFraction 0 [some (.long (lN U)), none, some (.long (lN D)), none, some (.int q), none, none, none, none, none, none, none] [] M N _
  have hg : 0 < Nat.gcd U D := Nat.gcd_pos_of_pos_right _ p2
  have hgD : Nat.gcd U D ≤ D := Nat.le_of_dvd p2 (Nat.gcd_dvd_right U D)
  have fin : ∀ x : Int32, hd_Go mX5_partOfFraction 45 [some (.long (lN U)), none, some (.long (lN D)), none, some (.int q), some (.long (lN (Nat.gcd U D))), none, some (.long (lN 0)), none, some (.int x), none, none] [] M N (hd_is (.long (lN ((if q = 0 then U else D) / Nat.gcd U D))) M N) := by
    intro x
    have g0 : ¬ lN (Nat.gcd U D) = 0 := fun e => by
      have := (pk_lEQ (a := Nat.gcd U D) (b := 0) (by omega) (by decide)).mp e
      omega
    refine hd_go kX5_partOfFraction 999 (fun _ => rfl) rfl trivial ?_
    refine hd_ju kX5_partOfFraction (fun _ => rfl) (fun c => ?_) (fun c => absurd ((lg_eqc _ _).mp c) g0)
    refine hd_go kX5_partOfFraction 999 (fun _ => rfl) rfl trivial ?_
    refine hd_ju kX5_partOfFraction (fun _ => rfl) (fun c => ?_) (fun c => ?_)
    · rw [if_neg c]
      refine hd_go kX5_partOfFraction 999 (fun _ => rfl) rfl ⟨trivial, g0⟩ ?_
      rw [pk_lDiv (by omega) hg (by omega)]
      exact hd_en_ kX5_partOfFraction (fun _ => rfl) trivial ⟨rfl, rfl, rfl⟩
    · rw [if_pos c]
      refine hd_go kX5_partOfFraction 66 (fun _ => rfl) rfl trivial ?_
      refine hd_go kX5_partOfFraction 999 (fun _ => rfl) rfl ⟨trivial, g0⟩ ?_
      rw [pk_lDiv (by omega) hg (by omega)]
      exact hd_en_ kX5_partOfFraction (fun _ => rfl) trivial ⟨rfl, rfl, rfl⟩
  have big : ∀ a b : Nat, a < 2 ^ 42 → b < 2 ^ 42 → a * b < 2 ^ 84 := fun a b h1 h2 => by
    rw [show 2 ^ 84 = 2 ^ 42 * 2 ^ 42 by decide]
    exact Nat.mul_lt_mul'' h1 h2
  refine hd_go kX5_partOfFraction 9 (fun _ => rfl) rfl trivial ?_
  by_cases hUD : U ≤ D
  · refine s_eu M N U D q _ 84 0 D U (by decide) hUD (by omega) (big D U (by omega) hU) ?_
    exact fin
  · -- one step, then the lesser is below
    have hU0 : 0 < U := by omega
    have hb0 : ¬ lN U = 0 := fun e => by
      have := (pk_lEQ (a := U) (b := 0) (by omega) (by decide)).mp e
      omega
    refine hd_go kX5_partOfFraction 999 (fun _ => rfl) rfl trivial ?_
    refine hd_ju kX5_partOfFraction (fun _ => rfl) (fun c => absurd c (by decide)) (fun c => ?_)
    refine hd_go kX5_partOfFraction 999 (fun _ => rfl) rfl trivial ?_
    refine hd_ju kX5_partOfFraction (fun _ => rfl) (fun c => absurd ((lg_eqc _ _).mp c) hb0) (fun c => ?_)
    refine hd_go kX5_partOfFraction 33 (fun _ => rfl) rfl ⟨trivial, hb0⟩ ?_
    rw [pk_lRem (by omega) hU0 (by omega), Nat.mod_eq_of_lt (show D < U by omega)]
    refine hd_fgP5 ?_
    refine hd_go kX5_partOfFraction 37 (fun _ => rfl) rfl trivial ?_
    refine hd_fgP7 ?_
    refine hd_go kX5_partOfFraction 9 (fun _ => rfl) rfl trivial ?_
    refine hd_fgP10 ?_
    refine s_eu M N U D q _ 84 1 U D (by decide) (by omega) (by omega) (big U D hU (by omega)) ?_
    rw [Nat.gcd_comm D U]
    exact fin
set_option maxRecDepth 20000 in
theorem hd_fgL {I : hd_I} {pc : Nat} {st : List Value} {M : hd_M} {N : hd_N} {Q : hd_Q} {a0 a1 a2 a3 a4 a5 a6 a7 : Option Value} (h : hd_Go I pc [a0, a1, a2, a3, a4, none, none, a7] st M N Q) : hd_Go I pc [a0, a1, a2, a3, a4, a5, a6, a7] st M N Q := by
  refine hd_Go.less (lv' := [a0, a1, a2, a3, a4, none, none, a7]) (by simp) ?_ h
  intro j v h
  match j, h with
  | 0, h => exact h
  | 1, h => exact h
  | 2, h => exact h
  | 3, h => exact h
  | 4, h => exact h
  | 5, h => cases h
  | 6, h => cases h
  | 7, h => exact h
  | j + 8, h => cases h
set_option maxRecDepth 20000 in
theorem hd_fgM {I : hd_I} {pc : Nat} {st : List Value} {M : hd_M} {N : hd_N} {Q : hd_Q} {a0 a1 a2 a3 a4 a5 a6 : Option Value} (h : hd_Go I pc [a0, a1, a2, a3, none, none, a6] st M N Q) : hd_Go I pc [a0, a1, a2, a3, a4, a5, a6] st M N Q := by
  refine hd_Go.less (lv' := [a0, a1, a2, a3, none, none, a6]) (by simp) ?_ h
  intro j v h
  match j, h with
  | 0, h => exact h
  | 1, h => exact h
  | 2, h => exact h
  | 3, h => exact h
  | 4, h => cases h
  | 5, h => cases h
  | 6, h => exact h
  | j + 7, h => cases h
set_option maxRecDepth 20000 in
theorem c_luck_l (M : hd_M) (N : hd_N) (d : dy_T) (hd : hm M 1 d) (ok : dy_ok d) (v n : Nat) (hv : v ≤ 10) (hn : n ≤ 8) (w q : Int32) (R : Nat) (hR : R < 2 ^ 42) : ∀ (m s g : Nat) (M' : hd_M), s + m = 2 ^ n → fr tri M M' → lk (lk_l v n w d) m s g = R → hd_Go mX5_luck 35 [some (.ref 0), some (.int (nI v)), some (.int (nI n)), some (.int w), some (.int q), some (.long (lN g)), none, some (.int (nI s))] [] M' N (fun r M1 N1 => r = some (.long (lk_a R n q)) ∧ N1 = N ∧ fr tri M M1) := by
  obtain ⟨p1, p2⟩ := pw2 n hn
  intro m
  induction m with
  | zero =>
    intro s g M' hs hf hg
    have hg : g = R := hg
    subst hg
    refine hd_go kX5_luck 999 (fun _ => rfl) rfl trivial ?_
    rw [p1]
    refine hd_ju kX5_luck (fun _ => rfl) (fun c => ?_) (fun c => absurd (nI_le (by omega) (by omega)) c)
    refine hd_go kX5_luck 999 (fun _ => rfl) rfl trivial ?_
    refine hd_ci kX5_luck qX5_luck (fun _ => rfl) (s_ways M' N 0 0 n (by decide) (by decide) hn) ?_
    rw [lw_00 n hn]
    refine hd_go kX5_luck 999 (fun _ => rfl) rfl trivial ?_
    refine hd_ci kX5_luck qX5_luck (fun _ => rfl) (s_part M' N g n hn hR q) ?_
    exact hd_en_ kX5_luck (fun _ => rfl) trivial ⟨rfl, rfl, hf⟩
  | succ m ih =>
    intro s g M' hs hf hg
    rw [lk] at hg
    refine hd_go kX5_luck 999 (fun _ => rfl) rfl trivial ?_
    rw [p1]
    refine hd_ju kX5_luck (fun _ => rfl) (fun c => absurd c (nI_ge (by omega) (by omega))) (fun c => ?_)
    refine hd_go kX5_luck 999 (fun _ => rfl) rfl trivial ?_
    have hd' : hm M' 1 d := hd.mv (fun c j h1 h2 => hf c j (by show ¬ (7 ≤ c ∧ c ≤ 12); omega))
    refine hd_ca kX5_luck qX5_luck (fun _ => rfl) (s_lids M' N d hd' ok s n (by omega) hn) ?_
    rintro r M1 N1 ⟨rfl, rfl, hf1⟩
    refine hd_go kX5_luck 999 (fun _ => rfl) rfl trivial ?_
    unfold lk_l at hg
    refine hd_ju kX5_luck (fun _ => rfl) (fun c => ?_) (fun c => ?_)
    · rw [if_pos c, Nat.add_zero] at hg
      refine hd_go kX5_luck 35 (fun _ => rfl) rfl trivial ?_
      rw [nI_1]
      exact ih (s + 1) g M1 (by omega) (hf.tr hf1) hg
    · rw [if_neg c] at hg
      refine hd_go kX5_luck 999 (fun _ => rfl) rfl trivial ?_
      refine hd_ci kX5_luck qX5_luck (fun _ => rfl) (s_ways M1 N1 s v n (by omega) hv hn) ?_
      refine hd_go kX5_luck 64 (fun _ => rfl) rfl trivial ?_
      rw [lN_add]
      refine hd_fgL ?_
      refine hd_go kX5_luck 35 (fun _ => rfl) rfl trivial ?_
      rw [nI_1]
      exact ih (s + 1) _ M1 (by omega) (hf.tr hf1) hg
set_option maxRecDepth 20000 in
theorem lk_lt {f : Nat → Nat} {B m : Nat} (hf : ∀ i, f i ≤ B) (hm : m ≤ 256) (hB : B ≤ 9900000000) : lk f m 0 0 < 2 ^ 42 := by
  have h := lk_le hf m 0 0
  have h2 : m * B ≤ 256 * 9900000000 := Nat.mul_le_mul hm hB
  omega
set_option maxRecDepth 20000 in
theorem c_luck (v n w q : Int32) : cA mX5_luck [.int v, .int n, .int w, .int q] (an_luck v n w q) := by
  intro M N st hI hO
  change hd_Go mX5_luck 0 [some (.ref 0), some (.int v), some (.int n), some (.int w), some (.int q), none, none, none] [] M N _
  have bad : ¬ ((wi v 0 10 ∧ wi n 0 8) ∧ wi w 0 99 ∧ wi q 0 1) → hd_Go mX5_luck 25 [some (.ref 0), some (.int v), some (.int n), some (.int w), some (.int q), none, none, none] [] M N (fun r M1 N1 => r = some (an_luck v n w q st).1 ∧ N1 = N ∧ fr clsF M M1 ∧ CI M1 (an_luck v n w q st).2) := by
    intro z
    refine hd_go kX5_luck 999 (fun _ => rfl) rfl trivial ?_
    refine hd_en_ kX5_luck (fun _ => rfl) trivial ?_
    unfold an_luck
    rw [if_neg z]
    exact ⟨rfl, rfl, fr.rf, hI⟩
  unfold an_luck at bad ⊢
  refine hd_go kX5_luck 999 (fun _ => rfl) rfl trivial ?_
  refine hd_ci kX5_luck qX5_luck (fun _ => rfl) (s_isOdds _ _ M N) ?_
  refine hd_ju kX5_luck (fun _ => rfl) (fun q => bad (fun z => hd_b0.mp q z.1)) (fun q => ?_)
  have q1 := hd_b1.mp q
  refine hd_go kX5_luck 999 (fun _ => rfl) rfl trivial ?_
  refine hd_ci kX5_luck qX5_luck (fun _ => rfl) (s_isMood _ M N) ?_
  refine hd_ju kX5_luck (fun _ => rfl) (fun q => bad (fun z => hd_b0.mp q z.2.1)) (fun q => ?_)
  have q2 := hd_b1.mp q
  refine hd_go kX5_luck 999 (fun _ => rfl) rfl trivial ?_
  refine hd_ci kX5_luck qX5_luck (fun _ => rfl) (s_isWithin _ _ _ M N) ?_
  refine hd_ju kX5_luck (fun _ => rfl) (fun q => ?_) (fun q => bad (fun z => hd_b0.mp q z.2.2))
  have q3 := hd_b1.mp q
  rw [if_pos ⟨q1, q2, q3⟩]
  obtain ⟨a, ha, rfl⟩ := wi_nat (n := 10) rfl q1.1
  obtain ⟨b, hb, rfl⟩ := wi_nat (n := 8) rfl q1.2
  rw [nI_clamp (show a < 2 ^ 31 by omega), nI_clamp (show b < 2 ^ 31 by omega)]
  refine hd_go kX5_luck 35 (fun _ => rfl) rfl trivial ?_
  refine hd_Go.post ?_ (c_luck_l M N st.1 hI.1 hO.1 a b ha hb w _ _ (lk_lt (lk_l_le ha hb) (pw2 b hb).2 (by decide)) (2 ^ b) 0 0 M (by omega) fr.rf rfl)
  rintro r M1 N1 ⟨h1, h2, h3⟩
  exact ⟨h1, h2, hI.q h3⟩
set_option maxRecDepth 20000 in
theorem c_mean_l (M : hd_M) (N : hd_N) (d : dy_T) (hd : hm M 1 d) (ok : dy_ok d) (v n : Nat) (hv : v ≤ 10) (hn : n ≤ 8) (q : Int32) (R : Nat) (hR : R < 2 ^ 42) : ∀ (m s g : Nat) (M' : hd_M), s + m = 2 ^ n → fr tri M M' → lk (lk_m v n d) m s g = R → hd_Go mX5_mean 27 [some (.ref 0), some (.int (nI v)), some (.int (nI n)), some (.int q), some (.long (lN g)), none, some (.int (nI s))] [] M' N (fun r M1 N1 => r = some (.long (lk_a R n q)) ∧ N1 = N ∧ fr tri M M1) := by
  obtain ⟨p1, p2⟩ := pw2 n hn
  intro m
  induction m with
  | zero =>
    intro s g M' hs hf hg
    have hg : g = R := hg
    subst hg
    refine hd_go kX5_mean 999 (fun _ => rfl) rfl trivial ?_
    rw [p1]
    refine hd_ju kX5_mean (fun _ => rfl) (fun c => ?_) (fun c => absurd (nI_le (by omega) (by omega)) c)
    refine hd_go kX5_mean 999 (fun _ => rfl) rfl trivial ?_
    refine hd_ci kX5_mean qX5_mean (fun _ => rfl) (s_ways M' N 0 0 n (by decide) (by decide) hn) ?_
    rw [lw_00 n hn]
    refine hd_go kX5_mean 999 (fun _ => rfl) rfl trivial ?_
    refine hd_ci kX5_mean qX5_mean (fun _ => rfl) (s_part M' N g n hn hR q) ?_
    exact hd_en_ kX5_mean (fun _ => rfl) trivial ⟨rfl, rfl, hf⟩
  | succ m ih =>
    intro s g M' hs hf hg
    rw [lk] at hg
    refine hd_go kX5_mean 999 (fun _ => rfl) rfl trivial ?_
    rw [p1]
    refine hd_ju kX5_mean (fun _ => rfl) (fun c => absurd c (nI_ge (by omega) (by omega))) (fun c => ?_)
    refine hd_go kX5_mean 999 (fun _ => rfl) rfl trivial ?_
    refine hd_ci kX5_mean qX5_mean (fun _ => rfl) (s_ways M' N s v n (by omega) hv hn) ?_
    refine hd_go kX5_mean 999 (fun _ => rfl) rfl trivial ?_
    have hd' : hm M' 1 d := hd.mv (fun c j h1 h2 => hf c j (by show ¬ (7 ≤ c ∧ c ≤ 12); omega))
    refine hd_ca kX5_mean qX5_mean (fun _ => rfl) (s_lids M' N d hd' ok s n (by omega) hn) ?_
    rintro r M1 N1 ⟨rfl, rfl, hf1⟩
    obtain ⟨j, hj, e1, e2⟩ := lm_nat (n := n) (s := s) ok
    refine hd_go kX5_mean 54 (fun _ => rfl) rfl trivial ?_
    rw [e1, nI_l (by omega), lN_mul, lN_add]
    refine hd_fgM ?_
    refine hd_go kX5_mean 27 (fun _ => rfl) rfl trivial ?_
    rw [nI_1]
    unfold lk_m at hg
    rw [e2] at hg
    exact ih (s + 1) _ M1 (by omega) (hf.tr hf1) hg
set_option maxRecDepth 20000 in
theorem c_mean (v n q : Int32) : cA mX5_mean [.int v, .int n, .int q] (an_mean v n q) := by
  intro M N st hI hO
  change hd_Go mX5_mean 0 [some (.ref 0), some (.int v), some (.int n), some (.int q), none, none, none] [] M N _
  have bad : ¬ ((wi v 0 10 ∧ wi n 0 8) ∧ wi q 0 1) → hd_Go mX5_mean 17 [some (.ref 0), some (.int v), some (.int n), some (.int q), none, none, none] [] M N (fun r M1 N1 => r = some (an_mean v n q st).1 ∧ N1 = N ∧ fr clsF M M1 ∧ CI M1 (an_mean v n q st).2) := by
    intro z
    refine hd_go kX5_mean 999 (fun _ => rfl) rfl trivial ?_
    refine hd_en_ kX5_mean (fun _ => rfl) trivial ?_
    unfold an_mean
    rw [if_neg z]
    exact ⟨rfl, rfl, fr.rf, hI⟩
  unfold an_mean at bad ⊢
  refine hd_go kX5_mean 999 (fun _ => rfl) rfl trivial ?_
  refine hd_ci kX5_mean qX5_mean (fun _ => rfl) (s_isOdds _ _ M N) ?_
  refine hd_ju kX5_mean (fun _ => rfl) (fun q => bad (fun z => hd_b0.mp q z.1)) (fun q => ?_)
  have q1 := hd_b1.mp q
  refine hd_go kX5_mean 999 (fun _ => rfl) rfl trivial ?_
  refine hd_ci kX5_mean qX5_mean (fun _ => rfl) (s_isWithin _ _ _ M N) ?_
  refine hd_ju kX5_mean (fun _ => rfl) (fun q => ?_) (fun q => bad (fun z => hd_b0.mp q z.2))
  have q3 := hd_b1.mp q
  rw [if_pos ⟨q1, q3⟩]
  obtain ⟨a, ha, rfl⟩ := wi_nat (n := 10) rfl q1.1
  obtain ⟨b, hb, rfl⟩ := wi_nat (n := 8) rfl q1.2
  rw [nI_clamp (show a < 2 ^ 31 by omega), nI_clamp (show b < 2 ^ 31 by omega)]
  refine hd_go kX5_mean 27 (fun _ => rfl) rfl trivial ?_
  refine hd_Go.post ?_ (c_mean_l M N st.1 hI.1 hO.1 a b ha hb _ _ (lk_lt (lk_m_le hO.1 ha hb) (pw2 b hb).2 (by decide)) (2 ^ b) 0 0 M (by omega) fr.rf rfl)
  rintro r M1 N1 ⟨h1, h2, h3⟩
  exact ⟨h1, h2, hI.q h3⟩
