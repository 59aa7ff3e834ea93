/-! THE REFERENCE'S METHODS; printed by wip/whole/ref1.py -/
set_option maxRecDepth 20000 in
theorem lg_lt (x y : Int64) : lg_cmp x y < 0 ↔ x < y := by
  unfold lg_cmp
  by_cases h1 : x > y
  · rw [if_pos h1]
    exact ⟨fun z => absurd z (by decide), fun z => absurd (Int64.lt_trans z h1) Int64.lt_irrefl⟩
  · rw [if_neg h1]
    by_cases h2 : x = y
    · rw [if_pos h2, h2]
      exact ⟨fun z => absurd z (by decide), fun z => absurd z Int64.lt_irrefl⟩
    · rw [if_neg h2]
      refine ⟨fun _ => ?_, fun _ => by decide⟩
      rcases Int64.lt_or_lt_of_ne h2 with z | z
      · exact z
      · exact absurd z h1
set_option maxRecDepth 20000 in
theorem lg_gt (x y : Int64) : 0 < lg_cmp x y ↔ y < x := by
  unfold lg_cmp
  by_cases h1 : x > y
  · rw [if_pos h1]
    exact ⟨fun _ => h1, fun _ => by decide⟩
  · rw [if_neg h1]
    refine ⟨fun z => ?_, fun z => absurd z h1⟩
    by_cases h2 : x = y
    · rw [if_pos h2] at z; exact absurd z (by decide)
    · rw [if_neg h2] at z; exact absurd z (by decide)
set_option maxRecDepth 20000 in
theorem lg_eq (x y : Int64) : lg_cmp x y = 0 ↔ x = y := by
  unfold lg_cmp
  by_cases h1 : x > y
  · rw [if_pos h1]
    exact ⟨fun z => absurd z (by decide), fun z => by rw [z] at h1; exact absurd h1 Int64.lt_irrefl⟩
  · rw [if_neg h1]
    by_cases h2 : x = y
    · rw [if_pos h2]; exact ⟨fun _ => h2, fun _ => rfl⟩
    · rw [if_neg h2]; exact ⟨fun z => absurd z (by decide), fun z => absurd z h2⟩
set_option maxRecDepth 20000 in
theorem wide_lt (a b : Int32) : a.toInt64 < b.toInt64 ↔ a < b := by
  rw [Int64.lt_iff_toInt_lt, Int32.lt_iff_toInt_lt, Int32.toInt_toInt64, Int32.toInt_toInt64]
set_option maxRecDepth 20000 in
theorem r_in (v lo hi : Int32) (l h : Int64) (hl : l = lo.toInt64) (hh : h = hi.toInt64) (M : hd_M) (N : hd_N) : hd_Ret mX6_in [.long v.toInt64, .long l, .long h] M N (hd_is (.int (hd_b (wi v lo hi))) M N) := by
  change hd_Go mX6_in 0 [some (.long v.toInt64), none, some (.long l), none, some (.long h), none] [] M N _
  subst hl
  subst hh
  refine hd_go kX6_in 999 (fun _ => rfl) rfl trivial ?_
  refine hd_ju kX6_in (fun _ => rfl) (fun c => ?_) (fun c => ?_)
  · rw [lg_lt, wide_lt] at c
    refine hd_go kX6_in 999 (fun _ => rfl) rfl trivial ?_
    refine hd_en_ kX6_in (fun _ => rfl) (Or.inl rfl) ⟨?_, rfl, rfl⟩
    rw [show hd_b (wi v lo hi) = 0 from if_neg (fun z => z.1 c)]
  · rw [lg_lt, wide_lt] at c
    refine hd_go kX6_in 999 (fun _ => rfl) rfl trivial ?_
    refine hd_ju kX6_in (fun _ => rfl) (fun c2 => ?_) (fun c2 => ?_)
    · rw [lg_gt, wide_lt] at c2
      refine hd_go kX6_in 999 (fun _ => rfl) rfl trivial ?_
      refine hd_en_ kX6_in (fun _ => rfl) (Or.inl rfl) ⟨?_, rfl, rfl⟩
      rw [show hd_b (wi v lo hi) = 0 from if_neg (fun z => z.2 c2)]
    · rw [lg_gt, wide_lt] at c2
      refine hd_go kX6_in 999 (fun _ => rfl) rfl trivial ?_
      refine hd_en_ kX6_in (fun _ => rfl) (Or.inr rfl) ⟨?_, rfl, rfl⟩
      rw [show hd_b (wi v lo hi) = 1 from if_pos ⟨c, c2⟩]
set_option maxRecDepth 20000 in
theorem r_flag (x : Int32) (M : hd_M) (N : hd_N) : hd_Ret mX6_flag [.int x] M N (hd_is (.int (hd_b (¬ x = 0))) M N) := by
  change hd_Go mX6_flag 0 [some (.int x)] [] M N _
  refine hd_go kX6_flag 999 (fun _ => rfl) rfl trivial ?_
  refine hd_ju kX6_flag (fun _ => rfl) (fun c => ?_) (fun c => ?_)
  · refine hd_go kX6_flag 999 (fun _ => rfl) rfl trivial ?_
    refine hd_en_ kX6_flag (fun _ => rfl) trivial ⟨?_, rfl, rfl⟩
    rw [show hd_b (¬ x = 0) = 0 from if_neg (fun z => z c)]
  · refine hd_go kX6_flag 999 (fun _ => rfl) rfl trivial ?_
    refine hd_en_ kX6_flag (fun _ => rfl) trivial ⟨?_, rfl, rfl⟩
    rw [show hd_b (¬ x = 0) = 1 from if_pos c]
set_option maxRecDepth 20000 in
theorem ix4 (i c : Nat) : (4 : Int32) * nI i + nI c = nI (4 * i + c) := by
  rw [show (4 : Int32) = nI 4 from rfl, pk_mul, nI_add]
abbrev nowF : Nat → Nat → Prop := fun c _ => c = 53
set_option maxRecDepth 20000 in
theorem r_starts_l (M : hd_M) (N : hd_N) : ∀ (m j : Nat) (M' : hd_M), j + m = 46 → fr (fun c _ => c = 53) M M' → (∀ x, x < j → M' 53 x = M 52 x) → (∀ x, 46 ≤ x → M' 53 x = M 53 x) → hd_Go mX6_starts 2 [some (.ref 51), some (.int (nI j))] [] M' N (fun r M1 N1 => r = none ∧ N1 = N ∧ fr (fun c j => c = 53 ∧ j < 46) M M1 ∧ ∀ x, x < 46 → M1 53 x = M 52 x) := by
  intro m
  induction m with
  | zero =>
    intro j M' hj hf hx hy
    refine hd_go kX6_starts 999 (fun _ => rfl) rfl trivial ?_
    refine hd_ju kX6_starts (fun _ => rfl) (fun c => ?_) (fun c => absurd (nI_le (a := 46) (by omega) (by omega)) c)
    refine hd_en_ kX6_starts (fun _ => rfl) trivial ⟨rfl, rfl, fun c x hc => ?_, fun x h => hx x (by omega)⟩
    by_cases e : c = 53
    · subst e
      exact hy x (by have hc : ¬ (53 = 53 ∧ x < 46) := hc; omega)
    · exact hf c x e
  | succ m ih =>
    intro j M' hj hf hx hy
    refine hd_go kX6_starts 999 (fun _ => rfl) rfl trivial ?_
    refine hd_ju kX6_starts (fun _ => rfl) (fun c => absurd c (nI_ge (b := 46) (by omega) (by decide))) (fun c => ?_)
    refine hd_go kX6_starts 999 (fun _ => rfl) rfl ⟨⟨trivial, vp_in_nI (by omega) (by decide)⟩, vp_in_nI (by omega) (by decide)⟩ ?_
    rw [nI_clamp (by omega), nI_1, hf 52 j (by simp)]
    refine ih (j + 1) _ (by omega) (hf.up rfl) (fun x h => ?_) (fun x h => ?_)
    · by_cases e : x = j
      · rw [e, hd_u_s]
      · rw [hd_u_n (by omega)]; exact hx x (by omega)
    · rw [hd_u_n (by omega)]; exact hy x h
set_option maxRecDepth 20000 in
theorem r_starts (M : hd_M) (N : hd_N) : hd_Ret mX6_starts [.ref 51] M N (fun r M1 N1 => r = none ∧ N1 = N ∧ fr (fun c j => c = 53 ∧ j < 46) M M1 ∧ ∀ x, x < 46 → M1 53 x = M 52 x) := by
  change hd_Go mX6_starts 0 [some (.ref 51), none] [] M N _
  refine hd_go kX6_starts 2 (fun _ => rfl) rfl trivial ?_
  exact r_starts_l M N 46 0 M (by decide) fr.rf (fun x h => absurd h (Nat.not_lt_zero x)) (fun _ _ => rfl)
set_option maxRecDepth 20000 in
theorem r_settles_l (M : hd_M) (N : hd_N) : ∀ (m j : Nat) (M' : hd_M), j + m = 46 → fr (fun c _ => c = 52) M M' → (∀ x, x < j → M' 52 x = M 53 x) → (∀ x, 46 ≤ x → M' 52 x = M 52 x) → hd_Go mX6_settles 2 [some (.ref 51), some (.int (nI j))] [] M' N (fun r M1 N1 => r = none ∧ N1 = N ∧ fr (fun c j => c = 52 ∧ j < 46) M M1 ∧ ∀ x, x < 46 → M1 52 x = M 53 x) := by
  intro m
  induction m with
  | zero =>
    intro j M' hj hf hx hy
    refine hd_go kX6_settles 999 (fun _ => rfl) rfl trivial ?_
    refine hd_ju kX6_settles (fun _ => rfl) (fun c => ?_) (fun c => absurd (nI_le (a := 46) (by omega) (by omega)) c)
    refine hd_en_ kX6_settles (fun _ => rfl) trivial ⟨rfl, rfl, fun c x hc => ?_, fun x h => hx x (by omega)⟩
    by_cases e : c = 52
    · subst e
      exact hy x (by have hc : ¬ (52 = 52 ∧ x < 46) := hc; omega)
    · exact hf c x e
  | succ m ih =>
    intro j M' hj hf hx hy
    refine hd_go kX6_settles 999 (fun _ => rfl) rfl trivial ?_
    refine hd_ju kX6_settles (fun _ => rfl) (fun c => absurd c (nI_ge (b := 46) (by omega) (by decide))) (fun c => ?_)
    refine hd_go kX6_settles 999 (fun _ => rfl) rfl ⟨⟨trivial, vp_in_nI (by omega) (by decide)⟩, vp_in_nI (by omega) (by decide)⟩ ?_
    rw [nI_clamp (by omega), nI_1, hf 53 j (by simp)]
    refine ih (j + 1) _ (by omega) (hf.up rfl) (fun x h => ?_) (fun x h => ?_)
    · by_cases e : x = j
      · rw [e, hd_u_s]
      · rw [hd_u_n (by omega)]; exact hx x (by omega)
    · rw [hd_u_n (by omega)]; exact hy x h
set_option maxRecDepth 20000 in
theorem r_settles (M : hd_M) (N : hd_N) : hd_Ret mX6_settles [.ref 51] M N (fun r M1 N1 => r = none ∧ N1 = N ∧ fr (fun c j => c = 52 ∧ j < 46) M M1 ∧ ∀ x, x < 46 → M1 52 x = M 53 x) := by
  change hd_Go mX6_settles 0 [some (.ref 51), none] [] M N _
  refine hd_go kX6_settles 2 (fun _ => rfl) rfl trivial ?_
  exact r_settles_l M N 46 0 M (by decide) fr.rf (fun x h => absurd h (Nat.not_lt_zero x)) (fun _ _ => rfl)
set_option maxRecDepth 20000 in
theorem r_of (i c : Nat) (h : 4 * i + c < 46) (M : hd_M) (N : hd_N) : hd_Ret mX6_of [.ref 51, .int (nI i), .int (nI c)] M N (hd_is (.int (M 53 (4 * i + c))) M N) := by
  change hd_Go mX6_of 0 [some (.ref 51), some (.int (nI i)), some (.int (nI c))] [] M N _
  refine hd_go kX6_of 999 (fun _ => rfl) rfl ?_ ?_
  · rw [ix4]; exact ⟨trivial, vp_in_nI h (by decide)⟩
  rw [ix4, nI_clamp (by omega)]
  exact hd_en_ kX6_of (fun _ => rfl) trivial ⟨rfl, rfl, rfl⟩
set_option maxRecDepth 20000 in
theorem r_bo (i c : Nat) (h : 4 * i + c < 46) (v : Int32) (M : hd_M) (N : hd_N) : hd_Ret mX6_becomesOf [.ref 51, .int (nI i), .int (nI c), .int v] M N (fun r M1 N1 => r = none ∧ N1 = N ∧ M1 = hd_u M 53 (4 * i + c) v) := by
  change hd_Go mX6_becomesOf 0 [some (.ref 51), some (.int (nI i)), some (.int (nI c)), some (.int v)] [] M N _
  refine hd_go kX6_becomesOf 999 (fun _ => rfl) rfl ?_ ?_
  · rw [ix4]; exact ⟨trivial, vp_in_nI h (by decide)⟩
  rw [ix4, nI_clamp (by omega)]
  exact hd_en_ kX6_becomesOf (fun _ => rfl) trivial ⟨rfl, rfl, rfl⟩
set_option maxRecDepth 20000 in
theorem r_bears (i : Nat) (h : i < 7) (M : hd_M) (N : hd_N) : hd_Ret mX6_bears [.ref 51, .int (nI i)] M N (hd_is (.int (dy_brs (M 53 (4 * i)) (M 53 (4 * i + 2)))) M N) := by
  change hd_Go mX6_bears 0 [some (.ref 51), some (.int (nI i)), none] [] M N _
  refine hd_go kX6_bears 999 (fun _ => rfl) rfl trivial ?_
  refine hd_ci kX6_bears qX6_bears (fun _ => rfl) (r_of i 0 (by omega) M N) ?_
  rw [Nat.add_zero]
  have fr2 : ∀ (x : Int32), (x = 1 ∨ x = 3) → M 53 (4 * i) = x → hd_Go mX6_bears 17 [some (.ref 51), some (.int (nI i)), some (.int (M 53 (4 * i)))] [] M N (hd_is (.int (dy_brs (M 53 (4 * i)) (M 53 (4 * i + 2)))) M N) := by
    intro x hx e
    refine hd_go kX6_bears 999 (fun _ => rfl) rfl trivial ?_
    refine hd_ci kX6_bears qX6_bears (fun _ => rfl) (r_of i 2 (by omega) M N) ?_
    refine hd_go kX6_bears 999 (fun _ => rfl) rfl trivial ?_
    refine hd_en_ kX6_bears (fun _ => rfl) trivial ⟨?_, rfl, rfl⟩
    unfold dy_brs
    rw [if_pos (by rw [e]; exact hx)]
  refine hd_go kX6_bears 999 (fun _ => rfl) rfl trivial ?_
  refine hd_ju kX6_bears (fun _ => rfl) (fun c => fr2 1 (Or.inl rfl) c) (fun c1 => ?_)
  refine hd_go kX6_bears 999 (fun _ => rfl) rfl trivial ?_
  refine hd_ju kX6_bears (fun _ => rfl) (fun c3 => ?_) (fun c3 => fr2 3 (Or.inr rfl) c3)
  refine hd_go kX6_bears 999 (fun _ => rfl) rfl trivial ?_
  refine hd_ci kX6_bears qX6_bears (fun _ => rfl) (r_of i 2 (by omega) M N) ?_
  refine hd_go kX6_bears 999 (fun _ => rfl) rfl trivial ?_
  refine hd_en_ kX6_bears (fun _ => rfl) trivial ⟨?_, rfl, rfl⟩
  unfold dy_brs
  rw [if_neg (fun z => z.elim c1 c3)]
set_option maxRecDepth 20000 in
theorem r_laid_l (M : hd_M) (N : hd_N) (n : Nat) (hn : n ≤ 7) (h28 : M 53 28 = nI n) (i : Int32) : ∀ (m k : Nat) (s : Int32), k + m = n ∨ (n ≤ k ∧ k ≤ 7 ∧ m = 0) → hd_Go mX6_laidOn 6 [some (.ref 51), some (.int i), some (.int s), some (.int (nI k))] [] M N (hd_is (.int (s + wsm (fun k => M 53 (4 * k + 2)) k m)) M N) := by
  intro m
  induction m with
  | zero =>
    intro k s h
    refine hd_go kX6_laidOn 999 (fun _ => rfl) rfl ⟨trivial, vp_in_nI (n := 28) (by decide) (by decide)⟩ ?_
    refine hd_ju kX6_laidOn (fun _ => rfl) (fun c => ?_) (fun c => ?_)
    · refine hd_go kX6_laidOn 999 (fun _ => rfl) rfl trivial ?_
      refine hd_en_ kX6_laidOn (fun _ => rfl) trivial ⟨?_, rfl, rfl⟩
      rw [wsm, Int32.add_zero]
    · have c : ¬ M 53 28 ≤ nI k := c
      rw [h28] at c
      exact absurd (nI_le (by omega) (by omega)) c
  | succ m ih =>
    intro k s h
    refine hd_go kX6_laidOn 999 (fun _ => rfl) rfl ⟨trivial, vp_in_nI (n := 28) (by decide) (by decide)⟩ ?_
    refine hd_ju kX6_laidOn (fun _ => rfl) (fun c => ?_) (fun c => ?_)
    · have c : M 53 28 ≤ nI k := c
      rw [h28] at c
      exact absurd c (nI_ge (by omega) (by omega))
    refine hd_go kX6_laidOn 999 (fun _ => rfl) rfl trivial ?_
    refine hd_ci kX6_laidOn qX6_laidOn (fun _ => rfl) (r_of k 2 (by omega) M N) ?_
    refine hd_go kX6_laidOn 999 (fun _ => rfl) rfl trivial ?_
    rw [nI_1]
    have := ih (k + 1) (s + M 53 (4 * k + 2)) (by omega)
    rw [wsm, ← Int32.add_assoc]
    exact this
set_option maxRecDepth 20000 in
theorem r_laid (M : hd_M) (N : hd_N) (n : Nat) (hn : n ≤ 7) (h28 : M 53 28 = nI n) (i : Nat) (hi : i < 7) : hd_Ret mX6_laidOn [.ref 51, .int (nI i)] M N (hd_is (.int (wsm (fun k => M 53 (4 * k + 2)) (i + 1) (n - (i + 1)))) M N) := by
  change hd_Go mX6_laidOn 0 [some (.ref 51), some (.int (nI i)), none, none] [] M N _
  refine hd_go kX6_laidOn 6 (fun _ => rfl) rfl trivial ?_
  rw [nI_1]
  have := r_laid_l M N n hn h28 (nI i) (n - (i + 1)) (i + 1) 0 (by omega)
  rw [Int32.zero_add] at this
  exact this
set_option maxRecDepth 20000 in
theorem r_isCr (M : hd_M) (N : hd_N) (n : Nat) (hn : n ≤ 7) (h28 : M 53 28 = nI n) (i : Nat) (hi : i < 7) : hd_Ret mX6_isCrushed [.ref 51, .int (nI i)] M N (hd_is (.int (hd_b (dy_brs (M 53 (4 * i)) (M 53 (4 * i + 2)) < wsm (fun k => M 53 (4 * k + 2)) (i + 1) (n - (i + 1))))) M N) := by
  change hd_Go mX6_isCrushed 0 [some (.ref 51), some (.int (nI i))] [] M N _
  refine hd_go kX6_isCrushed 999 (fun _ => rfl) rfl trivial ?_
  refine hd_ci kX6_isCrushed qX6_isCrushed (fun _ => rfl) (r_laid M N n hn h28 i hi) ?_
  refine hd_go kX6_isCrushed 999 (fun _ => rfl) rfl trivial ?_
  refine hd_ci kX6_isCrushed qX6_isCrushed (fun _ => rfl) (r_bears i hi M N) ?_
  refine hd_ju kX6_isCrushed (fun _ => rfl) (fun c => ?_) (fun c => ?_)
  · refine hd_go kX6_isCrushed 999 (fun _ => rfl) rfl trivial ?_
    refine hd_en_ kX6_isCrushed (fun _ => rfl) (Or.inl rfl) ⟨?_, rfl, rfl⟩
    rw [show hd_b _ = 0 from if_neg (Int32.not_lt.mpr c)]
  · refine hd_go kX6_isCrushed 999 (fun _ => rfl) rfl trivial ?_
    refine hd_en_ kX6_isCrushed (fun _ => rfl) (Or.inr rfl) ⟨?_, rfl, rfl⟩
    rw [show hd_b _ = 1 from if_pos (Int32.not_le.mp c)]
set_option maxRecDepth 20000 in
theorem r_cheers (M : hd_M) (N : hd_N) (n : Nat) (hn : n ≤ 7) (h28 : M 53 28 = nI n) (i : Nat) (hi : i < 7) : hd_Ret mX6_cheers [.ref 51, .int (nI i)] M N (hd_is (.int (dy_chr (wsm (fun k => M 53 (4 * k + 2)) (i + 1) (n - (i + 1))) (M 53 (4 * i)) (M 53 (4 * i + 1)) (M 53 (4 * i + 2)))) M N) := by
  change hd_Go mX6_cheers 0 [some (.ref 51), some (.int (nI i)), none] [] M N _
  generalize hld : wsm (fun k => M 53 (4 * k + 2)) (i + 1) (n - (i + 1)) = ld
  have tail : ∀ p : Int32, p = dy_plg ld (M 53 (4 * i)) (M 53 (4 * i + 1)) (M 53 (4 * i + 2)) → hd_Go mX6_cheers 25 [some (.ref 51), some (.int (nI i)), none] [.int p] M N (hd_is (.int (dy_chr ld (M 53 (4 * i)) (M 53 (4 * i + 1)) (M 53 (4 * i + 2)))) M N) := by
    intro p hp
    refine hd_go kX6_cheers 999 (fun _ => rfl) rfl trivial ?_
    refine hd_ci kX6_cheers qX6_cheers (fun _ => rfl) (r_of i 0 (by omega) M N) ?_
    rw [Nat.add_zero]
    unfold dy_chr
    rw [← hp]
    refine hd_sc kX6_cheers (fun _ => rfl) ⟨fun c => ?_, fun c1 => ⟨fun c => ?_, fun c2 => ⟨fun c => ?_, fun c3 => ?_⟩⟩⟩
    · refine hd_go kX6_cheers 999 (fun _ => rfl) rfl trivial ?_
      refine hd_en_ kX6_cheers (fun _ => rfl) trivial ⟨?_, rfl, rfl⟩
      rw [if_pos c]
    · refine hd_go kX6_cheers 999 (fun _ => rfl) rfl trivial ?_
      refine hd_en_ kX6_cheers (fun _ => rfl) trivial ⟨?_, rfl, rfl⟩
      rw [if_neg c1, if_pos c]
    · refine hd_go kX6_cheers 999 (fun _ => rfl) rfl trivial ?_
      refine hd_en_ kX6_cheers (fun _ => rfl) trivial ⟨?_, rfl, rfl⟩
      rw [if_neg c1, if_neg c2, if_pos c]
    · refine hd_go kX6_cheers 999 (fun _ => rfl) rfl trivial ?_
      refine hd_en_ kX6_cheers (fun _ => rfl) trivial ⟨?_, rfl, rfl⟩
      rw [if_neg c1, if_neg c2, if_neg c3]
  refine hd_go kX6_cheers 999 (fun _ => rfl) rfl trivial ?_
  refine hd_ci kX6_cheers qX6_cheers (fun _ => rfl) (r_isCr M N n hn h28 i hi) ?_
  rw [hld]
  refine hd_ju kX6_cheers (fun _ => rfl) (fun c => ?_) (fun c => ?_)
  · refine hd_go kX6_cheers 999 (fun _ => rfl) rfl trivial ?_
    refine hd_ci kX6_cheers qX6_cheers (fun _ => rfl) (r_of i 1 (by omega) M N) ?_
    refine tail _ ?_
    unfold dy_plg
    rw [if_neg (hd_b0.mp c)]
  · refine hd_go kX6_cheers 999 (fun _ => rfl) rfl trivial ?_
    refine hd_ci kX6_cheers qX6_cheers (fun _ => rfl) (r_of i 1 (by omega) M N) ?_
    refine hd_go kX6_cheers 999 (fun _ => rfl) rfl ⟨trivial, by decide⟩ ?_
    refine tail _ ?_
    unfold dy_plg
    rw [if_pos (hd_b1.mp c)]
set_option maxRecDepth 20000 in
theorem r_lasts (i : Nat) (h : i < 7) (M : hd_M) (N : hd_N) : hd_Ret mX6_lasts [.ref 51, .int (nI i)] M N (hd_is (.int (dy_lst (M 53 (4 * i)))) M N) := by
  change hd_Go mX6_lasts 0 [some (.ref 51), some (.int (nI i)), none] [] M N _
  refine hd_go kX6_lasts 999 (fun _ => rfl) rfl trivial ?_
  refine hd_ci kX6_lasts qX6_lasts (fun _ => rfl) (r_of i 0 (by omega) M N) ?_
  rw [Nat.add_zero]
  refine hd_go kX6_lasts 999 (fun _ => rfl) rfl trivial ?_
  unfold dy_lst
  refine hd_ju kX6_lasts (fun _ => rfl) (fun c => ?_) (fun c => ?_)
  · refine hd_go kX6_lasts 999 (fun _ => rfl) rfl trivial ?_
    refine hd_ju kX6_lasts (fun _ => rfl) (fun c2 => ?_) (fun c2 => ?_)
    · refine hd_go kX6_lasts 999 (fun _ => rfl) rfl trivial ?_
      refine hd_en_ kX6_lasts (fun _ => rfl) trivial ⟨?_, rfl, rfl⟩
      rw [if_neg c, if_neg c2]
    · refine hd_go kX6_lasts 999 (fun _ => rfl) rfl trivial ?_
      refine hd_en_ kX6_lasts (fun _ => rfl) trivial ⟨?_, rfl, rfl⟩
      rw [if_neg c, if_pos c2]
  · refine hd_go kX6_lasts 999 (fun _ => rfl) rfl trivial ?_
    refine hd_en_ kX6_lasts (fun _ => rfl) trivial ⟨?_, rfl, rfl⟩
    rw [if_pos c]
set_option maxRecDepth 20000 in
/-- what a thing cheers, read off the reference's row -/
theorem rf_ch {M : hd_M} {d : dy_T} (h : rf M 53 0 d) {i : Nat} (hi : i < d.1) : dy_chr (wsm (fun k => M 53 (4 * k + 2)) (i + 1) (d.1 - (i + 1))) (M 53 (4 * i)) (M 53 (4 * i + 1)) (M 53 (4 * i + 2)) = dy_ch d i := by
  obtain ⟨-, -, -, -, -, hb⟩ := h
  have e2 : wsm (fun k => M 53 (4 * k + 2)) (i + 1) (d.1 - (i + 1)) = dy_ld d i := wsm_cong _ _ (fun x h1 h2 => by have := (hb x (by omega)).2.2.1; rw [Nat.zero_add] at this; exact this)
  have e := hb i hi
  rw [Nat.zero_add, Nat.zero_add, Nat.zero_add] at e
  rw [e2, e.1, e.2.1, e.2.2.1]
  rfl
