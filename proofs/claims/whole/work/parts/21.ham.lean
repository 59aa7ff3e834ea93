/-! THE HAMPER'S METHODS, at the cells 1 (now) and 7 (trial); printed by wip/whole/ham.py -/
set_option maxRecDepth 20000 in
theorem s_bearsOf_1 (M : hd_M) (N : hd_N) (i : Nat) (hi : i < 7) : hd_Ret mX0_bearsOf [.ref 1, .int (nI i)] M N (hd_is (.int (dy_brs (M 2 i) (M 4 i))) M N) := by
  change hd_Go mX0_bearsOf 0 [some (.ref 1), some (.int (nI i)), none] [] M N _
  have ei : (nI i).toNatClampNeg = i := nI_clamp (by omega)
  repeat' first
    | refine hd_ju kX0_bearsOf (fun _ => rfl) (fun c => ?_) (fun c => ?_)
    | refine hd_en_ kX0_bearsOf (fun _ => rfl) ?_ ?_
    | refine hd_go kX0_bearsOf 999 (fun _ => rfl) rfl ?_ ?_
  all_goals first
    | trivial
    | exact ⟨trivial, vp_in_nI hi (by decide)⟩
    | (rw [ei] at *; refine ⟨?_, rfl, rfl⟩; simp_all [-Int32.not_lt, -Int32.not_le, le_n, dy_brs])
    | (refine ⟨?_, rfl, rfl⟩; simp_all [-Int32.not_lt, -Int32.not_le, le_n, dy_brs])
set_option maxRecDepth 20000 in
theorem s_bearsOf_7 (M : hd_M) (N : hd_N) (i : Nat) (hi : i < 7) : hd_Ret mX0_bearsOf [.ref 7, .int (nI i)] M N (hd_is (.int (dy_brs (M 8 i) (M 10 i))) M N) := by
  change hd_Go mX0_bearsOf 0 [some (.ref 7), some (.int (nI i)), none] [] M N _
  have ei : (nI i).toNatClampNeg = i := nI_clamp (by omega)
  repeat' first
    | refine hd_ju kX0_bearsOf (fun _ => rfl) (fun c => ?_) (fun c => ?_)
    | refine hd_en_ kX0_bearsOf (fun _ => rfl) ?_ ?_
    | refine hd_go kX0_bearsOf 999 (fun _ => rfl) rfl ?_ ?_
  all_goals first
    | trivial
    | exact ⟨trivial, vp_in_nI hi (by decide)⟩
    | (rw [ei] at *; refine ⟨?_, rfl, rfl⟩; simp_all [-Int32.not_lt, -Int32.not_le, le_n, dy_brs])
    | (refine ⟨?_, rfl, rfl⟩; simp_all [-Int32.not_lt, -Int32.not_le, le_n, dy_brs])
set_option maxRecDepth 20000 in
theorem s_weightBehind_l_1 (M : hd_M) (N : hd_N) (n : Nat) (hn : n ≤ 7) (h5 : M 1 5 = nI n) (i : Int32) : ∀ (m k : Nat) (s : Int32), k + m = n ∨ (n ≤ k ∧ k ≤ 7 ∧ m = 0) → hd_Go mX0_weightBehind 6 [some (.ref 1), some (.int i), some (.int s), some (.int (nI k))] [] M N (hd_is (.int (s + wsm (M 4) k m)) M N) := by
  intro m
  induction m with
  | zero =>
    intro k s h
    refine hd_go kX0_weightBehind 999 (fun _ => rfl) rfl trivial ?_
    refine hd_ju kX0_weightBehind (fun _ => rfl) (fun c => ?_) (fun c => ?_)
    · refine hd_go kX0_weightBehind 999 (fun _ => rfl) rfl trivial ?_
      refine hd_en_ kX0_weightBehind (fun _ => rfl) trivial ⟨?_, rfl, rfl⟩
      rw [wsm, Int32.add_zero]
    · rw [h5] at c
      exact absurd (nI_le (by omega) (by omega)) c
  | succ m ih =>
    intro k s h
    refine hd_go kX0_weightBehind 999 (fun _ => rfl) rfl trivial ?_
    refine hd_ju kX0_weightBehind (fun _ => rfl) (fun c => ?_) (fun c => ?_)
    · rw [h5] at c
      exact absurd c (nI_ge (by omega) (by omega))
    · refine hd_go kX0_weightBehind 999 (fun _ => rfl) rfl ⟨trivial, vp_in_nI (by omega) (by decide)⟩ ?_
      rw [nI_clamp (by omega), nI_1]
      have := ih (k + 1) (s + M 4 k) (by omega)
      rw [wsm, ← Int32.add_assoc]
      exact this
set_option maxRecDepth 20000 in
theorem s_weightBehind_1 (M : hd_M) (N : hd_N) (n : Nat) (hn : n ≤ 7) (h5 : M 1 5 = nI n) (i : Nat) (hi : i < 7) : hd_Ret mX0_weightBehind [.ref 1, .int (nI i)] M N (hd_is (.int (wsm (M 4) (i + 1) (n - (i + 1)))) M N) := by
  change hd_Go mX0_weightBehind 0 [some (.ref 1), some (.int (nI i)), none, none] [] M N _
  refine hd_go kX0_weightBehind 6 (fun _ => rfl) rfl trivial ?_
  rw [nI_1]
  have := s_weightBehind_l_1 M N n hn h5 (nI i) (n - (i + 1)) (i + 1) 0 (by omega)
  rw [Int32.zero_add] at this
  exact this
set_option maxRecDepth 20000 in
theorem s_weightBehind_l_7 (M : hd_M) (N : hd_N) (n : Nat) (hn : n ≤ 7) (h5 : M 7 5 = nI n) (i : Int32) : ∀ (m k : Nat) (s : Int32), k + m = n ∨ (n ≤ k ∧ k ≤ 7 ∧ m = 0) → hd_Go mX0_weightBehind 6 [some (.ref 7), some (.int i), some (.int s), some (.int (nI k))] [] M N (hd_is (.int (s + wsm (M 10) k m)) M N) := by
  intro m
  induction m with
  | zero =>
    intro k s h
    refine hd_go kX0_weightBehind 999 (fun _ => rfl) rfl trivial ?_
    refine hd_ju kX0_weightBehind (fun _ => rfl) (fun c => ?_) (fun c => ?_)
    · refine hd_go kX0_weightBehind 999 (fun _ => rfl) rfl trivial ?_
      refine hd_en_ kX0_weightBehind (fun _ => rfl) trivial ⟨?_, rfl, rfl⟩
      rw [wsm, Int32.add_zero]
    · rw [h5] at c
      exact absurd (nI_le (by omega) (by omega)) c
  | succ m ih =>
    intro k s h
    refine hd_go kX0_weightBehind 999 (fun _ => rfl) rfl trivial ?_
    refine hd_ju kX0_weightBehind (fun _ => rfl) (fun c => ?_) (fun c => ?_)
    · rw [h5] at c
      exact absurd c (nI_ge (by omega) (by omega))
    · refine hd_go kX0_weightBehind 999 (fun _ => rfl) rfl ⟨trivial, vp_in_nI (by omega) (by decide)⟩ ?_
      rw [nI_clamp (by omega), nI_1]
      have := ih (k + 1) (s + M 10 k) (by omega)
      rw [wsm, ← Int32.add_assoc]
      exact this
set_option maxRecDepth 20000 in
theorem s_weightBehind_7 (M : hd_M) (N : hd_N) (n : Nat) (hn : n ≤ 7) (h5 : M 7 5 = nI n) (i : Nat) (hi : i < 7) : hd_Ret mX0_weightBehind [.ref 7, .int (nI i)] M N (hd_is (.int (wsm (M 10) (i + 1) (n - (i + 1)))) M N) := by
  change hd_Go mX0_weightBehind 0 [some (.ref 7), some (.int (nI i)), none, none] [] M N _
  refine hd_go kX0_weightBehind 6 (fun _ => rfl) rfl trivial ?_
  rw [nI_1]
  have := s_weightBehind_l_7 M N n hn h5 (nI i) (n - (i + 1)) (i + 1) 0 (by omega)
  rw [Int32.zero_add] at this
  exact this
set_option maxRecDepth 20000 in
theorem s_isCrushed_1 (M : hd_M) (N : hd_N) (n : Nat) (hn : n ≤ 7) (h5 : M 1 5 = nI n) (i : Nat) (hi : i < 7) : hd_Ret mX0_isCrushed [.ref 1, .int (nI i)] M N (hd_is (.int (hd_b (dy_brs (M 2 i) (M 4 i) < wsm (M 4) (i + 1) (n - (i + 1))))) M N) := by
  change hd_Go mX0_isCrushed 0 [some (.ref 1), some (.int (nI i))] [] M N _
  repeat' first
    | refine hd_ju kX0_isCrushed (fun _ => rfl) (fun c => ?_) (fun c => ?_)
    | refine hd_en_ kX0_isCrushed (fun _ => rfl) ?_ ?_
    | refine hd_ci kX0_isCrushed qX0_isCrushed (fun _ => rfl) (s_bearsOf_1 M N i hi) ?_
    | refine hd_ci kX0_isCrushed qX0_isCrushed (fun _ => rfl) (s_weightBehind_1 M N n hn h5 i hi) ?_
    | refine hd_go kX0_isCrushed 999 (fun _ => rfl) rfl ?_ ?_
  all_goals first
    | trivial
    | exact Or.inl rfl
    | exact Or.inr rfl
    | (refine ⟨?_, rfl, rfl⟩; simp_all [-Int32.not_lt, -Int32.not_le, le_n, hd_b])
set_option maxRecDepth 20000 in
theorem s_isCrushed_7 (M : hd_M) (N : hd_N) (n : Nat) (hn : n ≤ 7) (h5 : M 7 5 = nI n) (i : Nat) (hi : i < 7) : hd_Ret mX0_isCrushed [.ref 7, .int (nI i)] M N (hd_is (.int (hd_b (dy_brs (M 8 i) (M 10 i) < wsm (M 10) (i + 1) (n - (i + 1))))) M N) := by
  change hd_Go mX0_isCrushed 0 [some (.ref 7), some (.int (nI i))] [] M N _
  repeat' first
    | refine hd_ju kX0_isCrushed (fun _ => rfl) (fun c => ?_) (fun c => ?_)
    | refine hd_en_ kX0_isCrushed (fun _ => rfl) ?_ ?_
    | refine hd_ci kX0_isCrushed qX0_isCrushed (fun _ => rfl) (s_bearsOf_7 M N i hi) ?_
    | refine hd_ci kX0_isCrushed qX0_isCrushed (fun _ => rfl) (s_weightBehind_7 M N n hn h5 i hi) ?_
    | refine hd_go kX0_isCrushed 999 (fun _ => rfl) rfl ?_ ?_
  all_goals first
    | trivial
    | exact Or.inl rfl
    | exact Or.inr rfl
    | (refine ⟨?_, rfl, rfl⟩; simp_all [-Int32.not_lt, -Int32.not_le, le_n, hd_b])
set_option maxRecDepth 20000 in
theorem s_cheersUnder_1 (M : hd_M) (N : hd_N) (i : Nat) (hi : i < 7) (ld : Int32) : hd_Ret mX0_cheersUnder [.ref 1, .int (nI i), .int ld] M N (hd_is (.int (dy_chr ld (M 2 i) (M 3 i) (M 4 i))) M N) := by
  change hd_Go mX0_cheersUnder 0 [some (.ref 1), some (.int (nI i)), some (.int ld), none] [] M N _
  have ei : (nI i).toNatClampNeg = i := nI_clamp (by omega)
  have hv : vp_in (nI i) 7 := vp_in_nI hi (by decide)
  repeat' first
    | refine hd_ju kX0_cheersUnder (fun _ => rfl) (fun c => ?_) (fun c => ?_)
    | refine hd_en_ kX0_cheersUnder (fun _ => rfl) ?_ ?_
    | refine hd_ci kX0_cheersUnder qX0_cheersUnder (fun _ => rfl) (s_bearsOf_1 M N i hi) ?_
    | refine hd_sc kX0_cheersUnder (fun _ => rfl) ⟨fun c => ?_, fun c => ⟨fun c => ?_, fun c => ⟨fun c => ?_, fun c => ?_⟩⟩⟩
    | refine hd_go kX0_cheersUnder 999 (fun _ => rfl) rfl ?_ ?_
  all_goals first
    | trivial
    | exact ⟨trivial, hv⟩
    | exact ⟨⟨trivial, hv⟩, by decide⟩
    | exact ⟨trivial, by decide⟩
    | (refine ⟨?_, rfl, rfl⟩; simp_all [-Int32.not_lt, -Int32.not_le, le_n, dy_chr, dy_plg])
set_option maxRecDepth 20000 in
theorem s_cheersUnder_7 (M : hd_M) (N : hd_N) (i : Nat) (hi : i < 7) (ld : Int32) : hd_Ret mX0_cheersUnder [.ref 7, .int (nI i), .int ld] M N (hd_is (.int (dy_chr ld (M 8 i) (M 9 i) (M 10 i))) M N) := by
  change hd_Go mX0_cheersUnder 0 [some (.ref 7), some (.int (nI i)), some (.int ld), none] [] M N _
  have ei : (nI i).toNatClampNeg = i := nI_clamp (by omega)
  have hv : vp_in (nI i) 7 := vp_in_nI hi (by decide)
  repeat' first
    | refine hd_ju kX0_cheersUnder (fun _ => rfl) (fun c => ?_) (fun c => ?_)
    | refine hd_en_ kX0_cheersUnder (fun _ => rfl) ?_ ?_
    | refine hd_ci kX0_cheersUnder qX0_cheersUnder (fun _ => rfl) (s_bearsOf_7 M N i hi) ?_
    | refine hd_sc kX0_cheersUnder (fun _ => rfl) ⟨fun c => ?_, fun c => ⟨fun c => ?_, fun c => ⟨fun c => ?_, fun c => ?_⟩⟩⟩
    | refine hd_go kX0_cheersUnder 999 (fun _ => rfl) rfl ?_ ?_
  all_goals first
    | trivial
    | exact ⟨trivial, hv⟩
    | exact ⟨⟨trivial, hv⟩, by decide⟩
    | exact ⟨trivial, by decide⟩
    | (refine ⟨?_, rfl, rfl⟩; simp_all [-Int32.not_lt, -Int32.not_le, le_n, dy_chr, dy_plg])
set_option maxRecDepth 20000 in
theorem s_lastsOf_1 (M : hd_M) (N : hd_N) (i : Nat) (hi : i < 7) : hd_Ret mX0_lastsOf [.ref 1, .int (nI i)] M N (hd_is (.int (dy_lst (M 2 i))) M N) := by
  change hd_Go mX0_lastsOf 0 [some (.ref 1), some (.int (nI i))] [] M N _
  have ei : (nI i).toNatClampNeg = i := nI_clamp (by omega)
  have hv : vp_in (nI i) 7 := vp_in_nI hi (by decide)
  repeat' first
    | refine hd_ju kX0_lastsOf (fun _ => rfl) (fun c => ?_) (fun c => ?_)
    | refine hd_en_ kX0_lastsOf (fun _ => rfl) ?_ ?_
    | refine hd_sc kX0_lastsOf (fun _ => rfl) ⟨fun c => ?_, fun c => ⟨fun c => ?_, fun c => ?_⟩⟩
    | refine hd_go kX0_lastsOf 999 (fun _ => rfl) rfl ?_ ?_
  all_goals first
    | trivial
    | exact ⟨trivial, hv⟩
    | (refine ⟨?_, rfl, rfl⟩; simp_all [-Int32.not_lt, -Int32.not_le, le_n, dy_lst])
set_option maxRecDepth 20000 in
theorem s_lastsOf_7 (M : hd_M) (N : hd_N) (i : Nat) (hi : i < 7) : hd_Ret mX0_lastsOf [.ref 7, .int (nI i)] M N (hd_is (.int (dy_lst (M 8 i))) M N) := by
  change hd_Go mX0_lastsOf 0 [some (.ref 7), some (.int (nI i))] [] M N _
  have ei : (nI i).toNatClampNeg = i := nI_clamp (by omega)
  have hv : vp_in (nI i) 7 := vp_in_nI hi (by decide)
  repeat' first
    | refine hd_ju kX0_lastsOf (fun _ => rfl) (fun c => ?_) (fun c => ?_)
    | refine hd_en_ kX0_lastsOf (fun _ => rfl) ?_ ?_
    | refine hd_sc kX0_lastsOf (fun _ => rfl) ⟨fun c => ?_, fun c => ⟨fun c => ?_, fun c => ?_⟩⟩
    | refine hd_go kX0_lastsOf 999 (fun _ => rfl) rfl ?_ ?_
  all_goals first
    | trivial
    | exact ⟨trivial, hv⟩
    | (refine ⟨?_, rfl, rfl⟩; simp_all [-Int32.not_lt, -Int32.not_le, le_n, dy_lst])
set_option maxRecDepth 20000 in
theorem s_cheersOf_1 (M : hd_M) (N : hd_N) (n : Nat) (hn : n ≤ 7) (h5 : M 1 5 = nI n) (i : Nat) (hi : i < 7) : hd_Ret mX0_cheersOf [.ref 1, .int (nI i)] M N (hd_is (.int (dy_chr (wsm (M 4) (i + 1) (n - (i + 1))) (M 2 i) (M 3 i) (M 4 i))) M N) := by
  change hd_Go mX0_cheersOf 0 [some (.ref 1), some (.int (nI i))] [] M N _
  repeat' first
    | refine hd_ju kX0_cheersOf (fun _ => rfl) (fun c => ?_) (fun c => ?_)
    | refine hd_en_ kX0_cheersOf (fun _ => rfl) ?_ ?_
    | refine hd_ci kX0_cheersOf qX0_cheersOf (fun _ => rfl) (s_cheersUnder_1 M N i hi _) ?_
    | refine hd_ci kX0_cheersOf qX0_cheersOf (fun _ => rfl) (s_weightBehind_1 M N n hn h5 i hi) ?_
    | refine hd_go kX0_cheersOf 999 (fun _ => rfl) rfl ?_ ?_
  all_goals first
    | trivial
    | exact ⟨rfl, rfl, rfl⟩
set_option maxRecDepth 20000 in
theorem s_cheersOf_7 (M : hd_M) (N : hd_N) (n : Nat) (hn : n ≤ 7) (h5 : M 7 5 = nI n) (i : Nat) (hi : i < 7) : hd_Ret mX0_cheersOf [.ref 7, .int (nI i)] M N (hd_is (.int (dy_chr (wsm (M 10) (i + 1) (n - (i + 1))) (M 8 i) (M 9 i) (M 10 i))) M N) := by
  change hd_Go mX0_cheersOf 0 [some (.ref 7), some (.int (nI i))] [] M N _
  repeat' first
    | refine hd_ju kX0_cheersOf (fun _ => rfl) (fun c => ?_) (fun c => ?_)
    | refine hd_en_ kX0_cheersOf (fun _ => rfl) ?_ ?_
    | refine hd_ci kX0_cheersOf qX0_cheersOf (fun _ => rfl) (s_cheersUnder_7 M N i hi _) ?_
    | refine hd_ci kX0_cheersOf qX0_cheersOf (fun _ => rfl) (s_weightBehind_7 M N n hn h5 i hi) ?_
    | refine hd_go kX0_cheersOf 999 (fun _ => rfl) rfl ?_ ?_
  all_goals first
    | trivial
    | exact ⟨rfl, rfl, rfl⟩
set_option maxRecDepth 20000 in
theorem s_isAllIn_1 (M : hd_M) (N : hd_N) : hd_Ret mX0_isAllIn [.ref 1] M N (hd_is (.int (hd_b (M 1 6 = M 1 5))) M N) := by
  change hd_Go mX0_isAllIn 0 [some (.ref 1)] [] M N _
  repeat' first
    | refine hd_ju kX0_isAllIn (fun _ => rfl) (fun c => ?_) (fun c => ?_)
    | refine hd_en_ kX0_isAllIn (fun _ => rfl) ?_ ?_
    | refine hd_go kX0_isAllIn 999 (fun _ => rfl) rfl ?_ ?_
  all_goals first
    | trivial
    | exact Or.inl rfl
    | exact Or.inr rfl
    | (refine ⟨?_, rfl, rfl⟩; simp_all [-Int32.not_lt, -Int32.not_le, le_n, hd_b])
set_option maxRecDepth 20000 in
theorem s_isGone_1 (M : hd_M) (N : hd_N) (i : Nat) (hi : i < 7) : hd_Ret mX0_isGone [.ref 1, .int (nI i)] M N (hd_is (.int (hd_b (¬ nI i < M 1 6 ∧ M 5 i = 0))) M N) := by
  change hd_Go mX0_isGone 0 [some (.ref 1), some (.int (nI i))] [] M N _
  have ei : (nI i).toNatClampNeg = i := nI_clamp (by omega)
  have hv : vp_in (nI i) 7 := vp_in_nI hi (by decide)
  repeat' first
    | refine hd_ju kX0_isGone (fun _ => rfl) (fun c => ?_) (fun c => ?_)
    | refine hd_en_ kX0_isGone (fun _ => rfl) ?_ ?_
    | refine hd_go kX0_isGone 999 (fun _ => rfl) rfl ?_ ?_
  all_goals first
    | trivial
    | exact ⟨trivial, hv⟩
    | exact Or.inl rfl
    | exact Or.inr rfl
    | (refine ⟨?_, rfl, rfl⟩; simp_all [-Int32.not_lt, -Int32.not_le, le_n, hd_b])
set_option maxRecDepth 20000 in
theorem s_isAllIn_7 (M : hd_M) (N : hd_N) : hd_Ret mX0_isAllIn [.ref 7] M N (hd_is (.int (hd_b (M 7 6 = M 7 5))) M N) := by
  change hd_Go mX0_isAllIn 0 [some (.ref 7)] [] M N _
  repeat' first
    | refine hd_ju kX0_isAllIn (fun _ => rfl) (fun c => ?_) (fun c => ?_)
    | refine hd_en_ kX0_isAllIn (fun _ => rfl) ?_ ?_
    | refine hd_go kX0_isAllIn 999 (fun _ => rfl) rfl ?_ ?_
  all_goals first
    | trivial
    | exact Or.inl rfl
    | exact Or.inr rfl
    | (refine ⟨?_, rfl, rfl⟩; simp_all [-Int32.not_lt, -Int32.not_le, le_n, hd_b])
set_option maxRecDepth 20000 in
theorem s_isGone_7 (M : hd_M) (N : hd_N) (i : Nat) (hi : i < 7) : hd_Ret mX0_isGone [.ref 7, .int (nI i)] M N (hd_is (.int (hd_b (¬ nI i < M 7 6 ∧ M 11 i = 0))) M N) := by
  change hd_Go mX0_isGone 0 [some (.ref 7), some (.int (nI i))] [] M N _
  have ei : (nI i).toNatClampNeg = i := nI_clamp (by omega)
  have hv : vp_in (nI i) 7 := vp_in_nI hi (by decide)
  repeat' first
    | refine hd_ju kX0_isGone (fun _ => rfl) (fun c => ?_) (fun c => ?_)
    | refine hd_en_ kX0_isGone (fun _ => rfl) ?_ ?_
    | refine hd_go kX0_isGone 999 (fun _ => rfl) rfl ?_ ?_
  all_goals first
    | trivial
    | exact ⟨trivial, hv⟩
    | exact Or.inl rfl
    | exact Or.inr rfl
    | (refine ⟨?_, rfl, rfl⟩; simp_all [-Int32.not_lt, -Int32.not_le, le_n, hd_b])
