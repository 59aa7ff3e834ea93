/-! THE HAMPER'S METHODS, at the cells 1 (now) and 7 (trial); printed by wip/whole/ham.py -/
set_option maxRecDepth 20000 in
theorem s_bearsOf_1 (M : hd_M) (N : hd_N) (i : Nat) (hi : i < 7) : hd_Ret mX0_bearsOf [.ref 1, .int (nI i)] M N (hd_is (.int (dy_brs (M 2 i) (M 4 i))) M N) := by
  change hd_Go mX0_bearsOf 0 [some (.ref 1), some (.int (nI i)), none] [] M N _
  have ei : (nI i).toNatClampNeg = i := nI_clamp (by omega)
  repeat' first
    | refine hd_ju kX0_bearsOf (fun _ => rfl) (fun c => ?_) (fun c => ?_)
    | refine hd_en_ kX0_bearsOf (fun _ => rfl) ?_ ?_
    | refine hd_go kX0_bearsOf 999 (fun _ => rfl) rfl ?_ ?_
  all_goals first
    | trivial
    | exact ⟨trivial, vp_in_nI hi (by decide)⟩
    | (rw [ei] at *; refine ⟨?_, rfl, rfl⟩; simp_all [-Int32.not_lt, -Int32.not_le, le_n, dy_brs])
    | (refine ⟨?_, rfl, rfl⟩; simp_all [-Int32.not_lt, -Int32.not_le, le_n, dy_brs])
set_option maxRecDepth 20000 in
theorem s_bearsOf_7 (M : hd_M) (N : hd_N) (i : Nat) (hi : i < 7) : hd_Ret mX0_bearsOf [.ref 7, .int (nI i)] M N (hd_is (.int (dy_brs (M 8 i) (M 10 i))) M N) := by
  change hd_Go mX0_bearsOf 0 [some (.ref 7), some (.int (nI i)), none] [] M N _
  have ei : (nI i).toNatClampNeg = i := nI_clamp (by omega)
  repeat' first
    | refine hd_ju kX0_bearsOf (fun _ => rfl) (fun c => ?_) (fun c => ?_)
    | refine hd_en_ kX0_bearsOf (fun _ => rfl) ?_ ?_
    | refine hd_go kX0_bearsOf 999 (fun _ => rfl) rfl ?_ ?_
  all_goals first
    | trivial
    | exact ⟨trivial, vp_in_nI hi (by decide)⟩
    | (rw [ei] at *; refine ⟨?_, rfl, rfl⟩; simp_all [-Int32.not_lt, -Int32.not_le, le_n, dy_brs])
    | (refine ⟨?_, rfl, rfl⟩; simp_all [-Int32.not_lt, -Int32.not_le, le_n, dy_brs])
set_option maxRecDepth 20000 in
theorem s_weightBehind_l_1 (M : hd_M) (N : hd_N) (n : Nat) (hn : n ≤ 7) (h5 : M 1 5 = nI n) (i : Int32) : ∀ (m k : Nat) (s : Int32), k + m = n ∨ (n ≤ k ∧ k ≤ 7 ∧ m = 0) → hd_Go mX0_weightBehind 6 [some (.ref 1), some (.int i), some (.int s), some (.int (nI k))] [] M N (hd_is (.int (s + wsm (M 4) k m)) M N) := by
  intro m
  induction m with
  | zero =>
    intro k s h
    refine hd_go kX0_weightBehind 999 (fun _ => rfl) rfl trivial ?_
    refine hd_ju kX0_weightBehind (fun _ => rfl) (fun c => ?_) (fun c => ?_)
    · refine hd_go kX0_weightBehind 999 (fun _ => rfl) rfl trivial ?_
      refine hd_en_ kX0_weightBehind (fun _ => rfl) trivial ⟨?_, rfl, rfl⟩
      rw [wsm, Int32.add_zero]
    · rw [h5] at c
      exact absurd (nI_le (by omega) (by omega)) c
  | succ m ih =>
    intro k s h
    refine hd_go kX0_weightBehind 999 (fun _ => rfl) rfl trivial ?_
    refine hd_ju kX0_weightBehind (fun _ => rfl) (fun c => ?_) (fun c => ?_)
    · rw [h5] at c
      exact absurd c (nI_ge (by omega) (by omega))
    · refine hd_go kX0_weightBehind 999 (fun _ => rfl) rfl ⟨trivial, vp_in_nI (by omega) (by decide)⟩ ?_
      rw [nI_clamp (by omega), nI_1]
      have := ih (k + 1) (s + M 4 k) (by omega)
      rw [wsm, ← Int32.add_assoc]
      exact this
set_option maxRecDepth 20000 in
theorem s_weightBehind_1 (M : hd_M) (N : hd_N) (n : Nat) (hn : n ≤ 7) (h5 : M 1 5 = nI n) (i : Nat) (hi : i < 7) : hd_Ret mX0_weightBehind [.ref 1, .int (nI i)] M N (hd_is (.int (wsm (M 4) (i + 1) (n - (i + 1)))) M N) := by
  change hd_Go mX0_weightBehind 0 [some (.ref 1), some (.int (nI i)), none, none] [] M N _
  refine hd_go kX0_weightBehind 6 (fun _ => rfl) rfl trivial ?_
  rw [nI_1]
  have := s_weightBehind_l_1 M N n hn h5 (nI i) (n - (i + 1)) (i + 1) 0 (by omega)
  rw [Int32.zero_add] at this
  exact this
set_option maxRecDepth 20000 in
theorem s_weightBehind_l_7 (M : hd_M) (N : hd_N) (n : Nat) (hn : n ≤ 7) (h5 : M 7 5 = nI n) (i : Int32) : ∀ (m k : Nat) (s : Int32), k + m = n ∨ (n ≤ k ∧ k ≤ 7 ∧ m = 0) → hd_Go mX0_weightBehind 6 [some (.ref 7), some (.int i), some (.int s), some (.int (nI k))] [] M N (hd_is (.int (s + wsm (M 10) k m)) M N) := by
  intro m
  induction m with
  | zero =>
    intro k s h
    refine hd_go kX0_weightBehind 999 (fun _ => rfl) rfl trivial ?_
    refine hd_ju kX0_weightBehind (fun _ => rfl) (fun c => ?_) (fun c => ?_)
    · refine hd_go kX0_weightBehind 999 (fun _ => rfl) rfl trivial ?_
      refine hd_en_ kX0_weightBehind (fun _ => rfl) trivial ⟨?_, rfl, rfl⟩
      rw [wsm, Int32.add_zero]
    · rw [h5] at c
      exact absurd (nI_le (by omega) (by omega)) c
  | succ m ih =>
    intro k s h
    refine hd_go kX0_weightBehind 999 (fun _ => rfl) rfl trivial ?_
    refine hd_ju kX0_weightBehind (fun _ => rfl) (fun c => ?_) (fun c => ?_)
    · rw [h5] at c
      exact absurd c (nI_ge (by omega) (by omega))
    · refine hd_go kX0_weightBehind 999 (fun _ => rfl) rfl ⟨trivial, vp_in_nI (by omega) (by decide)⟩ ?_
      rw [nI_clamp (by omega), nI_1]
      have := ih (k + 1) (s + M 10 k) (by omega)
      rw [wsm, ← Int32.add_assoc]
      exact this
set_option maxRecDepth 20000 in
theorem s_weightBehind_7 (M : hd_M) (N : hd_N) (n : Nat) (hn : n ≤ 7) (h5 : M 7 5 = nI n) (i : Nat) (hi : i < 7) : hd_Ret mX0_weightBehind [.ref 7, .int (nI i)] M N (hd_is (.int (wsm (M 10) (i + 1) (n - (i + 1)))) M N) := by
  change hd_Go mX0_weightBehind 0 [some (.ref 7), some (.int (nI i)), none, none] [] M N _
  refine hd_go kX0_weightBehind 6 (fun _ => rfl) rfl trivial ?_
  rw [nI_1]
  have := s_weightBehind_l_7 M N n hn h5 (nI i) (n - (i + 1)) (i + 1) 0 (by omega)
  rw [Int32.zero_add] at this
  exact this
set_option maxRecDepth 20000 in
theorem s_isCrushed_1 (M : hd_M) (N : hd_N) (n : Nat) (hn : n ≤ 7) (h5 : M 1 5 = nI n) (i : Nat) (hi : i < 7) : hd_Ret mX0_isCrushed [.ref 1, .int (nI i)] M N (hd_is (.int (hd_b (dy_brs (M 2 i) (M 4 i) < wsm (M 4) (i + 1) (n - (i + 1))))) M N) := by
  change hd_Go mX0_isCrushed 0 [some (.ref 1), some (.int (nI i))] [] M N _
  repeat' first
    | refine hd_ju kX0_isCrushed (fun _ => rfl) (fun c => ?_) (fun c => ?_)
    | refine hd_en_ kX0_isCrushed (fun _ => rfl) ?_ ?_
    | refine hd_ci kX0_isCrushed qX0_isCrushed (fun _ => rfl) (s_bearsOf_1 M N i hi) ?_
    | refine hd_ci kX0_isCrushed qX0_isCrushed (fun _ => rfl) (s_weightBehind_1 M N n hn h5 i hi) ?_
    | refine hd_go kX0_isCrushed 999 (fun _ => rfl) rfl ?_ ?_
  all_goals first
    | trivial
    | exact Or.inl rfl
    | exact Or.inr rfl
    | (refine ⟨?_, rfl, rfl⟩; simp_all [-Int32.not_lt, -Int32.not_le, le_n, hd_b])
set_option maxRecDepth 20000 in
theorem s_isCrushed_7 (M : hd_M) (N : hd_N) (n : Nat) (hn : n ≤ 7) (h5 : M 7 5 = nI n) (i : Nat) (hi : i < 7) : hd_Ret mX0_isCrushed [.ref 7, .int (nI i)] M N (hd_is (.int (hd_b (dy_brs (M 8 i) (M 10 i) < wsm (M 10) (i + 1) (n - (i + 1))))) M N) := by
  change hd_Go mX0_isCrushed 0 [some (.ref 7), some (.int (nI i))] [] M N _
  repeat' first
    | refine hd_ju kX0_isCrushed (fun _ => rfl) (fun c => ?_) (fun c => ?_)
    | refine hd_en_ kX0_isCrushed (fun _ => rfl) ?_ ?_
    | refine hd_ci kX0_isCrushed qX0_isCrushed (fun _ => rfl) (s_bearsOf_7 M N i hi) ?_
    | refine hd_ci kX0_isCrushed qX0_isCrushed (fun _ => rfl) (s_weightBehind_7 M N n hn h5 i hi) ?_
    | refine hd_go kX0_isCrushed 999 (fun _ => rfl) rfl ?_ ?_
  all_goals first
    | trivial
    | exact Or.inl rfl
    | exact Or.inr rfl
    | (refine ⟨?_, rfl, rfl⟩; simp_all [-Int32.not_lt, -Int32.not_le, le_n, hd_b])
set_option maxRecDepth 20000 in
theorem s_cheersUnder_1 (M : hd_M) (N : hd_N) (i : Nat) (hi : i < 7) (ld : Int32) : hd_Ret mX0_cheersUnder [.ref 1, .int (nI i), .int ld] M N (hd_is (.int (dy_chr ld (M 2 i) (M 3 i) (M 4 i))) M N) := by
  change hd_Go mX0_cheersUnder 0 [some (.ref 1), some (.int (nI i)), some (.int ld), none] [] M N _
  have ei : (nI i).toNatClampNeg = i := nI_clamp (by omega)
  have hv : vp_in (nI i) 7 := vp_in_nI hi (by decide)
  repeat' first
    | refine hd_ju kX0_cheersUnder (fun _ => rfl) (fun c => ?_) (fun c => ?_)
    | refine hd_en_ kX0_cheersUnder (fun _ => rfl) ?_ ?_
    | refine hd_ci kX0_cheersUnder qX0_cheersUnder (fun _ => rfl) (s_bearsOf_1 M N i hi) ?_
    | refine hd_sc kX0_cheersUnder (fun _ => rfl) ⟨fun c => ?_, fun c => ⟨fun c => ?_, fun c => ⟨fun c => ?_, fun c => ?_⟩⟩⟩
    | refine hd_go kX0_cheersUnder 999 (fun _ => rfl) rfl ?_ ?_
  all_goals first
    | trivial
    | exact ⟨trivial, hv⟩
    | exact ⟨⟨trivial, hv⟩, by decide⟩
    | exact ⟨trivial, by decide⟩
    | (refine ⟨?_, rfl, rfl⟩; simp_all [-Int32.not_lt, -Int32.not_le, le_n, dy_chr, dy_plg])
set_option maxRecDepth 20000 in
theorem s_cheersUnder_7 (M : hd_M) (N : hd_N) (i : Nat) (hi : i < 7) (ld : Int32) : hd_Ret mX0_cheersUnder [.ref 7, .int (nI i), .int ld] M N (hd_is (.int (dy_chr ld (M 8 i) (M 9 i) (M 10 i))) M N) := by
  change hd_Go mX0_cheersUnder 0 [some (.ref 7), some (.int (nI i)), some (.int ld), none] [] M N _
  have ei : (nI i).toNatClampNeg = i := nI_clamp (by omega)
  have hv : vp_in (nI i) 7 := vp_in_nI hi (by decide)
  repeat' first
    | refine hd_ju kX0_cheersUnder (fun _ => rfl) (fun c => ?_) (fun c => ?_)
    | refine hd_en_ kX0_cheersUnder (fun _ => rfl) ?_ ?_
    | refine hd_ci kX0_cheersUnder qX0_cheersUnder (fun _ => rfl) (s_bearsOf_7 M N i hi) ?_
    | refine hd_sc kX0_cheersUnder (fun _ => rfl) ⟨fun c => ?_, fun c => ⟨fun c => ?_, fun c => ⟨fun c => ?_, fun c => ?_⟩⟩⟩
    | refine hd_go kX0_cheersUnder 999 (fun _ => rfl) rfl ?_ ?_
  all_goals first
    | trivial
    | exact ⟨trivial, hv⟩
    | exact ⟨⟨trivial, hv⟩, by decide⟩
    | exact ⟨trivial, by decide⟩
    | (refine ⟨?_, rfl, rfl⟩; simp_all [-Int32.not_lt, -Int32.not_le, le_n, dy_chr, dy_plg])
set_option maxRecDepth 20000 in
theorem s_lastsOf_1 (M : hd_M) (N : hd_N) (i : Nat) (hi : i < 7) : hd_Ret mX0_lastsOf [.ref 1, .int (nI i)] M N (hd_is (.int (dy_lst (M 2 i))) M N) := by
  change hd_Go mX0_lastsOf 0 [some (.ref 1), some (.int (nI i))] [] M N _
  have ei : (nI i).toNatClampNeg = i := nI_clamp (by omega)
  have hv : vp_in (nI i) 7 := vp_in_nI hi (by decide)
  repeat' first
    | refine hd_ju kX0_lastsOf (fun _ => rfl) (fun c => ?_) (fun c => ?_)
    | refine hd_en_ kX0_lastsOf (fun _ => rfl) ?_ ?_
    | refine hd_sc kX0_lastsOf (fun _ => rfl) ⟨fun c => ?_, fun c => ⟨fun c => ?_, fun c => ?_⟩⟩
    | refine hd_go kX0_lastsOf 999 (fun _ => rfl) rfl ?_ ?_
  all_goals first
    | trivial
    | exact ⟨trivial, hv⟩
    | (refine ⟨?_, rfl, rfl⟩; simp_all [-Int32.not_lt, -Int32.not_le, le_n, dy_lst])
set_option maxRecDepth 20000 in
theorem s_lastsOf_7 (M : hd_M) (N : hd_N) (i : Nat) (hi : i < 7) : hd_Ret mX0_lastsOf [.ref 7, .int (nI i)] M N (hd_is (.int (dy_lst (M 8 i))) M N) := by
  change hd_Go mX0_lastsOf 0 [some (.ref 7), some (.int (nI i))] [] M N _
  have ei : (nI i).toNatClampNeg = i := nI_clamp (by omega)
  have hv : vp_in (nI i) 7 := vp_in_nI hi (by decide)
  repeat' first
    | refine hd_ju kX0_lastsOf (fun _ => rfl) (fun c => ?_) (fun c => ?_)
    | refine hd_en_ kX0_lastsOf (fun _ => rfl) ?_ ?_
    | refine hd_sc kX0_lastsOf (fun _ => rfl) ⟨fun c => ?_, fun c => ⟨fun c => ?_, fun c => ?_⟩⟩
    | refine hd_go kX0_lastsOf 999 (fun _ => rfl) rfl ?_ ?_
  all_goals first
    | trivial
    | exact ⟨trivial, hv⟩
    | (refine ⟨?_, rfl, rfl⟩; simp_all [-Int32.not_lt, -Int32.not_le, le_n, dy_lst])
set_option maxRecDepth 20000 in
theorem s_cheersOf_1 (M : hd_M) (N : hd_N) (n : Nat) (hn : n ≤ 7) (h5 : M 1 5 = nI n) (i : Nat) (hi : i < 7) : hd_Ret mX0_cheersOf [.ref 1, .int (nI i)] M N (hd_is (.int (dy_chr (wsm (M 4) (i + 1) (n - (i + 1))) (M 2 i) (M 3 i) (M 4 i))) M N) := by
  change hd_Go mX0_cheersOf 0 [some (.ref 1), some (.int (nI i))] [] M N _
  repeat' first
    | refine hd_ju kX0_cheersOf (fun _ => rfl) (fun c => ?_) (fun c => ?_)
    | refine hd_en_ kX0_cheersOf (fun _ => rfl) ?_ ?_
    | refine hd_ci kX0_cheersOf qX0_cheersOf (fun _ => rfl) (s_cheersUnder_1 M N i hi _) ?_
    | refine hd_ci kX0_cheersOf qX0_cheersOf (fun _ => rfl) (s_weightBehind_1 M N n hn h5 i hi) ?_
    | refine hd_go kX0_cheersOf 999 (fun _ => rfl) rfl ?_ ?_
  all_goals first
    | trivial
    | exact ⟨rfl, rfl, rfl⟩
set_option maxRecDepth 20000 in
theorem s_cheersOf_7 (M : hd_M) (N : hd_N) (n : Nat) (hn : n ≤ 7) (h5 : M 7 5 = nI n) (i : Nat) (hi : i < 7) : hd_Ret mX0_cheersOf [.ref 7, .int (nI i)] M N (hd_is (.int (dy_chr (wsm (M 10) (i + 1) (n - (i + 1))) (M 8 i) (M 9 i) (M 10 i))) M N) := by
  change hd_Go mX0_cheersOf 0 [some (.ref 7), some (.int (nI i))] [] M N _
  repeat' first
    | refine hd_ju kX0_cheersOf (fun _ => rfl) (fun c => ?_) (fun c => ?_)
    | refine hd_en_ kX0_cheersOf (fun _ => rfl) ?_ ?_
    | refine hd_ci kX0_cheersOf qX0_cheersOf (fun _ => rfl) (s_cheersUnder_7 M N i hi _) ?_
    | refine hd_ci kX0_cheersOf qX0_cheersOf (fun _ => rfl) (s_weightBehind_7 M N n hn h5 i hi) ?_
    | refine hd_go kX0_cheersOf 999 (fun _ => rfl) rfl ?_ ?_
  all_goals first
    | trivial
    | exact ⟨rfl, rfl, rfl⟩
set_option maxRecDepth 20000 in
theorem s_isAllIn_1 (M : hd_M) (N : hd_N) : hd_Ret mX0_isAllIn [.ref 1] M N (hd_is (.int (hd_b (M 1 6 = M 1 5))) M N) := by
  change hd_Go mX0_isAllIn 0 [some (.ref 1)] [] M N _
  repeat' first
    | refine hd_ju kX0_isAllIn (fun _ => rfl) (fun c => ?_) (fun c => ?_)
    | refine hd_en_ kX0_isAllIn (fun _ => rfl) ?_ ?_
    | refine hd_go kX0_isAllIn 999 (fun _ => rfl) rfl ?_ ?_
  all_goals first
    | trivial
    | exact Or.inl rfl
    | exact Or.inr rfl
    | (refine ⟨?_, rfl, rfl⟩; simp_all [-Int32.not_lt, -Int32.not_le, le_n, hd_b])
set_option maxRecDepth 20000 in
theorem s_isGone_1 (M : hd_M) (N : hd_N) (i : Nat) (hi : i < 7) : hd_Ret mX0_isGone [.ref 1, .int (nI i)] M N (hd_is (.int (hd_b (¬ nI i < M 1 6 ∧ M 5 i = 0))) M N) := by
  change hd_Go mX0_isGone 0 [some (.ref 1), some (.int (nI i))] [] M N _
  have ei : (nI i).toNatClampNeg = i := nI_clamp (by omega)
  have hv : vp_in (nI i) 7 := vp_in_nI hi (by decide)
  repeat' first
    | refine hd_ju kX0_isGone (fun _ => rfl) (fun c => ?_) (fun c => ?_)
    | refine hd_en_ kX0_isGone (fun _ => rfl) ?_ ?_
    | refine hd_go kX0_isGone 999 (fun _ => rfl) rfl ?_ ?_
  all_goals first
    | trivial
    | exact ⟨trivial, hv⟩
    | exact Or.inl rfl
    | exact Or.inr rfl
    | (refine ⟨?_, rfl, rfl⟩; simp_all [-Int32.not_lt, -Int32.not_le, le_n, hd_b])
set_option maxRecDepth 20000 in
theorem s_isAllIn_7 (M : hd_M) (N : hd_N) : hd_Ret mX0_isAllIn [.ref 7] M N (hd_is (.int (hd_b (M 7 6 = M 7 5))) M N) := by
  change hd_Go mX0_isAllIn 0 [some (.ref 7)] [] M N _
  repeat' first
    | refine hd_ju kX0_isAllIn (fun _ => rfl) (fun c => ?_) (fun c => ?_)
    | refine hd_en_ kX0_isAllIn (fun _ => rfl) ?_ ?_
    | refine hd_go kX0_isAllIn 999 (fun _ => rfl) rfl ?_ ?_
  all_goals first
    | trivial
    | exact Or.inl rfl
    | exact Or.inr rfl
    | (refine ⟨?_, rfl, rfl⟩; simp_all [-Int32.not_lt, -Int32.not_le, le_n, hd_b])
set_option maxRecDepth 20000 in
theorem s_isGone_7 (M : hd_M) (N : hd_N) (i : Nat) (hi : i < 7) : hd_Ret mX0_isGone [.ref 7, .int (nI i)] M N (hd_is (.int (hd_b (¬ nI i < M 7 6 ∧ M 11 i = 0))) M N) := by
  change hd_Go mX0_isGone 0 [some (.ref 7), some (.int (nI i))] [] M N _
  have ei : (nI i).toNatClampNeg = i := nI_clamp (by omega)
  have hv : vp_in (nI i) 7 := vp_in_nI hi (by decide)
  repeat' first
    | refine hd_ju kX0_isGone (fun _ => rfl) (fun c => ?_) (fun c => ?_)
    | refine hd_en_ kX0_isGone (fun _ => rfl) ?_ ?_
    | refine hd_go kX0_isGone 999 (fun _ => rfl) rfl ?_ ?_
  all_goals first
    | trivial
    | exact ⟨trivial, hv⟩
    | exact Or.inl rfl
    | exact Or.inr rfl
    | (refine ⟨?_, rfl, rfl⟩; simp_all [-Int32.not_lt, -Int32.not_le, le_n, hd_b])
set_option maxRecDepth 20000 in
theorem s_tally_l_1 (M : hd_M) (N : hd_N) (d : dy_T) (hd : hm M 1 d) (hn : d.1 ≤ 7) : ∀ (j : Nat) (M' : hd_M), j ≤ d.1 → fr (fun c _ => c = 6) M M' → (∀ x, j ≤ x → x < d.1 → M' 6 x = dy_ch d x) → hd_Go mX0_tallyCheers 9 [some (.ref 1), some (.int (wsm (d.2.2.2.2.2 2) j (d.1 - j))), some (.int (nI j - 1))] [] M' N (fun r M1 N1 => r = none ∧ N1 = N ∧ fr (fun c _ => c = 6) M M1 ∧ ∀ i, i < d.1 → M1 6 i = dy_ch d i) := by
  intro j
  induction j with
  | zero =>
    intro M' _ hf hx
    refine hd_go kX0_tallyCheers 999 (fun _ => rfl) rfl trivial ?_
    refine hd_ju kX0_tallyCheers (fun _ => rfl) (fun c => ?_) (fun c => ?_)
    · exact hd_en_ kX0_tallyCheers (fun _ => rfl) trivial ⟨rfl, rfl, hf, fun i hi => hx i (Nat.zero_le _) hi⟩
    · exact absurd (by decide) c
  | succ j ih =>
    intro M' hj hf hx
    rw [nI_pred]
    have ej : (nI j).toNatClampNeg = j := nI_clamp (by omega)
    have hv : vp_in (nI j) 7 := vp_in_nI (by omega) (by decide)
    have r1 : ∀ x, M' 2 x = M 2 x := fun x => hf 2 x (by simp)
    have r2 : ∀ x, M' 3 x = M 3 x := fun x => hf 3 x (by simp)
    have r3 : ∀ x, M' 4 x = M 4 x := fun x => hf 4 x (by simp)
    refine hd_go kX0_tallyCheers 999 (fun _ => rfl) rfl trivial ?_
    refine hd_ju kX0_tallyCheers (fun _ => rfl) (fun c => ?_) (fun c => ?_)
    · exact absurd c (nI_pos (by omega))
    refine hd_go kX0_tallyCheers 999 (fun _ => rfl) rfl trivial ?_
    refine hd_ci kX0_tallyCheers qX0_tallyCheers (fun _ => rfl) (s_cheersUnder_1 M' N j (by omega) _) ?_
    refine hd_go kX0_tallyCheers 999 (fun _ => rfl) rfl ⟨⟨trivial, hv⟩, hv⟩ ?_
    rw [ej, hd_u_n (by omega), r1, r2, r3, hd.2.2.2.2.2.1 j (by omega), hd.2.2.2.2.2.2.1 j (by omega), hd.2.2.2.2.2.2.2.1 j (by omega)]
    have e1 : wsm (d.2.2.2.2.2 2) (j + 1) (d.1 - (j + 1)) + d.2.2.2.2.2 2 j = wsm (d.2.2.2.2.2 2) j (d.1 - j) := by
      rw [show d.1 - j = (d.1 - (j + 1)) + 1 by omega, wsm, Int32.add_comm]
    rw [e1, ← Int32.sub_eq_add_neg]
    refine ih _ (by omega) (hf.up rfl) (fun x h1 h2 => ?_)
    by_cases hxj : x = j
    · subst hxj
      rw [hd_u_s]
      rfl
    · rw [hd_u_n (fun z => hxj z.2)]
      exact hx x (by omega) h2
set_option maxRecDepth 20000 in
theorem s_tally_1 (M : hd_M) (N : hd_N) (d : dy_T) (hd : hm M 1 d) (hn : d.1 ≤ 7) : hd_Ret mX0_tallyCheers [.ref 1] M N (fun r M1 N1 => r = none ∧ N1 = N ∧ fr (fun c _ => c = 6) M M1 ∧ ∀ i, i < d.1 → M1 6 i = dy_ch d i) := by
  change hd_Go mX0_tallyCheers 0 [some (.ref 1), none, none] [] M N _
  refine hd_go kX0_tallyCheers 9 (fun _ => rfl) rfl trivial ?_
  rw [hd.1]
  have := s_tally_l_1 M N d hd hn d.1 M (Nat.le_refl _) fr.rf (fun x h1 h2 => absurd h2 (Nat.not_lt.mpr h1))
  rw [Nat.sub_self, wsm] at this
  exact this
set_option maxRecDepth 20000 in
theorem s_tally_l_7 (M : hd_M) (N : hd_N) (d : dy_T) (hd : hm M 7 d) (hn : d.1 ≤ 7) : ∀ (j : Nat) (M' : hd_M), j ≤ d.1 → fr (fun c _ => c = 12) M M' → (∀ x, j ≤ x → x < d.1 → M' 12 x = dy_ch d x) → hd_Go mX0_tallyCheers 9 [some (.ref 7), some (.int (wsm (d.2.2.2.2.2 2) j (d.1 - j))), some (.int (nI j - 1))] [] M' N (fun r M1 N1 => r = none ∧ N1 = N ∧ fr (fun c _ => c = 12) M M1 ∧ ∀ i, i < d.1 → M1 12 i = dy_ch d i) := by
  intro j
  induction j with
  | zero =>
    intro M' _ hf hx
    refine hd_go kX0_tallyCheers 999 (fun _ => rfl) rfl trivial ?_
    refine hd_ju kX0_tallyCheers (fun _ => rfl) (fun c => ?_) (fun c => ?_)
    · exact hd_en_ kX0_tallyCheers (fun _ => rfl) trivial ⟨rfl, rfl, hf, fun i hi => hx i (Nat.zero_le _) hi⟩
    · exact absurd (by decide) c
  | succ j ih =>
    intro M' hj hf hx
    rw [nI_pred]
    have ej : (nI j).toNatClampNeg = j := nI_clamp (by omega)
    have hv : vp_in (nI j) 7 := vp_in_nI (by omega) (by decide)
    have r1 : ∀ x, M' 8 x = M 8 x := fun x => hf 8 x (by simp)
    have r2 : ∀ x, M' 9 x = M 9 x := fun x => hf 9 x (by simp)
    have r3 : ∀ x, M' 10 x = M 10 x := fun x => hf 10 x (by simp)
    refine hd_go kX0_tallyCheers 999 (fun _ => rfl) rfl trivial ?_
    refine hd_ju kX0_tallyCheers (fun _ => rfl) (fun c => ?_) (fun c => ?_)
    · exact absurd c (nI_pos (by omega))
    refine hd_go kX0_tallyCheers 999 (fun _ => rfl) rfl trivial ?_
    refine hd_ci kX0_tallyCheers qX0_tallyCheers (fun _ => rfl) (s_cheersUnder_7 M' N j (by omega) _) ?_
    refine hd_go kX0_tallyCheers 999 (fun _ => rfl) rfl ⟨⟨trivial, hv⟩, hv⟩ ?_
    rw [ej, hd_u_n (by omega), r1, r2, r3, hd.2.2.2.2.2.1 j (by omega), hd.2.2.2.2.2.2.1 j (by omega), hd.2.2.2.2.2.2.2.1 j (by omega)]
    have e1 : wsm (d.2.2.2.2.2 2) (j + 1) (d.1 - (j + 1)) + d.2.2.2.2.2 2 j = wsm (d.2.2.2.2.2 2) j (d.1 - j) := by
      rw [show d.1 - j = (d.1 - (j + 1)) + 1 by omega, wsm, Int32.add_comm]
    rw [e1, ← Int32.sub_eq_add_neg]
    refine ih _ (by omega) (hf.up rfl) (fun x h1 h2 => ?_)
    by_cases hxj : x = j
    · subst hxj
      rw [hd_u_s]
      rfl
    · rw [hd_u_n (fun z => hxj z.2)]
      exact hx x (by omega) h2
set_option maxRecDepth 20000 in
theorem s_tally_7 (M : hd_M) (N : hd_N) (d : dy_T) (hd : hm M 7 d) (hn : d.1 ≤ 7) : hd_Ret mX0_tallyCheers [.ref 7] M N (fun r M1 N1 => r = none ∧ N1 = N ∧ fr (fun c _ => c = 12) M M1 ∧ ∀ i, i < d.1 → M1 12 i = dy_ch d i) := by
  change hd_Go mX0_tallyCheers 0 [some (.ref 7), none, none] [] M N _
  refine hd_go kX0_tallyCheers 9 (fun _ => rfl) rfl trivial ?_
  rw [hd.1]
  have := s_tally_l_7 M N d hd hn d.1 M (Nat.le_refl _) fr.rf (fun x h1 h2 => absurd h2 (Nat.not_lt.mpr h1))
  rw [Nat.sub_self, wsm] at this
  exact this
set_option maxRecDepth 20000 in
theorem s_passOne_l_1 (N : hd_N) (n : Nat) (hn : n ≤ 7) (ot ch : Nat → Int32) (lv : Int32) (Q : hd_Q) (M : hd_M) (T : Int32) (h5 : M 1 5 = nI n) (hch : ∀ x, x < n → M 6 x = ch x) (hk : ∀ M1, fr (fun c _ => c = 5) M M1 → (∀ x, x < n → M1 5 x = if 0 < ot x then ot x - 1 else ot x) → hd_Go mX0_passOne 95 [some (.ref 1), some (.int lv), some (.int T), some (.int (nI n))] [] M1 N Q) : ∀ (m j : Nat) (s : Int32) (M' : hd_M), j + m = n → fr (fun c _ => c = 5) M M' → (∀ x, x < j → M' 5 x = if 0 < ot x then ot x - 1 else ot x) → (∀ x, j ≤ x → x < n → M' 5 x = ot x) → dy_tik ot ch j m s = T → hd_Go mX0_passOne 53 [some (.ref 1), some (.int lv), some (.int s), some (.int (nI j))] [] M' N Q := by
  intro m
  induction m with
  | zero =>
    intro j s M' hj hf h1 h2 hT
    have e5 : M' 1 5 = nI n := (hf 1 5 (by simp)).trans h5
    refine hd_go kX0_passOne 999 (fun _ => rfl) rfl trivial ?_
    refine hd_ju kX0_passOne (fun _ => rfl) (fun c => ?_) (fun c => ?_)
    · have hjn : j = n := by omega
      subst hjn
      have hs : s = T := hT
      subst hs
      exact hk M' hf h1
    · rw [e5] at c
      exact absurd (nI_le (by omega) (by omega)) c
  | succ m ih =>
    intro j s M' hj hf h1 h2 hT
    have e5 : M' 1 5 = nI n := (hf 1 5 (by simp)).trans h5
    have ej : (nI j).toNatClampNeg = j := nI_clamp (by omega)
    have hv : vp_in (nI j) 7 := vp_in_nI (by omega) (by decide)
    have eo : M' 5 j = ot j := h2 j (Nat.le_refl _) (by omega)
    have ec : M' 6 j = ch j := (hf 6 j (by simp)).trans (hch j (by omega))
    refine hd_go kX0_passOne 999 (fun _ => rfl) rfl trivial ?_
    refine hd_ju kX0_passOne (fun _ => rfl) (fun c => ?_) (fun c => ?_)
    · rw [e5] at c
      exact absurd c (nI_ge (by omega) (by omega))
    refine hd_go kX0_passOne 999 (fun _ => rfl) rfl ⟨trivial, hv⟩ ?_
    rw [ej, eo]
    rw [dy_tik] at hT
    refine hd_ju kX0_passOne (fun _ => rfl) (fun c => ?_) (fun c => ?_)
    · refine hd_go kX0_passOne 999 (fun _ => rfl) rfl trivial ?_
      have c9 : ¬ 0 < ot j := Int32.not_lt.mpr c
      rw [if_neg c9] at hT
      rw [nI_1]
      refine ih (j + 1) s M' (by omega) hf (fun x hx => ?_) (fun x hx => h2 x (by omega)) hT
      by_cases hxj : x = j
      · subst hxj
        rw [eo, if_neg c9]
      · exact h1 x (by omega)
    · have c9 : 0 < ot j := Int32.not_le.mp c
      rw [if_pos c9] at hT
      refine hd_go kX0_passOne 999 (fun _ => rfl) rfl ⟨⟨⟨trivial, hv⟩, hv⟩, hv⟩ ?_
      rw [ej, eo, ec, nI_1]
      refine ih (j + 1) _ _ (by omega) (hf.up rfl) (fun x hx => ?_) (fun x hx hx2 => ?_) hT
      · by_cases hxj : x = j
        · subst hxj
          rw [hd_u_s, if_pos c9]
        · rw [hd_u_n (fun z => hxj z.2)]
          exact h1 x (by omega)
      · rw [hd_u_n (fun z => by omega)]
        exact h2 x (by omega) hx2
set_option maxRecDepth 20000 in
theorem s_passOne_1 (M : hd_M) (N : hd_N) (d : dy_T) (hd : hm M 1 d) (ok : dy_ok d) (hch : ∀ i, i < d.1 → M 6 i = dy_ch d i) (lv : Int32) (lid : Bool) (hl : lv = if lid then 1 else 0) : hd_Ret mX0_passOne [.ref 1, .int lv] M N (fun r M1 N1 => r = none ∧ N1 = N ∧ fr (fun c _ => 1 ≤ c ∧ c ≤ 5) M M1 ∧ hm M1 1 (dy_ho lid d)) := by
  change hd_Go mX0_passOne 0 [some (.ref 1), some (.int lv), none, none] [] M N _
  obtain ⟨hn, hln, hlo, hout, -, -⟩ := ok
  -- behind the opening
  have main : ∀ Ma : hd_M, fr (fun c _ => 1 ≤ c ∧ c ≤ 5) M Ma → hm Ma 1 (dy_op lid d) → (∀ i, i < d.1 → Ma 6 i = dy_ch d i) → (∀ i, i < (dy_op lid d).2.1 → (dy_op lid d).2.2.2.2.2 3 i = 0) → hd_Go mX0_passOne 38 [some (.ref 1), some (.int lv), none, none] [] Ma N (fun r M1 N1 => r = none ∧ N1 = N ∧ fr (fun c _ => 1 ≤ c ∧ c ≤ 5) M M1 ∧ hm M1 1 (dy_ho lid d)) := by
    intro Ma hfa hma hca hlow
    have en : (dy_op lid d).1 = d.1 := by unfold dy_op; split <;> rfl
    have em : (dy_op lid d).2.2.1 = d.2.2.1 := by unfold dy_op; split <;> rfl
    have et : (dy_op lid d).2.2.2.1 = d.2.2.2.1 := by unfold dy_op; split <;> rfl
    have eh : (dy_op lid d).2.2.2.2.1 = d.2.2.2.2.1 := by unfold dy_op; split <;> rfl
    have el : (dy_op lid d).2.1 ≤ d.1 := by unfold dy_op; split <;> first | exact hln | (show d.2.1 - 1 ≤ d.1; omega)
    obtain ⟨a5, a6, a7, a8, a9, b1, b2, b3, b4⟩ := hma
    rw [en] at a5 b1 b2 b3 b4
    refine hd_go kX0_passOne 53 (fun _ => rfl) rfl trivial ?_
    rw [a6, a7, a8, em, et]
    have hsk : dy_tik ((dy_op lid d).2.2.2.2.2 3) (dy_ch d) (dy_op lid d).2.1 (d.1 - (dy_op lid d).2.1) (d.2.2.1 - d.2.2.2.1) = dy_tik ((dy_op lid d).2.2.2.2.2 3) (dy_ch d) 0 d.1 (d.2.2.1 - d.2.2.2.1) := by
      have := dy_tik_skip (ot := (dy_op lid d).2.2.2.2.2 3) (ch := dy_ch d) (dy_op lid d).2.1 (d.1 - (dy_op lid d).2.1) 0 (d.2.2.1 - d.2.2.2.1) (fun x _ h2 => by rw [hlow x (by omega)]; decide)
      rw [show (dy_op lid d).2.1 + (d.1 - (dy_op lid d).2.1) = d.1 by omega, Nat.zero_add] at this
      exact this.symm
    refine s_passOne_l_1 N d.1 hn ((dy_op lid d).2.2.2.2.2 3) (dy_ch d) lv _ Ma _ a5 hca ?_ (d.1 - (dy_op lid d).2.1) (dy_op lid d).2.1 _ Ma (by omega) fr.rf (fun x hx => ?_) (fun x _ hx => b4 x hx) hsk
    · intro M1 hf1 hx1
      refine hd_go kX0_passOne 999 (fun _ => rfl) rfl trivial ?_
      refine hd_en_ kX0_passOne (fun _ => rfl) trivial ?_
      have g : ∀ c j, ¬ c = 5 → M1 c j = Ma c j := hf1
      refine ⟨rfl, rfl, ((hfa.tr (hf1.mo (fun c j h => by have h : c = 5 := h; show 1 ≤ c ∧ c ≤ 5; omega))).up (by simp)).up (by simp), ?_⟩
      refine ⟨?_, ?_, ?_, ?_, ?_, fun i hi => ?_, fun i hi => ?_, fun i hi => ?_, fun i hi => ?_⟩
      · rw [hd_u_n (by omega), hd_u_n (by omega), g _ _ (by decide)]; exact a5
      · rw [hd_u_n (by omega), hd_u_n (by omega), g _ _ (by decide)]; exact a6
      · rw [hd_u_n (by omega), hd_u_s]; exact dy_clm_eq _
      · rw [hd_u_n (by omega), hd_u_n (by omega), g _ _ (by decide), a8]; exact et
      · rw [hd_u_s, hd_u_n (by omega), g _ _ (by decide), a9, eh]; rfl
      · rw [hd_u_n (by omega), hd_u_n (by omega), g _ _ (by decide)]; exact b1 i hi
      · rw [hd_u_n (by omega), hd_u_n (by omega), g _ _ (by decide)]; exact b2 i hi
      · rw [hd_u_n (by omega), hd_u_n (by omega), g _ _ (by decide)]; exact b3 i hi
      · rw [hd_u_n (by omega), hd_u_n (by omega)]
        refine (hx1 i hi).trans ?_
        show _ = if 3 = 3 ∧ 0 < (dy_op lid d).2.2.2.2.2 3 i then (dy_op lid d).2.2.2.2.2 3 i - 1 else (dy_op lid d).2.2.2.2.2 3 i
        by_cases ho : 0 < (dy_op lid d).2.2.2.2.2 3 i
        · rw [if_pos ho, if_pos ⟨rfl, ho⟩]
        · rw [if_neg ho, if_neg (fun z => ho z.2)]
    · rw [b4 x (by omega), hlow x hx, if_neg (by decide)]
  refine hd_go kX0_passOne 999 (fun _ => rfl) rfl trivial ?_
  rw [hd.2.1]
  have hno : ¬ (lid = false ∧ 0 < d.2.1) → hd_Go mX0_passOne 38 [some (.ref 1), some (.int lv), none, none] [] M N (fun r M1 N1 => r = none ∧ N1 = N ∧ fr (fun c _ => 1 ≤ c ∧ c ≤ 5) M M1 ∧ hm M1 1 (dy_ho lid d)) := by
    intro hc
    have e : dy_op lid d = d := by unfold dy_op; rw [if_neg hc]
    exact main M fr.rf (by rw [e]; exact hd) hch (by rw [e]; exact hlo)
  refine hd_ju kX0_passOne (fun _ => rfl) (fun c => ?_) (fun c => ?_)
  · refine hno (fun z => ?_)
    exact nI_nle z.2 (by omega) c
  refine hd_go kX0_passOne 999 (fun _ => rfl) rfl trivial ?_
  refine hd_ju kX0_passOne (fun _ => rfl) (fun c2 => ?_) (fun c2 => ?_)
  · refine hno (fun z => ?_)
    rw [z.1] at hl
    exact c2 hl
  have hlid : lid = false := by
    cases lid with
    | false => rfl
    | true => rw [hl] at c2; exact absurd c2 (by decide)
  have hpos : 0 < d.2.1 := by
    rcases Nat.eq_zero_or_pos d.2.1 with z | z
    · rw [z] at c; exact absurd (by decide) c
    · exact z
  obtain ⟨a5, a6, a7, a8, a9, b1, b2, b3, b4⟩ := hd
  refine hd_go kX0_passOne 999 (fun _ => rfl) rfl trivial ?_
  have e6 : M 1 6 - 1 = nI (d.2.1 - 1) := by
    rw [a6, show d.2.1 = (d.2.1 - 1) + 1 by omega, nI_pred]
    simp
  rw [hd_u_s, e6]
  refine hd_ci kX0_passOne qX0_passOne (fun _ => rfl) (s_lastsOf_1 _ N (d.2.1 - 1) (by omega)) ?_
  refine hd_go kX0_passOne 38 (fun _ => rfl) rfl ⟨trivial, vp_in_nI (by omega) (by decide)⟩ ?_
  rw [nI_clamp (by omega), hd_u_n (by omega), b1 _ (by omega)]
  have e : dy_op lid d = (d.1, d.2.1 - 1, d.2.2.1, d.2.2.2.1, d.2.2.2.2.1, fun c i => if c = 3 ∧ i = d.2.1 - 1 then dy_lst (d.2.2.2.2.2 0 i) else d.2.2.2.2.2 c i) := by
    unfold dy_op
    rw [if_pos ⟨hlid, hpos⟩]
  refine main _ ((fr.rf.up (by simp)).up (by simp)) ?_ ?_ ?_
  · rw [e]
    refine ⟨?_, ?_, ?_, ?_, ?_, fun i hi => ?_, fun i hi => ?_, fun i hi => ?_, fun i hi => ?_⟩
    · rw [hd_u_n (by omega), hd_u_n (by omega)]; exact a5
    · rw [hd_u_n (by omega), hd_u_s]
    · rw [hd_u_n (by omega), hd_u_n (by omega)]; exact a7
    · rw [hd_u_n (by omega), hd_u_n (by omega)]; exact a8
    · rw [hd_u_n (by omega), hd_u_n (by omega)]; exact a9
    · rw [hd_u_n (by omega), hd_u_n (by omega), b1 i hi]; rfl
    · rw [hd_u_n (by omega), hd_u_n (by omega), b2 i hi]; rfl
    · rw [hd_u_n (by omega), hd_u_n (by omega), b3 i hi]; rfl
    · show _ = if 3 = 3 ∧ i = d.2.1 - 1 then dy_lst (d.2.2.2.2.2 0 i) else d.2.2.2.2.2 3 i
      by_cases hi2 : i = d.2.1 - 1
      · rw [if_pos ⟨rfl, hi2⟩, hi2, hd_u_s]
      · rw [if_neg (fun z => hi2 z.2), hd_u_n (fun z => hi2 z.2), hd_u_n (by omega)]
        exact b4 i hi
  · intro i hi
    rw [hd_u_n (by omega), hd_u_n (by omega)]
    exact hch i hi
  · rw [e]
    intro i hi
    have hi : i < d.2.1 - 1 := hi
    show (if 3 = 3 ∧ i = d.2.1 - 1 then dy_lst (d.2.2.2.2.2 0 i) else d.2.2.2.2.2 3 i) = 0
    rw [if_neg (fun z => by omega)]
    exact hlo i (by omega)
set_option maxRecDepth 20000 in
theorem s_passOne_l_7 (N : hd_N) (n : Nat) (hn : n ≤ 7) (ot ch : Nat → Int32) (lv : Int32) (Q : hd_Q) (M : hd_M) (T : Int32) (h5 : M 7 5 = nI n) (hch : ∀ x, x < n → M 12 x = ch x) (hk : ∀ M1, fr (fun c _ => c = 11) M M1 → (∀ x, x < n → M1 11 x = if 0 < ot x then ot x - 1 else ot x) → hd_Go mX0_passOne 95 [some (.ref 7), some (.int lv), some (.int T), some (.int (nI n))] [] M1 N Q) : ∀ (m j : Nat) (s : Int32) (M' : hd_M), j + m = n → fr (fun c _ => c = 11) M M' → (∀ x, x < j → M' 11 x = if 0 < ot x then ot x - 1 else ot x) → (∀ x, j ≤ x → x < n → M' 11 x = ot x) → dy_tik ot ch j m s = T → hd_Go mX0_passOne 53 [some (.ref 7), some (.int lv), some (.int s), some (.int (nI j))] [] M' N Q := by
  intro m
  induction m with
  | zero =>
    intro j s M' hj hf h1 h2 hT
    have e5 : M' 7 5 = nI n := (hf 7 5 (by simp)).trans h5
    refine hd_go kX0_passOne 999 (fun _ => rfl) rfl trivial ?_
    refine hd_ju kX0_passOne (fun _ => rfl) (fun c => ?_) (fun c => ?_)
    · have hjn : j = n := by omega
      subst hjn
      have hs : s = T := hT
      subst hs
      exact hk M' hf h1
    · rw [e5] at c
      exact absurd (nI_le (by omega) (by omega)) c
  | succ m ih =>
    intro j s M' hj hf h1 h2 hT
    have e5 : M' 7 5 = nI n := (hf 7 5 (by simp)).trans h5
    have ej : (nI j).toNatClampNeg = j := nI_clamp (by omega)
    have hv : vp_in (nI j) 7 := vp_in_nI (by omega) (by decide)
    have eo : M' 11 j = ot j := h2 j (Nat.le_refl _) (by omega)
    have ec : M' 12 j = ch j := (hf 12 j (by simp)).trans (hch j (by omega))
    refine hd_go kX0_passOne 999 (fun _ => rfl) rfl trivial ?_
    refine hd_ju kX0_passOne (fun _ => rfl) (fun c => ?_) (fun c => ?_)
    · rw [e5] at c
      exact absurd c (nI_ge (by omega) (by omega))
    refine hd_go kX0_passOne 999 (fun _ => rfl) rfl ⟨trivial, hv⟩ ?_
    rw [ej, eo]
    rw [dy_tik] at hT
    refine hd_ju kX0_passOne (fun _ => rfl) (fun c => ?_) (fun c => ?_)
    · refine hd_go kX0_passOne 999 (fun _ => rfl) rfl trivial ?_
      have c9 : ¬ 0 < ot j := Int32.not_lt.mpr c
      rw [if_neg c9] at hT
      rw [nI_1]
      refine ih (j + 1) s M' (by omega) hf (fun x hx => ?_) (fun x hx => h2 x (by omega)) hT
      by_cases hxj : x = j
      · subst hxj
        rw [eo, if_neg c9]
      · exact h1 x (by omega)
    · have c9 : 0 < ot j := Int32.not_le.mp c
      rw [if_pos c9] at hT
      refine hd_go kX0_passOne 999 (fun _ => rfl) rfl ⟨⟨⟨trivial, hv⟩, hv⟩, hv⟩ ?_
      rw [ej, eo, ec, nI_1]
      refine ih (j + 1) _ _ (by omega) (hf.up rfl) (fun x hx => ?_) (fun x hx hx2 => ?_) hT
      · by_cases hxj : x = j
        · subst hxj
          rw [hd_u_s, if_pos c9]
        · rw [hd_u_n (fun z => hxj z.2)]
          exact h1 x (by omega)
      · rw [hd_u_n (fun z => by omega)]
        exact h2 x (by omega) hx2
set_option maxRecDepth 20000 in
theorem s_passOne_7 (M : hd_M) (N : hd_N) (d : dy_T) (hd : hm M 7 d) (ok : dy_ok d) (hch : ∀ i, i < d.1 → M 12 i = dy_ch d i) (lv : Int32) (lid : Bool) (hl : lv = if lid then 1 else 0) : hd_Ret mX0_passOne [.ref 7, .int lv] M N (fun r M1 N1 => r = none ∧ N1 = N ∧ fr (fun c _ => 7 ≤ c ∧ c ≤ 11) M M1 ∧ hm M1 7 (dy_ho lid d)) := by
  change hd_Go mX0_passOne 0 [some (.ref 7), some (.int lv), none, none] [] M N _
  obtain ⟨hn, hln, hlo, hout, -, -⟩ := ok
  -- behind the opening
  have main : ∀ Ma : hd_M, fr (fun c _ => 7 ≤ c ∧ c ≤ 11) M Ma → hm Ma 7 (dy_op lid d) → (∀ i, i < d.1 → Ma 12 i = dy_ch d i) → (∀ i, i < (dy_op lid d).2.1 → (dy_op lid d).2.2.2.2.2 3 i = 0) → hd_Go mX0_passOne 38 [some (.ref 7), some (.int lv), none, none] [] Ma N (fun r M1 N1 => r = none ∧ N1 = N ∧ fr (fun c _ => 7 ≤ c ∧ c ≤ 11) M M1 ∧ hm M1 7 (dy_ho lid d)) := by
    intro Ma hfa hma hca hlow
    have en : (dy_op lid d).1 = d.1 := by unfold dy_op; split <;> rfl
    have em : (dy_op lid d).2.2.1 = d.2.2.1 := by unfold dy_op; split <;> rfl
    have et : (dy_op lid d).2.2.2.1 = d.2.2.2.1 := by unfold dy_op; split <;> rfl
    have eh : (dy_op lid d).2.2.2.2.1 = d.2.2.2.2.1 := by unfold dy_op; split <;> rfl
    have el : (dy_op lid d).2.1 ≤ d.1 := by unfold dy_op; split <;> first | exact hln | (show d.2.1 - 1 ≤ d.1; omega)
    obtain ⟨a5, a6, a7, a8, a9, b1, b2, b3, b4⟩ := hma
    rw [en] at a5 b1 b2 b3 b4
    refine hd_go kX0_passOne 53 (fun _ => rfl) rfl trivial ?_
    rw [a6, a7, a8, em, et]
    have hsk : dy_tik ((dy_op lid d).2.2.2.2.2 3) (dy_ch d) (dy_op lid d).2.1 (d.1 - (dy_op lid d).2.1) (d.2.2.1 - d.2.2.2.1) = dy_tik ((dy_op lid d).2.2.2.2.2 3) (dy_ch d) 0 d.1 (d.2.2.1 - d.2.2.2.1) := by
      have := dy_tik_skip (ot := (dy_op lid d).2.2.2.2.2 3) (ch := dy_ch d) (dy_op lid d).2.1 (d.1 - (dy_op lid d).2.1) 0 (d.2.2.1 - d.2.2.2.1) (fun x _ h2 => by rw [hlow x (by omega)]; decide)
      rw [show (dy_op lid d).2.1 + (d.1 - (dy_op lid d).2.1) = d.1 by omega, Nat.zero_add] at this
      exact this.symm
    refine s_passOne_l_7 N d.1 hn ((dy_op lid d).2.2.2.2.2 3) (dy_ch d) lv _ Ma _ a5 hca ?_ (d.1 - (dy_op lid d).2.1) (dy_op lid d).2.1 _ Ma (by omega) fr.rf (fun x hx => ?_) (fun x _ hx => b4 x hx) hsk
    · intro M1 hf1 hx1
      refine hd_go kX0_passOne 999 (fun _ => rfl) rfl trivial ?_
      refine hd_en_ kX0_passOne (fun _ => rfl) trivial ?_
      have g : ∀ c j, ¬ c = 11 → M1 c j = Ma c j := hf1
      refine ⟨rfl, rfl, ((hfa.tr (hf1.mo (fun c j h => by have h : c = 11 := h; show 7 ≤ c ∧ c ≤ 11; omega))).up (by simp)).up (by simp), ?_⟩
      refine ⟨?_, ?_, ?_, ?_, ?_, fun i hi => ?_, fun i hi => ?_, fun i hi => ?_, fun i hi => ?_⟩
      · rw [hd_u_n (by omega), hd_u_n (by omega), g _ _ (by decide)]; exact a5
      · rw [hd_u_n (by omega), hd_u_n (by omega), g _ _ (by decide)]; exact a6
      · rw [hd_u_n (by omega), hd_u_s]; exact dy_clm_eq _
      · rw [hd_u_n (by omega), hd_u_n (by omega), g _ _ (by decide), a8]; exact et
      · rw [hd_u_s, hd_u_n (by omega), g _ _ (by decide), a9, eh]; rfl
      · rw [hd_u_n (by omega), hd_u_n (by omega), g _ _ (by decide)]; exact b1 i hi
      · rw [hd_u_n (by omega), hd_u_n (by omega), g _ _ (by decide)]; exact b2 i hi
      · rw [hd_u_n (by omega), hd_u_n (by omega), g _ _ (by decide)]; exact b3 i hi
      · rw [hd_u_n (by omega), hd_u_n (by omega)]
        refine (hx1 i hi).trans ?_
        show _ = if 3 = 3 ∧ 0 < (dy_op lid d).2.2.2.2.2 3 i then (dy_op lid d).2.2.2.2.2 3 i - 1 else (dy_op lid d).2.2.2.2.2 3 i
        by_cases ho : 0 < (dy_op lid d).2.2.2.2.2 3 i
        · rw [if_pos ho, if_pos ⟨rfl, ho⟩]
        · rw [if_neg ho, if_neg (fun z => ho z.2)]
    · rw [b4 x (by omega), hlow x hx, if_neg (by decide)]
  refine hd_go kX0_passOne 999 (fun _ => rfl) rfl trivial ?_
  rw [hd.2.1]
  have hno : ¬ (lid = false ∧ 0 < d.2.1) → hd_Go mX0_passOne 38 [some (.ref 7), some (.int lv), none, none] [] M N (fun r M1 N1 => r = none ∧ N1 = N ∧ fr (fun c _ => 7 ≤ c ∧ c ≤ 11) M M1 ∧ hm M1 7 (dy_ho lid d)) := by
    intro hc
    have e : dy_op lid d = d := by unfold dy_op; rw [if_neg hc]
    exact main M fr.rf (by rw [e]; exact hd) hch (by rw [e]; exact hlo)
  refine hd_ju kX0_passOne (fun _ => rfl) (fun c => ?_) (fun c => ?_)
  · refine hno (fun z => ?_)
    exact nI_nle z.2 (by omega) c
  refine hd_go kX0_passOne 999 (fun _ => rfl) rfl trivial ?_
  refine hd_ju kX0_passOne (fun _ => rfl) (fun c2 => ?_) (fun c2 => ?_)
  · refine hno (fun z => ?_)
    rw [z.1] at hl
    exact c2 hl
  have hlid : lid = false := by
    cases lid with
    | false => rfl
    | true => rw [hl] at c2; exact absurd c2 (by decide)
  have hpos : 0 < d.2.1 := by
    rcases Nat.eq_zero_or_pos d.2.1 with z | z
    · rw [z] at c; exact absurd (by decide) c
    · exact z
  obtain ⟨a5, a6, a7, a8, a9, b1, b2, b3, b4⟩ := hd
  refine hd_go kX0_passOne 999 (fun _ => rfl) rfl trivial ?_
  have e6 : M 7 6 - 1 = nI (d.2.1 - 1) := by
    rw [a6, show d.2.1 = (d.2.1 - 1) + 1 by omega, nI_pred]
    simp
  rw [hd_u_s, e6]
  refine hd_ci kX0_passOne qX0_passOne (fun _ => rfl) (s_lastsOf_7 _ N (d.2.1 - 1) (by omega)) ?_
  refine hd_go kX0_passOne 38 (fun _ => rfl) rfl ⟨trivial, vp_in_nI (by omega) (by decide)⟩ ?_
  rw [nI_clamp (by omega), hd_u_n (by omega), b1 _ (by omega)]
  have e : dy_op lid d = (d.1, d.2.1 - 1, d.2.2.1, d.2.2.2.1, d.2.2.2.2.1, fun c i => if c = 3 ∧ i = d.2.1 - 1 then dy_lst (d.2.2.2.2.2 0 i) else d.2.2.2.2.2 c i) := by
    unfold dy_op
    rw [if_pos ⟨hlid, hpos⟩]
  refine main _ ((fr.rf.up (by simp)).up (by simp)) ?_ ?_ ?_
  · rw [e]
    refine ⟨?_, ?_, ?_, ?_, ?_, fun i hi => ?_, fun i hi => ?_, fun i hi => ?_, fun i hi => ?_⟩
    · rw [hd_u_n (by omega), hd_u_n (by omega)]; exact a5
    · rw [hd_u_n (by omega), hd_u_s]
    · rw [hd_u_n (by omega), hd_u_n (by omega)]; exact a7
    · rw [hd_u_n (by omega), hd_u_n (by omega)]; exact a8
    · rw [hd_u_n (by omega), hd_u_n (by omega)]; exact a9
    · rw [hd_u_n (by omega), hd_u_n (by omega), b1 i hi]; rfl
    · rw [hd_u_n (by omega), hd_u_n (by omega), b2 i hi]; rfl
    · rw [hd_u_n (by omega), hd_u_n (by omega), b3 i hi]; rfl
    · show _ = if 3 = 3 ∧ i = d.2.1 - 1 then dy_lst (d.2.2.2.2.2 0 i) else d.2.2.2.2.2 3 i
      by_cases hi2 : i = d.2.1 - 1
      · rw [if_pos ⟨rfl, hi2⟩, hi2, hd_u_s]
      · rw [if_neg (fun z => hi2 z.2), hd_u_n (fun z => hi2 z.2), hd_u_n (by omega)]
        exact b4 i hi
  · intro i hi
    rw [hd_u_n (by omega), hd_u_n (by omega)]
    exact hch i hi
  · rw [e]
    intro i hi
    have hi : i < d.2.1 - 1 := hi
    show (if 3 = 3 ∧ i = d.2.1 - 1 then dy_lst (d.2.2.2.2.2 0 i) else d.2.2.2.2.2 3 i) = 0
    rw [if_neg (fun z => by omega)]
    exact hlo i (by omega)
