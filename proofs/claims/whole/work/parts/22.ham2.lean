/-! THE HAMPER'S METHODS THAT CHANGE IT; printed by wip/whole/ham2.py -/
theorem dy_bits_0 {p : Nat → Bool} : ∀ n : Nat, (∀ i, i < n → p i = false) → dy_bits p n = 0 := by
  intro n
  induction n with
  | zero => intro _; rfl
  | succ n ih => intro h; rw [dy_bits, h n (Nat.lt_succ_self n)]; exact ih (fun i hi => h i (Nat.lt_succ_of_lt hi))
set_option maxRecDepth 20000 in
theorem s_pass_l_1 (N : hd_N) (n : Nat) (hn : n ≤ 60) (M : hd_M) : ∀ (m j : Nat) (d : dy_T) (M' : hd_M), j + m = n → fr (fun c _ => 1 ≤ c ∧ c ≤ 6) M M' → hm M' 1 d → dy_ok d → (∀ i, i < d.1 → M' 6 i = dy_ch d i) → hd_Go mX0_pass 6 [some (.ref 1), some (.int (nI n)), some (.int (nI j))] [] M' N (fun r M1 N1 => r = some (.int (dy_hs m d).2.2.1) ∧ N1 = N ∧ fr (fun c _ => 1 ≤ c ∧ c ≤ 6) M M1 ∧ hm M1 1 (dy_hs m d)) := by
  intro m
  induction m with
  | zero =>
    intro j d M' hj hf hd ok hch
    refine hd_go kX0_pass 999 (fun _ => rfl) rfl trivial ?_
    refine hd_ju kX0_pass (fun _ => rfl) (fun c => ?_) (fun c => ?_)
    · refine hd_go kX0_pass 999 (fun _ => rfl) rfl trivial ?_
      refine hd_en_ kX0_pass (fun _ => rfl) trivial ⟨?_, rfl, hf, hd⟩
      rw [hd.2.2.1]; rfl
    · exact absurd (nI_le (by omega) (by omega)) c
  | succ m ih =>
    intro j d M' hj hf hd ok hch
    refine hd_go kX0_pass 999 (fun _ => rfl) rfl trivial ?_
    refine hd_ju kX0_pass (fun _ => rfl) (fun c => ?_) (fun c => ?_)
    · exact absurd c (nI_ge (by omega) (by omega))
    refine hd_go kX0_pass 999 (fun _ => rfl) rfl trivial ?_
    refine hd_ca kX0_pass qX0_pass (fun _ => rfl) (s_passOne_1 M' N d hd ok hch 0 false rfl) ?_
    rintro r M1 N1 ⟨rfl, rfl, hf1, hd1⟩
    refine hd_go kX0_pass 999 (fun _ => rfl) rfl trivial ?_
    rw [nI_1]
    refine ih (j + 1) (dy_ho false d) M1 (by omega) (hf.tr (hf1.mo (fun c x h => ⟨h.1, Nat.le_succ_of_le h.2⟩))) hd1 (dy_ok_ho ok) (fun i hi => ?_)
    rw [hf1 6 i (by simp), dy_ch_ho]
    exact hch i hi
set_option maxRecDepth 20000 in
theorem s_pass_1 (M : hd_M) (N : hd_N) (d : dy_T) (hd : hm M 1 d) (ok : dy_ok d) (n : Nat) (hn : n ≤ 60) : hd_Ret mX0_pass [.ref 1, .int (nI n)] M N (fun r M1 N1 => r = some (.int (dy_hs n d).2.2.1) ∧ N1 = N ∧ fr (fun c _ => 1 ≤ c ∧ c ≤ 6) M M1 ∧ hm M1 1 (dy_hs n d)) := by
  change hd_Go mX0_pass 0 [some (.ref 1), some (.int (nI n)), none] [] M N _
  refine hd_go kX0_pass 999 (fun _ => rfl) rfl trivial ?_
  refine hd_ca kX0_pass qX0_pass (fun _ => rfl) (s_tally_1 M N d hd ok.1) ?_
  rintro r M1 N1 ⟨rfl, rfl, hf1, hch⟩
  refine hd_go kX0_pass 6 (fun _ => rfl) rfl trivial ?_
  exact s_pass_l_1 N1 n hn M n 0 d M1 (by omega) (hf1.mo (fun c x h => by have h : c = 6 := h; show 1 ≤ c ∧ c ≤ 6; omega)) (hd.mv (fun c x h1 h2 => hf1 c x (by show ¬ c = 6; omega))) ok hch
set_option maxRecDepth 20000 in
theorem s_pass_l_7 (N : hd_N) (n : Nat) (hn : n ≤ 60) (M : hd_M) : ∀ (m j : Nat) (d : dy_T) (M' : hd_M), j + m = n → fr (fun c _ => 7 ≤ c ∧ c ≤ 12) M M' → hm M' 7 d → dy_ok d → (∀ i, i < d.1 → M' 12 i = dy_ch d i) → hd_Go mX0_pass 6 [some (.ref 7), some (.int (nI n)), some (.int (nI j))] [] M' N (fun r M1 N1 => r = some (.int (dy_hs m d).2.2.1) ∧ N1 = N ∧ fr (fun c _ => 7 ≤ c ∧ c ≤ 12) M M1 ∧ hm M1 7 (dy_hs m d)) := by
  intro m
  induction m with
  | zero =>
    intro j d M' hj hf hd ok hch
    refine hd_go kX0_pass 999 (fun _ => rfl) rfl trivial ?_
    refine hd_ju kX0_pass (fun _ => rfl) (fun c => ?_) (fun c => ?_)
    · refine hd_go kX0_pass 999 (fun _ => rfl) rfl trivial ?_
      refine hd_en_ kX0_pass (fun _ => rfl) trivial ⟨?_, rfl, hf, hd⟩
      rw [hd.2.2.1]; rfl
    · exact absurd (nI_le (by omega) (by omega)) c
  | succ m ih =>
    intro j d M' hj hf hd ok hch
    refine hd_go kX0_pass 999 (fun _ => rfl) rfl trivial ?_
    refine hd_ju kX0_pass (fun _ => rfl) (fun c => ?_) (fun c => ?_)
    · exact absurd c (nI_ge (by omega) (by omega))
    refine hd_go kX0_pass 999 (fun _ => rfl) rfl trivial ?_
    refine hd_ca kX0_pass qX0_pass (fun _ => rfl) (s_passOne_7 M' N d hd ok hch 0 false rfl) ?_
    rintro r M1 N1 ⟨rfl, rfl, hf1, hd1⟩
    refine hd_go kX0_pass 999 (fun _ => rfl) rfl trivial ?_
    rw [nI_1]
    refine ih (j + 1) (dy_ho false d) M1 (by omega) (hf.tr (hf1.mo (fun c x h => ⟨h.1, Nat.le_succ_of_le h.2⟩))) hd1 (dy_ok_ho ok) (fun i hi => ?_)
    rw [hf1 12 i (by simp), dy_ch_ho]
    exact hch i hi
set_option maxRecDepth 20000 in
theorem s_pass_7 (M : hd_M) (N : hd_N) (d : dy_T) (hd : hm M 7 d) (ok : dy_ok d) (n : Nat) (hn : n ≤ 60) : hd_Ret mX0_pass [.ref 7, .int (nI n)] M N (fun r M1 N1 => r = some (.int (dy_hs n d).2.2.1) ∧ N1 = N ∧ fr (fun c _ => 7 ≤ c ∧ c ≤ 12) M M1 ∧ hm M1 7 (dy_hs n d)) := by
  change hd_Go mX0_pass 0 [some (.ref 7), some (.int (nI n)), none] [] M N _
  refine hd_go kX0_pass 999 (fun _ => rfl) rfl trivial ?_
  refine hd_ca kX0_pass qX0_pass (fun _ => rfl) (s_tally_7 M N d hd ok.1) ?_
  rintro r M1 N1 ⟨rfl, rfl, hf1, hch⟩
  refine hd_go kX0_pass 6 (fun _ => rfl) rfl trivial ?_
  exact s_pass_l_7 N1 n hn M n 0 d M1 (by omega) (hf1.mo (fun c x h => by have h : c = 12 := h; show 7 ≤ c ∧ c ≤ 12; omega)) (hd.mv (fun c x h1 h2 => hf1 c x (by show ¬ c = 12; omega))) ok hch
set_option maxRecDepth 20000 in
theorem s_change_1 (M : hd_M) (N : hd_N) (i w : Nat) (hi : i < 7) (hw : w < 3) (v : Int32) : hd_Ret mX0_change [.ref 1, .int (nI i), .int (nI w), .int v] M N (fun r M1 N1 => r = some (.int (M (2 + w) i)) ∧ M1 = hd_u M (2 + w) i v ∧ N1 = N) := by
  change hd_Go mX0_change 0 [some (.ref 1), some (.int (nI i)), some (.int (nI w)), some (.int v), none, none] [] M N _
  have ei : (nI i).toNatClampNeg = i := nI_clamp (by omega)
  have hv : vp_in (nI i) 7 := vp_in_nI hi (by decide)
  rcases (show w = 0 ∨ w = 1 ∨ w = 2 by omega) with rfl | rfl | rfl
  · refine hd_go kX0_change 999 (fun _ => rfl) rfl trivial ?_
    refine hd_ju kX0_change (fun _ => rfl) (fun c => absurd rfl c) (fun c => ?_)
    refine hd_go kX0_change 999 (fun _ => rfl) rfl trivial ?_
    refine hd_go kX0_change 999 (fun _ => rfl) rfl ⟨⟨trivial, hv⟩, hv⟩ ?_
    refine hd_en_ kX0_change (fun _ => rfl) trivial ?_
    rw [ei]
    exact ⟨rfl, rfl, rfl⟩
  · refine hd_go kX0_change 999 (fun _ => rfl) rfl trivial ?_
    refine hd_ju kX0_change (fun _ => rfl) (fun c => ?_) (fun c => absurd c (by decide))
    refine hd_go kX0_change 999 (fun _ => rfl) rfl trivial ?_
    refine hd_ju kX0_change (fun _ => rfl) (fun c => absurd rfl c) (fun c => ?_)
    refine hd_go kX0_change 999 (fun _ => rfl) rfl trivial ?_
    refine hd_go kX0_change 999 (fun _ => rfl) rfl ⟨⟨trivial, hv⟩, hv⟩ ?_
    refine hd_en_ kX0_change (fun _ => rfl) trivial ?_
    rw [ei]
    exact ⟨rfl, rfl, rfl⟩
  · refine hd_go kX0_change 999 (fun _ => rfl) rfl trivial ?_
    refine hd_ju kX0_change (fun _ => rfl) (fun c => ?_) (fun c => absurd c (by decide))
    refine hd_go kX0_change 999 (fun _ => rfl) rfl trivial ?_
    refine hd_ju kX0_change (fun _ => rfl) (fun c => ?_) (fun c => absurd c (by decide))
    refine hd_go kX0_change 999 (fun _ => rfl) rfl ⟨⟨trivial, hv⟩, hv⟩ ?_
    refine hd_en_ kX0_change (fun _ => rfl) trivial ?_
    rw [ei]
    exact ⟨rfl, rfl, rfl⟩
set_option maxRecDepth 20000 in
theorem h_set_1 {M : hd_M} {d : dy_T} (hd : hm M 1 d) (w i : Nat) (hw : w < 3) (v : Int32) : hm (hd_u M (2 + w) i v) 1 (dy_set w i v d) := by
  obtain ⟨a5, a6, a7, a8, a9, b1, b2, b3, b4⟩ := hd
  have col : ∀ (c : Nat) (x : Nat), c < 4 → M (1 + (c + 1)) x = d.2.2.2.2.2 c x → hd_u M (2 + w) i v (1 + (c + 1)) x = if c = w ∧ x = i then v else d.2.2.2.2.2 c x := by
    intro c x hc e
    unfold hd_u
    by_cases h : c = w ∧ x = i
    · rw [if_pos (by omega), if_pos h]
    · rw [if_neg (by omega), if_neg h]; exact e
  refine ⟨?_, ?_, ?_, ?_, ?_, fun x hx => ?_, fun x hx => ?_, fun x hx => ?_, fun x hx => ?_⟩
  · rw [hd_u_n (by omega)]; exact a5
  · rw [hd_u_n (by omega)]; exact a6
  · rw [hd_u_n (by omega)]; exact a7
  · rw [hd_u_n (by omega)]; exact a8
  · rw [hd_u_n (by omega)]; exact a9
  · exact col 0 x (by omega) (b1 x hx)
  · exact col 1 x (by omega) (b2 x hx)
  · exact col 2 x (by omega) (b3 x hx)
  · exact col 3 x (by omega) (b4 x hx)
set_option maxRecDepth 20000 in
theorem s_change_7 (M : hd_M) (N : hd_N) (i w : Nat) (hi : i < 7) (hw : w < 3) (v : Int32) : hd_Ret mX0_change [.ref 7, .int (nI i), .int (nI w), .int v] M N (fun r M1 N1 => r = some (.int (M (8 + w) i)) ∧ M1 = hd_u M (8 + w) i v ∧ N1 = N) := by
  change hd_Go mX0_change 0 [some (.ref 7), some (.int (nI i)), some (.int (nI w)), some (.int v), none, none] [] M N _
  have ei : (nI i).toNatClampNeg = i := nI_clamp (by omega)
  have hv : vp_in (nI i) 7 := vp_in_nI hi (by decide)
  rcases (show w = 0 ∨ w = 1 ∨ w = 2 by omega) with rfl | rfl | rfl
  · refine hd_go kX0_change 999 (fun _ => rfl) rfl trivial ?_
    refine hd_ju kX0_change (fun _ => rfl) (fun c => absurd rfl c) (fun c => ?_)
    refine hd_go kX0_change 999 (fun _ => rfl) rfl trivial ?_
    refine hd_go kX0_change 999 (fun _ => rfl) rfl ⟨⟨trivial, hv⟩, hv⟩ ?_
    refine hd_en_ kX0_change (fun _ => rfl) trivial ?_
    rw [ei]
    exact ⟨rfl, rfl, rfl⟩
  · refine hd_go kX0_change 999 (fun _ => rfl) rfl trivial ?_
    refine hd_ju kX0_change (fun _ => rfl) (fun c => ?_) (fun c => absurd c (by decide))
    refine hd_go kX0_change 999 (fun _ => rfl) rfl trivial ?_
    refine hd_ju kX0_change (fun _ => rfl) (fun c => absurd rfl c) (fun c => ?_)
    refine hd_go kX0_change 999 (fun _ => rfl) rfl trivial ?_
    refine hd_go kX0_change 999 (fun _ => rfl) rfl ⟨⟨trivial, hv⟩, hv⟩ ?_
    refine hd_en_ kX0_change (fun _ => rfl) trivial ?_
    rw [ei]
    exact ⟨rfl, rfl, rfl⟩
  · refine hd_go kX0_change 999 (fun _ => rfl) rfl trivial ?_
    refine hd_ju kX0_change (fun _ => rfl) (fun c => ?_) (fun c => absurd c (by decide))
    refine hd_go kX0_change 999 (fun _ => rfl) rfl trivial ?_
    refine hd_ju kX0_change (fun _ => rfl) (fun c => ?_) (fun c => absurd c (by decide))
    refine hd_go kX0_change 999 (fun _ => rfl) rfl ⟨⟨trivial, hv⟩, hv⟩ ?_
    refine hd_en_ kX0_change (fun _ => rfl) trivial ?_
    rw [ei]
    exact ⟨rfl, rfl, rfl⟩
set_option maxRecDepth 20000 in
theorem h_set_7 {M : hd_M} {d : dy_T} (hd : hm M 7 d) (w i : Nat) (hw : w < 3) (v : Int32) : hm (hd_u M (8 + w) i v) 7 (dy_set w i v d) := by
  obtain ⟨a5, a6, a7, a8, a9, b1, b2, b3, b4⟩ := hd
  have col : ∀ (c : Nat) (x : Nat), c < 4 → M (7 + (c + 1)) x = d.2.2.2.2.2 c x → hd_u M (8 + w) i v (7 + (c + 1)) x = if c = w ∧ x = i then v else d.2.2.2.2.2 c x := by
    intro c x hc e
    unfold hd_u
    by_cases h : c = w ∧ x = i
    · rw [if_pos (by omega), if_pos h]
    · rw [if_neg (by omega), if_neg h]; exact e
  refine ⟨?_, ?_, ?_, ?_, ?_, fun x hx => ?_, fun x hx => ?_, fun x hx => ?_, fun x hx => ?_⟩
  · rw [hd_u_n (by omega)]; exact a5
  · rw [hd_u_n (by omega)]; exact a6
  · rw [hd_u_n (by omega)]; exact a7
  · rw [hd_u_n (by omega)]; exact a8
  · rw [hd_u_n (by omega)]; exact a9
  · exact col 0 x (by omega) (b1 x hx)
  · exact col 1 x (by omega) (b2 x hx)
  · exact col 2 x (by omega) (b3 x hx)
  · exact col 3 x (by omega) (b4 x hx)
set_option maxRecDepth 20000 in
theorem s_add_1 (M : hd_M) (N : hd_N) (d : dy_T) (hd : hm M 1 d) (hn : d.1 ≤ 7) (kd gd wt : Int32) : hd_Ret mX0_add [.ref 1, .int kd, .int gd, .int wt] M N (fun r M1 N1 => N1 = N ∧ ((d.1 = 7 ∧ r = some (.int 0) ∧ M1 = M) ∨ (d.1 < 7 ∧ r = some (.int 1) ∧ fr (fun c _ => 1 ≤ c ∧ c ≤ 5) M M1 ∧ hm M1 1 (dy_add kd gd wt d)))) := by
  change hd_Go mX0_add 0 [some (.ref 1), some (.int kd), some (.int gd), some (.int wt)] [] M N _
  obtain ⟨a5, a6, a7, a8, a9, b1, b2, b3, b4⟩ := hd
  refine hd_go kX0_add 999 (fun _ => rfl) rfl trivial ?_
  rw [a5]
  refine hd_ju kX0_add (fun _ => rfl) (fun c => ?_) (fun c => ?_)
  · have hlt : d.1 < 7 := by
      rcases Nat.lt_or_ge d.1 7 with z | z
      · exact z
      · exact absurd c (nI_nlt (b := 7) z (by omega))
    have ej : (nI d.1).toNatClampNeg = d.1 := nI_clamp (by omega)
    have hv : vp_in (nI d.1) 7 := vp_in_nI hlt (by decide)
    have e5 : ∀ (c j : Nat) (x : Int32), ¬ c = 1 → hd_u M c j x 1 5 = nI d.1 := fun c j x h => by rw [hd_u_n (by omega)]; exact a5
    refine hd_go kX0_add 999 (fun _ => rfl) rfl ?_ ?_
    · rw [a5, ej]
      refine ⟨⟨⟨⟨trivial, hv⟩, ?_⟩, ?_⟩, ?_⟩
      · rw [hd_u_n (by omega), a5]; exact hv
      · rw [hd_u_n (by omega), hd_u_n (by omega), a5]; exact hv
      · rw [hd_u_n (by omega), hd_u_n (by omega), hd_u_n (by omega), a5]; exact hv
    refine hd_en_ kX0_add (fun _ => rfl) (Or.inr rfl) ⟨rfl, Or.inr ⟨hlt, rfl, ?_, ?_⟩⟩
    · exact (((((fr.rf.up (by simp)).up (by simp)).up (by simp)).up (by simp)).up (by simp)).up (by simp)
    · have g : ∀ (M : hd_M) (j : Nat) (x : Int32) (c : Nat), ¬ c = 1 → hd_u M c j x 1 5 = M 1 5 := fun M j x c h => hd_u_n (by omega)
      simp only [g _ _ _ _ (show ¬ 2 = 1 by decide), g _ _ _ _ (show ¬ 3 = 1 by decide), g _ _ _ _ (show ¬ 4 = 1 by decide), g _ _ _ _ (show ¬ 5 = 1 by decide), hd_u_s, a5, ej, nI_1]
      refine ⟨?_, ?_, ?_, ?_, ?_, fun x hx => ?_, fun x hx => ?_, fun x hx => ?_, fun x hx => ?_⟩
      · rw [hd_u_n (by omega), hd_u_s]; rfl
      · rw [hd_u_s]; rfl
      · rw [hd_u_n (by omega), hd_u_n (by omega), hd_u_n (by omega), hd_u_n (by omega), hd_u_n (by omega), hd_u_n (by omega)]; exact a7
      · rw [hd_u_n (by omega), hd_u_n (by omega), hd_u_n (by omega), hd_u_n (by omega), hd_u_n (by omega), hd_u_n (by omega)]; exact a8
      · rw [hd_u_n (by omega), hd_u_n (by omega), hd_u_n (by omega), hd_u_n (by omega), hd_u_n (by omega), hd_u_n (by omega)]; exact a9
      · have hx : x < d.1 + 1 := hx
        show _ = if x = d.1 then kd else d.2.2.2.2.2 0 x
        by_cases e : x = d.1
        · rw [if_pos e, e, hd_u_n (by omega), hd_u_n (by omega), hd_u_n (by omega), hd_u_n (by omega), hd_u_n (by omega), hd_u_s]
        · rw [if_neg e, hd_u_n (by omega), hd_u_n (by omega), hd_u_n (by omega), hd_u_n (by omega), hd_u_n (by omega), hd_u_n (by omega)]; exact b1 x (by omega)
      · have hx : x < d.1 + 1 := hx
        show _ = if x = d.1 then gd else d.2.2.2.2.2 1 x
        by_cases e : x = d.1
        · rw [if_pos e, e, hd_u_n (by omega), hd_u_n (by omega), hd_u_n (by omega), hd_u_n (by omega), hd_u_s]
        · rw [if_neg e, hd_u_n (by omega), hd_u_n (by omega), hd_u_n (by omega), hd_u_n (by omega), hd_u_n (by omega), hd_u_n (by omega)]; exact b2 x (by omega)
      · have hx : x < d.1 + 1 := hx
        show _ = if x = d.1 then wt else d.2.2.2.2.2 2 x
        by_cases e : x = d.1
        · rw [if_pos e, e, hd_u_n (by omega), hd_u_n (by omega), hd_u_n (by omega), hd_u_s]
        · rw [if_neg e, hd_u_n (by omega), hd_u_n (by omega), hd_u_n (by omega), hd_u_n (by omega), hd_u_n (by omega), hd_u_n (by omega)]; exact b3 x (by omega)
      · have hx : x < d.1 + 1 := hx
        show _ = if x = d.1 then 0 else d.2.2.2.2.2 3 x
        by_cases e : x = d.1
        · rw [if_pos e, e, hd_u_n (by omega), hd_u_n (by omega), hd_u_s]
        · rw [if_neg e, hd_u_n (by omega), hd_u_n (by omega), hd_u_n (by omega), hd_u_n (by omega), hd_u_n (by omega), hd_u_n (by omega)]; exact b4 x (by omega)
  · have hge : d.1 = 7 := by
      rcases Nat.lt_or_ge d.1 7 with z | z
      · exact absurd (nI_lt (b := 7) z (by omega)) c
      · omega
    refine hd_go kX0_add 999 (fun _ => rfl) rfl trivial ?_
    exact hd_en_ kX0_add (fun _ => rfl) (Or.inl rfl) ⟨rfl, Or.inl ⟨hge, rfl, rfl⟩⟩
set_option maxRecDepth 20000 in
theorem s_add_7 (M : hd_M) (N : hd_N) (d : dy_T) (hd : hm M 7 d) (hn : d.1 ≤ 7) (kd gd wt : Int32) : hd_Ret mX0_add [.ref 7, .int kd, .int gd, .int wt] M N (fun r M1 N1 => N1 = N ∧ ((d.1 = 7 ∧ r = some (.int 0) ∧ M1 = M) ∨ (d.1 < 7 ∧ r = some (.int 1) ∧ fr (fun c _ => 7 ≤ c ∧ c ≤ 11) M M1 ∧ hm M1 7 (dy_add kd gd wt d)))) := by
  change hd_Go mX0_add 0 [some (.ref 7), some (.int kd), some (.int gd), some (.int wt)] [] M N _
  obtain ⟨a5, a6, a7, a8, a9, b1, b2, b3, b4⟩ := hd
  refine hd_go kX0_add 999 (fun _ => rfl) rfl trivial ?_
  rw [a5]
  refine hd_ju kX0_add (fun _ => rfl) (fun c => ?_) (fun c => ?_)
  · have hlt : d.1 < 7 := by
      rcases Nat.lt_or_ge d.1 7 with z | z
      · exact z
      · exact absurd c (nI_nlt (b := 7) z (by omega))
    have ej : (nI d.1).toNatClampNeg = d.1 := nI_clamp (by omega)
    have hv : vp_in (nI d.1) 7 := vp_in_nI hlt (by decide)
    have e5 : ∀ (c j : Nat) (x : Int32), ¬ c = 7 → hd_u M c j x 7 5 = nI d.1 := fun c j x h => by rw [hd_u_n (by omega)]; exact a5
    refine hd_go kX0_add 999 (fun _ => rfl) rfl ?_ ?_
    · rw [a5, ej]
      refine ⟨⟨⟨⟨trivial, hv⟩, ?_⟩, ?_⟩, ?_⟩
      · rw [hd_u_n (by omega), a5]; exact hv
      · rw [hd_u_n (by omega), hd_u_n (by omega), a5]; exact hv
      · rw [hd_u_n (by omega), hd_u_n (by omega), hd_u_n (by omega), a5]; exact hv
    refine hd_en_ kX0_add (fun _ => rfl) (Or.inr rfl) ⟨rfl, Or.inr ⟨hlt, rfl, ?_, ?_⟩⟩
    · exact (((((fr.rf.up (by simp)).up (by simp)).up (by simp)).up (by simp)).up (by simp)).up (by simp)
    · have g : ∀ (M : hd_M) (j : Nat) (x : Int32) (c : Nat), ¬ c = 7 → hd_u M c j x 7 5 = M 7 5 := fun M j x c h => hd_u_n (by omega)
      simp only [g _ _ _ _ (show ¬ 8 = 7 by decide), g _ _ _ _ (show ¬ 9 = 7 by decide), g _ _ _ _ (show ¬ 10 = 7 by decide), g _ _ _ _ (show ¬ 11 = 7 by decide), hd_u_s, a5, ej, nI_1]
      refine ⟨?_, ?_, ?_, ?_, ?_, fun x hx => ?_, fun x hx => ?_, fun x hx => ?_, fun x hx => ?_⟩
      · rw [hd_u_n (by omega), hd_u_s]; rfl
      · rw [hd_u_s]; rfl
      · rw [hd_u_n (by omega), hd_u_n (by omega), hd_u_n (by omega), hd_u_n (by omega), hd_u_n (by omega), hd_u_n (by omega)]; exact a7
      · rw [hd_u_n (by omega), hd_u_n (by omega), hd_u_n (by omega), hd_u_n (by omega), hd_u_n (by omega), hd_u_n (by omega)]; exact a8
      · rw [hd_u_n (by omega), hd_u_n (by omega), hd_u_n (by omega), hd_u_n (by omega), hd_u_n (by omega), hd_u_n (by omega)]; exact a9
      · have hx : x < d.1 + 1 := hx
        show _ = if x = d.1 then kd else d.2.2.2.2.2 0 x
        by_cases e : x = d.1
        · rw [if_pos e, e, hd_u_n (by omega), hd_u_n (by omega), hd_u_n (by omega), hd_u_n (by omega), hd_u_n (by omega), hd_u_s]
        · rw [if_neg e, hd_u_n (by omega), hd_u_n (by omega), hd_u_n (by omega), hd_u_n (by omega), hd_u_n (by omega), hd_u_n (by omega)]; exact b1 x (by omega)
      · have hx : x < d.1 + 1 := hx
        show _ = if x = d.1 then gd else d.2.2.2.2.2 1 x
        by_cases e : x = d.1
        · rw [if_pos e, e, hd_u_n (by omega), hd_u_n (by omega), hd_u_n (by omega), hd_u_n (by omega), hd_u_s]
        · rw [if_neg e, hd_u_n (by omega), hd_u_n (by omega), hd_u_n (by omega), hd_u_n (by omega), hd_u_n (by omega), hd_u_n (by omega)]; exact b2 x (by omega)
      · have hx : x < d.1 + 1 := hx
        show _ = if x = d.1 then wt else d.2.2.2.2.2 2 x
        by_cases e : x = d.1
        · rw [if_pos e, e, hd_u_n (by omega), hd_u_n (by omega), hd_u_n (by omega), hd_u_s]
        · rw [if_neg e, hd_u_n (by omega), hd_u_n (by omega), hd_u_n (by omega), hd_u_n (by omega), hd_u_n (by omega), hd_u_n (by omega)]; exact b3 x (by omega)
      · have hx : x < d.1 + 1 := hx
        show _ = if x = d.1 then 0 else d.2.2.2.2.2 3 x
        by_cases e : x = d.1
        · rw [if_pos e, e, hd_u_n (by omega), hd_u_n (by omega), hd_u_s]
        · rw [if_neg e, hd_u_n (by omega), hd_u_n (by omega), hd_u_n (by omega), hd_u_n (by omega), hd_u_n (by omega), hd_u_n (by omega)]; exact b4 x (by omega)
  · have hge : d.1 = 7 := by
      rcases Nat.lt_or_ge d.1 7 with z | z
      · exact absurd (nI_lt (b := 7) z (by omega)) c
      · omega
    refine hd_go kX0_add 999 (fun _ => rfl) rfl trivial ?_
    exact hd_en_ kX0_add (fun _ => rfl) (Or.inl rfl) ⟨rfl, Or.inl ⟨hge, rfl, rfl⟩⟩
set_option maxRecDepth 20000 in
theorem s_bring_l_1 (N : hd_N) (n : Nat) (hn : n ≤ 7) (M : hd_M) (h5 : M 1 5 = nI n) : ∀ (m j : Nat) (M' : hd_M), j + m = n → fr (fun c _ => c = 5) M M' → (∀ x, x < j → M' 5 x = 0) → hd_Go mX0_bringAllIn 10 [some (.ref 1), some (.int (nI j))] [] M' N (fun r M1 N1 => r = none ∧ N1 = N ∧ fr (fun c _ => c = 5) M M1 ∧ ∀ x, x < n → M1 5 x = 0) := by
  intro m
  induction m with
  | zero =>
    intro j M' hj hf hx
    have e5 : M' 1 5 = nI n := (hf 1 5 (by simp)).trans h5
    refine hd_go kX0_bringAllIn 999 (fun _ => rfl) rfl trivial ?_
    refine hd_ju kX0_bringAllIn (fun _ => rfl) (fun c => ?_) (fun c => ?_)
    · exact hd_en_ kX0_bringAllIn (fun _ => rfl) trivial ⟨rfl, rfl, hf, fun x h => hx x (by omega)⟩
    · rw [e5] at c
      exact absurd (nI_le (by omega) (by omega)) c
  | succ m ih =>
    intro j M' hj hf hx
    have e5 : M' 1 5 = nI n := (hf 1 5 (by simp)).trans h5
    refine hd_go kX0_bringAllIn 999 (fun _ => rfl) rfl trivial ?_
    refine hd_ju kX0_bringAllIn (fun _ => rfl) (fun c => ?_) (fun c => ?_)
    · rw [e5] at c
      exact absurd c (nI_ge (by omega) (by omega))
    refine hd_go kX0_bringAllIn 999 (fun _ => rfl) rfl ⟨trivial, vp_in_nI (by omega) (by decide)⟩ ?_
    rw [nI_clamp (by omega), nI_1]
    refine ih (j + 1) _ (by omega) (hf.up rfl) (fun x h => ?_)
    by_cases e : x = j
    · rw [e, hd_u_s]
    · rw [hd_u_n (fun z => e z.2)]; exact hx x (by omega)
set_option maxRecDepth 20000 in
theorem s_bring_1 (M : hd_M) (N : hd_N) (d : dy_T) (hd : hm M 1 d) (hn : d.1 ≤ 7) : hd_Ret mX0_bringAllIn [.ref 1] M N (fun r M1 N1 => r = none ∧ N1 = N ∧ fr (fun c _ => 1 ≤ c ∧ c ≤ 5) M M1 ∧ hm M1 1 (dy_in d)) := by
  change hd_Go mX0_bringAllIn 0 [some (.ref 1), none] [] M N _
  obtain ⟨a5, a6, a7, a8, a9, b1, b2, b3, b4⟩ := hd
  refine hd_go kX0_bringAllIn 10 (fun _ => rfl) rfl trivial ?_
  refine hd_Go.post ?_ (s_bring_l_1 N d.1 hn (hd_u M 1 6 (M 1 5)) (by rw [hd_u_n (by omega)]; exact a5) d.1 0 _ (by omega) fr.rf (fun x h => absurd h (Nat.not_lt_zero x)))
  rintro r M1 N1 ⟨rfl, rfl, hf, hx⟩
  have g : ∀ c j, ¬ c = 5 → M1 c j = hd_u M 1 6 (M 1 5) c j := hf
  refine ⟨rfl, rfl, (fr.up fr.rf (by simp)).tr (hf.mo (fun c j h => by have h : c = 5 := h; show 1 ≤ c ∧ c ≤ 5; omega)), ?_⟩
  refine ⟨?_, ?_, ?_, ?_, ?_, fun i hi => ?_, fun i hi => ?_, fun i hi => ?_, fun i hi => ?_⟩
  · rw [g _ _ (by decide), hd_u_n (by omega)]; exact a5
  · rw [g _ _ (by decide), hd_u_s, a5]; rfl
  · rw [g _ _ (by decide), hd_u_n (by omega)]; exact a7
  · rw [g _ _ (by decide), hd_u_n (by omega)]; exact a8
  · rw [g _ _ (by decide), hd_u_n (by omega)]; exact a9
  · rw [g _ _ (by decide), hd_u_n (by omega)]; exact b1 i hi
  · rw [g _ _ (by decide), hd_u_n (by omega)]; exact b2 i hi
  · rw [g _ _ (by decide), hd_u_n (by omega)]; exact b3 i hi
  · exact hx i hi
set_option maxRecDepth 20000 in
theorem s_shrink_1 (M : hd_M) (N : hd_N) (d : dy_T) (hd : hm M 1 d) (hn : d.1 ≤ 7) (m : Nat) (hm7 : m ≤ 7) : hd_Ret mX0_shrinkTo [.ref 1, .int (nI m)] M N (fun r M1 N1 => r = none ∧ N1 = N ∧ fr (fun c _ => c = 1) M M1 ∧ hm M1 1 (if m < d.1 then dy_shr m d else d)) := by
  change hd_Go mX0_shrinkTo 0 [some (.ref 1), some (.int (nI m))] [] M N _
  refine hd_go kX0_shrinkTo 999 (fun _ => rfl) rfl trivial ?_
  rw [hd.1]
  refine hd_ju kX0_shrinkTo (fun _ => rfl) (fun c => ?_) (fun c => ?_)
  · have hge : ¬ m < d.1 := fun z => nI_ge z (by omega) c
    exact hd_en_ kX0_shrinkTo (fun _ => rfl) trivial ⟨rfl, rfl, fr.rf, by rw [if_neg hge]; exact hd⟩
  · have hlt : m < d.1 := by
      rcases Nat.lt_or_ge m d.1 with z | z
      · exact z
      · exact absurd (nI_le z (by omega)) c
    obtain ⟨a5, a6, a7, a8, a9, b1, b2, b3, b4⟩ := hd
    refine hd_go kX0_shrinkTo 999 (fun _ => rfl) rfl trivial ?_
    refine hd_en_ kX0_shrinkTo (fun _ => rfl) trivial ⟨rfl, rfl, (fr.rf.up (by simp)).up (by simp), ?_⟩
    rw [if_pos hlt]
    refine ⟨?_, ?_, ?_, ?_, ?_, fun i hi => ?_, fun i hi => ?_, fun i hi => ?_, fun i hi => ?_⟩
    · rw [hd_u_n (by omega), hd_u_s]; rfl
    · rw [hd_u_s]; rfl
    · rw [hd_u_n (by omega), hd_u_n (by omega)]; exact a7
    · rw [hd_u_n (by omega), hd_u_n (by omega)]; exact a8
    · rw [hd_u_n (by omega), hd_u_n (by omega)]; exact a9
    · rw [hd_u_n (by omega), hd_u_n (by omega)]; exact b1 i (Nat.lt_trans hi hlt)
    · rw [hd_u_n (by omega), hd_u_n (by omega)]; exact b2 i (Nat.lt_trans hi hlt)
    · rw [hd_u_n (by omega), hd_u_n (by omega)]; exact b3 i (Nat.lt_trans hi hlt)
    · rw [hd_u_n (by omega), hd_u_n (by omega)]; exact b4 i (Nat.lt_trans hi hlt)
set_option maxRecDepth 20000 in
theorem s_bring_l_7 (N : hd_N) (n : Nat) (hn : n ≤ 7) (M : hd_M) (h5 : M 7 5 = nI n) : ∀ (m j : Nat) (M' : hd_M), j + m = n → fr (fun c _ => c = 11) M M' → (∀ x, x < j → M' 11 x = 0) → hd_Go mX0_bringAllIn 10 [some (.ref 7), some (.int (nI j))] [] M' N (fun r M1 N1 => r = none ∧ N1 = N ∧ fr (fun c _ => c = 11) M M1 ∧ ∀ x, x < n → M1 11 x = 0) := by
  intro m
  induction m with
  | zero =>
    intro j M' hj hf hx
    have e5 : M' 7 5 = nI n := (hf 7 5 (by simp)).trans h5
    refine hd_go kX0_bringAllIn 999 (fun _ => rfl) rfl trivial ?_
    refine hd_ju kX0_bringAllIn (fun _ => rfl) (fun c => ?_) (fun c => ?_)
    · exact hd_en_ kX0_bringAllIn (fun _ => rfl) trivial ⟨rfl, rfl, hf, fun x h => hx x (by omega)⟩
    · rw [e5] at c
      exact absurd (nI_le (by omega) (by omega)) c
  | succ m ih =>
    intro j M' hj hf hx
    have e5 : M' 7 5 = nI n := (hf 7 5 (by simp)).trans h5
    refine hd_go kX0_bringAllIn 999 (fun _ => rfl) rfl trivial ?_
    refine hd_ju kX0_bringAllIn (fun _ => rfl) (fun c => ?_) (fun c => ?_)
    · rw [e5] at c
      exact absurd c (nI_ge (by omega) (by omega))
    refine hd_go kX0_bringAllIn 999 (fun _ => rfl) rfl ⟨trivial, vp_in_nI (by omega) (by decide)⟩ ?_
    rw [nI_clamp (by omega), nI_1]
    refine ih (j + 1) _ (by omega) (hf.up rfl) (fun x h => ?_)
    by_cases e : x = j
    · rw [e, hd_u_s]
    · rw [hd_u_n (fun z => e z.2)]; exact hx x (by omega)
set_option maxRecDepth 20000 in
theorem s_bring_7 (M : hd_M) (N : hd_N) (d : dy_T) (hd : hm M 7 d) (hn : d.1 ≤ 7) : hd_Ret mX0_bringAllIn [.ref 7] M N (fun r M1 N1 => r = none ∧ N1 = N ∧ fr (fun c _ => 7 ≤ c ∧ c ≤ 11) M M1 ∧ hm M1 7 (dy_in d)) := by
  change hd_Go mX0_bringAllIn 0 [some (.ref 7), none] [] M N _
  obtain ⟨a5, a6, a7, a8, a9, b1, b2, b3, b4⟩ := hd
  refine hd_go kX0_bringAllIn 10 (fun _ => rfl) rfl trivial ?_
  refine hd_Go.post ?_ (s_bring_l_7 N d.1 hn (hd_u M 7 6 (M 7 5)) (by rw [hd_u_n (by omega)]; exact a5) d.1 0 _ (by omega) fr.rf (fun x h => absurd h (Nat.not_lt_zero x)))
  rintro r M1 N1 ⟨rfl, rfl, hf, hx⟩
  have g : ∀ c j, ¬ c = 11 → M1 c j = hd_u M 7 6 (M 7 5) c j := hf
  refine ⟨rfl, rfl, (fr.up fr.rf (by simp)).tr (hf.mo (fun c j h => by have h : c = 11 := h; show 7 ≤ c ∧ c ≤ 11; omega)), ?_⟩
  refine ⟨?_, ?_, ?_, ?_, ?_, fun i hi => ?_, fun i hi => ?_, fun i hi => ?_, fun i hi => ?_⟩
  · rw [g _ _ (by decide), hd_u_n (by omega)]; exact a5
  · rw [g _ _ (by decide), hd_u_s, a5]; rfl
  · rw [g _ _ (by decide), hd_u_n (by omega)]; exact a7
  · rw [g _ _ (by decide), hd_u_n (by omega)]; exact a8
  · rw [g _ _ (by decide), hd_u_n (by omega)]; exact a9
  · rw [g _ _ (by decide), hd_u_n (by omega)]; exact b1 i hi
  · rw [g _ _ (by decide), hd_u_n (by omega)]; exact b2 i hi
  · rw [g _ _ (by decide), hd_u_n (by omega)]; exact b3 i hi
  · exact hx i hi
set_option maxRecDepth 20000 in
theorem s_shrink_7 (M : hd_M) (N : hd_N) (d : dy_T) (hd : hm M 7 d) (hn : d.1 ≤ 7) (m : Nat) (hm7 : m ≤ 7) : hd_Ret mX0_shrinkTo [.ref 7, .int (nI m)] M N (fun r M1 N1 => r = none ∧ N1 = N ∧ fr (fun c _ => c = 7) M M1 ∧ hm M1 7 (if m < d.1 then dy_shr m d else d)) := by
  change hd_Go mX0_shrinkTo 0 [some (.ref 7), some (.int (nI m))] [] M N _
  refine hd_go kX0_shrinkTo 999 (fun _ => rfl) rfl trivial ?_
  rw [hd.1]
  refine hd_ju kX0_shrinkTo (fun _ => rfl) (fun c => ?_) (fun c => ?_)
  · have hge : ¬ m < d.1 := fun z => nI_ge z (by omega) c
    exact hd_en_ kX0_shrinkTo (fun _ => rfl) trivial ⟨rfl, rfl, fr.rf, by rw [if_neg hge]; exact hd⟩
  · have hlt : m < d.1 := by
      rcases Nat.lt_or_ge m d.1 with z | z
      · exact z
      · exact absurd (nI_le z (by omega)) c
    obtain ⟨a5, a6, a7, a8, a9, b1, b2, b3, b4⟩ := hd
    refine hd_go kX0_shrinkTo 999 (fun _ => rfl) rfl trivial ?_
    refine hd_en_ kX0_shrinkTo (fun _ => rfl) trivial ⟨rfl, rfl, (fr.rf.up (by simp)).up (by simp), ?_⟩
    rw [if_pos hlt]
    refine ⟨?_, ?_, ?_, ?_, ?_, fun i hi => ?_, fun i hi => ?_, fun i hi => ?_, fun i hi => ?_⟩
    · rw [hd_u_n (by omega), hd_u_s]; rfl
    · rw [hd_u_s]; rfl
    · rw [hd_u_n (by omega), hd_u_n (by omega)]; exact a7
    · rw [hd_u_n (by omega), hd_u_n (by omega)]; exact a8
    · rw [hd_u_n (by omega), hd_u_n (by omega)]; exact a9
    · rw [hd_u_n (by omega), hd_u_n (by omega)]; exact b1 i (Nat.lt_trans hi hlt)
    · rw [hd_u_n (by omega), hd_u_n (by omega)]; exact b2 i (Nat.lt_trans hi hlt)
    · rw [hd_u_n (by omega), hd_u_n (by omega)]; exact b3 i (Nat.lt_trans hi hlt)
    · rw [hd_u_n (by omega), hd_u_n (by omega)]; exact b4 i (Nat.lt_trans hi hlt)
set_option maxRecDepth 20000 in
theorem s_outBits_l_1 (M : hd_M) (N : hd_N) (d : dy_T) (hd : hm M 1 d) (hn : d.1 ≤ 7) : ∀ (m j : Nat), j + m = d.1 → hd_Go mX0_outBits 7 [some (.ref 1), some (.int (dy_bits (fun i => decide (0 < d.2.2.2.2.2 3 i)) j)), some (.int (nI j))] [] M N (hd_is (.int (dy_bits (fun i => decide (0 < d.2.2.2.2.2 3 i)) d.1)) M N) := by
  intro m
  induction m with
  | zero =>
    intro j hj
    have hj : j = d.1 := by omega
    subst hj
    refine hd_go kX0_outBits 999 (fun _ => rfl) rfl trivial ?_
    rw [hd.1]
    refine hd_ju kX0_outBits (fun _ => rfl) (fun c => ?_) (fun c => ?_)
    · refine hd_go kX0_outBits 999 (fun _ => rfl) rfl trivial ?_
      exact hd_en_ kX0_outBits (fun _ => rfl) trivial ⟨rfl, rfl, rfl⟩
    · exact absurd (nI_le (Nat.le_refl _) (by omega)) c
  | succ m ih =>
    intro j hj
    have ej : (nI j).toNatClampNeg = j := nI_clamp (by omega)
    refine hd_go kX0_outBits 999 (fun _ => rfl) rfl trivial ?_
    rw [hd.1]
    refine hd_ju kX0_outBits (fun _ => rfl) (fun c => ?_) (fun c => ?_)
    · exact absurd c (nI_ge (by omega) (by omega))
    refine hd_go kX0_outBits 999 (fun _ => rfl) rfl ⟨trivial, vp_in_nI (by omega) (by decide)⟩ ?_
    rw [ej, show M 5 j = d.2.2.2.2.2 3 j from hd.2.2.2.2.2.2.2.2 j (by omega)]
    refine hd_ju kX0_outBits (fun _ => rfl) (fun c => ?_) (fun c => ?_)
    · refine hd_go kX0_outBits 999 (fun _ => rfl) rfl trivial ?_
      rw [nI_1]
      have := ih (j + 1) (by omega)
      rw [dy_bits, decide_eq_false (Int32.not_lt.mpr c)] at this
      exact this
    · refine hd_go kX0_outBits 999 (fun _ => rfl) rfl trivial ?_
      rw [nI_1]
      have := ih (j + 1) (by omega)
      rw [dy_bits, decide_eq_true (Int32.not_le.mp c)] at this
      exact this
set_option maxRecDepth 20000 in
theorem s_outBits_1 (M : hd_M) (N : hd_N) (d : dy_T) (hd : hm M 1 d) (ok : dy_ok d) : hd_Ret mX0_outBits [.ref 1] M N (hd_is (.int (dy_bits (fun i => decide (0 < d.2.2.2.2.2 3 i)) d.1)) M N) := by
  change hd_Go mX0_outBits 0 [some (.ref 1), none, none] [] M N _
  refine hd_go kX0_outBits 7 (fun _ => rfl) rfl trivial ?_
  have z : dy_bits (fun i => decide (0 < d.2.2.2.2.2 3 i)) d.2.1 = 0 := dy_bits_0 d.2.1 (fun i hi => by rw [ok.2.2.1 i hi]; decide)
  have := s_outBits_l_1 M N d hd ok.1 (d.1 - d.2.1) d.2.1 (by have := ok.2.1; omega)
  rw [z] at this
  rw [hd.2.1]
  exact this
set_option maxRecDepth 20000 in
theorem s_outBits_l_7 (M : hd_M) (N : hd_N) (d : dy_T) (hd : hm M 7 d) (hn : d.1 ≤ 7) : ∀ (m j : Nat), j + m = d.1 → hd_Go mX0_outBits 7 [some (.ref 7), some (.int (dy_bits (fun i => decide (0 < d.2.2.2.2.2 3 i)) j)), some (.int (nI j))] [] M N (hd_is (.int (dy_bits (fun i => decide (0 < d.2.2.2.2.2 3 i)) d.1)) M N) := by
  intro m
  induction m with
  | zero =>
    intro j hj
    have hj : j = d.1 := by omega
    subst hj
    refine hd_go kX0_outBits 999 (fun _ => rfl) rfl trivial ?_
    rw [hd.1]
    refine hd_ju kX0_outBits (fun _ => rfl) (fun c => ?_) (fun c => ?_)
    · refine hd_go kX0_outBits 999 (fun _ => rfl) rfl trivial ?_
      exact hd_en_ kX0_outBits (fun _ => rfl) trivial ⟨rfl, rfl, rfl⟩
    · exact absurd (nI_le (Nat.le_refl _) (by omega)) c
  | succ m ih =>
    intro j hj
    have ej : (nI j).toNatClampNeg = j := nI_clamp (by omega)
    refine hd_go kX0_outBits 999 (fun _ => rfl) rfl trivial ?_
    rw [hd.1]
    refine hd_ju kX0_outBits (fun _ => rfl) (fun c => ?_) (fun c => ?_)
    · exact absurd c (nI_ge (by omega) (by omega))
    refine hd_go kX0_outBits 999 (fun _ => rfl) rfl ⟨trivial, vp_in_nI (by omega) (by decide)⟩ ?_
    rw [ej, show M 11 j = d.2.2.2.2.2 3 j from hd.2.2.2.2.2.2.2.2 j (by omega)]
    refine hd_ju kX0_outBits (fun _ => rfl) (fun c => ?_) (fun c => ?_)
    · refine hd_go kX0_outBits 999 (fun _ => rfl) rfl trivial ?_
      rw [nI_1]
      have := ih (j + 1) (by omega)
      rw [dy_bits, decide_eq_false (Int32.not_lt.mpr c)] at this
      exact this
    · refine hd_go kX0_outBits 999 (fun _ => rfl) rfl trivial ?_
      rw [nI_1]
      have := ih (j + 1) (by omega)
      rw [dy_bits, decide_eq_true (Int32.not_le.mp c)] at this
      exact this
set_option maxRecDepth 20000 in
theorem s_outBits_7 (M : hd_M) (N : hd_N) (d : dy_T) (hd : hm M 7 d) (ok : dy_ok d) : hd_Ret mX0_outBits [.ref 7] M N (hd_is (.int (dy_bits (fun i => decide (0 < d.2.2.2.2.2 3 i)) d.1)) M N) := by
  change hd_Go mX0_outBits 0 [some (.ref 7), none, none] [] M N _
  refine hd_go kX0_outBits 7 (fun _ => rfl) rfl trivial ?_
  have z : dy_bits (fun i => decide (0 < d.2.2.2.2.2 3 i)) d.2.1 = 0 := dy_bits_0 d.2.1 (fun i hi => by rw [ok.2.2.1 i hi]; decide)
  have := s_outBits_l_7 M N d hd ok.1 (d.1 - d.2.1) d.2.1 (by have := ok.2.1; omega)
  rw [z] at this
  rw [hd.2.1]
  exact this
set_option maxRecDepth 20000 in
theorem s_exIn_1_1 (M : hd_M) (N : hd_N) (a : Nat) (ha : a = 2 ∨ a = 3 ∨ a = 4) (i j : Nat) (hi : i < 7) (hj : j < 7) : hd_Ret mX0_exchangeIn [.ref a, .int (nI i), .int (nI j)] M N (fun r M1 N1 => r = none ∧ N1 = N ∧ ∀ c x, M1 c x = if c = a then (if x = i then M a j else if x = j then M a i else M a x) else M c x) := by
  change hd_Go mX0_exchangeIn 0 [some (.ref a), some (.int (nI i)), some (.int (nI j)), none] [] M N _
  have ei : (nI i).toNatClampNeg = i := nI_clamp (by omega)
  have ej : (nI j).toNatClampNeg = j := nI_clamp (by omega)
  have hv : vp_in (nI i) 7 := vp_in_nI hi (by decide)
  have hw : vp_in (nI j) 7 := vp_in_nI hj (by decide)
  have key : ∀ c x, hd_u (hd_u M a i (M a j)) a j (M a i) c x = if c = a then (if x = i then M a j else if x = j then M a i else M a x) else M c x := by
    intro c x
    unfold hd_u
    by_cases hc : c = a
    · subst hc
      by_cases h1 : x = i
      · subst h1
        by_cases h2 : x = j
        · subst h2; simp
        · simp [h2]
      · by_cases h2 : x = j
        · subst h2; simp [h1]
        · simp [h1, h2]
    · simp [hc]
  rcases ha with rfl | rfl | rfl
  all_goals
    refine hd_go kX0_exchangeIn 999 (fun _ => rfl) rfl ⟨⟨⟨⟨trivial, hv⟩, hw⟩, hv⟩, hw⟩ ?_
    rw [ei, ej]
    exact hd_en_ kX0_exchangeIn (fun _ => rfl) trivial ⟨rfl, rfl, key⟩
set_option maxRecDepth 20000 in
theorem s_exch_1 (M : hd_M) (N : hd_N) (i j : Nat) (hi : i < 7) (hj : j < 7) : hd_Ret mX0_exchange [.ref 1, .int (nI i), .int (nI j)] M N (fun r M1 N1 => r = none ∧ N1 = N ∧ ∀ c x, M1 c x = if 2 ≤ c ∧ c ≤ 4 then (if x = i then M c j else if x = j then M c i else M c x) else M c x) := by
  change hd_Go mX0_exchange 0 [some (.ref 1), some (.int (nI i)), some (.int (nI j))] [] M N _
  refine hd_go kX0_exchange 999 (fun _ => rfl) rfl trivial ?_
  refine hd_ca kX0_exchange qX0_exchange (fun _ => rfl) (s_exIn_1_1 M N 2 (by simp) i j hi hj) ?_
  rintro r M1 N1 ⟨rfl, rfl, h1⟩
  refine hd_go kX0_exchange 999 (fun _ => rfl) rfl trivial ?_
  refine hd_ca kX0_exchange qX0_exchange (fun _ => rfl) (s_exIn_1_1 M1 N1 3 (by simp) i j hi hj) ?_
  rintro r M2 N2 ⟨rfl, rfl, h2⟩
  refine hd_go kX0_exchange 999 (fun _ => rfl) rfl trivial ?_
  refine hd_ca kX0_exchange qX0_exchange (fun _ => rfl) (s_exIn_1_1 M2 N2 4 (by simp) i j hi hj) ?_
  rintro r M3 N3 ⟨rfl, rfl, h3⟩
  refine hd_en_ kX0_exchange (fun _ => rfl) trivial ⟨rfl, rfl, fun c x => ?_⟩
  by_cases c3 : c = 4
  · subst c3
    simp [h3, h2, h1]
  · by_cases c2 : c = 3
    · subst c2
      simp [h3, h2, h1]
    · by_cases c1 : c = 2
      · subst c1
        simp [h3, h2, h1]
      · have : ¬ (2 ≤ c ∧ c ≤ 4) := by omega
        rw [if_neg this, h3, if_neg c3, h2, if_neg c2, h1, if_neg c1]
set_option maxRecDepth 20000 in
theorem h_exc_1 {M M1 : hd_M} {d : dy_T} (hd : hm M 1 d) (i j : Nat) (hi : i < d.1) (hj : j < d.1) (h : ∀ c x, M1 c x = if 2 ≤ c ∧ c ≤ 4 then (if x = i then M c j else if x = j then M c i else M c x) else M c x) : hm M1 1 (dy_exc i j d) := by
  obtain ⟨a5, a6, a7, a8, a9, b1, b2, b3, b4⟩ := hd
  have col : ∀ (c a : Nat), (∀ x, x < d.1 → M a x = d.2.2.2.2.2 c x) → 2 ≤ a → a ≤ 4 → ∀ x, x < d.1 → M1 a x = if x = i then d.2.2.2.2.2 c j else if x = j then d.2.2.2.2.2 c i else d.2.2.2.2.2 c x := by
    intro c a ha h1 h2 x hx
    rw [h, if_pos ⟨h1, h2⟩, ha x hx, ha i hi, ha j hj]
  refine ⟨?_, ?_, ?_, ?_, ?_, fun x hx => ?_, fun x hx => ?_, fun x hx => ?_, fun x hx => ?_⟩
  · rw [h, if_neg (by omega)]; exact a5
  · rw [h, if_neg (by omega)]; exact a6
  · rw [h, if_neg (by omega)]; exact a7
  · rw [h, if_neg (by omega)]; exact a8
  · rw [h, if_neg (by omega)]; exact a9
  · exact col 0 2 b1 (by decide) (by decide) x hx
  · exact col 1 3 b2 (by decide) (by decide) x hx
  · exact col 2 4 b3 (by decide) (by decide) x hx
  · rw [h, if_neg (by omega)]; exact b4 x hx
set_option maxRecDepth 20000 in
theorem s_layTop_l_1 (M : hd_M) (N : hd_N) (i n : Nat) (hn : n ≤ 7) (hi : i < n) (h5 : M 1 5 = nI n) : ∀ (m j : Nat) (M' : hd_M), j + m + 1 = n → i ≤ j → (∀ c x, M' c x = if 2 ≤ c ∧ c ≤ 4 then (if i ≤ x ∧ x < j then M c (x + 1) else if x = j then M c i else M c x) else M c x) → hd_Go mX0_layOnTop 2 [some (.ref 1), some (.int (nI i)), some (.int (nI j))] [] M' N (fun r M1 N1 => r = none ∧ N1 = N ∧ ∀ c x, M1 c x = if 2 ≤ c ∧ c ≤ 4 then (if i ≤ x ∧ x < n - 1 then M c (x + 1) else if x = n - 1 then M c i else M c x) else M c x) := by
  intro m
  induction m with
  | zero =>
    intro j M' hj hij h
    have e5 : M' 1 5 = nI n := by rw [h, if_neg (by omega)]; exact h5
    refine hd_go kX0_layOnTop 999 (fun _ => rfl) rfl trivial ?_
    rw [e5, nI_1]
    refine hd_ju kX0_layOnTop (fun _ => rfl) (fun c => ?_) (fun c => ?_)
    · refine hd_en_ kX0_layOnTop (fun _ => rfl) trivial ⟨rfl, rfl, ?_⟩
      rw [show n - 1 = j by omega]
      exact h
    · exact absurd (nI_le (by omega) (by omega)) c
  | succ m ih =>
    intro j M' hj hij h
    have e5 : M' 1 5 = nI n := by rw [h, if_neg (by omega)]; exact h5
    refine hd_go kX0_layOnTop 999 (fun _ => rfl) rfl trivial ?_
    rw [e5, nI_1]
    refine hd_ju kX0_layOnTop (fun _ => rfl) (fun c => ?_) (fun c => ?_)
    · exact absurd c (nI_ge (by omega) (by omega))
    refine hd_go kX0_layOnTop 999 (fun _ => rfl) rfl trivial ?_
    rw [nI_1]
    refine hd_ca kX0_layOnTop qX0_layOnTop (fun _ => rfl) (s_exch_1 M' N j (j + 1) (by omega) (by omega)) ?_
    rintro r M1 N1 ⟨rfl, rfl, h1⟩
    refine hd_go kX0_layOnTop 999 (fun _ => rfl) rfl trivial ?_
    rw [nI_1]
    refine ih (j + 1) M1 (by omega) (by omega) (fun c x => ?_)
    rw [h1]
    by_cases hc : 2 ≤ c ∧ c ≤ 4
    · rw [if_pos hc, if_pos hc, h, h, h, if_pos hc, if_pos hc, if_pos hc]
      by_cases x1 : x = j
      · subst x1
        rw [if_pos rfl, if_neg (by omega), if_neg (by omega), if_pos (by omega)]
      · rw [if_neg x1]
        by_cases x2 : x = j + 1
        · subst x2
          rw [if_pos rfl, if_neg (by omega), if_pos rfl, if_neg (by omega), if_pos rfl]
        · rw [if_neg x2]
          by_cases x3 : i ≤ x ∧ x < j
          · rw [if_pos x3, if_pos (by omega)]
          · rw [if_neg x3, if_neg x1, if_neg (by omega), if_neg x2]
    · rw [if_neg hc, if_neg hc, h, if_neg hc]
set_option maxRecDepth 20000 in
theorem s_layTop_1 (M : hd_M) (N : hd_N) (i n : Nat) (hn : n ≤ 7) (hi : i < n) (h5 : M 1 5 = nI n) : hd_Ret mX0_layOnTop [.ref 1, .int (nI i)] M N (fun r M1 N1 => r = none ∧ N1 = N ∧ ∀ c x, M1 c x = if 2 ≤ c ∧ c ≤ 4 then (if i ≤ x ∧ x < n - 1 then M c (x + 1) else if x = n - 1 then M c i else M c x) else M c x) := by
  change hd_Go mX0_layOnTop 0 [some (.ref 1), some (.int (nI i)), none] [] M N _
  refine hd_go kX0_layOnTop 2 (fun _ => rfl) rfl trivial ?_
  refine s_layTop_l_1 M N i n hn hi h5 (n - 1 - i) i M (by omega) (Nat.le_refl _) (fun c x => ?_)
  by_cases hc : 2 ≤ c ∧ c ≤ 4
  · rw [if_pos hc, if_neg (by omega)]
    by_cases e : x = i
    · rw [if_pos e, e]
    · rw [if_neg e]
  · rw [if_neg hc]
set_option maxRecDepth 20000 in
theorem h_rot_1 {M M1 : hd_M} {d : dy_T} (hd : hm M 1 d) (i : Nat) (hi : i < d.1) (h : ∀ c x, M1 c x = if 2 ≤ c ∧ c ≤ 4 then (if i ≤ x ∧ x < d.1 - 1 then M c (x + 1) else if x = d.1 - 1 then M c i else M c x) else M c x) : hm M1 1 (dy_rot i (d.1 - 1) d) := by
  obtain ⟨a5, a6, a7, a8, a9, b1, b2, b3, b4⟩ := hd
  have col : ∀ (c a : Nat), (∀ x, x < d.1 → M a x = d.2.2.2.2.2 c x) → 2 ≤ a → a ≤ 4 → ∀ x, x < d.1 → M1 a x = if i ≤ x ∧ x < d.1 - 1 then d.2.2.2.2.2 c (x + 1) else if x = d.1 - 1 then d.2.2.2.2.2 c i else d.2.2.2.2.2 c x := by
    intro c a ha h1 h2 x hx
    rw [h, if_pos ⟨h1, h2⟩]
    by_cases q : i ≤ x ∧ x < d.1 - 1
    · rw [if_pos q, if_pos q]; exact ha _ (by omega)
    · rw [if_neg q, if_neg q, ha i hi, ha x hx]
  refine ⟨?_, ?_, ?_, ?_, ?_, fun x hx => ?_, fun x hx => ?_, fun x hx => ?_, fun x hx => ?_⟩
  · rw [h, if_neg (by omega)]; exact a5
  · rw [h, if_neg (by omega)]; exact a6
  · rw [h, if_neg (by omega)]; exact a7
  · rw [h, if_neg (by omega)]; exact a8
  · rw [h, if_neg (by omega)]; exact a9
  · exact col 0 2 b1 (by decide) (by decide) x hx
  · exact col 1 3 b2 (by decide) (by decide) x hx
  · exact col 2 4 b3 (by decide) (by decide) x hx
  · rw [h, if_neg (by omega)]; exact b4 x hx
set_option maxRecDepth 20000 in
theorem s_takeAway_1 (M : hd_M) (N : hd_N) (d : dy_T) (hd : hm M 1 d) (hn : d.1 ≤ 7) (i : Nat) (hi : i < d.1) : hd_Ret mX0_takeAway [.ref 1, .int (nI i)] M N (fun r M1 N1 => r = none ∧ N1 = N ∧ fr (fun c _ => 1 ≤ c ∧ c ≤ 5) M M1 ∧ hm M1 1 (dy_shr (d.1 - 1) (dy_rot i (d.1 - 1) d))) := by
  change hd_Go mX0_takeAway 0 [some (.ref 1), some (.int (nI i))] [] M N _
  refine hd_go kX0_takeAway 999 (fun _ => rfl) rfl trivial ?_
  refine hd_ca kX0_takeAway qX0_takeAway (fun _ => rfl) (s_layTop_1 M N i d.1 hn hi hd.1) ?_
  rintro r M1 N1 ⟨rfl, rfl, h1⟩
  have hd1 := h_rot_1 hd i hi h1
  refine hd_go kX0_takeAway 999 (fun _ => rfl) rfl trivial ?_
  have e5 : M1 1 5 - 1 = nI (d.1 - 1) := by
    rw [hd1.1, show (dy_rot i (d.1 - 1) d).1 = (d.1 - 1) + 1 by show d.1 = _; omega, nI_pred]
  rw [e5]
  refine hd_ca kX0_takeAway qX0_takeAway (fun _ => rfl) (s_shrink_1 M1 N1 _ hd1 hn (d.1 - 1) (by omega)) ?_
  rintro r M2 N2 ⟨rfl, rfl, hf2, hd2⟩
  refine hd_en_ kX0_takeAway (fun _ => rfl) trivial ⟨rfl, rfl, ?_, ?_⟩
  · intro c x hc
    have hc : ¬ (1 ≤ c ∧ c ≤ 5) := hc
    rw [hf2 c x (by show ¬ c = 1; omega), h1, if_neg (by omega)]
  · rw [if_pos (by show d.1 - 1 < d.1; omega)] at hd2
    exact hd2
set_option maxRecDepth 20000 in
theorem s_crushed_l_1 (M : hd_M) (N : hd_N) (d : dy_T) (hd : hm M 1 d) (hn : d.1 ≤ 7) : ∀ (m j : Nat), j + m = d.1 → hd_Go mX0_crushedBits 4 [some (.ref 1), some (.int (dy_bits (fun i => decide (dy_brs (d.2.2.2.2.2 0 i) (d.2.2.2.2.2 2 i) < dy_ld d i)) j)), some (.int (nI j))] [] M N (hd_is (.int (dy_bits (fun i => decide (dy_brs (d.2.2.2.2.2 0 i) (d.2.2.2.2.2 2 i) < dy_ld d i)) d.1)) M N) := by
  intro m
  induction m with
  | zero =>
    intro j hj
    have hj : j = d.1 := by omega
    subst hj
    refine hd_go kX0_crushedBits 999 (fun _ => rfl) rfl trivial ?_
    rw [hd.1]
    refine hd_ju kX0_crushedBits (fun _ => rfl) (fun c => ?_) (fun c => ?_)
    · refine hd_go kX0_crushedBits 999 (fun _ => rfl) rfl trivial ?_
      exact hd_en_ kX0_crushedBits (fun _ => rfl) trivial ⟨rfl, rfl, rfl⟩
    · exact absurd (nI_le (Nat.le_refl _) (by omega)) c
  | succ m ih =>
    intro j hj
    have e5 : M 1 5 = nI d.1 := hd.1
    refine hd_go kX0_crushedBits 999 (fun _ => rfl) rfl trivial ?_
    rw [e5]
    refine hd_ju kX0_crushedBits (fun _ => rfl) (fun c => ?_) (fun c => ?_)
    · exact absurd c (nI_ge (by omega) (by omega))
    refine hd_go kX0_crushedBits 999 (fun _ => rfl) rfl trivial ?_
    refine hd_ci kX0_crushedBits qX0_crushedBits (fun _ => rfl) (s_isCrushed_1 M N d.1 hn e5 j (by omega)) ?_
    have ew : wsm (M 4) (j + 1) (d.1 - (j + 1)) = dy_ld d j := wsm_cong _ _ (fun i h1 h2 => hd.2.2.2.2.2.2.2.1 i (by omega))
    rw [ew, show M 2 j = d.2.2.2.2.2 0 j from hd.2.2.2.2.2.1 j (by omega), show M 4 j = d.2.2.2.2.2 2 j from hd.2.2.2.2.2.2.2.1 j (by omega)]
    have := ih (j + 1) (by omega)
    rw [dy_bits] at this
    by_cases q : dy_brs (d.2.2.2.2.2 0 j) (d.2.2.2.2.2 2 j) < dy_ld d j
    · rw [decide_eq_true q] at this
      rw [show hd_b (dy_brs (d.2.2.2.2.2 0 j) (d.2.2.2.2.2 2 j) < dy_ld d j) = 1 from if_pos q]
      refine hd_ju kX0_crushedBits (fun _ => rfl) (fun c => absurd c (by decide)) (fun c => ?_)
      refine hd_go kX0_crushedBits 999 (fun _ => rfl) rfl trivial ?_
      rw [nI_1]
      exact this
    · rw [decide_eq_false q] at this
      rw [show hd_b (dy_brs (d.2.2.2.2.2 0 j) (d.2.2.2.2.2 2 j) < dy_ld d j) = 0 from if_neg q]
      refine hd_ju kX0_crushedBits (fun _ => rfl) (fun c => ?_) (fun c => absurd rfl c)
      refine hd_go kX0_crushedBits 999 (fun _ => rfl) rfl trivial ?_
      rw [nI_1]
      exact this
set_option maxRecDepth 20000 in
theorem s_crushed_1 (M : hd_M) (N : hd_N) (d : dy_T) (hd : hm M 1 d) (hn : d.1 ≤ 7) : hd_Ret mX0_crushedBits [.ref 1] M N (hd_is (.int (dy_bits (fun i => decide (dy_brs (d.2.2.2.2.2 0 i) (d.2.2.2.2.2 2 i) < dy_ld d i)) d.1)) M N) := by
  change hd_Go mX0_crushedBits 0 [some (.ref 1), none, none] [] M N _
  refine hd_go kX0_crushedBits 4 (fun _ => rfl) rfl trivial ?_
  exact s_crushed_l_1 M N d hd hn d.1 0 (by omega)
set_option maxRecDepth 20000 in
theorem s_sumOf_l_1 (M : hd_M) (N : hd_N) (a n : Nat) (ha : a = 3 ∨ a = 4) (hn : n ≤ 7) (h5 : M 1 5 = nI n) : ∀ (m j : Nat) (s : Int32), j + m = n → hd_Go mX0_sumOf 4 [some (.ref 1), some (.ref a), some (.int s), some (.int (nI j))] [] M N (hd_is (.int (s + wsm (M a) j m)) M N) := by
  intro m
  induction m with
  | zero =>
    intro j s hj
    refine hd_go kX0_sumOf 999 (fun _ => rfl) rfl trivial ?_
    rw [h5]
    refine hd_ju kX0_sumOf (fun _ => rfl) (fun c => ?_) (fun c => ?_)
    · refine hd_go kX0_sumOf 999 (fun _ => rfl) rfl trivial ?_
      refine hd_en_ kX0_sumOf (fun _ => rfl) trivial ⟨?_, rfl, rfl⟩
      rw [wsm, Int32.add_zero]
    · exact absurd (nI_le (by omega) (by omega)) c
  | succ m ih =>
    intro j s hj
    have := ih (j + 1) (s + M a j) (by omega)
    rw [Int32.add_assoc] at this
    refine hd_go kX0_sumOf 999 (fun _ => rfl) rfl trivial ?_
    rw [h5]
    refine hd_ju kX0_sumOf (fun _ => rfl) (fun c => ?_) (fun c => ?_)
    · exact absurd c (nI_ge (by omega) (by omega))
    rcases ha with rfl | rfl
    all_goals
      refine hd_go kX0_sumOf 999 (fun _ => rfl) rfl ⟨trivial, vp_in_nI (by omega) (by decide)⟩ ?_
      rw [nI_1, nI_clamp (by omega), wsm]
      exact this
set_option maxRecDepth 20000 in
theorem s_sumOf_1 (M : hd_M) (N : hd_N) (a n : Nat) (ha : a = 3 ∨ a = 4) (hn : n ≤ 7) (h5 : M 1 5 = nI n) : hd_Ret mX0_sumOf [.ref 1, .ref a] M N (hd_is (.int (wsm (M a) 0 n)) M N) := by
  change hd_Go mX0_sumOf 0 [some (.ref 1), some (.ref a), none, none] [] M N _
  refine hd_go kX0_sumOf 4 (fun _ => rfl) rfl trivial ?_
  have := s_sumOf_l_1 M N a n ha hn h5 n 0 0 (by omega)
  rw [Int32.zero_add] at this
  exact this
set_option maxRecDepth 20000 in
theorem s_exIn_1_7 (M : hd_M) (N : hd_N) (a : Nat) (ha : a = 8 ∨ a = 9 ∨ a = 10) (i j : Nat) (hi : i < 7) (hj : j < 7) : hd_Ret mX0_exchangeIn [.ref a, .int (nI i), .int (nI j)] M N (fun r M1 N1 => r = none ∧ N1 = N ∧ ∀ c x, M1 c x = if c = a then (if x = i then M a j else if x = j then M a i else M a x) else M c x) := by
  change hd_Go mX0_exchangeIn 0 [some (.ref a), some (.int (nI i)), some (.int (nI j)), none] [] M N _
  have ei : (nI i).toNatClampNeg = i := nI_clamp (by omega)
  have ej : (nI j).toNatClampNeg = j := nI_clamp (by omega)
  have hv : vp_in (nI i) 7 := vp_in_nI hi (by decide)
  have hw : vp_in (nI j) 7 := vp_in_nI hj (by decide)
  have key : ∀ c x, hd_u (hd_u M a i (M a j)) a j (M a i) c x = if c = a then (if x = i then M a j else if x = j then M a i else M a x) else M c x := by
    intro c x
    unfold hd_u
    by_cases hc : c = a
    · subst hc
      by_cases h1 : x = i
      · subst h1
        by_cases h2 : x = j
        · subst h2; simp
        · simp [h2]
      · by_cases h2 : x = j
        · subst h2; simp [h1]
        · simp [h1, h2]
    · simp [hc]
  rcases ha with rfl | rfl | rfl
  all_goals
    refine hd_go kX0_exchangeIn 999 (fun _ => rfl) rfl ⟨⟨⟨⟨trivial, hv⟩, hw⟩, hv⟩, hw⟩ ?_
    rw [ei, ej]
    exact hd_en_ kX0_exchangeIn (fun _ => rfl) trivial ⟨rfl, rfl, key⟩
set_option maxRecDepth 20000 in
theorem s_exch_7 (M : hd_M) (N : hd_N) (i j : Nat) (hi : i < 7) (hj : j < 7) : hd_Ret mX0_exchange [.ref 7, .int (nI i), .int (nI j)] M N (fun r M1 N1 => r = none ∧ N1 = N ∧ ∀ c x, M1 c x = if 8 ≤ c ∧ c ≤ 10 then (if x = i then M c j else if x = j then M c i else M c x) else M c x) := by
  change hd_Go mX0_exchange 0 [some (.ref 7), some (.int (nI i)), some (.int (nI j))] [] M N _
  refine hd_go kX0_exchange 999 (fun _ => rfl) rfl trivial ?_
  refine hd_ca kX0_exchange qX0_exchange (fun _ => rfl) (s_exIn_1_7 M N 8 (by simp) i j hi hj) ?_
  rintro r M1 N1 ⟨rfl, rfl, h1⟩
  refine hd_go kX0_exchange 999 (fun _ => rfl) rfl trivial ?_
  refine hd_ca kX0_exchange qX0_exchange (fun _ => rfl) (s_exIn_1_7 M1 N1 9 (by simp) i j hi hj) ?_
  rintro r M2 N2 ⟨rfl, rfl, h2⟩
  refine hd_go kX0_exchange 999 (fun _ => rfl) rfl trivial ?_
  refine hd_ca kX0_exchange qX0_exchange (fun _ => rfl) (s_exIn_1_7 M2 N2 10 (by simp) i j hi hj) ?_
  rintro r M3 N3 ⟨rfl, rfl, h3⟩
  refine hd_en_ kX0_exchange (fun _ => rfl) trivial ⟨rfl, rfl, fun c x => ?_⟩
  by_cases c3 : c = 10
  · subst c3
    simp [h3, h2, h1]
  · by_cases c2 : c = 9
    · subst c2
      simp [h3, h2, h1]
    · by_cases c1 : c = 8
      · subst c1
        simp [h3, h2, h1]
      · have : ¬ (8 ≤ c ∧ c ≤ 10) := by omega
        rw [if_neg this, h3, if_neg c3, h2, if_neg c2, h1, if_neg c1]
set_option maxRecDepth 20000 in
theorem h_exc_7 {M M1 : hd_M} {d : dy_T} (hd : hm M 7 d) (i j : Nat) (hi : i < d.1) (hj : j < d.1) (h : ∀ c x, M1 c x = if 8 ≤ c ∧ c ≤ 10 then (if x = i then M c j else if x = j then M c i else M c x) else M c x) : hm M1 7 (dy_exc i j d) := by
  obtain ⟨a5, a6, a7, a8, a9, b1, b2, b3, b4⟩ := hd
  have col : ∀ (c a : Nat), (∀ x, x < d.1 → M a x = d.2.2.2.2.2 c x) → 8 ≤ a → a ≤ 10 → ∀ x, x < d.1 → M1 a x = if x = i then d.2.2.2.2.2 c j else if x = j then d.2.2.2.2.2 c i else d.2.2.2.2.2 c x := by
    intro c a ha h1 h2 x hx
    rw [h, if_pos ⟨h1, h2⟩, ha x hx, ha i hi, ha j hj]
  refine ⟨?_, ?_, ?_, ?_, ?_, fun x hx => ?_, fun x hx => ?_, fun x hx => ?_, fun x hx => ?_⟩
  · rw [h, if_neg (by omega)]; exact a5
  · rw [h, if_neg (by omega)]; exact a6
  · rw [h, if_neg (by omega)]; exact a7
  · rw [h, if_neg (by omega)]; exact a8
  · rw [h, if_neg (by omega)]; exact a9
  · exact col 0 8 b1 (by decide) (by decide) x hx
  · exact col 1 9 b2 (by decide) (by decide) x hx
  · exact col 2 10 b3 (by decide) (by decide) x hx
  · rw [h, if_neg (by omega)]; exact b4 x hx
set_option maxRecDepth 20000 in
theorem s_layTop_l_7 (M : hd_M) (N : hd_N) (i n : Nat) (hn : n ≤ 7) (hi : i < n) (h5 : M 7 5 = nI n) : ∀ (m j : Nat) (M' : hd_M), j + m + 1 = n → i ≤ j → (∀ c x, M' c x = if 8 ≤ c ∧ c ≤ 10 then (if i ≤ x ∧ x < j then M c (x + 1) else if x = j then M c i else M c x) else M c x) → hd_Go mX0_layOnTop 2 [some (.ref 7), some (.int (nI i)), some (.int (nI j))] [] M' N (fun r M1 N1 => r = none ∧ N1 = N ∧ ∀ c x, M1 c x = if 8 ≤ c ∧ c ≤ 10 then (if i ≤ x ∧ x < n - 1 then M c (x + 1) else if x = n - 1 then M c i else M c x) else M c x) := by
  intro m
  induction m with
  | zero =>
    intro j M' hj hij h
    have e5 : M' 7 5 = nI n := by rw [h, if_neg (by omega)]; exact h5
    refine hd_go kX0_layOnTop 999 (fun _ => rfl) rfl trivial ?_
    rw [e5, nI_1]
    refine hd_ju kX0_layOnTop (fun _ => rfl) (fun c => ?_) (fun c => ?_)
    · refine hd_en_ kX0_layOnTop (fun _ => rfl) trivial ⟨rfl, rfl, ?_⟩
      rw [show n - 1 = j by omega]
      exact h
    · exact absurd (nI_le (by omega) (by omega)) c
  | succ m ih =>
    intro j M' hj hij h
    have e5 : M' 7 5 = nI n := by rw [h, if_neg (by omega)]; exact h5
    refine hd_go kX0_layOnTop 999 (fun _ => rfl) rfl trivial ?_
    rw [e5, nI_1]
    refine hd_ju kX0_layOnTop (fun _ => rfl) (fun c => ?_) (fun c => ?_)
    · exact absurd c (nI_ge (by omega) (by omega))
    refine hd_go kX0_layOnTop 999 (fun _ => rfl) rfl trivial ?_
    rw [nI_1]
    refine hd_ca kX0_layOnTop qX0_layOnTop (fun _ => rfl) (s_exch_7 M' N j (j + 1) (by omega) (by omega)) ?_
    rintro r M1 N1 ⟨rfl, rfl, h1⟩
    refine hd_go kX0_layOnTop 999 (fun _ => rfl) rfl trivial ?_
    rw [nI_1]
    refine ih (j + 1) M1 (by omega) (by omega) (fun c x => ?_)
    rw [h1]
    by_cases hc : 8 ≤ c ∧ c ≤ 10
    · rw [if_pos hc, if_pos hc, h, h, h, if_pos hc, if_pos hc, if_pos hc]
      by_cases x1 : x = j
      · subst x1
        rw [if_pos rfl, if_neg (by omega), if_neg (by omega), if_pos (by omega)]
      · rw [if_neg x1]
        by_cases x2 : x = j + 1
        · subst x2
          rw [if_pos rfl, if_neg (by omega), if_pos rfl, if_neg (by omega), if_pos rfl]
        · rw [if_neg x2]
          by_cases x3 : i ≤ x ∧ x < j
          · rw [if_pos x3, if_pos (by omega)]
          · rw [if_neg x3, if_neg x1, if_neg (by omega), if_neg x2]
    · rw [if_neg hc, if_neg hc, h, if_neg hc]
set_option maxRecDepth 20000 in
theorem s_layTop_7 (M : hd_M) (N : hd_N) (i n : Nat) (hn : n ≤ 7) (hi : i < n) (h5 : M 7 5 = nI n) : hd_Ret mX0_layOnTop [.ref 7, .int (nI i)] M N (fun r M1 N1 => r = none ∧ N1 = N ∧ ∀ c x, M1 c x = if 8 ≤ c ∧ c ≤ 10 then (if i ≤ x ∧ x < n - 1 then M c (x + 1) else if x = n - 1 then M c i else M c x) else M c x) := by
  change hd_Go mX0_layOnTop 0 [some (.ref 7), some (.int (nI i)), none] [] M N _
  refine hd_go kX0_layOnTop 2 (fun _ => rfl) rfl trivial ?_
  refine s_layTop_l_7 M N i n hn hi h5 (n - 1 - i) i M (by omega) (Nat.le_refl _) (fun c x => ?_)
  by_cases hc : 8 ≤ c ∧ c ≤ 10
  · rw [if_pos hc, if_neg (by omega)]
    by_cases e : x = i
    · rw [if_pos e, e]
    · rw [if_neg e]
  · rw [if_neg hc]
set_option maxRecDepth 20000 in
theorem h_rot_7 {M M1 : hd_M} {d : dy_T} (hd : hm M 7 d) (i : Nat) (hi : i < d.1) (h : ∀ c x, M1 c x = if 8 ≤ c ∧ c ≤ 10 then (if i ≤ x ∧ x < d.1 - 1 then M c (x + 1) else if x = d.1 - 1 then M c i else M c x) else M c x) : hm M1 7 (dy_rot i (d.1 - 1) d) := by
  obtain ⟨a5, a6, a7, a8, a9, b1, b2, b3, b4⟩ := hd
  have col : ∀ (c a : Nat), (∀ x, x < d.1 → M a x = d.2.2.2.2.2 c x) → 8 ≤ a → a ≤ 10 → ∀ x, x < d.1 → M1 a x = if i ≤ x ∧ x < d.1 - 1 then d.2.2.2.2.2 c (x + 1) else if x = d.1 - 1 then d.2.2.2.2.2 c i else d.2.2.2.2.2 c x := by
    intro c a ha h1 h2 x hx
    rw [h, if_pos ⟨h1, h2⟩]
    by_cases q : i ≤ x ∧ x < d.1 - 1
    · rw [if_pos q, if_pos q]; exact ha _ (by omega)
    · rw [if_neg q, if_neg q, ha i hi, ha x hx]
  refine ⟨?_, ?_, ?_, ?_, ?_, fun x hx => ?_, fun x hx => ?_, fun x hx => ?_, fun x hx => ?_⟩
  · rw [h, if_neg (by omega)]; exact a5
  · rw [h, if_neg (by omega)]; exact a6
  · rw [h, if_neg (by omega)]; exact a7
  · rw [h, if_neg (by omega)]; exact a8
  · rw [h, if_neg (by omega)]; exact a9
  · exact col 0 8 b1 (by decide) (by decide) x hx
  · exact col 1 9 b2 (by decide) (by decide) x hx
  · exact col 2 10 b3 (by decide) (by decide) x hx
  · rw [h, if_neg (by omega)]; exact b4 x hx
set_option maxRecDepth 20000 in
theorem s_takeAway_7 (M : hd_M) (N : hd_N) (d : dy_T) (hd : hm M 7 d) (hn : d.1 ≤ 7) (i : Nat) (hi : i < d.1) : hd_Ret mX0_takeAway [.ref 7, .int (nI i)] M N (fun r M1 N1 => r = none ∧ N1 = N ∧ fr (fun c _ => 7 ≤ c ∧ c ≤ 11) M M1 ∧ hm M1 7 (dy_shr (d.1 - 1) (dy_rot i (d.1 - 1) d))) := by
  change hd_Go mX0_takeAway 0 [some (.ref 7), some (.int (nI i))] [] M N _
  refine hd_go kX0_takeAway 999 (fun _ => rfl) rfl trivial ?_
  refine hd_ca kX0_takeAway qX0_takeAway (fun _ => rfl) (s_layTop_7 M N i d.1 hn hi hd.1) ?_
  rintro r M1 N1 ⟨rfl, rfl, h1⟩
  have hd1 := h_rot_7 hd i hi h1
  refine hd_go kX0_takeAway 999 (fun _ => rfl) rfl trivial ?_
  have e5 : M1 7 5 - 1 = nI (d.1 - 1) := by
    rw [hd1.1, show (dy_rot i (d.1 - 1) d).1 = (d.1 - 1) + 1 by show d.1 = _; omega, nI_pred]
  rw [e5]
  refine hd_ca kX0_takeAway qX0_takeAway (fun _ => rfl) (s_shrink_7 M1 N1 _ hd1 hn (d.1 - 1) (by omega)) ?_
  rintro r M2 N2 ⟨rfl, rfl, hf2, hd2⟩
  refine hd_en_ kX0_takeAway (fun _ => rfl) trivial ⟨rfl, rfl, ?_, ?_⟩
  · intro c x hc
    have hc : ¬ (7 ≤ c ∧ c ≤ 11) := hc
    rw [hf2 c x (by show ¬ c = 7; omega), h1, if_neg (by omega)]
  · rw [if_pos (by show d.1 - 1 < d.1; omega)] at hd2
    exact hd2
set_option maxRecDepth 20000 in
theorem s_crushed_l_7 (M : hd_M) (N : hd_N) (d : dy_T) (hd : hm M 7 d) (hn : d.1 ≤ 7) : ∀ (m j : Nat), j + m = d.1 → hd_Go mX0_crushedBits 4 [some (.ref 7), some (.int (dy_bits (fun i => decide (dy_brs (d.2.2.2.2.2 0 i) (d.2.2.2.2.2 2 i) < dy_ld d i)) j)), some (.int (nI j))] [] M N (hd_is (.int (dy_bits (fun i => decide (dy_brs (d.2.2.2.2.2 0 i) (d.2.2.2.2.2 2 i) < dy_ld d i)) d.1)) M N) := by
  intro m
  induction m with
  | zero =>
    intro j hj
    have hj : j = d.1 := by omega
    subst hj
    refine hd_go kX0_crushedBits 999 (fun _ => rfl) rfl trivial ?_
    rw [hd.1]
    refine hd_ju kX0_crushedBits (fun _ => rfl) (fun c => ?_) (fun c => ?_)
    · refine hd_go kX0_crushedBits 999 (fun _ => rfl) rfl trivial ?_
      exact hd_en_ kX0_crushedBits (fun _ => rfl) trivial ⟨rfl, rfl, rfl⟩
    · exact absurd (nI_le (Nat.le_refl _) (by omega)) c
  | succ m ih =>
    intro j hj
    have e5 : M 7 5 = nI d.1 := hd.1
    refine hd_go kX0_crushedBits 999 (fun _ => rfl) rfl trivial ?_
    rw [e5]
    refine hd_ju kX0_crushedBits (fun _ => rfl) (fun c => ?_) (fun c => ?_)
    · exact absurd c (nI_ge (by omega) (by omega))
    refine hd_go kX0_crushedBits 999 (fun _ => rfl) rfl trivial ?_
    refine hd_ci kX0_crushedBits qX0_crushedBits (fun _ => rfl) (s_isCrushed_7 M N d.1 hn e5 j (by omega)) ?_
    have ew : wsm (M 10) (j + 1) (d.1 - (j + 1)) = dy_ld d j := wsm_cong _ _ (fun i h1 h2 => hd.2.2.2.2.2.2.2.1 i (by omega))
    rw [ew, show M 8 j = d.2.2.2.2.2 0 j from hd.2.2.2.2.2.1 j (by omega), show M 10 j = d.2.2.2.2.2 2 j from hd.2.2.2.2.2.2.2.1 j (by omega)]
    have := ih (j + 1) (by omega)
    rw [dy_bits] at this
    by_cases q : dy_brs (d.2.2.2.2.2 0 j) (d.2.2.2.2.2 2 j) < dy_ld d j
    · rw [decide_eq_true q] at this
      rw [show hd_b (dy_brs (d.2.2.2.2.2 0 j) (d.2.2.2.2.2 2 j) < dy_ld d j) = 1 from if_pos q]
      refine hd_ju kX0_crushedBits (fun _ => rfl) (fun c => absurd c (by decide)) (fun c => ?_)
      refine hd_go kX0_crushedBits 999 (fun _ => rfl) rfl trivial ?_
      rw [nI_1]
      exact this
    · rw [decide_eq_false q] at this
      rw [show hd_b (dy_brs (d.2.2.2.2.2 0 j) (d.2.2.2.2.2 2 j) < dy_ld d j) = 0 from if_neg q]
      refine hd_ju kX0_crushedBits (fun _ => rfl) (fun c => ?_) (fun c => absurd rfl c)
      refine hd_go kX0_crushedBits 999 (fun _ => rfl) rfl trivial ?_
      rw [nI_1]
      exact this
set_option maxRecDepth 20000 in
theorem s_crushed_7 (M : hd_M) (N : hd_N) (d : dy_T) (hd : hm M 7 d) (hn : d.1 ≤ 7) : hd_Ret mX0_crushedBits [.ref 7] M N (hd_is (.int (dy_bits (fun i => decide (dy_brs (d.2.2.2.2.2 0 i) (d.2.2.2.2.2 2 i) < dy_ld d i)) d.1)) M N) := by
  change hd_Go mX0_crushedBits 0 [some (.ref 7), none, none] [] M N _
  refine hd_go kX0_crushedBits 4 (fun _ => rfl) rfl trivial ?_
  exact s_crushed_l_7 M N d hd hn d.1 0 (by omega)
set_option maxRecDepth 20000 in
theorem s_sumOf_l_7 (M : hd_M) (N : hd_N) (a n : Nat) (ha : a = 9 ∨ a = 10) (hn : n ≤ 7) (h5 : M 7 5 = nI n) : ∀ (m j : Nat) (s : Int32), j + m = n → hd_Go mX0_sumOf 4 [some (.ref 7), some (.ref a), some (.int s), some (.int (nI j))] [] M N (hd_is (.int (s + wsm (M a) j m)) M N) := by
  intro m
  induction m with
  | zero =>
    intro j s hj
    refine hd_go kX0_sumOf 999 (fun _ => rfl) rfl trivial ?_
    rw [h5]
    refine hd_ju kX0_sumOf (fun _ => rfl) (fun c => ?_) (fun c => ?_)
    · refine hd_go kX0_sumOf 999 (fun _ => rfl) rfl trivial ?_
      refine hd_en_ kX0_sumOf (fun _ => rfl) trivial ⟨?_, rfl, rfl⟩
      rw [wsm, Int32.add_zero]
    · exact absurd (nI_le (by omega) (by omega)) c
  | succ m ih =>
    intro j s hj
    have := ih (j + 1) (s + M a j) (by omega)
    rw [Int32.add_assoc] at this
    refine hd_go kX0_sumOf 999 (fun _ => rfl) rfl trivial ?_
    rw [h5]
    refine hd_ju kX0_sumOf (fun _ => rfl) (fun c => ?_) (fun c => ?_)
    · exact absurd c (nI_ge (by omega) (by omega))
    rcases ha with rfl | rfl
    all_goals
      refine hd_go kX0_sumOf 999 (fun _ => rfl) rfl ⟨trivial, vp_in_nI (by omega) (by decide)⟩ ?_
      rw [nI_1, nI_clamp (by omega), wsm]
      exact this
set_option maxRecDepth 20000 in
theorem s_sumOf_7 (M : hd_M) (N : hd_N) (a n : Nat) (ha : a = 9 ∨ a = 10) (hn : n ≤ 7) (h5 : M 7 5 = nI n) : hd_Ret mX0_sumOf [.ref 7, .ref a] M N (hd_is (.int (wsm (M a) 0 n)) M N) := by
  change hd_Go mX0_sumOf 0 [some (.ref 7), some (.ref a), none, none] [] M N _
  refine hd_go kX0_sumOf 4 (fun _ => rfl) rfl trivial ?_
  have := s_sumOf_l_7 M N a n ha hn h5 n 0 0 (by omega)
  rw [Int32.zero_add] at this
  exact this
