/-! WORDS, LINES, THE TEXT: the class; printed by wip/whole/tape2.py -/
set_option maxRecDepth 20000 in
theorem sx_len6 (i : Nat) (hi : i < 6) : sx_len.getD i 0 ≤ 6 := by
  rcases (show i = 0 ∨ i = 1 ∨ i = 2 ∨ i = 3 ∨ i = 4 ∨ i = 5 by omega) with rfl | rfl | rfl | rfl | rfl | rfl <;> decide
set_option maxRecDepth 20000 in
theorem t_isWord_l (M : hd_M) (N : hd_N) (t : tx_T) (ht : tpC M t) (hn : t.1 ≤ 160) (s i : Nat) (hi : i < 6) (hs : s ≤ t.1) (h5 : M 16 5 = nI s) (hl : tx_e t s - s = sx_len.getD i 0) : ∀ (m j : Nat), j + m = sx_len.getD i 0 → (∀ x, x < j → t.2 (s + x) = (sx_byt.getD i []).getD x 0) → hd_Go mX4_isWord 20 [some (.ref 16), some (.ref (1000 + i)), some (.int (nI j))] [] M N (hd_is (.int (hd_b (tx_is t s i))) M N) := by
  have h6 := sx_len6 i hi
  have he := tx_e_le hs
  intro m
  induction m with
  | zero =>
    intro j hj hx
    refine hd_go kX4_isWord 999 (fun _ => rfl) rfl trivial ?_
    refine (sx_callI (J := mJ0_length_8abf5) (index := 119) (i := i) (as := []) (st := [.int (nI j)]) hi (by decide +kernel) (hd_calB_ok (n := 0) (ws := [341, 83]) (by decide +kernel) _) (hd_wd_ok (i := 338) (by decide +kernel)) (hd_wd_ok (i := 339) (by decide +kernel)) (hd_wd_ok (i := 340) (by decide +kernel)) rfl rfl (by show 1 ≤ 1; decide) (by show 1 ≤ 8; decide) (sx_length _ N i hi) ?_)
    refine hd_ju kX4_isWord (fun _ => rfl) (fun c => ?_) (fun c => absurd (nI_le (by omega) (by omega)) c)
    refine hd_go kX4_isWord 999 (fun _ => rfl) rfl trivial ?_
    refine hd_en_ kX4_isWord (fun _ => rfl) (Or.inr rfl) ⟨?_, rfl, rfl⟩
    have : tx_is t s i := ⟨hl, fun x h => hx x (by omega)⟩
    unfold hd_b
    rw [if_pos this]
  | succ m ih =>
    intro j hj hx
    refine hd_go kX4_isWord 999 (fun _ => rfl) rfl trivial ?_
    refine (sx_callI (J := mJ0_length_8abf5) (index := 119) (i := i) (as := []) (st := [.int (nI j)]) hi (by decide +kernel) (hd_calB_ok (n := 0) (ws := [341, 83]) (by decide +kernel) _) (hd_wd_ok (i := 338) (by decide +kernel)) (hd_wd_ok (i := 339) (by decide +kernel)) (hd_wd_ok (i := 340) (by decide +kernel)) rfl rfl (by show 1 ≤ 1; decide) (by show 1 ≤ 8; decide) (sx_length _ N i hi) ?_)
    refine hd_ju kX4_isWord (fun _ => rfl) (fun c => absurd c (nI_ge (by omega) (by omega))) (fun c => ?_)
    have ev : M 16 5 + nI j = nI (s + j) := by rw [h5, nI_add]
    have hv : vp_in (M 16 5 + nI j) 160 := by rw [ev]; exact vp_in_nI (by omega) (by decide)
    refine hd_go kX4_isWord 999 (fun _ => rfl) rfl ⟨trivial, hv⟩ ?_
    rw [ev, nI_clamp (show s + j < 2 ^ 31 by omega), ht.2 (s + j) (by omega)]
    refine (sx_callI (J := mJ0_charAt_5068e) (index := 123) (i := i) (as := [.int (nI j)]) (st := [.int (t.2 (s + j))]) hi (by decide +kernel) (hd_calB_ok (n := 1) (ws := [351, 83]) (by decide +kernel) _) (hd_wd_ok (i := 348) (by decide +kernel)) (hd_wd_ok (i := 349) (by decide +kernel)) (hd_wd_ok (i := 350) (by decide +kernel)) rfl rfl (by show 2 ≤ 2; decide) (by show 1 ≤ 8; decide) (sx_charAt M N i j hi (by omega)) ?_)
    refine hd_ju kX4_isWord (fun _ => rfl) (fun c => ?_) (fun c => ?_)
    · refine hd_go kX4_isWord 20 (fun _ => rfl) rfl trivial ?_
      rw [nI_1]
      refine ih (j + 1) (by omega) (fun x h => ?_)
      by_cases e : x = j
      · rw [e]; exact c
      · exact hx x (by omega)
    · refine hd_go kX4_isWord 999 (fun _ => rfl) rfl trivial ?_
      refine hd_en_ kX4_isWord (fun _ => rfl) (Or.inl rfl) ⟨?_, rfl, rfl⟩
      have : ¬ tx_is t s i := fun z => c (z.2 j (by omega))
      unfold hd_b
      rw [if_neg this]
set_option maxRecDepth 20000 in
theorem t_isWord (M : hd_M) (N : hd_N) (t : tx_T) (ht : tpC M t) (hn : t.1 ≤ 160) (s i : Nat) (hi : i < 6) (hs : s ≤ t.1) (h4 : M 16 4 = nI (tx_e t s)) (h5 : M 16 5 = nI s) : hd_Ret mX4_isWord [.ref 16, .ref (1000 + i)] M N (hd_is (.int (hd_b (tx_is t s i))) M N) := by
  change hd_Go mX4_isWord 0 [some (.ref 16), some (.ref (1000 + i)), none] [] M N _
  have h6 := sx_len6 i hi
  have he := tx_e_le hs
  refine hd_go kX4_isWord 999 (fun _ => rfl) rfl trivial ?_
  rw [h4, h5, nI_sb he.1]
  refine (sx_callI (J := mJ0_length_8abf5) (index := 119) (i := i) (as := []) (st := [.int (nI (tx_e t s - s))]) hi (by decide +kernel) (hd_calB_ok (n := 0) (ws := [341, 83]) (by decide +kernel) _) (hd_wd_ok (i := 338) (by decide +kernel)) (hd_wd_ok (i := 339) (by decide +kernel)) (hd_wd_ok (i := 340) (by decide +kernel)) rfl rfl (by show 1 ≤ 1; decide) (by show 1 ≤ 8; decide) (sx_length _ N i hi) ?_)
  refine hd_ju kX4_isWord (fun _ => rfl) (fun c => ?_) (fun c => ?_)
  · have hl : tx_e t s - s = sx_len.getD i 0 := (nI_eq (by omega) (by omega)).mp c
    refine hd_go kX4_isWord 20 (fun _ => rfl) rfl trivial ?_
    exact t_isWord_l M N t ht hn s i hi hs h5 hl _ 0 (Nat.zero_add _) (fun x h => absurd h (Nat.not_lt_zero x))
  · refine hd_go kX4_isWord 999 (fun _ => rfl) rfl trivial ?_
    refine hd_en_ kX4_isWord (fun _ => rfl) (Or.inl rfl) ⟨?_, rfl, rfl⟩
    have : ¬ tx_is t s i := fun z => c (by rw [z.1])
    unfold hd_b
    rw [if_neg this]
set_option maxRecDepth 20000 in
theorem t_word (M : hd_M) (N : hd_N) (t : tx_T) (ht : tpC M t) (hn : t.1 ≤ 160) (s : Nat) (hs : s ≤ t.1) (h4 : M 16 4 = nI (tx_e t s)) (h5 : M 16 5 = nI s) : hd_Ret mX4_wordTaken [.ref 16] M N (hd_is (.int (tx_w t s)) M N) := by
  change hd_Go mX4_wordTaken 0 [some (.ref 16)] [] M N _
  unfold tx_w
  refine hd_go kX4_wordTaken 999 (fun _ => rfl) rfl trivial ?_
  refine hd_ci kX4_wordTaken qX4_wordTaken (fun _ => rfl) (t_isWord M N t ht hn s 0 (by decide) hs h4 h5) ?_
  by_cases w0 : tx_is t s 0
  · rw [if_pos w0]
    refine hd_ju kX4_wordTaken (fun _ => rfl) (fun c => absurd w0 (hd_b0.mp c)) (fun _ => ?_)
    refine hd_go kX4_wordTaken 999 (fun _ => rfl) rfl trivial ?_
    exact hd_en_ kX4_wordTaken (fun _ => rfl) trivial ⟨rfl, rfl, rfl⟩
  rw [if_neg w0]
  refine hd_ju kX4_wordTaken (fun _ => rfl) (fun _ => ?_) (fun c => absurd (hd_b1.mp c) w0)
  refine hd_go kX4_wordTaken 999 (fun _ => rfl) rfl trivial ?_
  refine hd_ci kX4_wordTaken qX4_wordTaken (fun _ => rfl) (t_isWord M N t ht hn s 1 (by decide) hs h4 h5) ?_
  by_cases w1 : tx_is t s 1
  · rw [if_pos w1]
    refine hd_ju kX4_wordTaken (fun _ => rfl) (fun c => absurd w1 (hd_b0.mp c)) (fun _ => ?_)
    refine hd_go kX4_wordTaken 999 (fun _ => rfl) rfl trivial ?_
    exact hd_en_ kX4_wordTaken (fun _ => rfl) trivial ⟨rfl, rfl, rfl⟩
  rw [if_neg w1]
  refine hd_ju kX4_wordTaken (fun _ => rfl) (fun _ => ?_) (fun c => absurd (hd_b1.mp c) w1)
  refine hd_go kX4_wordTaken 999 (fun _ => rfl) rfl trivial ?_
  refine hd_ci kX4_wordTaken qX4_wordTaken (fun _ => rfl) (t_isWord M N t ht hn s 2 (by decide) hs h4 h5) ?_
  by_cases w2 : tx_is t s 2
  · rw [if_pos w2]
    refine hd_ju kX4_wordTaken (fun _ => rfl) (fun c => absurd w2 (hd_b0.mp c)) (fun _ => ?_)
    refine hd_go kX4_wordTaken 999 (fun _ => rfl) rfl trivial ?_
    exact hd_en_ kX4_wordTaken (fun _ => rfl) trivial ⟨rfl, rfl, rfl⟩
  rw [if_neg w2]
  refine hd_ju kX4_wordTaken (fun _ => rfl) (fun _ => ?_) (fun c => absurd (hd_b1.mp c) w2)
  refine hd_go kX4_wordTaken 999 (fun _ => rfl) rfl trivial ?_
  refine hd_ci kX4_wordTaken qX4_wordTaken (fun _ => rfl) (t_isWord M N t ht hn s 3 (by decide) hs h4 h5) ?_
  by_cases w3 : tx_is t s 3
  · rw [if_pos w3]
    refine hd_ju kX4_wordTaken (fun _ => rfl) (fun c => absurd w3 (hd_b0.mp c)) (fun _ => ?_)
    refine hd_go kX4_wordTaken 999 (fun _ => rfl) rfl trivial ?_
    exact hd_en_ kX4_wordTaken (fun _ => rfl) trivial ⟨rfl, rfl, rfl⟩
  rw [if_neg w3]
  refine hd_ju kX4_wordTaken (fun _ => rfl) (fun _ => ?_) (fun c => absurd (hd_b1.mp c) w3)
  refine hd_go kX4_wordTaken 999 (fun _ => rfl) rfl trivial ?_
  refine hd_ci kX4_wordTaken qX4_wordTaken (fun _ => rfl) (t_isWord M N t ht hn s 4 (by decide) hs h4 h5) ?_
  by_cases w4 : tx_is t s 4
  · rw [if_pos w4]
    refine hd_ju kX4_wordTaken (fun _ => rfl) (fun c => absurd w4 (hd_b0.mp c)) (fun _ => ?_)
    refine hd_go kX4_wordTaken 999 (fun _ => rfl) rfl trivial ?_
    exact hd_en_ kX4_wordTaken (fun _ => rfl) trivial ⟨rfl, rfl, rfl⟩
  rw [if_neg w4]
  refine hd_ju kX4_wordTaken (fun _ => rfl) (fun _ => ?_) (fun c => absurd (hd_b1.mp c) w4)
  refine hd_go kX4_wordTaken 999 (fun _ => rfl) rfl trivial ?_
  refine hd_ci kX4_wordTaken qX4_wordTaken (fun _ => rfl) (t_isWord M N t ht hn s 5 (by decide) hs h4 h5) ?_
  by_cases w5 : tx_is t s 5
  · rw [if_pos w5]
    refine hd_ju kX4_wordTaken (fun _ => rfl) (fun c => absurd w5 (hd_b0.mp c)) (fun _ => ?_)
    refine hd_go kX4_wordTaken 69 (fun _ => rfl) rfl trivial ?_
    exact hd_en_ kX4_wordTaken (fun _ => rfl) trivial ⟨rfl, rfl, rfl⟩
  rw [if_neg w5]
  refine hd_ju kX4_wordTaken (fun _ => rfl) (fun _ => ?_) (fun c => absurd (hd_b1.mp c) w5)
  refine hd_go kX4_wordTaken 999 (fun _ => rfl) rfl trivial ?_
  exact hd_en_ kX4_wordTaken (fun _ => rfl) trivial ⟨rfl, rfl, rfl⟩
def bI (b : Bool) : Int32 := if b then 1 else 0
/-- what taking a line does -/
def lnQ (M : hd_M) (N : hd_N) (L : tx_L) : hd_Q := fun r M1 N1 => N1 = N ∧ fr lnF M M1 ∧ ((∃ c w, L = .inl (c, w) ∧ r = some (.int 0) ∧ M1 16 2 = c ∧ M1 16 3 = nI w) ∨ (∃ e d mt tt, L = .inr (e, d, mt, tt) ∧ r = some (.int 1) ∧ M1 16 2 = M 16 2 ∧ M1 16 4 = nI e ∧ hm M1 7 d ∧ M1 16 8 = bI mt ∧ M1 16 9 = bI tt))
theorem rf_ln : ∀ c j, (c = 16 ∧ 2 ≤ j ∧ j ≤ 3) → lnF c j := fun c j z => Or.inl ⟨z.1, z.2.1⟩
theorem hm.mood {M : hd_M} {d : dy_T} (h : hm M 7 d) (v : Int32) : hm (hd_u M 7 7 v) 7 (dy_mood v d) := by
  obtain ⟨a5, a6, a7, a8, a9, b1, b2, b3, b4⟩ := h
  refine ⟨?_, ?_, hd_u_s _ _ _ _, ?_, ?_, fun i hi => ?_, fun i hi => ?_, fun i hi => ?_, fun i hi => ?_⟩ <;> rw [hd_u_n (by omega)]
  · exact a5
  · exact a6
  · exact a8
  · exact a9
  · exact b1 i hi
  · exact b2 i hi
  · exact b3 i hi
  · exact b4 i hi
theorem hm.tire {M : hd_M} {d : dy_T} (h : hm M 7 d) (v : Int32) : hm (hd_u M 7 8 v) 7 (dy_tire v d) := by
  obtain ⟨a5, a6, a7, a8, a9, b1, b2, b3, b4⟩ := h
  refine ⟨?_, ?_, ?_, hd_u_s _ _ _ _, ?_, fun i hi => ?_, fun i hi => ?_, fun i hi => ?_, fun i hi => ?_⟩ <;> rw [hd_u_n (by omega)]
  · exact a5
  · exact a6
  · exact a7
  · exact a9
  · exact b1 i hi
  · exact b2 i hi
  · exact b3 i hi
  · exact b4 i hi
theorem hm.tk {M M1 : hd_M} {d : dy_T} (h : hm M 7 d) (hf : fr tkF M M1) : hm M1 7 d := h.mv (fun c j h1 h2 => hf c j (fun z => by have z := z.1; omega))
set_option maxRecDepth 20000 in
theorem t_mood (M : hd_M) (N : hd_N) (t : tx_T) (ht : tpC M t) (hn : t.1 ≤ 160) (s : Nat) (hs : s ≤ t.1) (h4 : M 16 4 = nI (tx_e t s)) (h5 : M 16 5 = nI s) (d : dy_T) (hd : hm M 7 d) (mt tt : Bool) (h8 : M 16 8 = bI mt) (h9 : M 16 9 = bI tt) : hd_Ret mX4_takeMood [.ref 16, .ref 7] M N (lnQ M N (if mt then .inl (4, s) else tx_n t 0 99 (tx_e t s) (fun v e => tx_p t e (fun e => .inr (e, dy_mood v d, true, tt))))) := by
  change hd_Go mX4_takeMood 0 [some (.ref 16), some (.ref 7)] [] M N _
  have he := tx_e_le hs
  refine hd_go kX4_takeMood 999 (fun _ => rfl) rfl trivial ?_
  rw [h8]
  cases mt with
  | true =>
    refine hd_ju kX4_takeMood (fun _ => rfl) (fun c => absurd c (by decide)) (fun _ => ?_)
    refine hd_go kX4_takeMood 999 (fun _ => rfl) rfl trivial ?_
    refine hd_ca kX4_takeMood qX4_takeMood (fun _ => rfl) (t_refuse M N 4) ?_
    rintro r M1 N1 ⟨rfl, rfl, hf, a2, a3⟩
    exact hd_en_ kX4_takeMood (fun _ => rfl) (Or.inl rfl) ⟨rfl, hf.mo rf_ln, Or.inl ⟨4, s, rfl, rfl, a2, by rw [a3, h5]⟩⟩
  | false =>
    rw [if_neg (show ¬ (false = true) by decide)]
    refine hd_ju kX4_takeMood (fun _ => rfl) (fun _ => ?_) (fun c => absurd rfl c)
    refine hd_go kX4_takeMood 999 (fun _ => rfl) rfl ⟨trivial, Or.inr rfl⟩ ?_
    have hu : fr lnF M (hd_u M 16 8 1) := fr.rf.up (Or.inl ⟨rfl, by decide⟩)
    refine hd_ca kX4_takeMood qX4_takeMood (fun _ => rfl) (t_number (hd_u M 16 8 1) N t (ht.fr hu ln_lo ln_17) hn (tx_e t s) he.2.1 (by rw [hd_u_n (by omega)]; exact h4) 0 99) ?_
    have hd0 : hm (hd_u M 16 8 1) 7 d := hd.mv (fun c j h1 h2 => hd_u_n (by omega))
    rintro r M1 N1 ⟨rfl, hf1, h | h⟩
    · obtain ⟨c, w, q, rfl, a2, a3⟩ := h
      refine hd_ju kX4_takeMood (fun _ => rfl) (fun c => absurd rfl c) (fun _ => ?_)
      refine hd_go kX4_takeMood 999 (fun _ => rfl) rfl trivial ?_
      exact hd_en_ kX4_takeMood (fun _ => rfl) (Or.inl rfl) ⟨rfl, hu.tr (hf1.mo tk_ln), Or.inl ⟨c, w, q _, rfl, a2, a3⟩⟩
    · obtain ⟨v, e, q, g1, g2, g3, rfl, a2, a4, a7⟩ := h
      refine hd_ju kX4_takeMood (fun _ => rfl) (fun _ => ?_) (fun c => absurd c (by decide))
      refine hd_go kX4_takeMood 999 (fun _ => rfl) rfl trivial ?_
      rw [a7]
      have hu1 : fr lnF M (hd_u M1 7 7 v) := (hu.tr (hf1.mo tk_ln)).up (Or.inr ⟨by decide, by decide⟩)
      refine hd_ca kX4_takeMood qX4_takeMood (fun _ => rfl) (t_stop (hd_u M1 7 7 v) N1 t (ht.fr hu1 ln_lo ln_17) hn e g2 (by rw [hd_u_n (by omega)]; exact a4)) ?_
      have hd1 : hm (hd_u M1 7 7 v) 7 (dy_mood v d) := (hd0.tk hf1).mood v
      rintro r M2 N2 ⟨rfl, hf2, h | h⟩
      · obtain ⟨c, w, q2, rfl, b2, b3⟩ := h
        exact hd_en_ kX4_takeMood (fun _ => rfl) (Or.inl rfl) ⟨rfl, hu1.tr (hf2.mo tk_ln), Or.inl ⟨c, w, (q _).trans (q2 _), rfl, b2, b3⟩⟩
      · obtain ⟨e2, q2, g4, g5, rfl, b2, b4, b7⟩ := h
        refine hd_en_ kX4_takeMood (fun _ => rfl) (Or.inr rfl) ⟨rfl, hu1.tr (hf2.mo tk_ln), Or.inr ⟨e2, _, _, _, (q _).trans (q2 _), rfl, ?_, b4, hd1.tk hf2, ?_, ?_⟩⟩
        · rw [b2, hd_u_n (by omega), a2, hd_u_n (by omega)]
        · rw [hf2 16 8 (by show ¬ (16 = 16 ∧ 2 ≤ 8 ∧ 8 ≤ 7); omega), hd_u_n (by omega), hf1 16 8 (by show ¬ (16 = 16 ∧ 2 ≤ 8 ∧ 8 ≤ 7); omega), hd_u_s]; rfl
        · rw [hf2 16 9 (by show ¬ (16 = 16 ∧ 2 ≤ 9 ∧ 9 ≤ 7); omega), hd_u_n (by omega), hf1 16 9 (by show ¬ (16 = 16 ∧ 2 ≤ 9 ∧ 9 ≤ 7); omega), hd_u_n (by omega)]; exact h9
set_option maxRecDepth 20000 in
theorem t_tire (M : hd_M) (N : hd_N) (t : tx_T) (ht : tpC M t) (hn : t.1 ≤ 160) (s : Nat) (hs : s ≤ t.1) (h4 : M 16 4 = nI (tx_e t s)) (h5 : M 16 5 = nI s) (d : dy_T) (hd : hm M 7 d) (mt tt : Bool) (h8 : M 16 8 = bI mt) (h9 : M 16 9 = bI tt) : hd_Ret mX4_takeTire [.ref 16, .ref 7] M N (lnQ M N (if tt then .inl (4, s) else tx_n t 0 9 (tx_e t s) (fun v e => tx_p t e (fun e => .inr (e, dy_tire v d, mt, true))))) := by
  change hd_Go mX4_takeTire 0 [some (.ref 16), some (.ref 7)] [] M N _
  have he := tx_e_le hs
  refine hd_go kX4_takeTire 999 (fun _ => rfl) rfl trivial ?_
  rw [h9]
  cases tt with
  | true =>
    refine hd_ju kX4_takeTire (fun _ => rfl) (fun c => absurd c (by decide)) (fun _ => ?_)
    refine hd_go kX4_takeTire 999 (fun _ => rfl) rfl trivial ?_
    refine hd_ca kX4_takeTire qX4_takeTire (fun _ => rfl) (t_refuse M N 4) ?_
    rintro r M1 N1 ⟨rfl, rfl, hf, a2, a3⟩
    exact hd_en_ kX4_takeTire (fun _ => rfl) (Or.inl rfl) ⟨rfl, hf.mo rf_ln, Or.inl ⟨4, s, rfl, rfl, a2, by rw [a3, h5]⟩⟩
  | false =>
    rw [if_neg (show ¬ (false = true) by decide)]
    refine hd_ju kX4_takeTire (fun _ => rfl) (fun _ => ?_) (fun c => absurd rfl c)
    refine hd_go kX4_takeTire 999 (fun _ => rfl) rfl ⟨trivial, Or.inr rfl⟩ ?_
    have hu : fr lnF M (hd_u M 16 9 1) := fr.rf.up (Or.inl ⟨rfl, by decide⟩)
    refine hd_ca kX4_takeTire qX4_takeTire (fun _ => rfl) (t_number (hd_u M 16 9 1) N t (ht.fr hu ln_lo ln_17) hn (tx_e t s) he.2.1 (by rw [hd_u_n (by omega)]; exact h4) 0 9) ?_
    have hd0 : hm (hd_u M 16 9 1) 7 d := hd.mv (fun c j h1 h2 => hd_u_n (by omega))
    rintro r M1 N1 ⟨rfl, hf1, h | h⟩
    · obtain ⟨c, w, q, rfl, a2, a3⟩ := h
      refine hd_ju kX4_takeTire (fun _ => rfl) (fun c => absurd rfl c) (fun _ => ?_)
      refine hd_go kX4_takeTire 999 (fun _ => rfl) rfl trivial ?_
      exact hd_en_ kX4_takeTire (fun _ => rfl) (Or.inl rfl) ⟨rfl, hu.tr (hf1.mo tk_ln), Or.inl ⟨c, w, q _, rfl, a2, a3⟩⟩
    · obtain ⟨v, e, q, g1, g2, g3, rfl, a2, a4, a7⟩ := h
      refine hd_ju kX4_takeTire (fun _ => rfl) (fun _ => ?_) (fun c => absurd c (by decide))
      refine hd_go kX4_takeTire 999 (fun _ => rfl) rfl trivial ?_
      rw [a7]
      have hu1 : fr lnF M (hd_u M1 7 8 v) := (hu.tr (hf1.mo tk_ln)).up (Or.inr ⟨by decide, by decide⟩)
      refine hd_ca kX4_takeTire qX4_takeTire (fun _ => rfl) (t_stop (hd_u M1 7 8 v) N1 t (ht.fr hu1 ln_lo ln_17) hn e g2 (by rw [hd_u_n (by omega)]; exact a4)) ?_
      have hd1 : hm (hd_u M1 7 8 v) 7 (dy_tire v d) := (hd0.tk hf1).tire v
      rintro r M2 N2 ⟨rfl, hf2, h | h⟩
      · obtain ⟨c, w, q2, rfl, b2, b3⟩ := h
        exact hd_en_ kX4_takeTire (fun _ => rfl) (Or.inl rfl) ⟨rfl, hu1.tr (hf2.mo tk_ln), Or.inl ⟨c, w, (q _).trans (q2 _), rfl, b2, b3⟩⟩
      · obtain ⟨e2, q2, g4, g5, rfl, b2, b4, b7⟩ := h
        refine hd_en_ kX4_takeTire (fun _ => rfl) (Or.inr rfl) ⟨rfl, hu1.tr (hf2.mo tk_ln), Or.inr ⟨e2, _, _, _, (q _).trans (q2 _), rfl, ?_, b4, hd1.tk hf2, ?_, ?_⟩⟩
        · rw [b2, hd_u_n (by omega), a2, hd_u_n (by omega)]
        · rw [hf2 16 8 (by show ¬ (16 = 16 ∧ 2 ≤ 8 ∧ 8 ≤ 7); omega), hd_u_n (by omega), hf1 16 8 (by show ¬ (16 = 16 ∧ 2 ≤ 8 ∧ 8 ≤ 7); omega), hd_u_n (by omega)]; exact h8
        · rw [hf2 16 9 (by show ¬ (16 = 16 ∧ 2 ≤ 9 ∧ 9 ≤ 7); omega), hd_u_n (by omega), hf1 16 9 (by show ¬ (16 = 16 ∧ 2 ≤ 9 ∧ 9 ≤ 7); omega), hd_u_s]; rfl
set_option maxRecDepth 20000 in
theorem t_thing (M : hd_M) (N : hd_N) (t : tx_T) (ht : tpC M t) (hn : t.1 ≤ 160) (s : Nat) (hs : s ≤ t.1) (h4 : M 16 4 = nI (tx_e t s)) (h5 : M 16 5 = nI s) (d : dy_T) (hd : hm M 7 d) (ok : txd d) (mt tt : Bool) (h8 : M 16 8 = bI mt) (h9 : M 16 9 = bI tt) (kd : Int32) : hd_Ret mX4_takeThing [.ref 16, .ref 7, .int kd] M N (lnQ M N (if d.1 = 7 then .inl (5, s) else tx_n t 0 9 (tx_e t s) (fun g e => tx_n t 1 9 e (fun x e => tx_p t e (fun e => .inr (e, dy_add kd g x d, mt, tt)))))) := by
  change hd_Go mX4_takeThing 0 [some (.ref 16), some (.ref 7), some (.int kd), none] [] M N _
  have he := tx_e_le hs
  have h7 := ok.1
  have tkl : ∀ {M M1 : hd_M} (j : Nat), 8 ≤ j → fr tkF M M1 → M1 16 j = M 16 j := fun j hj hf => hf 16 j (fun z => by have z := z.2.2; omega)
  refine hd_go kX4_takeThing 999 (fun _ => rfl) rfl trivial ?_
  rw [hd.1]
  refine hd_ju kX4_takeThing (fun _ => rfl) (fun c => ?_) (fun c => ?_)
  · have c7 : ¬ d.1 = 7 := fun z => by rw [z] at c; exact absurd c (by decide)
    rw [if_neg c7]
    refine hd_go kX4_takeThing 999 (fun _ => rfl) rfl trivial ?_
    refine hd_ca kX4_takeThing qX4_takeThing (fun _ => rfl) (t_number M N t ht hn (tx_e t s) he.2.1 h4 0 9) ?_
    rintro r M1 N1 ⟨rfl, hf1, h | h⟩
    · obtain ⟨c, w, q, rfl, a2, a3⟩ := h
      refine hd_ju kX4_takeThing (fun _ => rfl) (fun c => absurd rfl c) (fun _ => ?_)
      refine hd_go kX4_takeThing 999 (fun _ => rfl) rfl trivial ?_
      exact hd_en_ kX4_takeThing (fun _ => rfl) (Or.inl rfl) ⟨rfl, hf1.mo tk_ln, Or.inl ⟨c, w, q _, rfl, a2, a3⟩⟩
    obtain ⟨g, e, q, g1, g2, g3, rfl, a2, a4, a7⟩ := h
    refine hd_ju kX4_takeThing (fun _ => rfl) (fun _ => ?_) (fun c => absurd c (by decide))
    refine hd_go kX4_takeThing 999 (fun _ => rfl) rfl trivial ?_
    rw [a7]
    refine hd_ca kX4_takeThing qX4_takeThing (fun _ => rfl) (t_number M1 N1 t (ht.fr hf1 tk_lo tk_17) hn e g2 a4 1 9) ?_
    rintro r M2 N2 ⟨rfl, hf2, h | h⟩
    · obtain ⟨c, w, q2, rfl, b2, b3⟩ := h
      refine hd_ju kX4_takeThing (fun _ => rfl) (fun _ => ?_) (fun c => absurd rfl c)
      refine hd_go kX4_takeThing 999 (fun _ => rfl) rfl trivial ?_
      exact hd_en_ kX4_takeThing (fun _ => rfl) (Or.inl rfl) ⟨rfl, (hf1.tr hf2).mo tk_ln, Or.inl ⟨c, w, (q _).trans (q2 _), rfl, b2, b3⟩⟩
    obtain ⟨x, e2, q2, g4, g5, g6, rfl, b2, b4, b7⟩ := h
    refine hd_ju kX4_takeThing (fun _ => rfl) (fun c => absurd c (by decide)) (fun _ => ?_)
    refine hd_go kX4_takeThing 999 (fun _ => rfl) rfl trivial ?_
    refine hd_ca kX4_takeThing qX4_takeThing (fun _ => rfl) (t_stop M2 N2 t (ht.fr (hf1.tr hf2) tk_lo tk_17) hn e2 g5 b4) ?_
    rintro r M3 N3 ⟨rfl, hf3, h | h⟩
    · obtain ⟨c, w, q3, rfl, c2, c3⟩ := h
      refine hd_ju kX4_takeThing (fun _ => rfl) (fun _ => ?_) (fun c => absurd rfl c)
      refine hd_go kX4_takeThing 999 (fun _ => rfl) rfl trivial ?_
      exact hd_en_ kX4_takeThing (fun _ => rfl) (Or.inl rfl) ⟨rfl, ((hf1.tr hf2).tr hf3).mo tk_ln, Or.inl ⟨c, w, (q _).trans ((q2 _).trans (q3 _)), rfl, c2, c3⟩⟩
    obtain ⟨e3, q3, g7, g8, rfl, d2, d4, d7⟩ := h
    refine hd_ju kX4_takeThing (fun _ => rfl) (fun c => absurd c (by decide)) (fun _ => ?_)
    refine hd_go kX4_takeThing 999 (fun _ => rfl) rfl trivial ?_
    rw [d7, b7]
    refine hd_ca kX4_takeThing qX4_takeThing (fun _ => rfl) (s_add_7 M3 N3 d (((hd.tk hf1).tk hf2).tk hf3) h7 kd g x) ?_
    rintro r M4 N4 ⟨rfl, ⟨z, -⟩ | ⟨-, rfl, hf4, hd4⟩⟩
    · exact absurd z c7
    have o4 : ∀ j, M4 16 j = M3 16 j := fun j => hf4 16 j (fun z => by have z : 7 ≤ 16 ∧ 16 ≤ 11 := z; omega)
    refine hd_ju kX4_takeThing (fun _ => rfl) (fun c => absurd c (by decide)) (fun _ => ?_)
    refine hd_go kX4_takeThing 67 (fun _ => rfl) rfl trivial ?_
    refine hd_en_ kX4_takeThing (fun _ => rfl) (Or.inr rfl) ⟨rfl, (((hf1.tr hf2).tr hf3).mo tk_ln).tr (hf4.mo (fun c j z => Or.inr z)), Or.inr ⟨e3, _, _, _, (q _).trans ((q2 _).trans (q3 _)), rfl, ?_, ?_, hd4, ?_, ?_⟩⟩
    · rw [o4, d2, b2, a2]
    · rw [o4, d4]
    · rw [o4, tkl 8 (by decide) hf3, tkl 8 (by decide) hf2, tkl 8 (by decide) hf1]; exact h8
    · rw [o4, tkl 9 (by decide) hf3, tkl 9 (by decide) hf2, tkl 9 (by decide) hf1]; exact h9
  · have c7 : d.1 = 7 := by
      rcases Nat.lt_or_ge d.1 7 with z | z
      · exact absurd (nI_lt (b := 7) z (by decide)) c
      · omega
    rw [if_pos c7]
    refine hd_go kX4_takeThing 999 (fun _ => rfl) rfl trivial ?_
    refine hd_ca kX4_takeThing qX4_takeThing (fun _ => rfl) (t_refuse M N 5) ?_
    rintro r M1 N1 ⟨rfl, rfl, hf, a2, a3⟩
    exact hd_en_ kX4_takeThing (fun _ => rfl) (Or.inl rfl) ⟨rfl, hf.mo rf_ln, Or.inl ⟨5, s, rfl, rfl, a2, by rw [a3, h5]⟩⟩
set_option maxRecDepth 20000 in
theorem t_line (M : hd_M) (N : hd_N) (t : tx_T) (ht : tpC M t) (hn : t.1 ≤ 160) (s : Nat) (hs : s ≤ t.1) (h4 : M 16 4 = nI (tx_e t s)) (h5 : M 16 5 = nI s) (h6 : M 16 6 = tx_so t s) (d : dy_T) (hd : hm M 7 d) (ok : txd d) (mt tt : Bool) (h8 : M 16 8 = bI mt) (h9 : M 16 9 = bI tt) : hd_Ret mX4_takeLine [.ref 16, .ref 7] M N (lnQ M N (tx_ln t s d mt tt)) := by
  change hd_Go mX4_takeLine 0 [some (.ref 16), some (.ref 7), none] [] M N _
  have key : hd_Go mX4_takeLine 16 [some (.ref 16), some (.ref 7), none] [.int (tx_wd t s)] M N (lnQ M N (tx_ln t s d mt tt)) := by
    unfold tx_ln tx_lw
    refine hd_go kX4_takeLine 999 (fun _ => rfl) rfl trivial ?_
    refine hd_sc kX4_takeLine (fun _ => rfl) ⟨fun c => ?_, fun c0 => ⟨fun c => ?_, fun c4 => ⟨fun c => ?_, fun c5 => ?_⟩⟩⟩
    · rw [if_pos c]
      refine hd_go kX4_takeLine 999 (fun _ => rfl) rfl trivial ?_
      refine hd_ca kX4_takeLine qX4_takeLine (fun _ => rfl) (t_refuse M N 2) ?_
      rintro r M1 N1 ⟨rfl, rfl, hf, a2, a3⟩
      exact hd_en_ kX4_takeLine (fun _ => rfl) (Or.inl rfl) ⟨rfl, hf.mo rf_ln, Or.inl ⟨2, s, rfl, rfl, a2, by rw [a3, h5]⟩⟩
    · rw [if_neg c0, if_pos c]
      refine hd_go kX4_takeLine 999 (fun _ => rfl) rfl trivial ?_
      refine hd_ca kX4_takeLine qX4_takeLine (fun _ => rfl) (t_mood M N t ht hn s hs h4 h5 d hd mt tt h8 h9) ?_
      rintro r M1 N1 ⟨h1, h2, h | h⟩
      · obtain ⟨c, w, q, rfl, h⟩ := h
        exact hd_en_ kX4_takeLine (fun _ => rfl) (Or.inl rfl) ⟨h1, h2, Or.inl ⟨c, w, q, rfl, h⟩⟩
      · obtain ⟨a, b, c, e, q, rfl, h⟩ := h
        exact hd_en_ kX4_takeLine (fun _ => rfl) (Or.inr rfl) ⟨h1, h2, Or.inr ⟨a, b, c, e, q, rfl, h⟩⟩
    · rw [if_neg c0, if_neg c4, if_pos c]
      refine hd_go kX4_takeLine 999 (fun _ => rfl) rfl trivial ?_
      refine hd_ca kX4_takeLine qX4_takeLine (fun _ => rfl) (t_tire M N t ht hn s hs h4 h5 d hd mt tt h8 h9) ?_
      rintro r M1 N1 ⟨h1, h2, h | h⟩
      · obtain ⟨c, w, q, rfl, h⟩ := h
        exact hd_en_ kX4_takeLine (fun _ => rfl) (Or.inl rfl) ⟨h1, h2, Or.inl ⟨c, w, q, rfl, h⟩⟩
      · obtain ⟨a, b, c, e, q, rfl, h⟩ := h
        exact hd_en_ kX4_takeLine (fun _ => rfl) (Or.inr rfl) ⟨h1, h2, Or.inr ⟨a, b, c, e, q, rfl, h⟩⟩
    · rw [if_neg c0, if_neg c4, if_neg c5]
      refine hd_go kX4_takeLine 999 (fun _ => rfl) rfl trivial ?_
      refine hd_ca kX4_takeLine qX4_takeLine (fun _ => rfl) (t_thing M N t ht hn s hs h4 h5 d hd ok mt tt h8 h9 (tx_wd t s)) ?_
      rintro r M1 N1 ⟨h1, h2, h | h⟩
      · obtain ⟨c, w, q, rfl, h⟩ := h
        exact hd_en_ kX4_takeLine (fun _ => rfl) (Or.inl rfl) ⟨h1, h2, Or.inl ⟨c, w, q, rfl, h⟩⟩
      · obtain ⟨a, b, c, e, q, rfl, h⟩ := h
        exact hd_en_ kX4_takeLine (fun _ => rfl) (Or.inr rfl) ⟨h1, h2, Or.inr ⟨a, b, c, e, q, rfl, h⟩⟩
  unfold tx_wd at key
  refine hd_go kX4_takeLine 999 (fun _ => rfl) rfl trivial ?_
  rw [h6]
  refine hd_ju kX4_takeLine (fun _ => rfl) (fun c => ?_) (fun c => ?_)
  · rw [if_neg c] at key
    refine hd_go kX4_takeLine 16 (fun _ => rfl) rfl trivial ?_
    exact key
  · rw [if_pos c] at key
    refine hd_go kX4_takeLine 999 (fun _ => rfl) rfl trivial ?_
    refine hd_ci kX4_takeLine qX4_takeLine (fun _ => rfl) (t_word M N t ht hn s hs h4 h5) ?_
    refine hd_go kX4_takeLine 16 (fun _ => rfl) rfl trivial ?_
    exact key
set_option maxRecDepth 20000 in
theorem t_tell_l (M : hd_M) (N : hd_N) (t : tx_T) (ht : tpC M t) (hn : t.1 ≤ 160) (Z : tx_F ⊕ (Nat × dy_T)) : ∀ (m p l : Nat) (d : dy_T) (mt tt : Bool) (M' : hd_M), p ≤ t.1 → t.1 < p + m → l ≤ p → fr lnF M M' → M' 16 4 = nI p → M' 16 2 = 0 → hm M' 7 d → txd d → M' 16 8 = bI mt → M' 16 9 = bI tt → tx_lp t m p l d mt tt = Z → hd_Go mX4_tell 26 [some (.ref 16), some (.ref 7), some (.int (nI l))] [] M' N (fun r M1 N1 => N1 = N ∧ fr lnF M M1 ∧ ((∃ c w x, Z = .inl (c, w) ∧ r = some (.int x) ∧ M1 16 2 = c ∧ M1 16 3 = nI w) ∨ (∃ l d, Z = .inr (l, d) ∧ r = some (.int (nI l)) ∧ M1 16 2 = 0 ∧ hm M1 7 d))) := by
  intro m
  induction m with
  | zero => intro p l d mt tt M' h1 h2; omega
  | succ m ih =>
    intro p l d mt tt M' hp hm1 hl hf h4 h2 hd ok h8 h9 hZ
    rw [tx_lp] at hZ
    have hs := tx_s_le hp
    refine hd_go kX4_tell 999 (fun _ => rfl) rfl trivial ?_
    refine hd_ju kX4_tell (fun _ => rfl) (fun c => absurd c (nI_nlt (a := 160) (by omega) (by decide))) (fun _ => ?_)
    refine hd_go kX4_tell 999 (fun _ => rfl) rfl trivial ?_
    refine hd_ca kX4_tell qX4_tell (fun _ => rfl) (t_token M' N t (ht.fr hf ln_lo ln_17) hn p hp h4) ?_
    rintro r M1 N1 ⟨rfl, hf1, h | h⟩
    · obtain ⟨w, q, rfl, a2, a3⟩ := h
      rw [q] at hZ
      refine hd_ju kX4_tell (fun _ => rfl) (fun _ => ?_) (fun c => absurd rfl c)
      refine hd_go kX4_tell 999 (fun _ => rfl) rfl trivial ?_
      exact hd_en_ kX4_tell (fun _ => rfl) trivial ⟨rfl, hf.tr (hf1.mo tk_ln), Or.inl ⟨1, w, _, hZ.symm, rfl, a2, a3⟩⟩
    obtain ⟨s, q, rfl, a2, a4, a5, a6, a7⟩ := h
    rw [q] at hZ
    obtain ⟨rfl, -⟩ := tx_rd_r q
    simp only [] at hZ
    have hd1 := hd.tk hf1
    refine hd_ju kX4_tell (fun _ => rfl) (fun c => absurd c (by decide)) (fun _ => ?_)
    refine hd_go kX4_tell 999 (fun _ => rfl) rfl trivial ?_
    rw [a6]
    refine hd_ju kX4_tell (fun _ => rfl) (fun c => ?_) (fun c => ?_)
    · rw [if_pos c] at hZ
      refine hd_go kX4_tell 999 (fun _ => rfl) rfl trivial ?_
      exact hd_en_ kX4_tell (fun _ => rfl) trivial ⟨rfl, hf.tr (hf1.mo tk_ln), Or.inr ⟨l, d, hZ.symm, rfl, by rw [a2, h2], hd1⟩⟩
    rw [if_neg c] at hZ
    have ok1 := tx_ln_ok (mt := mt) (tt := tt) hs.2 ok
    refine hd_go kX4_tell 999 (fun _ => rfl) rfl trivial ?_
    refine hd_ca kX4_tell qX4_tell (fun _ => rfl) (t_line M1 N1 t (ht.fr (hf.tr (hf1.mo tk_ln)) ln_lo ln_17) hn (tx_s t p) hs.2 a4 a5 a6 d hd1 ok mt tt (by rw [hf1 16 8 (fun z => by have z := z.2.2; omega)]; exact h8) (by rw [hf1 16 9 (fun z => by have z := z.2.2; omega)]; exact h9)) ?_
    rintro r M2 N2 ⟨rfl, hf2, h | h⟩
    · obtain ⟨c, w, q2, rfl, b2, b3⟩ := h
      rw [q2] at hZ
      refine hd_ju kX4_tell (fun _ => rfl) (fun _ => ?_) (fun c => absurd rfl c)
      refine hd_go kX4_tell 999 (fun _ => rfl) rfl trivial ?_
      exact hd_en_ kX4_tell (fun _ => rfl) trivial ⟨rfl, (hf.tr (hf1.mo tk_ln)).tr hf2, Or.inl ⟨c, w, _, hZ.symm, rfl, b2, b3⟩⟩
    obtain ⟨e, d', mt', tt', q2, rfl, b2, b4, hd2, b8, b9⟩ := h
    rw [q2] at hZ ok1
    rcases ok1 with ⟨_, _, z, -⟩ | ⟨_, _, _, _, z, g1, g2, ok2⟩
    · cases z
    injection z with z
    obtain ⟨rfl, rfl, rfl, rfl⟩ : e = _ ∧ d' = _ ∧ mt' = _ ∧ tt' = _ := by
      injection z with z1 z
      injection z with z2 z
      injection z with z3 z4
      exact ⟨z1, z2, z3, z4⟩
    refine hd_ju kX4_tell (fun _ => rfl) (fun c => absurd c (by decide)) (fun _ => ?_)
    refine hd_go kX4_tell 26 (fun _ => rfl) rfl trivial ?_
    rw [nI_1]
    exact ih _ (l + 1) _ _ _ M2 g2 (by omega) (by omega) ((hf.tr (hf1.mo tk_ln)).tr hf2) b4 (by rw [b2, a2, h2]) hd2 ok2 b8 b9 hZ
set_option maxRecDepth 20000 in
theorem t_tell (M : hd_M) (N : hd_N) (t : tx_T) (ht : tpC M t) (hn : t.1 ≤ 160) : hd_Ret mX4_tell [.ref 16, .ref 7] M N (fun r M1 N1 => N1 = N ∧ fr lnF M M1 ∧ ((∃ c w x, tx_lp t (t.1 + 1) 0 0 dy_0 false false = .inl (c, w) ∧ r = some (.int x) ∧ M1 16 2 = c ∧ M1 16 3 = nI w) ∨ (∃ l d, tx_lp t (t.1 + 1) 0 0 dy_0 false false = .inr (l, d) ∧ r = some (.int (nI l)) ∧ M1 16 2 = 0 ∧ hm M1 7 d))) := by
  change hd_Go mX4_tell 0 [some (.ref 16), some (.ref 7), none] [] M N _
  refine hd_go kX4_tell 999 (fun _ => rfl) rfl trivial ?_
  refine hd_ca kX4_tell qX4_tell (fun _ => rfl) (s_clear M N (fun _ _ => 0)) ?_
  rintro r M1 N1 ⟨rfl, rfl, hf1, hd⟩
  have hf1' : fr lnF M M1 := hf1.mo (fun c j z => Or.inr (by have z : c = 7 := z; omega))
  refine hd_go kX4_tell 26 (fun _ => rfl) rfl ⟨⟨trivial, Or.inl rfl⟩, Or.inl rfl⟩ ?_
  obtain ⟨M2, hM2⟩ : ∃ M2, M2 = hd_u (hd_u (hd_u (hd_u M1 16 2 0) 16 4 0) 16 8 0) 16 9 0 := ⟨_, rfl⟩
  rw [← hM2]
  have f2 : fr lnF M M2 := by rw [hM2]; exact (((hf1'.up (Or.inl ⟨rfl, by decide⟩)).up (Or.inl ⟨rfl, by decide⟩)).up (Or.inl ⟨rfl, by decide⟩)).up (Or.inl ⟨rfl, by decide⟩)
  have k2 : M2 16 2 = 0 := by rw [hM2, hd_u_n (by omega), hd_u_n (by omega), hd_u_n (by omega), hd_u_s]
  have k4 : M2 16 4 = nI 0 := by rw [hM2, hd_u_n (by omega), hd_u_n (by omega), hd_u_s]; rfl
  have k8 : M2 16 8 = bI false := by rw [hM2, hd_u_n (by omega), hd_u_s]; rfl
  have k9 : M2 16 9 = bI false := by rw [hM2, hd_u_s]; rfl
  have hd2 : hm M2 7 dy_0 := hd.mv (fun c j h1 h2 => by rw [hM2, hd_u_n (by omega), hd_u_n (by omega), hd_u_n (by omega), hd_u_n (by omega)])
  exact t_tell_l M N1 t ht hn _ (t.1 + 1) 0 0 dy_0 false false M2 (Nat.zero_le _) (by omega) (Nat.le_refl _) f2 k4 k2 hd2 txd_0 k8 k9 rfl
set_option maxRecDepth 20000 in
theorem c_text : cA mX5_text [] an_text := by
  intro M N st hI hO
  change hd_Go mX5_text 0 [some (.ref 0), none, none] [] M N _
  obtain ⟨h1, h2, h3, h4, h5, h6, h7⟩ := hI
  have hn := hO.2.2.1.1
  unfold an_text
  have okL := tx_lp_ok st.2.2.1 (st.2.2.1.1 + 1) 0 0 dy_0 false false (Nat.zero_le _) txd_0
  refine hd_go kX5_text 999 (fun _ => rfl) rfl trivial ?_
  refine hd_ca kX5_text qX5_text (fun _ => rfl) (t_tell M N st.2.2.1 h3 hn) ?_
  rintro r M1 N1 ⟨rfl, hf, h | h⟩
  · obtain ⟨c, w, x, q, rfl, a2, a3⟩ := h
    rw [q] at okL ⊢
    have hc : ¬ c = 0 := by
      rcases okL with ⟨c', w', z, z2, -⟩ | ⟨_, _, z, -⟩
      · injection z with z
        injection z with z1 z3
        rw [z1]
        exact fun z => by rw [z] at z2; exact absurd z2 (by decide)
      · cases z
    refine hd_go kX5_text 999 (fun _ => rfl) rfl trivial ?_
    rw [hd_u_n (by omega), a2]
    refine hd_ju kX5_text (fun _ => rfl) (fun z => absurd z hc) (fun _ => ?_)
    refine hd_go kX5_text 999 (fun _ => rfl) rfl trivial ?_
    rw [hd_u_n (by omega), a3]
    have g : ∀ c j, ¬ (7 ≤ c ∧ c ≤ 11) → ¬ c = 16 → hd_u M1 16 1 0 c j = M c j := fun c j z1 z2 => by
      rw [hd_u_n (by omega)]
      exact hf c j (fun z => by have z : (c = 16 ∧ 2 ≤ j) ∨ (7 ≤ c ∧ c ≤ 11) := z; omega)
    refine hd_en_ kX5_text (fun _ => rfl) trivial ⟨rfl, rfl, ?_, h1.mv fun c j z1 z2 => g c j (by omega) (by omega), h2.mv fun c j z1 z2 => g c j (by omega) (by omega), ⟨hd_u_s _ _ _ _, fun i hi => absurd hi (Nat.not_lt_zero i)⟩, h4.mv fun c j z1 z2 => g c j (by omega) (by omega), h5.mv fun c j z1 z2 => g c j (by omega) (by omega), ?_, ?_⟩
    · exact (hf.mo (fun c j z => by have z : (c = 16 ∧ 2 ≤ j) ∨ (7 ≤ c ∧ c ≤ 11) := z; show c ≤ 50; omega)).up (by show 16 ≤ 50; omega)
    · rw [g 0 9 (by omega) (by omega)]; exact h6
    · rw [hd_u_n (by omega)]; exact a2
  · obtain ⟨l, d, q, rfl, a2, hd⟩ := h
    rw [q] at okL ⊢
    have ok : txd d := by
      rcases okL with ⟨c', w', z, -⟩ | ⟨_, _, z, z2⟩
      · cases z
      · injection z with z
        injection z with z1 z3
        rw [z3]
        exact z2
    refine hd_go kX5_text 999 (fun _ => rfl) rfl trivial ?_
    rw [hd_u_n (by omega), a2]
    refine hd_ju kX5_text (fun _ => rfl) (fun _ => ?_) (fun z => absurd rfl z)
    refine hd_go kX5_text 999 (fun _ => rfl) rfl trivial ?_
    have hd1 : hm (hd_u M1 16 1 0) 7 d := hd.mv (fun c j z1 z2 => hd_u_n (by omega))
    refine hd_ca kX5_text qX5_text (fun _ => rfl) (s_copyFrom_1_7 (hd_u M1 16 1 0) N1 d hd1 ok.1) ?_
    rintro r M2 N2 ⟨rfl, rfl, hf2, hd2⟩
    have o2 : ∀ c j, ¬ (1 ≤ c ∧ c ≤ 5) → M2 c j = hd_u M1 16 1 0 c j := fun c j z => hf2 c j z
    refine hd_go kX5_text 999 (fun _ => rfl) rfl trivial ?_
    refine hd_ju kX5_text (fun _ => rfl) (fun c => absurd c (by decide)) (fun _ => ?_)
    refine hd_go kX5_text 999 (fun _ => rfl) rfl ⟨⟨trivial, by decide, by decide⟩, Or.inl rfl⟩ ?_
    refine hd_go kX5_text 999 (fun _ => rfl) rfl trivial ?_
    refine hd_ju kX5_text (fun _ => rfl) (fun c => absurd c (by decide)) (fun _ => ?_)
    refine hd_go kX5_text 999 (fun _ => rfl) rfl ⟨⟨trivial, by decide, by decide⟩, Or.inl rfl⟩ ?_
    refine hd_go kX5_text 999 (fun _ => rfl) rfl trivial ?_
    refine hd_ju kX5_text (fun _ => rfl) (fun _ => ?_) (fun c => absurd (by decide) c)
    refine hd_go kX5_text 999 (fun _ => rfl) rfl trivial ?_
    have g : ∀ c j, ¬ (1 ≤ c ∧ c ≤ 5) → ¬ (7 ≤ c ∧ c ≤ 11) → ¬ c = 16 → ¬ (c = 13 ∧ j = 2) → ¬ (c = 19 ∧ j = 2) → ¬ (c = 29 ∧ j = 2) → hd_u (hd_u (hd_u M2 13 2 0) 19 2 0) 29 2 0 c j = M c j := fun c j z1 z2 z3 z4 z5 z6 => by
      rw [hd_u_n z6, hd_u_n z5, hd_u_n z4, o2 c j z1, hd_u_n (by omega)]
      exact hf c j (fun z => by have z : (c = 16 ∧ 2 ≤ j) ∨ (7 ≤ c ∧ c ≤ 11) := z; omega)
    have g16 : ∀ j, hd_u (hd_u (hd_u M2 13 2 0) 19 2 0) 29 2 0 16 j = hd_u M1 16 1 0 16 j := fun j => by
      rw [hd_u_n (by omega), hd_u_n (by omega), hd_u_n (by omega), o2 16 j (by omega)]
    refine hd_en_ kX5_text (fun _ => rfl) trivial ⟨rfl, rfl, ?_, hd2.mv fun c j z1 z2 => by rw [hd_u_n (by omega), hd_u_n (by omega), hd_u_n (by omega)], ⟨?_, fun i hi => absurd hi (Nat.not_lt_zero i), fun i hi => absurd hi (Nat.not_lt_zero i)⟩, ⟨?_, fun i hi => absurd hi (Nat.not_lt_zero i)⟩, fun k hk => ⟨?_, fun z => by cases z⟩, h5.mv fun c j z1 z2 => g c j (by omega) (by omega) (by omega) (by omega) (by omega) (by omega), ?_, ?_⟩
    · have f1 : fr clsF M (hd_u M1 16 1 0) := (hf.mo (fun c j z => by have z : (c = 16 ∧ 2 ≤ j) ∨ (7 ≤ c ∧ c ≤ 11) := z; show c ≤ 50; omega)).up (by show 16 ≤ 50; omega)
      exact (((f1.tr (hf2.mo (fun c j z => by have z : 1 ≤ c ∧ c ≤ 5 := z; show c ≤ 50; omega))).up (by show 13 ≤ 50; omega)).up (by show 19 ≤ 50; omega)).up (by show 29 ≤ 50; omega)
    · rw [hd_u_n (by omega), hd_u_n (by omega), hd_u_s]; rfl
    · rw [g16, hd_u_s]; rfl
    · rcases (show k = 0 ∨ k = 1 by omega) with rfl | rfl
      · show hd_u (hd_u (hd_u M2 13 2 0) 19 2 0) 29 2 0 19 2 = 0
        rw [hd_u_n (by omega), hd_u_s]
      · show hd_u (hd_u (hd_u M2 13 2 0) 19 2 0) 29 2 0 29 2 = 0
        rw [hd_u_s]
    · rw [g 0 9 (by omega) (by omega) (by omega) (by omega) (by omega) (by omega)]; exact h6
    · rw [g16, hd_u_n (by omega)]; exact a2
