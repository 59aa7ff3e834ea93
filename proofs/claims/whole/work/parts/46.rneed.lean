/-! THE REFERENCE'S NEED, KIND, BEAR, SEEN; printed by wip/whole/ref7.py -/
set_option maxRecDepth 20000 in
/-- the reference idles, its state as it was -/
theorem idR.rf {M0 M : hd_M} {d : dy_T} (h : fr idR M0 M) (hd : rf M0 52 0 d) (hn : d.1 ≤ 7) : rf M 52 0 d := hd.mv hn (fun j _ _ => h 52 j (by simp))
set_option maxRecDepth 20000 in
theorem d_need_l (M : hd_M) (N : hd_N) (d : dy_T) (hd : rf M 52 0 d) (ok : dy_ok d) (i : Nat) (hi : i < d.1) (n : Nat) (hn : n ≤ 60) (v : Int32) : ∀ (m g : Nat) (M' : hd_M), g + m = 10 → fr idR M M' → hd_Go mX6_need 27 [some (.ref 51), some (.int (nI i)), some (.int (nI n)), some (.int v), some (.int (nI g))] [] M' N (fun r M1 _ => r = some (.int (dy_fst (fun g => decide (¬ dy_md n (dy_set 1 i (nI g) d) < v)) m g)) ∧ fr idR M M1) := by
  have h7 := ok.1
  intro m
  induction m with
  | zero =>
    intro g M' hg hf
    refine hd_go kX6_need 999 (fun _ => rfl) rfl trivial ?_
    refine hd_ju kX6_need (fun _ => rfl) (fun c => ?_) (fun c => absurd (nI_lt (a := 9) (by omega) (by omega)) c)
    refine hd_go kX6_need 999 (fun _ => rfl) rfl trivial ?_
    exact hd_en_ kX6_need (fun _ => rfl) trivial ⟨rfl, hf⟩
  | succ m ih =>
    intro g M' hg hf
    refine hd_go kX6_need 999 (fun _ => rfl) rfl trivial ?_
    refine hd_ju kX6_need (fun _ => rfl) (fun c => absurd c (nI_nlt (a := 9) (by omega) (by decide))) (fun c => ?_)
    refine hd_go kX6_need 999 (fun _ => rfl) rfl trivial ?_
    refine hd_ca kX6_need qX6_need (fun _ => rfl) (r_st M' N d (idR.rf hf hd h7) h7) ?_
    rintro r M1 N1 ⟨rfl, rfl, hf1, hd1, -⟩
    refine hd_go kX6_need 999 (fun _ => rfl) rfl trivial ?_
    refine hd_ca kX6_need qX6_need (fun _ => rfl) (r_bo i 1 (by omega) _ M1 N1) ?_
    rintro r M2 N2 ⟨rfl, rfl, rfl⟩
    refine hd_go kX6_need 999 (fun _ => rfl) rfl trivial ?_
    refine hd_ca kX6_need qX6_need (fun _ => rfl) (r_mb _ N2 _ (rf_set hd1 1 i (by decide) hi h7 (nI g)) (dy_ok_set ok (by decide)) n hn) ?_
    rintro r M3 N3 ⟨rfl, rfl, hf3⟩
    have hf9 : fr idR M M3 := ((hf.tr (nowR hf1)).up (show idR 53 (4 * i + 1) from Or.inl rfl)).tr (n33R hf3)
    refine hd_go kX6_need 999 (fun _ => rfl) rfl trivial ?_
    rw [dy_fst]
    refine hd_ju kX6_need (fun _ => rfl) (fun c => ?_) (fun c => ?_)
    · rw [if_neg (by simp [c])]
      refine hd_go kX6_need 999 (fun _ => rfl) rfl trivial ?_
      rw [nI_1]
      exact ih (g + 1) M3 (by omega) hf9
    · rw [if_pos (by simp [c])]
      refine hd_go kX6_need 999 (fun _ => rfl) rfl trivial ?_
      exact hd_en_ kX6_need (fun _ => rfl) trivial ⟨rfl, hf9⟩
set_option maxRecDepth 20000 in
theorem d_need (i n v : Int32) : rA mX6_need [.int i, .int n, .int v] (an_need i n v) := by
  intro M N st hI hO
  change hd_Go mX6_need 0 [some (.ref 51), some (.int i), some (.int n), some (.int v), none] [] M N _
  have h7 := hO.1.1
  have bad : ¬ (an_th i st.1 ∧ wi n 0 60 ∧ wi v 0 99) → hd_Go mX6_need 22 [some (.ref 51), some (.int i), some (.int n), some (.int v), none] [] M N (fun r M1 _ => r = some (an_need i n v st).1 ∧ fr refF M M1 ∧ RI M1 (an_need i n v st).2) := by
    intro q
    refine hd_go kX6_need 999 (fun _ => rfl) rfl trivial ?_
    refine hd_en_ kX6_need (fun _ => rfl) trivial ⟨?_, fr.rf, hI⟩
    unfold an_need
    rw [if_neg q]
  unfold an_need at bad ⊢
  refine hd_go kX6_need 999 (fun _ => rfl) rfl trivial ?_
  refine hd_ci kX6_need qX6_need (fun _ => rfl) (r_isTh _ M N st.1 hI.1.1 h7) ?_
  refine hd_ju kX6_need (fun _ => rfl) (fun q => bad (fun z => hd_b0.mp q z.1)) (fun q => ?_)
  have q1 := hd_b1.mp q
  refine hd_go kX6_need 999 (fun _ => rfl) rfl trivial ?_
  refine hd_ci kX6_need qX6_need (fun _ => rfl) (r_isFar _ M N) ?_
  refine hd_ju kX6_need (fun _ => rfl) (fun q => bad (fun z => hd_b0.mp q z.2.1)) (fun q => ?_)
  have q2 := hd_b1.mp q
  refine hd_go kX6_need 999 (fun _ => rfl) rfl trivial ?_
  refine hd_ci kX6_need qX6_need (fun _ => rfl) (r_isMood _ M N) ?_
  refine hd_ju kX6_need (fun _ => rfl) (fun q => ?_) (fun q => bad (fun z => hd_b0.mp q z.2.2))
  have q3 := hd_b1.mp q
  rw [if_pos ⟨q1, q2, q3⟩]
  obtain ⟨x, hx, rfl⟩ := an_th_nat q1 h7
  obtain ⟨j, hj, rfl⟩ := wi_nat (n := 60) rfl q2
  rw [nI_clamp (show x < 2 ^ 31 by omega), nI_clamp (show j < 2 ^ 31 by omega)]
  refine hd_go kX6_need 27 (fun _ => rfl) rfl trivial ?_
  refine hd_Go.post ?_ (d_need_l M N st.1 hI.1 hO.1 x hx j hj v 10 0 M (by decide) fr.rf)
  rintro r M2 N2 ⟨rfl, hf2⟩
  exact ⟨rfl, hI.q hO hf2⟩
set_option maxRecDepth 20000 in
theorem d_kind_l (M : hd_M) (N : hd_N) (d : dy_T) (hd : rf M 52 0 d) (ok : dy_ok d) (i : Nat) (hi : i < d.1) (n : Nat) (hn : n ≤ 60) (w : Int32) (f : Nat → Int32) (hfe : f = fun k => dy_md n (dy_set 0 i (nI k) d)) : ∀ (m k : Nat) (b o : Int32) (M' : hd_M), k + m = 4 → jdR M M' b o → hd_Go mX6_kind 32 [some (.ref 51), some (.int (nI i)), some (.int (nI n)), some (.int w), some (.int (nI k))] [] M' N (fun r M1 _ => r = some (.int (dy_fob (dy_best f nI m k b o).2 (dy_best f nI m k b o).1 w)) ∧ fr idR M M1) := by
  have h7 := ok.1
  intro m
  induction m with
  | zero =>
    intro k b o M' hk hj
    refine hd_go kX6_kind 999 (fun _ => rfl) rfl trivial ?_
    refine hd_ju kX6_kind (fun _ => rfl) (fun c => ?_) (fun c => absurd (nI_le (a := 4) (by omega) (by omega)) c)
    refine hd_go kX6_kind 999 (fun _ => rfl) rfl trivial ?_
    refine hd_ci kX6_kind qX6_kind (fun _ => rfl) (r_jd M M' N b o hj w) ?_
    exact hd_en_ kX6_kind (fun _ => rfl) trivial ⟨rfl, hj.1⟩
  | succ m ih =>
    intro k b o M' hk hj
    refine hd_go kX6_kind 999 (fun _ => rfl) rfl trivial ?_
    refine hd_ju kX6_kind (fun _ => rfl) (fun c => absurd c (nI_ge (b := 4) (by omega) (by decide))) (fun c => ?_)
    refine hd_go kX6_kind 999 (fun _ => rfl) rfl trivial ?_
    refine hd_ca kX6_kind qX6_kind (fun _ => rfl) (r_st M' N d (hj.rf hd h7) h7) ?_
    rintro r M1 N1 ⟨rfl, rfl, hf1, hd1, -⟩
    refine hd_go kX6_kind 999 (fun _ => rfl) rfl trivial ?_
    refine hd_ca kX6_kind qX6_kind (fun _ => rfl) (r_bo i 0 (by omega) _ M1 N1) ?_
    rintro r M2 N2 ⟨rfl, rfl, rfl⟩
    refine hd_go kX6_kind 999 (fun _ => rfl) rfl trivial ?_
    refine hd_ca kX6_kind qX6_kind (fun _ => rfl) (r_mb _ N2 _ (rf_set hd1 0 i (by decide) hi h7 (nI k)) (dy_ok_set ok (by decide)) n hn) ?_
    rintro r M3 N3 ⟨rfl, rfl, hf3⟩
    have hj3 : jdR M M3 b o := ((hj.now hf1).now (fr.rf.up (show nowF 53 (4 * i + 0) from rfl))).now (hf3.mo (fun a j h => h.1))
    refine hd_ca kX6_kind qX6_kind (fun _ => rfl) (r_ju M M3 N3 b o hj3 _ _) ?_
    rintro r M5 N5 ⟨rfl, rfl, hj5⟩
    refine hd_go kX6_kind 999 (fun _ => rfl) rfl trivial ?_
    rw [nI_1]
    have := ih (k + 1) _ _ M5 (by omega) hj5
    have ef : dy_md n (dy_set 0 i (nI k) d) = f k := by rw [hfe]
    rw [ef] at this
    rw [dy_best]
    by_cases q : b < f k
    · rw [if_pos q, if_pos q] at this
      rw [if_pos q]
      exact this
    · rw [if_neg q, if_neg q] at this
      rw [if_neg q]
      exact this
set_option maxRecDepth 20000 in
theorem d_kind (i n w : Int32) : rA mX6_kind [.int i, .int n, .int w] (an_kind i n w) := by
  intro M N st hI hO
  change hd_Go mX6_kind 0 [some (.ref 51), some (.int i), some (.int n), some (.int w), none] [] M N _
  have h7 := hO.1.1
  have bad : ¬ (an_th i st.1 ∧ wi n 0 60 ∧ wi w 0 1) → hd_Go mX6_kind 22 [some (.ref 51), some (.int i), some (.int n), some (.int w), none] [] M N (fun r M1 _ => r = some (an_kind i n w st).1 ∧ fr refF M M1 ∧ RI M1 (an_kind i n w st).2) := by
    intro q
    refine hd_go kX6_kind 999 (fun _ => rfl) rfl trivial ?_
    refine hd_en_ kX6_kind (fun _ => rfl) trivial ⟨?_, fr.rf, hI⟩
    unfold an_kind
    rw [if_neg q]
  unfold an_kind at bad ⊢
  refine hd_go kX6_kind 999 (fun _ => rfl) rfl trivial ?_
  refine hd_ci kX6_kind qX6_kind (fun _ => rfl) (r_isTh _ M N st.1 hI.1.1 h7) ?_
  refine hd_ju kX6_kind (fun _ => rfl) (fun q => bad (fun z => hd_b0.mp q z.1)) (fun q => ?_)
  have q1 := hd_b1.mp q
  refine hd_go kX6_kind 999 (fun _ => rfl) rfl trivial ?_
  refine hd_ci kX6_kind qX6_kind (fun _ => rfl) (r_isFar _ M N) ?_
  refine hd_ju kX6_kind (fun _ => rfl) (fun q => bad (fun z => hd_b0.mp q z.2.1)) (fun q => ?_)
  have q2 := hd_b1.mp q
  refine hd_go kX6_kind 999 (fun _ => rfl) rfl trivial ?_
  refine hd_ci kX6_kind qX6_kind (fun _ => rfl) (r_isPart _ M N) ?_
  refine hd_ju kX6_kind (fun _ => rfl) (fun q => ?_) (fun q => bad (fun z => hd_b0.mp q z.2.2))
  have q3 := hd_b1.mp q
  rw [if_pos ⟨q1, q2, q3⟩]
  obtain ⟨x, hx, rfl⟩ := an_th_nat q1 h7
  obtain ⟨j, hj, rfl⟩ := wi_nat (n := 60) rfl q2
  rw [nI_clamp (show x < 2 ^ 31 by omega), nI_clamp (show j < 2 ^ 31 by omega)]
  refine hd_go kX6_kind 999 (fun _ => rfl) rfl trivial ?_
  refine hd_ca kX6_kind qX6_kind (fun _ => rfl) (r_sj M M N fr.rf _) ?_
  rintro r M3 N3 ⟨rfl, rfl, hj3⟩
  refine hd_go kX6_kind 32 (fun _ => rfl) rfl trivial ?_
  refine hd_Go.post ?_ (d_kind_l M N3 st.1 hI.1 hO.1 x hx j hj w _ rfl 4 0 _ _ M3 (by decide) hj3)
  rintro r M2 N2 ⟨rfl, hf2⟩
  exact ⟨rfl, hI.q hO hf2⟩
set_option maxRecDepth 20000 in
theorem rf_tire {M : hd_M} {d : dy_T} (hd : rf M 53 0 d) (hn : d.1 ≤ 7) (v : Int32) : rf (hd_u M 53 31 v) 53 0 (dy_tire v d) := by
  obtain ⟨a5, a6, a7, a8, a9, b⟩ := hd
  refine ⟨?_, ?_, ?_, ?_, ?_, fun x hx => ?_⟩
  · rw [hd_u_n (by omega)]; exact a5
  · rw [hd_u_n (by omega)]; exact a6
  · rw [hd_u_n (by omega)]; exact a7
  · rw [show 0 + 31 = 31 from rfl]; exact hd_u_s _ _ _ _
  · rw [hd_u_n (by omega)]; exact a9
  · have hx : x < d.1 := hx
    rw [hd_u_n (by omega), hd_u_n (by omega), hd_u_n (by omega), hd_u_n (by omega)]
    exact b x hx
set_option maxRecDepth 20000 in
theorem d_bear_l (M : hd_M) (N : hd_N) (d : dy_T) (hd : rf M 52 0 d) (ok : dy_ok d) (n : Nat) (hn : n ≤ 60) (v : Int32) : ∀ (m : Nat) (M' : hd_M), m ≤ 10 → fr idR M M' → hd_Go mX6_bear 19 [some (.ref 51), some (.int (nI n)), some (.int v), some (.int (nI m - 1))] [] M' N (fun r M1 _ => r = some (.int (dy_lstd (fun t => decide (¬ dy_md n (dy_tire (nI t) d) < v)) m)) ∧ fr idR M M1) := by
  have h7 := ok.1
  intro m
  induction m with
  | zero =>
    intro M' hm0 hf
    refine hd_go kX6_bear 999 (fun _ => rfl) rfl trivial ?_
    refine hd_ju kX6_bear (fun _ => rfl) (fun c => ?_) (fun c => absurd (by decide) c)
    refine hd_go kX6_bear 999 (fun _ => rfl) rfl trivial ?_
    exact hd_en_ kX6_bear (fun _ => rfl) trivial ⟨rfl, hf⟩
  | succ m ih =>
    intro M' hm0 hf
    rw [nI_pred]
    refine hd_go kX6_bear 999 (fun _ => rfl) rfl trivial ?_
    refine hd_ju kX6_bear (fun _ => rfl) (fun c => absurd c (nI_pos (by omega))) (fun c => ?_)
    refine hd_go kX6_bear 999 (fun _ => rfl) rfl trivial ?_
    refine hd_ca kX6_bear qX6_bear (fun _ => rfl) (r_st M' N d (idR.rf hf hd h7) h7) ?_
    rintro r M1 N1 ⟨rfl, rfl, hf1, hd1, -⟩
    refine hd_go kX6_bear 999 (fun _ => rfl) rfl ⟨trivial, v46 (n := 31) (by decide)⟩ ?_
    refine hd_ca kX6_bear qX6_bear (fun _ => rfl) (r_mb (hd_u M1 53 31 (nI m)) N1 _ (rf_tire hd1 h7 (nI m)) (dy_ok_tire ok) n hn) ?_
    rintro r M3 N3 ⟨rfl, rfl, hf3⟩
    have hf9 : fr idR M M3 := ((hf.tr (nowR hf1)).up (show idR 53 31 from Or.inl rfl)).tr (n33R hf3)
    refine hd_go kX6_bear 999 (fun _ => rfl) rfl trivial ?_
    rw [dy_lstd]
    refine hd_ju kX6_bear (fun _ => rfl) (fun c => ?_) (fun c => ?_)
    · rw [if_neg (by simp [c])]
      refine hd_go kX6_bear 999 (fun _ => rfl) rfl trivial ?_
      rw [← Int32.sub_eq_add_neg]
      exact ih M3 (by omega) hf9
    · rw [if_pos (by simp [c])]
      refine hd_go kX6_bear 999 (fun _ => rfl) rfl trivial ?_
      exact hd_en_ kX6_bear (fun _ => rfl) trivial ⟨rfl, hf9⟩
set_option maxRecDepth 20000 in
theorem d_bear (n v : Int32) : rA mX6_bear [.int n, .int v] (an_bear n v) := by
  intro M N st hI hO
  change hd_Go mX6_bear 0 [some (.ref 51), some (.int n), some (.int v), none] [] M N _
  have bad : ¬ (wi n 0 60 ∧ wi v 0 99) → hd_Go mX6_bear 14 [some (.ref 51), some (.int n), some (.int v), none] [] M N (fun r M1 _ => r = some (an_bear n v st).1 ∧ fr refF M M1 ∧ RI M1 (an_bear n v st).2) := by
    intro q
    refine hd_go kX6_bear 999 (fun _ => rfl) rfl trivial ?_
    refine hd_en_ kX6_bear (fun _ => rfl) trivial ⟨?_, fr.rf, hI⟩
    unfold an_bear
    rw [if_neg q]
  unfold an_bear at bad ⊢
  refine hd_go kX6_bear 999 (fun _ => rfl) rfl trivial ?_
  refine hd_ci kX6_bear qX6_bear (fun _ => rfl) (r_isFar _ M N) ?_
  refine hd_ju kX6_bear (fun _ => rfl) (fun q => bad (fun z => hd_b0.mp q z.1)) (fun q => ?_)
  have q1 := hd_b1.mp q
  refine hd_go kX6_bear 999 (fun _ => rfl) rfl trivial ?_
  refine hd_ci kX6_bear qX6_bear (fun _ => rfl) (r_isMood _ M N) ?_
  refine hd_ju kX6_bear (fun _ => rfl) (fun q => ?_) (fun q => bad (fun z => hd_b0.mp q z.2))
  have q2 := hd_b1.mp q
  rw [if_pos ⟨q1, q2⟩]
  obtain ⟨j, hj, rfl⟩ := wi_nat (n := 60) rfl q1
  rw [nI_clamp (by omega)]
  refine hd_go kX6_bear 19 (fun _ => rfl) rfl trivial ?_
  refine hd_Go.post ?_ (d_bear_l M N st.1 hI.1 hO.1 j hj v 10 M (by decide) fr.rf)
  rintro r M2 N2 ⟨rfl, hf2⟩
  exact ⟨rfl, hI.q hO hf2⟩
set_option maxRecDepth 20000 in
theorem d_see (n v : Int32) : rA mX6_see [.int n, .int v] (an_see n v) := by
  intro M N st hI hO
  change hd_Go mX6_see 0 [some (.ref 51), some (.int n), some (.int v), none] [] M N _
  have h6 := hO.2.1.1
  have e33 : M 52 33 = nI st.2.1.1 := hI.2.1.1
  have bad : ¬ (wi n 0 20 ∧ wi v 0 99) → hd_Go mX6_see 19 [some (.ref 51), some (.int n), some (.int v), none] [] M N (fun r M1 _ => r = some (an_see n v st).1 ∧ fr refF M M1 ∧ RI M1 (an_see n v st).2) := by
    intro q
    refine hd_go kX6_see 999 (fun _ => rfl) rfl trivial ?_
    refine hd_en_ kX6_see (fun _ => rfl) trivial ?_
    unfold an_see
    rw [if_neg q]
    exact ⟨rfl, fr.rf, hI⟩
  unfold an_see at bad ⊢
  refine hd_go kX6_see 999 (fun _ => rfl) rfl trivial ?_
  refine hd_ci kX6_see qX6_see (fun _ => rfl) (r_in n 0 20 _ _ rfl rfl M N) ?_
  refine hd_ju kX6_see (fun _ => rfl) (fun q => bad (fun z => hd_b0.mp q z.1)) (fun q => ?_)
  have q1 := hd_b1.mp q
  refine hd_go kX6_see 999 (fun _ => rfl) rfl trivial ?_
  refine hd_ci kX6_see qX6_see (fun _ => rfl) (r_isMood _ M N) ?_
  refine hd_ju kX6_see (fun _ => rfl) (fun q => ?_) (fun q => bad (fun z => hd_b0.mp q z.2))
  have q2 := hd_b1.mp q
  rw [if_pos ⟨q1, q2⟩]
  refine hd_go kX6_see 999 (fun _ => rfl) rfl ⟨trivial, v138 (n := 33) (by decide)⟩ ?_
  show hd_Go mX6_see 30 [some (.ref 51), some (.int n), some (.int v), none] [.int 6, .int (M 52 33)] M N _
  rw [e33]
  refine hd_ju kX6_see (fun _ => rfl) (fun c => ?_) (fun c => ?_)
  · have hne : ¬ st.2.1.1 = 6 := fun z => c (by rw [z]; rfl)
    rw [if_neg hne]
    obtain ⟨s, hs⟩ : ∃ s, s = st.2.1.1 := ⟨_, rfl⟩
    rw [← hs] at e33 hne h6
    have e2 : (34 : Int32) + 2 * M 52 33 = nI (34 + 2 * s) := by rw [e33, show (34 : Int32) = nI 34 from rfl, show (2 : Int32) = nI 2 from rfl, pk_mul, nI_add]
    refine hd_go kX6_see 49 (fun _ => rfl) rfl ⟨trivial, v138 (n := 33) (by decide)⟩ ?_
    show hd_Go mX6_see 49 [some (.ref 51), some (.int n), some (.int v), some (.int (34 + 2 * M 52 33))] [] M N _
    rw [e2]
    refine hd_go kX6_see 999 (fun _ => rfl) rfl ?_ ?_
    · rw [nI_1]
      exact ⟨⟨⟨⟨⟨trivial, v138 (by omega)⟩, v138 (by omega)⟩, v138 (n := 33) (by decide)⟩, v138 (n := 33) (by decide)⟩, v138 (n := 33) (by decide)⟩
    rw [nI_1, nI_clamp (show 34 + 2 * s < 2 ^ 31 by omega), nI_clamp (show 34 + 2 * s + 1 < 2 ^ 31 by omega), show Int32.toNatClampNeg 33 = 33 from rfl, hd_u_s, hd_u_n (show ¬ (52 = 52 ∧ 33 = 34 + 2 * s + 1) by omega), hd_u_n (show ¬ (52 = 52 ∧ 33 = 34 + 2 * s) by omega), e33, nI_1]
    have hf : fr (fun c j => c = 52 ∧ 33 ≤ j ∧ j < 46) M (hd_u (hd_u (hd_u M 52 (34 + 2 * s) n) 52 (34 + 2 * s + 1) v) 52 33 (nI (s + 1))) := ((fr.rf.up (by show 52 = 52 ∧ 33 ≤ 34 + 2 * s ∧ 34 + 2 * s < 46; omega)).up (by show 52 = 52 ∧ 33 ≤ 34 + 2 * s + 1 ∧ 34 + 2 * s + 1 < 46; omega)).up (by decide)
    refine hd_en_ kX6_see (fun _ => rfl) trivial ⟨by rw [hs], hf.mo (fun c j z => by have z : c = 52 ∧ 33 ≤ j ∧ j < 46 := z; show 51 ≤ c; omega), hI.seen hO hf ⟨?_, fun x hx => ?_⟩⟩
    · rw [show 0 + 33 = 33 from rfl, hd_u_s, hs]
    · have hx : x < st.2.1.1 + 1 := hx
      show _ = (if x = st.2.1.1 then n else st.2.1.2.1 x) ∧ _ = (if x = st.2.1.1 then v else st.2.1.2.2 x)
      rw [← hs] at hx ⊢
      refine ⟨?_, ?_⟩
      · rw [hd_u_n (by omega), hd_u_n (by omega)]
        by_cases e : x = s
        · rw [if_pos e, e, Nat.zero_add, hd_u_s]
        · rw [if_neg e, hd_u_n (by omega)]; exact (hI.2.1.2 x (by omega)).1
      · rw [hd_u_n (by omega)]
        by_cases e : x = s
        · rw [if_pos e, e, show 0 + (35 + 2 * s) = 34 + 2 * s + 1 by omega, hd_u_s]
        · rw [if_neg e, hd_u_n (by omega), hd_u_n (by omega)]; exact (hI.2.1.2 x (by omega)).2
  · have he : st.2.1.1 = 6 := (nI_eq (by omega) (by decide)).mp c
    rw [if_pos he]
    refine hd_go kX6_see 999 (fun _ => rfl) rfl trivial ?_
    exact hd_en_ kX6_see (fun _ => rfl) trivial ⟨rfl, fr.rf, hI⟩
set_option maxRecDepth 20000 in
theorem d_forget (n : Int32) : rA mX6_forget [.int n] (an_forget n) := by
  intro M N st hI hO
  change hd_Go mX6_forget 0 [some (.ref 51), some (.int n)] [] M N _
  have h6 := hO.2.1.1
  have e33 : M 52 33 = nI st.2.1.1 := hI.2.1.1
  refine hd_go kX6_forget 999 (fun _ => rfl) rfl ⟨trivial, v138 (n := 33) (by decide)⟩ ?_
  show hd_Go mX6_forget 11 [some (.ref 51), some (.int n)] [.long (M 52 33).toInt64, .long 0, .long n.toInt64] M N _
  rw [e33]
  refine hd_ci kX6_forget qX6_forget (fun _ => rfl) (r_in n 0 (nI st.2.1.1) _ _ rfl rfl M N) ?_
  unfold an_forget
  refine hd_ju kX6_forget (fun _ => rfl) (fun q => ?_) (fun q => ?_)
  · rw [if_neg (hd_b0.mp q)]
    refine hd_go kX6_forget 999 (fun _ => rfl) rfl trivial ?_
    exact hd_en_ kX6_forget (fun _ => rfl) trivial ⟨rfl, fr.rf, hI⟩
  · have q := hd_b1.mp q
    obtain ⟨j, hj, rfl⟩ := nI_of2 (M := nI st.2.1.1) (n := st.2.1.1) (nI_toInt (by omega)) q.1 (Int32.not_lt.mp q.2)
    rw [if_pos q, nI_clamp (by omega)]
    refine hd_go kX6_forget 999 (fun _ => rfl) rfl trivial ?_
    refine hd_ca kX6_forget qX6_forget (fun _ => rfl) (r_bec 33 (by decide) (nI j) M N) ?_
    rintro r M1 N1 ⟨rfl, rfl, rfl⟩
    refine hd_go kX6_forget 999 (fun _ => rfl) rfl trivial ?_
    have hf : fr (fun c j => c = 52 ∧ 33 ≤ j ∧ j < 46) M (hd_u M 52 33 (nI j)) := fr.rf.up (by decide)
    refine hd_en_ kX6_forget (fun _ => rfl) trivial ⟨by rw [e33], hf.mo (fun c j z => by have z : c = 52 ∧ 33 ≤ j ∧ j < 46 := z; show 51 ≤ c; omega), hI.seen hO hf ⟨?_, fun x hx => ?_⟩⟩
    · rw [show 0 + 33 = 33 from rfl, hd_u_s]
    · have hx : x < j := hx
      rw [hd_u_n (by omega), hd_u_n (by omega)]
      exact hI.2.1.2 x (by omega)
