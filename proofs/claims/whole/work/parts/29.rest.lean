/-! DRIFT, WHAT WAS SEEN, IMAGES; printed by wip/whole/api4.py -/
set_option maxRecDepth 20000 in
theorem dr_cls (s : Int32) : (s.toUInt32 >>> ((16 : Int32).toUInt32 &&& Int32.toUInt32 31)).toInt32 &&& 32767 = nI (dr_g s) := by
  rw [pk_and _ 15 rfl, pk_ushr s 16 16 (by decide)]
  rfl
set_option maxRecDepth 20000 in
theorem dr_s_eq (s : Int32) : s * 1103515245 + 12345 = dr_s s := by unfold dr_s; exact Eq.refl _
set_option maxRecDepth 20000 in
theorem dr_lt (s : Int32) : dr_g s < 32768 := Nat.mod_lt _ (by decide)
set_option maxRecDepth 20000 in
theorem c_drift_l (M : hd_M) (N : hd_N) (n : Nat) (hn : n ≤ 60) (sd w : Int32) (Q : hd_Q) : ∀ (m j : Nat) (s : Int32) (d : dy_T) (M' : hd_M), j + m = n → fr tri M M' → hm M' 7 d → dy_ok d → 0 < d.1 → (∀ (M1 : hd_M) (s1 : Int32), fr tri M M1 → hm M1 7 (dy_dr m s d) → dy_ok (dy_dr m s d) → hd_Go mX5_drift 99 [some (.ref 0), some (.int sd), some (.int (nI n)), some (.int w), some (.int s1), some (.int (nI n))] [] M1 N Q) → hd_Go mX5_drift 51 [some (.ref 0), some (.int sd), some (.int (nI n)), some (.int w), some (.int s), some (.int (nI j))] [] M' N Q := by
  intro m
  induction m with
  | zero =>
    intro j s d M' hj hf hd ok h0 hk
    have hj : j = n := by omega
    subst hj
    refine hd_go kX5_drift 999 (fun _ => rfl) rfl trivial ?_
    refine hd_ju kX5_drift (fun _ => rfl) (fun c => ?_) (fun c => absurd (nI_le (by omega) (by omega)) c)
    rw [dy_dr_0] at hk
    exact hk M' s hf hd ok
  | succ m ih =>
    intro j s d M' hj hf hd ok h0 hk
    refine hd_go kX5_drift 999 (fun _ => rfl) rfl trivial ?_
    refine hd_ju kX5_drift (fun _ => rfl) (fun c => absurd c (nI_ge (by omega) (by omega))) (fun c => ?_)
    refine hd_go kX5_drift 999 (fun _ => rfl) rfl trivial ?_
    have es : s * 1103515245 + 12345 = dr_s s := dr_s_eq s
    rw [es]
    rw [dy_dr_s] at hk
    obtain ⟨s1, hs1⟩ : ∃ s1, s1 = dr_s s := ⟨_, rfl⟩
    rw [← hs1] at hk ⊢
    rw [dr_cls]
    obtain ⟨g1, hg1⟩ : ∃ g1, g1 = dr_g s1 := ⟨_, rfl⟩
    have hglt : g1 < 32768 := by rw [hg1]; exact dr_lt s1
    rw [← hg1] at hk ⊢
    refine hd_ca kX5_drift qX5_drift (fun _ => rfl) (s_blow M' N d hd ok.1 h0 g1 hglt) ?_
    have okb : dy_ok (dy_blow g1 d) := dy_ok_blow ok
    have nb : (dy_blow g1 d).1 = d.1 := dy_blow_n
    obtain ⟨X, hX⟩ : ∃ X, X = dy_blow g1 d := ⟨_, rfl⟩
    rw [← hX] at hk okb nb ⊢
    rintro r M1 N1 ⟨rfl, rfl, hf1, hd1⟩
    refine hd_go kX5_drift 999 (fun _ => rfl) rfl trivial ?_
    refine hd_ca kX5_drift qX5_drift (fun _ => rfl) (s_pass_7 M1 N1 X hd1 okb 1 (by decide)) ?_
    rintro r M2 N2 ⟨rfl, rfl, hf2, hd2⟩
    refine hd_go kX5_drift 999 (fun _ => rfl) rfl trivial ?_
    rw [nI_1]
    refine ih (j + 1) s1 (dy_ho false X) M2 (by omega) ((tri_of hf hf1).tr hf2) hd2 (dy_ok_ho okb) ?_ hk
    show 0 < X.1
    rw [nb]; exact h0
set_option maxRecDepth 20000 in
theorem c_drift (s n w : Int32) : cA mX5_drift [.int s, .int n, .int w] (an_drift s n w) := by
  intro M N st hI hO
  change hd_Go mX5_drift 0 [some (.ref 0), some (.int s), some (.int n), some (.int w), none, none] [] M N _
  have bad : ¬ (wi n 1 60 ∧ wi w 0 1) → hd_Go mX5_drift 19 [some (.ref 0), some (.int s), some (.int n), some (.int w), none, none] [] M N (fun r M1 N1 => r = some (an_drift s n w st).1 ∧ N1 = N ∧ fr clsF M M1 ∧ CI M1 (an_drift s n w st).2) := by
    intro q
    refine hd_go kX5_drift 999 (fun _ => rfl) rfl trivial ?_
    refine hd_en_ kX5_drift (fun _ => rfl) trivial ⟨?_, rfl, fr.rf, hI⟩
    unfold an_drift
    rw [if_neg q]
  unfold an_drift at bad ⊢
  refine hd_go kX5_drift 999 (fun _ => rfl) rfl trivial ?_
  refine hd_ci kX5_drift qX5_drift (fun _ => rfl) (s_isWithin _ _ _ M N) ?_
  refine hd_ju kX5_drift (fun _ => rfl) (fun q => bad (fun z => hd_b0.mp q z.1)) (fun q => ?_)
  have q1 := hd_b1.mp q
  refine hd_go kX5_drift 999 (fun _ => rfl) rfl trivial ?_
  refine hd_ci kX5_drift qX5_drift (fun _ => rfl) (s_isWithin _ _ _ M N) ?_
  refine hd_ju kX5_drift (fun _ => rfl) (fun q => ?_) (fun q => bad (fun z => hd_b0.mp q z.2))
  have q2 := hd_b1.mp q
  rw [if_pos ⟨q1, q2⟩]
  have h7 := hO.1.1
  refine hd_go kX5_drift 999 (fun _ => rfl) rfl trivial ?_
  rw [hI.1.1]
  refine hd_ju kX5_drift (fun _ => rfl) (fun q => ?_) (fun q => ?_)
  · have h0 : 0 < st.1.1 := by
      rcases Nat.eq_zero_or_pos st.1.1 with z | z
      · rw [z] at q; exact absurd rfl q
      · exact z
    rw [if_neg (by omega)]
    have q0 : wi n 0 60 := ⟨fun z => q1.1 (Int32.lt_trans z (by decide)), q1.2⟩
    obtain ⟨j, hj, rfl⟩ := wi_nat (n := 60) rfl q0
    rw [nI_clamp (by omega)]
    refine hd_go kX5_drift 999 (fun _ => rfl) rfl trivial ?_
    refine hd_ca kX5_drift qX5_drift (fun _ => rfl) (s_copyFrom_7_1 M N _ hI.1 h7) ?_
    rintro r M1 N1 ⟨rfl, rfl, hf1, hd1⟩
    refine hd_go kX5_drift 51 (fun _ => rfl) rfl trivial ?_
    refine c_drift_l M N1 j hj s w _ j 0 s st.1 M1 (by omega) (tri_of fr.rf hf1) hd1 hO.1 h0 (fun M2 s2 hf2 hd2 ok2 => ?_)
    refine hd_go kX5_drift 999 (fun _ => rfl) rfl trivial ?_
    refine hd_ju kX5_drift (fun _ => rfl) (fun c => ?_) (fun c => ?_)
    · rw [if_neg c]
      refine hd_go kX5_drift 999 (fun _ => rfl) rfl trivial ?_
      refine hd_ci kX5_drift qX5_drift (fun _ => rfl) (s_outBits_7 M2 N1 _ hd2 ok2) ?_
      exact hd_en_ kX5_drift (fun _ => rfl) trivial ⟨rfl, rfl, hI.q hf2⟩
    · rw [if_pos c]
      refine hd_go kX5_drift 999 (fun _ => rfl) rfl trivial ?_
      refine hd_en_ kX5_drift (fun _ => rfl) trivial ⟨?_, rfl, hI.q hf2⟩
      rw [hd2.2.2.1]
  · have h0 : st.1.1 = 0 := by
      rcases Nat.eq_zero_or_pos st.1.1 with z | z
      · exact z
      · exact absurd q (nI_ne0 z (by omega))
    rw [if_pos h0]
    refine hd_go kX5_drift 999 (fun _ => rfl) rfl trivial ?_
    exact hd_en_ kX5_drift (fun _ => rfl) trivial ⟨rfl, rfl, fr.rf, hI⟩
set_option maxRecDepth 20000 in
theorem s_seAdd (M : hd_M) (N : hd_N) (se : se_T) (hs : seC M 13 se) (h6 : se.1 ≤ 6) (n v : Int32) : hd_Ret mX2_add [.ref 13, .int n, .int v] M N (fun r M1 N1 => N1 = N ∧ ((se.1 = 6 ∧ r = some (.int 0) ∧ M1 = M) ∨ (se.1 < 6 ∧ r = some (.int 1) ∧ fr (fun c _ => 13 ≤ c ∧ c ≤ 15) M M1 ∧ seC M1 13 (se.1 + 1, (fun i => if i = se.1 then n else se.2.1 i), fun i => if i = se.1 then v else se.2.2 i)))) := by
  change hd_Go mX2_add 0 [some (.ref 13), some (.int n), some (.int v)] [] M N _
  obtain ⟨a, b1, b2⟩ := hs
  refine hd_go kX2_add 999 (fun _ => rfl) rfl trivial ?_
  rw [a]
  refine hd_ju kX2_add (fun _ => rfl) (fun c => ?_) (fun c => ?_)
  · have hlt : se.1 < 6 := by
      rcases Nat.lt_or_ge se.1 6 with z | z
      · exact z
      · exact absurd c (nI_nlt (b := 6) z (by omega))
    have ej : (nI se.1).toNatClampNeg = se.1 := nI_clamp (by omega)
    have hv : vp_in (nI se.1) 6 := vp_in_nI hlt (by decide)
    refine hd_go kX2_add 999 (fun _ => rfl) rfl ?_ ?_
    · rw [hd_u_n (by omega), a]
      exact ⟨⟨trivial, hv⟩, hv⟩
    have g1 : ∀ (j : Nat) (x : Int32), hd_u M 14 j x 13 2 = nI se.1 := fun j x => by rw [hd_u_n (by omega)]; exact a
    have g2 : ∀ (j j' : Nat) (x x' : Int32), hd_u (hd_u M 14 j x) 15 j' x' 13 2 = nI se.1 := fun j j' x x' => by rw [hd_u_n (by omega), hd_u_n (by omega)]; exact a
    rw [g2, g1, a, ej, nI_1]
    refine hd_en_ kX2_add (fun _ => rfl) (Or.inr rfl) ⟨rfl, Or.inr ⟨hlt, rfl, ((fr.rf.up (by simp)).up (by simp)).up (by simp), ?_, fun s hs => ?_, fun s hs => ?_⟩⟩
    · exact hd_u_s _ _ _ _
    · have hs : s < se.1 + 1 := hs
      show _ = if s = se.1 then n else se.2.1 s
      rw [hd_u_n (by omega), hd_u_n (by omega)]
      by_cases e : s = se.1
      · rw [if_pos e, e, hd_u_s]
      · rw [if_neg e, hd_u_n (by omega)]; exact b1 s (by omega)
    · have hs : s < se.1 + 1 := hs
      show _ = if s = se.1 then v else se.2.2 s
      rw [hd_u_n (by omega)]
      by_cases e : s = se.1
      · rw [if_pos e, e, hd_u_s]
      · rw [if_neg e, hd_u_n (by omega), hd_u_n (by omega)]; exact b2 s (by omega)
  · have hge : se.1 = 6 := by
      rcases Nat.lt_or_ge se.1 6 with z | z
      · exact absurd (nI_lt (b := 6) z (by omega)) c
      · omega
    refine hd_go kX2_add 999 (fun _ => rfl) rfl trivial ?_
    exact hd_en_ kX2_add (fun _ => rfl) (Or.inl rfl) ⟨rfl, Or.inl ⟨hge, rfl, rfl⟩⟩
set_option maxRecDepth 20000 in
theorem c_see (n v : Int32) : cA mX5_see [.int n, .int v] (an_see n v) := by
  intro M N st hI hO
  change hd_Go mX5_see 0 [some (.ref 0), some (.int n), some (.int v)] [] M N _
  have bad : ¬ (wi n 0 20 ∧ wi v 0 99) → hd_Go mX5_see 17 [some (.ref 0), some (.int n), some (.int v)] [] M N (fun r M1 N1 => r = some (an_see n v st).1 ∧ N1 = N ∧ fr clsF M M1 ∧ CI M1 (an_see n v st).2) := by
    intro q
    refine hd_go kX5_see 999 (fun _ => rfl) rfl trivial ?_
    refine hd_en_ kX5_see (fun _ => rfl) trivial ?_
    unfold an_see
    rw [if_neg q]
    exact ⟨rfl, rfl, fr.rf, hI⟩
  unfold an_see at bad ⊢
  refine hd_go kX5_see 999 (fun _ => rfl) rfl trivial ?_
  refine hd_ci kX5_see qX5_see (fun _ => rfl) (s_isWithin _ _ _ M N) ?_
  refine hd_ju kX5_see (fun _ => rfl) (fun q => bad (fun z => hd_b0.mp q z.1)) (fun q => ?_)
  have q1 := hd_b1.mp q
  refine hd_go kX5_see 999 (fun _ => rfl) rfl trivial ?_
  refine hd_ci kX5_see qX5_see (fun _ => rfl) (s_isMood _ M N) ?_
  refine hd_ju kX5_see (fun _ => rfl) (fun q => ?_) (fun q => bad (fun z => hd_b0.mp q z.2))
  have q2 := hd_b1.mp q
  rw [if_pos ⟨q1, q2⟩]
  refine hd_go kX5_see 999 (fun _ => rfl) rfl trivial ?_
  refine hd_ca kX5_see qX5_see (fun _ => rfl) (s_seAdd M N _ hI.2.1 hO.2.1.1 n v) ?_
  rintro r M1 N1 ⟨rfl, ⟨h6, rfl, rfl⟩ | ⟨h6, rfl, hf, hs⟩⟩
  · rw [if_pos h6]
    refine hd_ju kX5_see (fun _ => rfl) (fun q => ?_) (fun q => absurd rfl q)
    refine hd_go kX5_see 999 (fun _ => rfl) rfl trivial ?_
    exact hd_en_ kX5_see (fun _ => rfl) trivial ⟨rfl, rfl, fr.rf, hI⟩
  · rw [if_neg (by omega)]
    refine hd_ju kX5_see (fun _ => rfl) (fun q => absurd q (by decide)) (fun q => ?_)
    refine hd_go kX5_see 999 (fun _ => rfl) rfl trivial ?_
    refine hd_en_ kX5_see (fun _ => rfl) trivial ⟨by rw [hs.1], rfl, hf.mo (fun c j z => ?_), hI.seen hf hs⟩
    have z : 13 ≤ c ∧ c ≤ 15 := z
    show c ≤ 50; omega
set_option maxRecDepth 20000 in
theorem c_forget (n : Int32) : cA mX5_forget [.int n] (an_forget n) := by
  intro M N st hI hO
  change hd_Go mX5_forget 0 [some (.ref 0), some (.int n), none] [] M N _
  have h6 := hO.2.1.1
  have e1 : M 13 2 = nI st.2.1.1 := hI.2.1.1
  refine hd_go kX5_forget 999 (fun _ => rfl) rfl trivial ?_
  refine hd_ci kX5_forget qX5_forget (fun _ => rfl) (s_isWithin _ _ _ M N) ?_
  rw [e1]
  unfold an_forget
  refine hd_ju kX5_forget (fun _ => rfl) (fun q => ?_) (fun q => ?_)
  · have q := hd_b1.mp q
    obtain ⟨j, hj, rfl⟩ := nI_of2 (M := nI st.2.1.1) (n := st.2.1.1) (nI_toInt (by omega)) q.1 (Int32.not_lt.mp q.2)
    refine hd_go kX5_forget 999 (fun _ => rfl) rfl trivial ?_
    refine hd_en_ kX5_forget (fun _ => rfl) trivial ?_
    rw [if_pos q, nI_clamp (by omega)]
    refine ⟨by rw [e1], rfl, fr.rf.up (by simp), ?_⟩
    refine hI.seen (fr.rf.up (by simp)) ⟨hd_u_s _ _ _ _, fun i hi => ?_, fun i hi => ?_⟩
    · rw [hd_u_n (by omega)]; exact hI.2.1.2.1 i (Nat.lt_of_lt_of_le hi hj)
    · rw [hd_u_n (by omega)]; exact hI.2.1.2.2 i (Nat.lt_of_lt_of_le hi hj)
  · have q := hd_b0.mp q
    refine hd_go kX5_forget 999 (fun _ => rfl) rfl trivial ?_
    refine hd_en_ kX5_forget (fun _ => rfl) trivial ?_
    rw [if_neg q]
    exact ⟨rfl, rfl, fr.rf, hI⟩
set_option maxRecDepth 20000 in
theorem s_seCopy_26_13 (M : hd_M) (N : hd_N) (se : se_T) (hs : seC M 13 se) (h6 : se.1 ≤ 6) : hd_Ret mX2_copyFrom [.ref 26, .ref 13] M N (fun r M1 N1 => r = none ∧ N1 = N ∧ fr (fun c _ => 26 ≤ c ∧ c ≤ 28) M M1 ∧ seC M1 26 se) := by
  change hd_Go mX2_copyFrom 0 [some (.ref 26), some (.ref 13)] [] M N _
  obtain ⟨a, b1, b2⟩ := hs
  have ej : (nI se.1).toNatClampNeg = se.1 := nI_clamp (by omega)
  have hp : ¬ nI se.1 < 0 := nI_pos (by omega)
  refine hd_go kX2_copyFrom 999 (fun _ => rfl) rfl ?_ ?_
  · simp only [hd_u_s, hd_cp, a, ej]
    refine ⟨⟨trivial, by decide, by decide, hp, ?_, ?_⟩, by decide, by decide, ?_⟩
    · show 0 + se.1 ≤ 6; omega
    · show 0 + se.1 ≤ 6; omega
    · simp [hd_u, a, ej, hp, h6]
  refine hd_en_ kX2_copyFrom (fun _ => rfl) trivial ⟨rfl, rfl, ?_, ?_, fun s hs => ?_, fun s hs => ?_⟩
  · intro c j hc
    have hc : ¬ (26 ≤ c ∧ c ≤ 28) := hc
    simp [hd_cp, hd_u, show ¬ c = 26 by omega, show ¬ c = 27 by omega, show ¬ c = 28 by omega]
  · simp [hd_cp, hd_u, a]
  · simp [hd_cp, hd_u, a, ej, va_cpy, hs, b1 s hs]
  · simp [hd_cp, hd_u, a, ej, va_cpy, hs, b2 s hs]
set_option maxRecDepth 20000 in
theorem s_seCopy_36_13 (M : hd_M) (N : hd_N) (se : se_T) (hs : seC M 13 se) (h6 : se.1 ≤ 6) : hd_Ret mX2_copyFrom [.ref 36, .ref 13] M N (fun r M1 N1 => r = none ∧ N1 = N ∧ fr (fun c _ => 36 ≤ c ∧ c ≤ 38) M M1 ∧ seC M1 36 se) := by
  change hd_Go mX2_copyFrom 0 [some (.ref 36), some (.ref 13)] [] M N _
  obtain ⟨a, b1, b2⟩ := hs
  have ej : (nI se.1).toNatClampNeg = se.1 := nI_clamp (by omega)
  have hp : ¬ nI se.1 < 0 := nI_pos (by omega)
  refine hd_go kX2_copyFrom 999 (fun _ => rfl) rfl ?_ ?_
  · simp only [hd_u_s, hd_cp, a, ej]
    refine ⟨⟨trivial, by decide, by decide, hp, ?_, ?_⟩, by decide, by decide, ?_⟩
    · show 0 + se.1 ≤ 6; omega
    · show 0 + se.1 ≤ 6; omega
    · simp [hd_u, a, ej, hp, h6]
  refine hd_en_ kX2_copyFrom (fun _ => rfl) trivial ⟨rfl, rfl, ?_, ?_, fun s hs => ?_, fun s hs => ?_⟩
  · intro c j hc
    have hc : ¬ (36 ≤ c ∧ c ≤ 38) := hc
    simp [hd_cp, hd_u, show ¬ c = 36 by omega, show ¬ c = 37 by omega, show ¬ c = 38 by omega]
  · simp [hd_cp, hd_u, a]
  · simp [hd_cp, hd_u, a, ej, va_cpy, hs, b1 s hs]
  · simp [hd_cp, hd_u, a, ej, va_cpy, hs, b2 s hs]
set_option maxRecDepth 20000 in
theorem s_seCopy_13_26 (M : hd_M) (N : hd_N) (se : se_T) (hs : seC M 26 se) (h6 : se.1 ≤ 6) : hd_Ret mX2_copyFrom [.ref 13, .ref 26] M N (fun r M1 N1 => r = none ∧ N1 = N ∧ fr (fun c _ => 13 ≤ c ∧ c ≤ 15) M M1 ∧ seC M1 13 se) := by
  change hd_Go mX2_copyFrom 0 [some (.ref 13), some (.ref 26)] [] M N _
  obtain ⟨a, b1, b2⟩ := hs
  have ej : (nI se.1).toNatClampNeg = se.1 := nI_clamp (by omega)
  have hp : ¬ nI se.1 < 0 := nI_pos (by omega)
  refine hd_go kX2_copyFrom 999 (fun _ => rfl) rfl ?_ ?_
  · simp only [hd_u_s, hd_cp, a, ej]
    refine ⟨⟨trivial, by decide, by decide, hp, ?_, ?_⟩, by decide, by decide, ?_⟩
    · show 0 + se.1 ≤ 6; omega
    · show 0 + se.1 ≤ 6; omega
    · simp [hd_u, a, ej, hp, h6]
  refine hd_en_ kX2_copyFrom (fun _ => rfl) trivial ⟨rfl, rfl, ?_, ?_, fun s hs => ?_, fun s hs => ?_⟩
  · intro c j hc
    have hc : ¬ (13 ≤ c ∧ c ≤ 15) := hc
    simp [hd_cp, hd_u, show ¬ c = 13 by omega, show ¬ c = 14 by omega, show ¬ c = 15 by omega]
  · simp [hd_cp, hd_u, a]
  · simp [hd_cp, hd_u, a, ej, va_cpy, hs, b1 s hs]
  · simp [hd_cp, hd_u, a, ej, va_cpy, hs, b2 s hs]
set_option maxRecDepth 20000 in
theorem s_seCopy_13_36 (M : hd_M) (N : hd_N) (se : se_T) (hs : seC M 36 se) (h6 : se.1 ≤ 6) : hd_Ret mX2_copyFrom [.ref 13, .ref 36] M N (fun r M1 N1 => r = none ∧ N1 = N ∧ fr (fun c _ => 13 ≤ c ∧ c ≤ 15) M M1 ∧ seC M1 13 se) := by
  change hd_Go mX2_copyFrom 0 [some (.ref 13), some (.ref 36)] [] M N _
  obtain ⟨a, b1, b2⟩ := hs
  have ej : (nI se.1).toNatClampNeg = se.1 := nI_clamp (by omega)
  have hp : ¬ nI se.1 < 0 := nI_pos (by omega)
  refine hd_go kX2_copyFrom 999 (fun _ => rfl) rfl ?_ ?_
  · simp only [hd_u_s, hd_cp, a, ej]
    refine ⟨⟨trivial, by decide, by decide, hp, ?_, ?_⟩, by decide, by decide, ?_⟩
    · show 0 + se.1 ≤ 6; omega
    · show 0 + se.1 ≤ 6; omega
    · simp [hd_u, a, ej, hp, h6]
  refine hd_en_ kX2_copyFrom (fun _ => rfl) trivial ⟨rfl, rfl, ?_, ?_, fun s hs => ?_, fun s hs => ?_⟩
  · intro c j hc
    have hc : ¬ (13 ≤ c ∧ c ≤ 15) := hc
    simp [hd_cp, hd_u, show ¬ c = 13 by omega, show ¬ c = 14 by omega, show ¬ c = 15 by omega]
  · simp [hd_cp, hd_u, a]
  · simp [hd_cp, hd_u, a, ej, va_cpy, hs, b1 s hs]
  · simp [hd_cp, hd_u, a, ej, va_cpy, hs, b2 s hs]
set_option maxRecDepth 20000 in
theorem wi01 {k : Int32} (h : wi k 0 1) : k = 0 ∨ k = 1 := by
  obtain ⟨j, hj, rfl⟩ := wi_nat (n := 1) rfl h
  rcases (show j = 0 ∨ j = 1 by omega) with rfl | rfl
  · exact Or.inl rfl
  · exact Or.inr rfl
set_option maxRecDepth 20000 in
theorem c_keep (k : Int32) : cA mX5_keep [.int k] (an_keep k) := by
  intro M N st hI hO
  change hd_Go mX5_keep 0 [some (.ref 0), some (.int k), none, none] [] M N _
  refine hd_go kX5_keep 999 (fun _ => rfl) rfl trivial ?_
  refine hd_ci kX5_keep qX5_keep (fun _ => rfl) (s_isWithin _ _ _ M N) ?_
  unfold an_keep
  refine hd_ju kX5_keep (fun _ => rfl) (fun q => ?_) (fun q => ?_)
  rotate_left
  · have q := hd_b0.mp q
    refine hd_go kX5_keep 999 (fun _ => rfl) rfl trivial ?_
    refine hd_en_ kX5_keep (fun _ => rfl) trivial ?_
    rw [if_neg q]
    exact ⟨rfl, rfl, fr.rf, hI⟩
  have q := hd_b1.mp q
  rw [if_pos q]
  rcases wi01 q with rfl | rfl
  ·
    refine hd_go kX5_keep 999 (fun _ => rfl) rfl ⟨trivial, by decide, by decide⟩ ?_
    obtain ⟨e0, e1⟩ := hI.2.2.2.1 0 (by decide)
    have e0 : M 19 2 = if (st.2.2.2.1 0).1 then 1 else 0 := e0
    have core : ∀ z : Int32, z = (if (st.2.2.2.1 0).1 then 1 else 0) → hd_Go mX5_keep 31 [some (.ref 0), some (.int 0), some (.ref 19), some (.int z)] [] M N (fun r M1 N1 => r = some (.int (if (st.2.2.2.1 0).1 then 1 else 0)) ∧ N1 = N ∧ fr clsF M M1 ∧ CI M1 (st.1, st.2.1, st.2.2.1, (fun j => if j = 0 then (true, st.1, st.2.1) else st.2.2.2.1 j), st.2.2.2.2)) := by
      intro z hz
      refine hd_go kX5_keep 999 (fun _ => rfl) rfl trivial ?_
      refine hd_ca kX5_keep qX5_keep (fun _ => rfl) (s_copyFrom_20_1 M N _ hI.1 hO.1.1) ?_
      rintro r M1 N1 ⟨rfl, rfl, hf1, hd1⟩
      refine hd_go kX5_keep 999 (fun _ => rfl) rfl trivial ?_
      have hs1 : seC M1 13 st.2.1 := hI.2.1.mv (fun c j h1 h2 => hf1 c j (by show ¬ (20 ≤ c ∧ c ≤ 24); omega))
      refine hd_ca kX5_keep qX5_keep (fun _ => rfl) (s_seCopy_26_13 M1 N1 _ hs1 hO.2.1.1) ?_
      rintro r M2 N2 ⟨rfl, rfl, hf2, hs2⟩
      refine hd_go kX5_keep 999 (fun _ => rfl) rfl ⟨trivial, Or.inr rfl⟩ ?_
      have g : fr (fun c _ => 19 ≤ c ∧ c ≤ 28) M (hd_u M2 19 2 1) := ((hf1.mo (fun c j z => by have z : 20 ≤ c ∧ c ≤ 24 := z; show 19 ≤ c ∧ c ≤ 28; omega)).tr (hf2.mo (fun c j z => by have z : 26 ≤ c ∧ c ≤ 28 := z; show 19 ≤ c ∧ c ≤ 28; omega))).up (by simp)
      refine hd_en_ kX5_keep (fun _ => rfl) trivial ⟨by rw [hz], rfl, g.mo (fun c j z => by have z : 19 ≤ c ∧ c ≤ 28 := z; show c ≤ 50; omega), ?_⟩
      refine hI.img (g.mo (fun c j z => by have z : 19 ≤ c ∧ c ≤ 28 := z; show 19 ≤ c ∧ c ≤ 38; omega)) (fun j hj => ?_)
      by_cases ej : j = 0
      · subst ej
        refine ⟨hd_u_s _ _ _ _, fun _ => ⟨?_, ?_⟩⟩
        · exact hd1.mv (fun c j h1 h2 => by rw [hd_u_n (by omega)]; exact hf2 c j (by show ¬ (26 ≤ c ∧ c ≤ 28); omega))
        · exact hs2.mv (fun c j h1 h2 => hd_u_n (by omega))
      · have ej2 : j = 1 := by omega
        subst ej2
        obtain ⟨w0, w1⟩ := hI.2.2.2.1 1 (by decide)
        refine ⟨?_, fun hmd => ?_⟩
        · rw [g _ _ (by simp)]; exact w0
        · obtain ⟨w2, w3⟩ := w1 hmd
          exact ⟨w2.mv (fun c j h1 h2 => g c j (by show ¬ (19 ≤ c ∧ c ≤ 28); omega)), w3.mv (fun c j h1 h2 => g c j (by show ¬ (19 ≤ c ∧ c ≤ 28); omega))⟩
    show hd_Go mX5_keep 22 [some (.ref 0), some (.int 0), some (.ref 19), none] [.int (M 19 2)] M N (fun r M1 N1 => r = some (.int (if (st.2.2.2.1 0).1 then 1 else 0)) ∧ N1 = N ∧ fr clsF M M1 ∧ CI M1 (st.1, st.2.1, st.2.2.1, (fun j => if j = 0 then (true, st.1, st.2.1) else st.2.2.2.1 j), st.2.2.2.2))
    refine hd_ju kX5_keep (fun _ => rfl) (fun c => ?_) (fun c => ?_)
    · refine hd_go kX5_keep 31 (fun _ => rfl) rfl trivial ?_
      exact core 0 (by rw [← e0]; exact c.symm)
    · refine hd_go kX5_keep 31 (fun _ => rfl) rfl trivial ?_
      refine hd_go kX5_keep 31 (fun _ => rfl) rfl trivial ?_
      refine core 1 ?_
      cases hb : (st.2.2.2.1 0).1 with
      | true => rfl
      | false => rw [hb] at e0; exact absurd e0 c
  ·
    refine hd_go kX5_keep 999 (fun _ => rfl) rfl ⟨trivial, by decide, by decide⟩ ?_
    obtain ⟨e0, e1⟩ := hI.2.2.2.1 1 (by decide)
    have e0 : M 29 2 = if (st.2.2.2.1 1).1 then 1 else 0 := e0
    have core : ∀ z : Int32, z = (if (st.2.2.2.1 1).1 then 1 else 0) → hd_Go mX5_keep 31 [some (.ref 0), some (.int 1), some (.ref 29), some (.int z)] [] M N (fun r M1 N1 => r = some (.int (if (st.2.2.2.1 1).1 then 1 else 0)) ∧ N1 = N ∧ fr clsF M M1 ∧ CI M1 (st.1, st.2.1, st.2.2.1, (fun j => if j = 1 then (true, st.1, st.2.1) else st.2.2.2.1 j), st.2.2.2.2)) := by
      intro z hz
      refine hd_go kX5_keep 999 (fun _ => rfl) rfl trivial ?_
      refine hd_ca kX5_keep qX5_keep (fun _ => rfl) (s_copyFrom_30_1 M N _ hI.1 hO.1.1) ?_
      rintro r M1 N1 ⟨rfl, rfl, hf1, hd1⟩
      refine hd_go kX5_keep 999 (fun _ => rfl) rfl trivial ?_
      have hs1 : seC M1 13 st.2.1 := hI.2.1.mv (fun c j h1 h2 => hf1 c j (by show ¬ (30 ≤ c ∧ c ≤ 34); omega))
      refine hd_ca kX5_keep qX5_keep (fun _ => rfl) (s_seCopy_36_13 M1 N1 _ hs1 hO.2.1.1) ?_
      rintro r M2 N2 ⟨rfl, rfl, hf2, hs2⟩
      refine hd_go kX5_keep 999 (fun _ => rfl) rfl ⟨trivial, Or.inr rfl⟩ ?_
      have g : fr (fun c _ => 29 ≤ c ∧ c ≤ 38) M (hd_u M2 29 2 1) := ((hf1.mo (fun c j z => by have z : 30 ≤ c ∧ c ≤ 34 := z; show 29 ≤ c ∧ c ≤ 38; omega)).tr (hf2.mo (fun c j z => by have z : 36 ≤ c ∧ c ≤ 38 := z; show 29 ≤ c ∧ c ≤ 38; omega))).up (by simp)
      refine hd_en_ kX5_keep (fun _ => rfl) trivial ⟨by rw [hz], rfl, g.mo (fun c j z => by have z : 29 ≤ c ∧ c ≤ 38 := z; show c ≤ 50; omega), ?_⟩
      refine hI.img (g.mo (fun c j z => by have z : 29 ≤ c ∧ c ≤ 38 := z; show 19 ≤ c ∧ c ≤ 38; omega)) (fun j hj => ?_)
      by_cases ej : j = 1
      · subst ej
        refine ⟨hd_u_s _ _ _ _, fun _ => ⟨?_, ?_⟩⟩
        · exact hd1.mv (fun c j h1 h2 => by rw [hd_u_n (by omega)]; exact hf2 c j (by show ¬ (36 ≤ c ∧ c ≤ 38); omega))
        · exact hs2.mv (fun c j h1 h2 => hd_u_n (by omega))
      · have ej2 : j = 0 := by omega
        subst ej2
        obtain ⟨w0, w1⟩ := hI.2.2.2.1 0 (by decide)
        refine ⟨?_, fun hmd => ?_⟩
        · rw [g _ _ (by simp)]; exact w0
        · obtain ⟨w2, w3⟩ := w1 hmd
          exact ⟨w2.mv (fun c j h1 h2 => g c j (by show ¬ (29 ≤ c ∧ c ≤ 38); omega)), w3.mv (fun c j h1 h2 => g c j (by show ¬ (29 ≤ c ∧ c ≤ 38); omega))⟩
    show hd_Go mX5_keep 22 [some (.ref 0), some (.int 1), some (.ref 29), none] [.int (M 29 2)] M N (fun r M1 N1 => r = some (.int (if (st.2.2.2.1 1).1 then 1 else 0)) ∧ N1 = N ∧ fr clsF M M1 ∧ CI M1 (st.1, st.2.1, st.2.2.1, (fun j => if j = 1 then (true, st.1, st.2.1) else st.2.2.2.1 j), st.2.2.2.2))
    refine hd_ju kX5_keep (fun _ => rfl) (fun c => ?_) (fun c => ?_)
    · refine hd_go kX5_keep 31 (fun _ => rfl) rfl trivial ?_
      exact core 0 (by rw [← e0]; exact c.symm)
    · refine hd_go kX5_keep 31 (fun _ => rfl) rfl trivial ?_
      refine hd_go kX5_keep 31 (fun _ => rfl) rfl trivial ?_
      refine core 1 ?_
      cases hb : (st.2.2.2.1 1).1 with
      | true => rfl
      | false => rw [hb] at e0; exact absurd e0 c
set_option maxRecDepth 20000 in
theorem c_back (k : Int32) : cA mX5_back [.int k] (an_back k) := by
  intro M N st hI hO
  change hd_Go mX5_back 0 [some (.ref 0), some (.int k), none] [] M N _
  refine hd_go kX5_back 999 (fun _ => rfl) rfl trivial ?_
  refine hd_ci kX5_back qX5_back (fun _ => rfl) (s_isWithin _ _ _ M N) ?_
  unfold an_back
  refine hd_ju kX5_back (fun _ => rfl) (fun q => ?_) (fun q => ?_)
  rotate_left
  · have q := hd_b0.mp q
    refine hd_go kX5_back 999 (fun _ => rfl) rfl trivial ?_
    refine hd_en_ kX5_back (fun _ => rfl) trivial ?_
    rw [if_neg q]
    exact ⟨rfl, rfl, fr.rf, hI⟩
  have q := hd_b1.mp q
  rw [if_pos q]
  rcases wi01 q with rfl | rfl
  ·
    refine hd_go kX5_back 999 (fun _ => rfl) rfl ⟨trivial, by decide, by decide⟩ ?_
    obtain ⟨e0, e1⟩ := hI.2.2.2.1 0 (by decide)
    have e0 : M 19 2 = if (st.2.2.2.1 0).1 then 1 else 0 := e0
    have ek : (Int32.toNatClampNeg 0) = 0 := rfl
    rw [ek]
    show hd_Go mX5_back 22 [some (.ref 0), some (.int 0), some (.ref 19)] [.int (M 19 2)] M N _
    refine hd_ju kX5_back (fun _ => rfl) (fun c => ?_) (fun c => ?_)
    · have hb : (st.2.2.2.1 0).1 = true := by
        cases hb : (st.2.2.2.1 0).1 with
        | true => rfl
        | false => rw [hb] at e0; exact absurd e0 c
      rw [if_pos hb]
      obtain ⟨e2, e3⟩ := e1 hb
      obtain ⟨o1, o2⟩ := hO.2.2.2.1 0 (by decide) hb
      refine hd_go kX5_back 999 (fun _ => rfl) rfl trivial ?_
      refine hd_ca kX5_back qX5_back (fun _ => rfl) (s_copyFrom_1_20 M N _ e2 o1.1) ?_
      rintro r M1 N1 ⟨rfl, rfl, hf1, hd1⟩
      refine hd_go kX5_back 999 (fun _ => rfl) rfl trivial ?_
      have hs1 : seC M1 26 (st.2.2.2.1 0).2.2 := seC.mv e3 (fun c j h1 h2 => hf1 c j (by show ¬ (1 ≤ c ∧ c ≤ 5); omega))
      refine hd_ca kX5_back qX5_back (fun _ => rfl) (s_seCopy_13_26 M1 N1 _ hs1 o2.1) ?_
      rintro r M2 N2 ⟨rfl, rfl, hf2, hs2⟩
      refine hd_go kX5_back 999 (fun _ => rfl) rfl trivial ?_
      have hd2 : hm M2 1 (st.2.2.2.1 0).2.1 := hd1.mv (fun c j h1 h2 => hf2 c j (by show ¬ (13 ≤ c ∧ c ≤ 15); omega))
      refine hd_en_ kX5_back (fun _ => rfl) trivial ⟨by rw [hd2.2.2.2.2.1], rfl, (hf1.mo (fun c j z => by have z : 1 ≤ c ∧ c ≤ 5 := z; show c ≤ 50; omega)).tr (hf2.mo (fun c j z => by have z : 13 ≤ c ∧ c ≤ 15 := z; show c ≤ 50; omega)), ?_⟩
      have c1 : CI M1 ((st.2.2.2.1 0).2.1, st.2) := hI.day (hf1.mo (fun c j z => by have z : 1 ≤ c ∧ c ≤ 5 := z; show (1 ≤ c ∧ c ≤ 12) ∨ 48 ≤ c; omega)) hd1
      exact c1.seen hf2 hs2
    · have hb : (st.2.2.2.1 0).1 = false := by
        cases hb : (st.2.2.2.1 0).1 with
        | false => rfl
        | true => rw [hb] at e0; exact absurd (e0.symm.trans c) (by decide)
      rw [if_neg (by rw [hb]; decide)]
      refine hd_go kX5_back 999 (fun _ => rfl) rfl trivial ?_
      exact hd_en_ kX5_back (fun _ => rfl) trivial ⟨rfl, rfl, fr.rf, hI⟩
  ·
    refine hd_go kX5_back 999 (fun _ => rfl) rfl ⟨trivial, by decide, by decide⟩ ?_
    obtain ⟨e0, e1⟩ := hI.2.2.2.1 1 (by decide)
    have e0 : M 29 2 = if (st.2.2.2.1 1).1 then 1 else 0 := e0
    have ek : (Int32.toNatClampNeg 1) = 1 := rfl
    rw [ek]
    show hd_Go mX5_back 22 [some (.ref 0), some (.int 1), some (.ref 29)] [.int (M 29 2)] M N _
    refine hd_ju kX5_back (fun _ => rfl) (fun c => ?_) (fun c => ?_)
    · have hb : (st.2.2.2.1 1).1 = true := by
        cases hb : (st.2.2.2.1 1).1 with
        | true => rfl
        | false => rw [hb] at e0; exact absurd e0 c
      rw [if_pos hb]
      obtain ⟨e2, e3⟩ := e1 hb
      obtain ⟨o1, o2⟩ := hO.2.2.2.1 1 (by decide) hb
      refine hd_go kX5_back 999 (fun _ => rfl) rfl trivial ?_
      refine hd_ca kX5_back qX5_back (fun _ => rfl) (s_copyFrom_1_30 M N _ e2 o1.1) ?_
      rintro r M1 N1 ⟨rfl, rfl, hf1, hd1⟩
      refine hd_go kX5_back 999 (fun _ => rfl) rfl trivial ?_
      have hs1 : seC M1 36 (st.2.2.2.1 1).2.2 := seC.mv e3 (fun c j h1 h2 => hf1 c j (by show ¬ (1 ≤ c ∧ c ≤ 5); omega))
      refine hd_ca kX5_back qX5_back (fun _ => rfl) (s_seCopy_13_36 M1 N1 _ hs1 o2.1) ?_
      rintro r M2 N2 ⟨rfl, rfl, hf2, hs2⟩
      refine hd_go kX5_back 999 (fun _ => rfl) rfl trivial ?_
      have hd2 : hm M2 1 (st.2.2.2.1 1).2.1 := hd1.mv (fun c j h1 h2 => hf2 c j (by show ¬ (13 ≤ c ∧ c ≤ 15); omega))
      refine hd_en_ kX5_back (fun _ => rfl) trivial ⟨by rw [hd2.2.2.2.2.1], rfl, (hf1.mo (fun c j z => by have z : 1 ≤ c ∧ c ≤ 5 := z; show c ≤ 50; omega)).tr (hf2.mo (fun c j z => by have z : 13 ≤ c ∧ c ≤ 15 := z; show c ≤ 50; omega)), ?_⟩
      have c1 : CI M1 ((st.2.2.2.1 1).2.1, st.2) := hI.day (hf1.mo (fun c j z => by have z : 1 ≤ c ∧ c ≤ 5 := z; show (1 ≤ c ∧ c ≤ 12) ∨ 48 ≤ c; omega)) hd1
      exact c1.seen hf2 hs2
    · have hb : (st.2.2.2.1 1).1 = false := by
        cases hb : (st.2.2.2.1 1).1 with
        | false => rfl
        | true => rw [hb] at e0; exact absurd (e0.symm.trans c) (by decide)
      rw [if_neg (by rw [hb]; decide)]
      refine hd_go kX5_back 999 (fun _ => rfl) rfl trivial ?_
      exact hd_en_ kX5_back (fun _ => rfl) trivial ⟨rfl, rfl, fr.rf, hI⟩
