/-! THE CLASS'S PUBLIC METHODS; printed by wip/whole/api.py -/
set_option maxRecDepth 20000 in
theorem hd_byte {b : Nat} (h : b ≤ 127) : (nI b).toInt8.toInt32 = nI b := by
  have : ∀ b : Fin 128, (nI b.val).toInt8.toInt32 = nI b.val := by decide +kernel
  exact this ⟨b, by omega⟩
set_option maxRecDepth 20000 in
theorem CI.q {M M1 : hd_M} {st : ab_T} (h : CI M st) (he : fr tri M M1) : fr clsF M M1 ∧ CI M1 st := by
  refine ⟨he.mo (fun c j z => ?_), h.mv (he.mo (fun c j z => ?_))⟩
  · have z : 7 ≤ c ∧ c ≤ 12 := z
    show c ≤ 50; omega
  · have z : 7 ≤ c ∧ c ≤ 12 := z
    show (6 ≤ c ∧ c ≤ 12) ∨ 48 ≤ c; omega
set_option maxRecDepth 20000 in
theorem c_fault : cA mX5_fault [] an_fault := by
  intro M N st hI hO
  change hd_Go mX5_fault 0 [some (.ref 0)] [] M N _
  refine hd_go kX5_fault 999 (fun _ => rfl) rfl trivial ?_
  exact hd_en_ kX5_fault (fun _ => rfl) trivial ⟨by rw [hI.2.2.2.2.2.2]; rfl, rfl, fr.rf, hI⟩
set_option maxRecDepth 20000 in
theorem c_torn : cA mX5_torn [] an_torn := by
  intro M N st hI hO
  change hd_Go mX5_torn 0 [some (.ref 0)] [] M N _
  refine hd_go kX5_torn 999 (fun _ => rfl) rfl trivial ?_
  exact hd_en_ kX5_torn (fun _ => rfl) trivial ⟨by rw [hI.2.2.2.2.2.1]; rfl, rfl, fr.rf, hI⟩
set_option maxRecDepth 20000 in
theorem s_append (M : hd_M) (N : hd_N) (L : Nat) (hL : L ≤ 160) (h1 : M 16 1 = nI L) (b : Nat) (hb : b ≤ 127) : hd_Ret mX4_append [.ref 16, .int (nI b)] M N (fun r M1 N1 => N1 = N ∧ ((L = 160 ∧ r = some (.int 0) ∧ M1 = M) ∨ (L < 160 ∧ r = some (.int 1) ∧ M1 = hd_u (hd_u M 17 L (nI b)) 16 1 (nI (L + 1))))) := by
  change hd_Go mX4_append 0 [some (.ref 16), some (.int (nI b))] [] M N _
  have eb : (nI b).toInt8.toInt32 = nI b := hd_byte hb
  refine hd_go kX4_append 999 (fun _ => rfl) rfl trivial ?_
  rw [h1]
  refine hd_ju kX4_append (fun _ => rfl) (fun c => ?_) (fun c => ?_)
  · have hlt : L < 160 := by
      rcases Nat.lt_or_ge L 160 with z | z
      · exact z
      · exact absurd c (nI_nlt (b := 160) z (by omega))
    refine hd_go kX4_append 999 (fun _ => rfl) rfl ?_ ?_
    · rw [h1]
      exact ⟨trivial, vp_in_nI hlt (by decide), pk_vb _⟩
    rw [eb, h1, nI_clamp (by omega)]
    refine hd_en_ kX4_append (fun _ => rfl) (Or.inr rfl) ⟨rfl, Or.inr ⟨hlt, rfl, ?_⟩⟩
    rw [hd_u_n (by omega), h1, nI_1]
  · have hge : L = 160 := by
      rcases Nat.lt_or_ge L 160 with z | z
      · exact absurd (nI_lt (b := 160) z (by omega)) c
      · omega
    refine hd_go kX4_append 999 (fun _ => rfl) rfl trivial ?_
    exact hd_en_ kX4_append (fun _ => rfl) (Or.inl rfl) ⟨rfl, Or.inl ⟨hge, rfl, rfl⟩⟩
set_option maxRecDepth 20000 in
theorem c_feed (c : Int32) : cA mX5_feed [.int c] (an_feed c) := by
  intro M N st hI hO
  change hd_Go mX5_feed 0 [some (.ref 0), some (.int c)] [] M N _
  obtain ⟨hL, hb⟩ := hO.2.2.1
  refine hd_go kX5_feed 999 (fun _ => rfl) rfl trivial ?_
  refine hd_ci kX5_feed qX5_feed (fun _ => rfl) (s_isWithin _ _ _ M N) ?_
  refine hd_ju kX5_feed (fun _ => rfl) (fun q => ?_) (fun q => ?_)
  · have q := hd_b1.mp q
    obtain ⟨b, hb1, rfl⟩ := wi_nat (n := 127) rfl q
    refine hd_go kX5_feed 999 (fun _ => rfl) rfl trivial ?_
    refine hd_ca kX5_feed qX5_feed (fun _ => rfl) (s_append M N st.2.2.1.1 hL hI.2.2.1.1 b hb1) ?_
    rintro r M1 N1 ⟨rfl, ⟨h160, rfl, rfl⟩ | ⟨hlt, rfl, rfl⟩⟩
    · refine hd_ju kX5_feed (fun _ => rfl) (fun q2 => ?_) (fun q2 => absurd rfl q2)
      refine hd_go kX5_feed 999 (fun _ => rfl) rfl trivial ?_
      refine hd_en_ kX5_feed (fun _ => rfl) trivial ?_
      unfold an_feed
      rw [if_pos q, if_pos h160]
      exact ⟨rfl, rfl, fr.rf, hI⟩
    · refine hd_ju kX5_feed (fun _ => rfl) (fun q2 => absurd q2 (by decide)) (fun q2 => ?_)
      refine hd_go kX5_feed 999 (fun _ => rfl) rfl trivial ?_
      refine hd_en_ kX5_feed (fun _ => rfl) trivial ?_
      unfold an_feed
      rw [if_pos q, if_neg (by omega)]
      refine ⟨by rw [hd_u_s], rfl, (fr.rf.up (by simp)).up (by simp), ?_⟩
      refine hI.tape ((fr.rf.up (by simp)).up (by simp)) ⟨hd_u_s _ _ _ _, fun i hi => ?_⟩ ?_
      · have hi : i < st.2.2.1.1 + 1 := hi
        show _ = if i = st.2.2.1.1 then nI b else st.2.2.1.2 i
        rw [hd_u_n (by omega)]
        by_cases e : i = st.2.2.1.1
        · rw [if_pos e, e, hd_u_s]
        · rw [if_neg e, hd_u_n (by omega)]; exact hI.2.2.1.2 i (by omega)
      · rw [hd_u_n (by omega), hd_u_n (by omega)]; exact hI.2.2.2.2.2.2
  · have q := hd_b0.mp q
    refine hd_go kX5_feed 999 (fun _ => rfl) rfl trivial ?_
    refine hd_en_ kX5_feed (fun _ => rfl) trivial ?_
    unfold an_feed
    rw [if_neg q]
    exact ⟨rfl, rfl, fr.rf, hI⟩
set_option maxRecDepth 20000 in
theorem c_end (n : Int32) : cA mX5_end [.int n] (an_end n) := by
  intro M N st hI hO
  change hd_Go mX5_end 0 [some (.ref 0), some (.int n), none] [] M N _
  have hL := hO.2.2.1.1
  have e1 : M 16 1 = nI st.2.2.1.1 := hI.2.2.1.1
  refine hd_go kX5_end 999 (fun _ => rfl) rfl trivial ?_
  refine hd_ci kX5_end qX5_end (fun _ => rfl) (s_isWithin _ _ _ M N) ?_
  rw [e1]
  refine hd_ju kX5_end (fun _ => rfl) (fun q => ?_) (fun q => ?_)
  · have q := hd_b1.mp q
    obtain ⟨j, hj, rfl⟩ := nI_of2 (M := nI st.2.2.1.1) (n := st.2.2.1.1) (nI_toInt (by omega)) q.1 (Int32.not_lt.mp q.2)
    refine hd_go kX5_end 999 (fun _ => rfl) rfl trivial ?_
    refine hd_en_ kX5_end (fun _ => rfl) trivial ?_
    unfold an_end
    rw [if_pos q, nI_clamp (by omega)]
    refine ⟨by rw [e1], rfl, fr.rf.up (by simp), ?_⟩
    refine hI.tape (fr.rf.up (by simp)) ⟨hd_u_s _ _ _ _, fun i hi => ?_⟩ ?_
    · rw [hd_u_n (by omega)]; exact hI.2.2.1.2 i (Nat.lt_of_lt_of_le hi hj)
    · rw [hd_u_n (by omega)]; exact hI.2.2.2.2.2.2
  · have q := hd_b0.mp q
    refine hd_go kX5_end 999 (fun _ => rfl) rfl trivial ?_
    refine hd_en_ kX5_end (fun _ => rfl) trivial ?_
    unfold an_end
    rw [if_neg q]
    exact ⟨rfl, rfl, fr.rf, hI⟩
set_option maxRecDepth 20000 in
theorem c_rule (w : Int32) : cA mX5_rule [.int w] (an_rule w) := by
  intro M N st hI hO
  change hd_Go mX5_rule 0 [some (.ref 0), some (.int w)] [] M N _
  obtain ⟨a5, a6, a7, a8, a9, -⟩ := id hI.1
  refine hd_go kX5_rule 999 (fun _ => rfl) rfl trivial ?_
  refine hd_sc kX5_rule (fun _ => rfl) ⟨fun c => ?_, fun c0 => ⟨fun c => ?_, fun c1 => ⟨fun c => ?_, fun c2 => ⟨fun c => ?_, fun c3 => ⟨fun c => ?_, fun c4 => ⟨fun c => ?_, fun c5 => ⟨fun c => ?_, fun c6 => ?_⟩⟩⟩⟩⟩⟩⟩
  · subst c
    refine hd_go kX5_rule 999 (fun _ => rfl) rfl trivial ?_
    exact hd_en_ kX5_rule (fun _ => rfl) trivial ⟨by rw [a5]; rfl, rfl, fr.rf, hI⟩
  · subst c
    refine hd_go kX5_rule 999 (fun _ => rfl) rfl trivial ?_
    exact hd_en_ kX5_rule (fun _ => rfl) trivial ⟨by rw [a9]; rfl, rfl, fr.rf, hI⟩
  · subst c
    refine hd_go kX5_rule 999 (fun _ => rfl) rfl trivial ?_
    exact hd_en_ kX5_rule (fun _ => rfl) trivial ⟨by rw [a7]; rfl, rfl, fr.rf, hI⟩
  · subst c
    refine hd_go kX5_rule 999 (fun _ => rfl) rfl trivial ?_
    exact hd_en_ kX5_rule (fun _ => rfl) trivial ⟨by rw [a8]; rfl, rfl, fr.rf, hI⟩
  · subst c
    refine hd_go kX5_rule 999 (fun _ => rfl) rfl trivial ?_
    exact hd_en_ kX5_rule (fun _ => rfl) trivial ⟨by rw [a6]; rfl, rfl, fr.rf, hI⟩
  · subst c
    refine hd_go kX5_rule 999 (fun _ => rfl) rfl trivial ?_
    refine hd_ci kX5_rule qX5_rule (fun _ => rfl) (s_outBits_1 M N _ hI.1 hO.1) ?_
    exact hd_en_ kX5_rule (fun _ => rfl) trivial ⟨rfl, rfl, fr.rf, hI⟩
  · subst c
    refine hd_go kX5_rule 999 (fun _ => rfl) rfl trivial ?_
    refine hd_ci kX5_rule qX5_rule (fun _ => rfl) (s_crushed_1 M N _ hI.1 hO.1.1) ?_
    exact hd_en_ kX5_rule (fun _ => rfl) trivial ⟨rfl, rfl, fr.rf, hI⟩
  · refine hd_go kX5_rule 999 (fun _ => rfl) rfl trivial ?_
    refine hd_en_ kX5_rule (fun _ => rfl) trivial ⟨?_, rfl, fr.rf, hI⟩
    simp only [an_rule, c0, c1, c2, c3, c4, c5, c6, if_false]
set_option maxRecDepth 20000 in
theorem c_thing (i w : Int32) : cA mX5_thing [.int i, .int w] (an_thing i w) := by
  intro M N st hI hO
  change hd_Go mX5_thing 0 [some (.ref 0), some (.int i), some (.int w)] [] M N _
  obtain ⟨a5, a6, a7, a8, a9, b1, b2, b3, b4⟩ := id hI.1
  refine hd_go kX5_thing 999 (fun _ => rfl) rfl trivial ?_
  refine hd_ci kX5_thing qX5_thing (fun _ => rfl) (s_isThing _ M N) ?_
  rw [a5]
  refine hd_ju kX5_thing (fun _ => rfl) (fun q => ?_) (fun q => ?_)
  · have q := hd_b1.mp q
    obtain ⟨j, hj, rfl⟩ := an_th_nat q hO.1.1
    have h7 : j < 7 := Nat.lt_of_lt_of_le hj hO.1.1
    have ej : (nI j).toNatClampNeg = j := nI_clamp (by omega)
    have hv : vp_in (nI j) 7 := vp_in_nI h7 (by decide)
    have e1 : M 2 j = st.1.2.2.2.2.2 0 j := b1 j hj
    have e2 : M 3 j = st.1.2.2.2.2.2 1 j := b2 j hj
    have e3 : M 4 j = st.1.2.2.2.2.2 2 j := b3 j hj
    have e4 : M 5 j = st.1.2.2.2.2.2 3 j := b4 j hj
    have el : wsm (M 4) (j + 1) (st.1.1 - (j + 1)) = dy_ld st.1 j := wsm_cong _ _ (fun x h1 h2 => b3 x (by omega))
    unfold an_thing
    rw [if_pos q, ej]
    refine hd_go kX5_thing 999 (fun _ => rfl) rfl trivial ?_
    refine hd_sc kX5_thing (fun _ => rfl) ⟨fun c => ?_, fun c0 => ⟨fun c => ?_, fun c1 => ⟨fun c => ?_, fun c2 => ⟨fun c => ?_, fun c3 => ⟨fun c => ?_, fun c4 => ⟨fun c => ?_, fun c5 => ⟨fun c => ?_, fun c6 => ?_⟩⟩⟩⟩⟩⟩⟩
    · subst c
      refine hd_go kX5_thing 999 (fun _ => rfl) rfl ⟨trivial, hv⟩ ?_
      rw [ej]
      exact hd_en_ kX5_thing (fun _ => rfl) trivial ⟨by rw [e1]; rfl, rfl, fr.rf, hI⟩
    · subst c
      refine hd_go kX5_thing 999 (fun _ => rfl) rfl ⟨trivial, hv⟩ ?_
      rw [ej]
      exact hd_en_ kX5_thing (fun _ => rfl) trivial ⟨by rw [e2]; rfl, rfl, fr.rf, hI⟩
    · subst c
      refine hd_go kX5_thing 999 (fun _ => rfl) rfl ⟨trivial, hv⟩ ?_
      rw [ej]
      exact hd_en_ kX5_thing (fun _ => rfl) trivial ⟨by rw [e3]; rfl, rfl, fr.rf, hI⟩
    · subst c
      refine hd_go kX5_thing 999 (fun _ => rfl) rfl trivial ?_
      refine hd_ci kX5_thing qX5_thing (fun _ => rfl) (s_bearsOf_1 M N j h7) ?_
      exact hd_en_ kX5_thing (fun _ => rfl) trivial ⟨by rw [e1, e3]; rfl, rfl, fr.rf, hI⟩
    · subst c
      refine hd_go kX5_thing 999 (fun _ => rfl) rfl trivial ?_
      refine hd_ci kX5_thing qX5_thing (fun _ => rfl) (s_weightBehind_1 M N st.1.1 hO.1.1 a5 j h7) ?_
      exact hd_en_ kX5_thing (fun _ => rfl) trivial ⟨by rw [el]; rfl, rfl, fr.rf, hI⟩
    · subst c
      refine hd_go kX5_thing 999 (fun _ => rfl) rfl trivial ?_
      refine hd_ci kX5_thing qX5_thing (fun _ => rfl) (s_cheersOf_1 M N st.1.1 hO.1.1 a5 j h7) ?_
      refine hd_go kX5_thing 999 (fun _ => rfl) rfl trivial ?_
      exact hd_en_ kX5_thing (fun _ => rfl) trivial ⟨by rw [el, e1, e2, e3]; rfl, rfl, fr.rf, hI⟩
    · subst c
      refine hd_go kX5_thing 999 (fun _ => rfl) rfl ⟨trivial, hv⟩ ?_
      rw [ej]
      exact hd_en_ kX5_thing (fun _ => rfl) trivial ⟨by rw [e4]; rfl, rfl, fr.rf, hI⟩
    · refine hd_go kX5_thing 999 (fun _ => rfl) rfl trivial ?_
      refine hd_en_ kX5_thing (fun _ => rfl) trivial ⟨?_, rfl, fr.rf, hI⟩
      simp only [dy_tell, c0, c1, c2, c3, c4, c5, c6, if_false]
  · have q := hd_b0.mp q
    refine hd_go kX5_thing 999 (fun _ => rfl) rfl trivial ?_
    refine hd_en_ kX5_thing (fun _ => rfl) trivial ⟨?_, rfl, fr.rf, hI⟩
    unfold an_thing
    rw [if_neg q]
set_option maxRecDepth 20000 in
theorem dayF {M M1 : hd_M} (h : fr (fun c _ => 1 ≤ c ∧ c ≤ 6) M M1) : fr clsF M M1 ∧ fr (fun c _ => (1 ≤ c ∧ c ≤ 12) ∨ 48 ≤ c) M M1 := by
  refine ⟨h.mo (fun c j z => ?_), h.mo (fun c j z => ?_)⟩
  · have z : 1 ≤ c ∧ c ≤ 6 := z
    show c ≤ 50; omega
  · have z : 1 ≤ c ∧ c ≤ 6 := z
    show (1 ≤ c ∧ c ≤ 12) ∨ 48 ≤ c; omega
set_option maxRecDepth 20000 in
theorem tra_nat {w v : Int32} (h : tra w v) : ∃ j : Nat, j < 3 ∧ w = nI j := by
  rcases h with h | h | h
  · exact ⟨0, by decide, h.1⟩
  · exact ⟨1, by decide, h.1⟩
  · exact ⟨2, by decide, h.1⟩
set_option maxRecDepth 20000 in
theorem c_alter (i w v : Int32) : cA mX5_alter [.int i, .int w, .int v] (an_alter i w v) := by
  intro M N st hI hO
  change hd_Go mX5_alter 0 [some (.ref 0), some (.int i), some (.int w), some (.int v)] [] M N _
  obtain ⟨a5, a6, a7, a8, a9, b1, b2, b3, b4⟩ := id hI.1
  have bad : ¬ (an_th i st.1 ∧ tra w v) → hd_Go mX5_alter 16 [some (.ref 0), some (.int i), some (.int w), some (.int v)] [] M N (fun r M1 N1 => r = some (an_alter i w v st).1 ∧ N1 = N ∧ fr clsF M M1 ∧ CI M1 (an_alter i w v st).2) := by
    intro q
    refine hd_go kX5_alter 999 (fun _ => rfl) rfl trivial ?_
    refine hd_en_ kX5_alter (fun _ => rfl) trivial ?_
    unfold an_alter
    rw [if_neg q]
    exact ⟨rfl, rfl, fr.rf, hI⟩
  refine hd_go kX5_alter 999 (fun _ => rfl) rfl trivial ?_
  refine hd_ci kX5_alter qX5_alter (fun _ => rfl) (s_isThing _ M N) ?_
  rw [a5]
  refine hd_ju kX5_alter (fun _ => rfl) (fun q => bad (fun z => hd_b0.mp q z.1)) (fun q => ?_)
  have q := hd_b1.mp q
  refine hd_go kX5_alter 999 (fun _ => rfl) rfl trivial ?_
  refine hd_ci kX5_alter qX5_alter (fun _ => rfl) (s_isTrait _ _ M N) ?_
  refine hd_ju kX5_alter (fun _ => rfl) (fun q2 => ?_) (fun q2 => bad (fun z => hd_b0.mp q2 z.2))
  have q2 := hd_b1.mp q2
  have q3 : an_th i st.1 ∧ tra w v := ⟨q, q2⟩
  have h7 : st.1.1 ≤ 7 := hO.1.1
  obtain ⟨j, hj, rfl⟩ := an_th_nat q hO.1.1
  obtain ⟨u, hu, rfl⟩ := tra_nat q2
  refine hd_go kX5_alter 999 (fun _ => rfl) rfl trivial ?_
  refine hd_ca kX5_alter qX5_alter (fun _ => rfl) (s_change_1 M N j u (Nat.lt_of_lt_of_le hj hO.1.1) hu v) ?_
  rintro r M1 N1 ⟨rfl, rfl, rfl⟩
  refine hd_en_ kX5_alter (fun _ => rfl) trivial ?_
  unfold an_alter
  rw [if_pos q3, nI_clamp (by omega), nI_clamp (by omega)]
  have hf : fr (fun c _ => 1 ≤ c ∧ c ≤ 6) M (hd_u M (2 + u) j v) := fr.rf.up (by show 1 ≤ 2 + u ∧ 2 + u ≤ 6; omega)
  refine ⟨?_, rfl, (dayF hf).1, hI.day (dayF hf).2 (h_set_1 hI.1 u j hu v)⟩
  rcases (show u = 0 ∨ u = 1 ∨ u = 2 by omega) with rfl | rfl | rfl
  · rw [show M (2 + 0) j = st.1.2.2.2.2.2 0 j from b1 j hj]
  · rw [show M (2 + 1) j = st.1.2.2.2.2.2 1 j from b2 j hj]
  · rw [show M (2 + 2) j = st.1.2.2.2.2.2 2 j from b3 j hj]
set_option maxRecDepth 20000 in
theorem c_mood (v : Int32) : cA mX5_mood [.int v] (an_mood v) := by
  intro M N st hI hO
  change hd_Go mX5_mood 0 [some (.ref 0), some (.int v), none] [] M N _
  obtain ⟨a5, a6, a7, a8, a9, b1, b2, b3, b4⟩ := id hI.1
  refine hd_go kX5_mood 999 (fun _ => rfl) rfl trivial ?_
  refine hd_ci kX5_mood qX5_mood (fun _ => rfl) (s_isMood _ M N) ?_
  refine hd_ju kX5_mood (fun _ => rfl) (fun q => ?_) (fun q => ?_)
  · have q := hd_b1.mp q
    refine hd_go kX5_mood 999 (fun _ => rfl) rfl trivial ?_
    refine hd_en_ kX5_mood (fun _ => rfl) trivial ?_
    unfold an_mood
    rw [if_pos q]
    have hf : fr (fun c _ => 1 ≤ c ∧ c ≤ 6) M (hd_u M 1 7 v) := fr.rf.up (by simp)
    refine ⟨by rw [a7], rfl, (dayF hf).1, hI.day (dayF hf).2 ?_⟩
    refine ⟨?_, ?_, ?_, ?_, ?_, fun x hx => ?_, fun x hx => ?_, fun x hx => ?_, fun x hx => ?_⟩
    · rw [hd_u_n (by omega)]; exact a5
    · rw [hd_u_n (by omega)]; exact a6
    · exact hd_u_s _ _ _ _
    · rw [hd_u_n (by omega)]; exact a8
    · rw [hd_u_n (by omega)]; exact a9
    · rw [hd_u_n (by omega)]; exact b1 x hx
    · rw [hd_u_n (by omega)]; exact b2 x hx
    · rw [hd_u_n (by omega)]; exact b3 x hx
    · rw [hd_u_n (by omega)]; exact b4 x hx
  · have q := hd_b0.mp q
    refine hd_go kX5_mood 999 (fun _ => rfl) rfl trivial ?_
    refine hd_en_ kX5_mood (fun _ => rfl) trivial ?_
    unfold an_mood
    rw [if_neg q]
    exact ⟨rfl, rfl, fr.rf, hI⟩
set_option maxRecDepth 20000 in
theorem c_tire (v : Int32) : cA mX5_tire [.int v] (an_tire v) := by
  intro M N st hI hO
  change hd_Go mX5_tire 0 [some (.ref 0), some (.int v), none] [] M N _
  obtain ⟨a5, a6, a7, a8, a9, b1, b2, b3, b4⟩ := id hI.1
  refine hd_go kX5_tire 999 (fun _ => rfl) rfl trivial ?_
  refine hd_ci kX5_tire qX5_tire (fun _ => rfl) (s_isWithin _ _ _ M N) ?_
  refine hd_ju kX5_tire (fun _ => rfl) (fun q => ?_) (fun q => ?_)
  · have q := hd_b1.mp q
    refine hd_go kX5_tire 999 (fun _ => rfl) rfl trivial ?_
    refine hd_en_ kX5_tire (fun _ => rfl) trivial ?_
    unfold an_tire
    rw [if_pos q]
    have hf : fr (fun c _ => 1 ≤ c ∧ c ≤ 6) M (hd_u M 1 8 v) := fr.rf.up (by simp)
    refine ⟨by rw [a8], rfl, (dayF hf).1, hI.day (dayF hf).2 ?_⟩
    refine ⟨?_, ?_, ?_, ?_, ?_, fun x hx => ?_, fun x hx => ?_, fun x hx => ?_, fun x hx => ?_⟩
    · rw [hd_u_n (by omega)]; exact a5
    · rw [hd_u_n (by omega)]; exact a6
    · rw [hd_u_n (by omega)]; exact a7
    · exact hd_u_s _ _ _ _
    · rw [hd_u_n (by omega)]; exact a9
    · rw [hd_u_n (by omega)]; exact b1 x hx
    · rw [hd_u_n (by omega)]; exact b2 x hx
    · rw [hd_u_n (by omega)]; exact b3 x hx
    · rw [hd_u_n (by omega)]; exact b4 x hx
  · have q := hd_b0.mp q
    refine hd_go kX5_tire 999 (fun _ => rfl) rfl trivial ?_
    refine hd_en_ kX5_tire (fun _ => rfl) trivial ?_
    unfold an_tire
    rw [if_neg q]
    exact ⟨rfl, rfl, fr.rf, hI⟩
set_option maxRecDepth 20000 in
theorem s_allIn (M : hd_M) (N : hd_N) (d : dy_T) (hd : hm M 1 d) (ok : dy_ok d) : hd_Ret mX0_isAllIn [.ref 1] M N (hd_is (.int (hd_b (dy_all d))) M N) := by
  have h := s_isAllIn_1 M N
  rw [hd.1, hd.2.1] at h
  have hn := ok.1
  have hl := ok.2.1
  have e : hd_b (nI d.2.1 = nI d.1) = hd_b (dy_all d) := by
    unfold hd_b
    simp only [nI_eq (show d.2.1 < 2 ^ 31 by omega) (show d.1 < 2 ^ 31 by omega)]
  rw [e] at h
  exact h
set_option maxRecDepth 20000 in
theorem c_pack (k g w : Int32) : cA mX5_pack [.int k, .int g, .int w] (an_pack k g w) := by
  intro M N st hI hO
  change hd_Go mX5_pack 0 [some (.ref 0), some (.int k), some (.int g), some (.int w)] [] M N _
  have t0 : ∀ v, tra 0 v ↔ wi v 0 3 := fun v => by simp [tra]
  have t1 : ∀ v, tra 1 v ↔ wi v 0 9 := fun v => by simp [tra]
  have t2 : ∀ v, tra 2 v ↔ wi v 1 9 := fun v => by simp [tra]
  have bad : ¬ (wi k 0 3 ∧ wi g 0 9 ∧ wi w 1 9) → hd_Go mX5_pack 24 [some (.ref 0), some (.int k), some (.int g), some (.int w)] [] M N (fun r M1 N1 => r = some (an_pack k g w st).1 ∧ N1 = N ∧ fr clsF M M1 ∧ CI M1 (an_pack k g w st).2) := by
    intro q
    refine hd_go kX5_pack 999 (fun _ => rfl) rfl trivial ?_
    refine hd_en_ kX5_pack (fun _ => rfl) trivial ?_
    unfold an_pack
    rw [if_neg q]
    exact ⟨rfl, rfl, fr.rf, hI⟩
  refine hd_go kX5_pack 999 (fun _ => rfl) rfl trivial ?_
  refine hd_ci kX5_pack qX5_pack (fun _ => rfl) (s_isTrait _ _ M N) ?_
  refine hd_ju kX5_pack (fun _ => rfl) (fun q => bad (fun z => hd_b0.mp q ((t0 _).mpr z.1))) (fun q => ?_)
  have q0 := (t0 _).mp (hd_b1.mp q)
  refine hd_go kX5_pack 999 (fun _ => rfl) rfl trivial ?_
  refine hd_ci kX5_pack qX5_pack (fun _ => rfl) (s_isTrait _ _ M N) ?_
  refine hd_ju kX5_pack (fun _ => rfl) (fun q => bad (fun z => hd_b0.mp q ((t1 _).mpr z.2.1))) (fun q => ?_)
  have q1 := (t1 _).mp (hd_b1.mp q)
  refine hd_go kX5_pack 999 (fun _ => rfl) rfl trivial ?_
  refine hd_ci kX5_pack qX5_pack (fun _ => rfl) (s_isTrait _ _ M N) ?_
  refine hd_ju kX5_pack (fun _ => rfl) (fun q => ?_) (fun q => bad (fun z => hd_b0.mp q ((t2 _).mpr z.2.2)))
  have q2 := (t2 _).mp (hd_b1.mp q)
  refine hd_go kX5_pack 999 (fun _ => rfl) rfl trivial ?_
  refine hd_ci kX5_pack qX5_pack (fun _ => rfl) (s_allIn M N _ hI.1 hO.1) ?_
  unfold an_pack
  rw [if_pos ⟨q0, q1, q2⟩]
  refine hd_ju kX5_pack (fun _ => rfl) (fun q => ?_) (fun q => ?_)
  · have ha := hd_b1.mp q
    rw [if_pos ha]
    refine hd_go kX5_pack 999 (fun _ => rfl) rfl trivial ?_
    refine hd_ca kX5_pack qX5_pack (fun _ => rfl) (s_add_1 M N _ hI.1 hO.1.1 k g w) ?_
    rintro r M1 N1 ⟨rfl, ⟨h7, rfl, rfl⟩ | ⟨h7, rfl, hf, hd⟩⟩
    · refine hd_ju kX5_pack (fun _ => rfl) (fun q => ?_) (fun q => absurd rfl q)
      refine hd_go kX5_pack 999 (fun _ => rfl) rfl trivial ?_
      refine hd_en_ kX5_pack (fun _ => rfl) trivial ?_
      rw [if_pos h7]
      exact ⟨rfl, rfl, fr.rf, hI⟩
    · refine hd_ju kX5_pack (fun _ => rfl) (fun q => absurd q (by decide)) (fun q => ?_)
      refine hd_go kX5_pack 999 (fun _ => rfl) rfl trivial ?_
      refine hd_en_ kX5_pack (fun _ => rfl) trivial ?_
      rw [if_neg (by omega)]
      have hf2 : fr (fun c _ => 1 ≤ c ∧ c ≤ 6) M M1 := hf.mo (fun c j z => by have z : 1 ≤ c ∧ c ≤ 5 := z; show 1 ≤ c ∧ c ≤ 6; omega)
      exact ⟨by rw [hd.1]; rfl, rfl, (dayF hf2).1, hI.day (dayF hf2).2 hd⟩
  · have ha := hd_b0.mp q
    rw [if_neg ha]
    refine hd_go kX5_pack 999 (fun _ => rfl) rfl trivial ?_
    exact hd_en_ kX5_pack (fun _ => rfl) trivial ⟨rfl, rfl, fr.rf, hI⟩
set_option maxRecDepth 20000 in
theorem c_strap : cA mX5_strap [] an_strap := by
  intro M N st hI hO
  change hd_Go mX5_strap 0 [some (.ref 0), none] [] M N _
  refine hd_go kX5_strap 999 (fun _ => rfl) rfl trivial ?_
  refine hd_ca kX5_strap qX5_strap (fun _ => rfl) (s_bring_1 M N _ hI.1 hO.1.1) ?_
  rintro r M1 N1 ⟨rfl, rfl, hf, hd⟩
  refine hd_go kX5_strap 999 (fun _ => rfl) rfl trivial ?_
  have hf2 : fr (fun c _ => 1 ≤ c ∧ c ≤ 6) M M1 := hf.mo (fun c j z => by have z : 1 ≤ c ∧ c ≤ 5 := z; show 1 ≤ c ∧ c ≤ 6; omega)
  refine hd_en_ kX5_strap (fun _ => rfl) trivial ⟨?_, rfl, (dayF hf2).1, hI.day (dayF hf2).2 hd⟩
  rw [hI.1.1, hI.1.2.1]; rfl
set_option maxRecDepth 20000 in
theorem c_lift : cA mX5_lift [] an_lift := by
  intro M N st hI hO
  change hd_Go mX5_lift 0 [some (.ref 0)] [] M N _
  have h7 := hO.1.1
  have bad : (st.1.1 = 0 ∨ ¬ dy_all st.1) → hd_Go mX5_lift 20 [some (.ref 0)] [] M N (fun r M1 N1 => r = some (an_lift st).1 ∧ N1 = N ∧ fr clsF M M1 ∧ CI M1 (an_lift st).2) := by
    intro q
    refine hd_go kX5_lift 999 (fun _ => rfl) rfl trivial ?_
    refine hd_en_ kX5_lift (fun _ => rfl) trivial ?_
    unfold an_lift
    rw [if_pos q]
    exact ⟨rfl, rfl, fr.rf, hI⟩
  refine hd_go kX5_lift 999 (fun _ => rfl) rfl trivial ?_
  rw [hI.1.1]
  refine hd_ju kX5_lift (fun _ => rfl) (fun q => ?_) (fun q => ?_)
  · refine bad (Or.inl ?_)
    rcases Nat.eq_zero_or_pos st.1.1 with z | z
    · exact z
    · exact absurd q (nI_ne0 z (by omega))
  have hne : ¬ st.1.1 = 0 := fun z => q (by rw [z]; rfl)
  refine hd_go kX5_lift 999 (fun _ => rfl) rfl trivial ?_
  refine hd_ci kX5_lift qX5_lift (fun _ => rfl) (s_allIn M N _ hI.1 hO.1) ?_
  refine hd_ju kX5_lift (fun _ => rfl) (fun q => ?_) (fun q => bad (Or.inr (hd_b0.mp q)))
  have ha := hd_b1.mp q
  refine hd_go kX5_lift 999 (fun _ => rfl) rfl trivial ?_
  have e5 : M 1 5 - 1 = nI (st.1.1 - 1) := by
    rw [hI.1.1, show st.1.1 = (st.1.1 - 1) + 1 by omega, nI_pred]
    simp
  rw [e5]
  refine hd_ca kX5_lift qX5_lift (fun _ => rfl) (s_shrink_1 M N _ hI.1 h7 (st.1.1 - 1) (by omega)) ?_
  rintro r M1 N1 ⟨rfl, rfl, hf, hd⟩
  rw [if_pos (by omega)] at hd
  refine hd_go kX5_lift 999 (fun _ => rfl) rfl trivial ?_
  have hf2 : fr (fun c _ => 1 ≤ c ∧ c ≤ 6) M M1 := hf.mo (fun c j z => by have z : c = 1 := z; show 1 ≤ c ∧ c ≤ 6; omega)
  refine hd_en_ kX5_lift (fun _ => rfl) trivial ?_
  unfold an_lift
  rw [if_neg (fun z => z.elim hne (fun z => z ha))]
  exact ⟨by rw [hd.1]; rfl, rfl, (dayF hf2).1, hI.day (dayF hf2).2 hd⟩
set_option maxRecDepth 20000 in
theorem c_hours (n : Int32) : cA mX5_hours [.int n] (an_hours n) := by
  intro M N st hI hO
  change hd_Go mX5_hours 0 [some (.ref 0), some (.int n)] [] M N _
  refine hd_go kX5_hours 999 (fun _ => rfl) rfl trivial ?_
  refine hd_ci kX5_hours qX5_hours (fun _ => rfl) (s_isWithin _ _ _ M N) ?_
  unfold an_hours
  refine hd_ju kX5_hours (fun _ => rfl) (fun q => ?_) (fun q => ?_)
  · have q := hd_b1.mp q
    obtain ⟨j, hj, rfl⟩ := wi_nat (n := 30) rfl q
    rw [if_pos q, nI_clamp (by omega)]
    refine hd_go kX5_hours 999 (fun _ => rfl) rfl trivial ?_
    rw [show M 1 9 = st.1.2.2.2.2.1 from hI.1.2.2.2.2.1]
    refine hd_ju kX5_hours (fun _ => rfl) (fun c => ?_) (fun c => ?_)
    · rw [if_pos c]
      refine hd_go kX5_hours 999 (fun _ => rfl) rfl trivial ?_
      refine hd_ca kX5_hours qX5_hours (fun _ => rfl) (s_pass_1 M N _ hI.1 hO.1 j (by omega)) ?_
      rintro r M1 N1 ⟨rfl, rfl, hf, hd⟩
      exact hd_en_ kX5_hours (fun _ => rfl) trivial ⟨rfl, rfl, (dayF hf).1, hI.day (dayF hf).2 hd⟩
    · rw [if_neg c]
      refine hd_go kX5_hours 999 (fun _ => rfl) rfl trivial ?_
      exact hd_en_ kX5_hours (fun _ => rfl) trivial ⟨rfl, rfl, fr.rf, hI⟩
  · have q := hd_b0.mp q
    rw [if_neg q]
    refine hd_go kX5_hours 999 (fun _ => rfl) rfl trivial ?_
    exact hd_en_ kX5_hours (fun _ => rfl) trivial ⟨rfl, rfl, fr.rf, hI⟩
