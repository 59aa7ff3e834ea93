/-! THE REFERENCE'S PUBLIC METHODS, SECOND LOT; printed by wip/whole/ref4.py -/
set_option maxRecDepth 20000 in
theorem d_mood (v : Int32) : rA mX6_mood [.int v] (an_mood v) := by
  intro M N st hI hO
  change hd_Go mX6_mood 0 [some (.ref 51), some (.int v)] [] M N _
  have h7 := hO.1.1
  obtain ⟨a5, a6, a7, a8, a9, b⟩ := id hI.1
  refine hd_go kX6_mood 999 (fun _ => rfl) rfl trivial ?_
  refine hd_ci kX6_mood qX6_mood (fun _ => rfl) (r_isMood _ M N) ?_
  unfold an_mood
  refine hd_ju kX6_mood (fun _ => rfl) (fun q => ?_) (fun q => ?_)
  · rw [if_neg (hd_b0.mp q)]
    refine hd_go kX6_mood 999 (fun _ => rfl) rfl trivial ?_
    exact hd_en_ kX6_mood (fun _ => rfl) trivial ⟨rfl, fr.rf, hI⟩
  · rw [if_pos (hd_b1.mp q)]
    refine hd_go kX6_mood 999 (fun _ => rfl) rfl trivial ?_
    refine hd_ca kX6_mood qX6_mood (fun _ => rfl) (r_bec 30 (by decide) v M N) ?_
    rintro r M1 N1 ⟨rfl, rfl, rfl⟩
    refine hd_go kX6_mood 999 (fun _ => rfl) rfl trivial ?_
    have hf : fr (fun c j => c = 52 ∧ j < 33) M (hd_u M 52 30 v) := fr.rf.up (by decide)
    refine hd_en_ kX6_mood (fun _ => rfl) trivial ⟨congrArg (fun x => some (Value.int x)) a7, (dayR hf).1, hI.day hO (dayR hf).2 ?_⟩
    refine ⟨?_, ?_, ?_, ?_, ?_, fun x hx => ?_⟩
    · rw [hd_u_n (by omega)]; exact a5
    · rw [hd_u_n (by omega)]; exact a6
    · rw [show 0 + 30 = 30 from rfl]; exact hd_u_s _ _ _ _
    · rw [hd_u_n (by omega)]; exact a8
    · rw [hd_u_n (by omega)]; exact a9
    · have hx : x < st.1.1 := hx
      rw [hd_u_n (by omega), hd_u_n (by omega), hd_u_n (by omega), hd_u_n (by omega)]
      exact b x hx
set_option maxRecDepth 20000 in
theorem d_tire (v : Int32) : rA mX6_tire [.int v] (an_tire v) := by
  intro M N st hI hO
  change hd_Go mX6_tire 0 [some (.ref 51), some (.int v)] [] M N _
  have h7 := hO.1.1
  obtain ⟨a5, a6, a7, a8, a9, b⟩ := id hI.1
  refine hd_go kX6_tire 999 (fun _ => rfl) rfl trivial ?_
  refine hd_ci kX6_tire qX6_tire (fun _ => rfl) (r_in v 0 9 _ _ rfl rfl M N) ?_
  unfold an_tire
  refine hd_ju kX6_tire (fun _ => rfl) (fun q => ?_) (fun q => ?_)
  · rw [if_neg (hd_b0.mp q)]
    refine hd_go kX6_tire 999 (fun _ => rfl) rfl trivial ?_
    exact hd_en_ kX6_tire (fun _ => rfl) trivial ⟨rfl, fr.rf, hI⟩
  · rw [if_pos (hd_b1.mp q)]
    refine hd_go kX6_tire 999 (fun _ => rfl) rfl trivial ?_
    refine hd_ca kX6_tire qX6_tire (fun _ => rfl) (r_bec 31 (by decide) v M N) ?_
    rintro r M1 N1 ⟨rfl, rfl, rfl⟩
    refine hd_go kX6_tire 999 (fun _ => rfl) rfl trivial ?_
    have hf : fr (fun c j => c = 52 ∧ j < 33) M (hd_u M 52 31 v) := fr.rf.up (by decide)
    refine hd_en_ kX6_tire (fun _ => rfl) trivial ⟨congrArg (fun x => some (Value.int x)) a8, (dayR hf).1, hI.day hO (dayR hf).2 ?_⟩
    refine ⟨?_, ?_, ?_, ?_, ?_, fun x hx => ?_⟩
    · rw [hd_u_n (by omega)]; exact a5
    · rw [hd_u_n (by omega)]; exact a6
    · rw [hd_u_n (by omega)]; exact a7
    · rw [show 0 + 31 = 31 from rfl]; exact hd_u_s _ _ _ _
    · rw [hd_u_n (by omega)]; exact a9
    · have hx : x < st.1.1 := hx
      rw [hd_u_n (by omega), hd_u_n (by omega), hd_u_n (by omega), hd_u_n (by omega)]
      exact b x hx
set_option maxRecDepth 20000 in
theorem ix4' (i c : Nat) : nI (4 * i) + nI c = nI (4 * i + c) := nI_add _ _
set_option maxRecDepth 20000 in
theorem r_pack (k g w : Int32) (M : hd_M) (N : hd_N) (st : ab_T) (hI : RI M st) (hO : OK st) : hd_Ret mX6_pack [.ref 51, .int k, .int g, .int w] M N (fun r M1 N1 => r = some (an_pack k g w st).1 ∧ N1 = N ∧ fr (fun c j => c = 52 ∧ j < 33) M M1 ∧ RI M1 (an_pack k g w st).2) := by
  change hd_Go mX6_pack 0 [some (.ref 51), some (.int k), some (.int g), some (.int w), none] [] M N _
  have h7 := hO.1.1
  obtain ⟨a5, a6, a7, a8, a9, b⟩ := id hI.1
  have a5 : M 52 28 = nI st.1.1 := a5
  have a6 : M 52 29 = nI st.1.2.1 := a6
  have bad : ¬ (wi k 0 3 ∧ wi g 0 9 ∧ wi w 1 9) → hd_Go mX6_pack 36 [some (.ref 51), some (.int k), some (.int g), some (.int w), none] [] M N (fun r M1 N1 => r = some (an_pack k g w st).1 ∧ N1 = N ∧ fr (fun c j => c = 52 ∧ j < 33) M M1 ∧ RI M1 (an_pack k g w st).2) := by
    intro q
    refine hd_go kX6_pack 999 (fun _ => rfl) rfl trivial ?_
    refine hd_en_ kX6_pack (fun _ => rfl) trivial ?_
    unfold an_pack
    rw [if_neg q]
    exact ⟨rfl, rfl, fr.rf, hI⟩
  refine hd_go kX6_pack 999 (fun _ => rfl) rfl trivial ?_
  refine hd_ci kX6_pack qX6_pack (fun _ => rfl) (r_in k 0 3 _ _ rfl rfl M N) ?_
  refine hd_ju kX6_pack (fun _ => rfl) (fun q => bad (fun z => hd_b0.mp q z.1)) (fun q => ?_)
  have q0 := hd_b1.mp q
  refine hd_go kX6_pack 999 (fun _ => rfl) rfl trivial ?_
  refine hd_ci kX6_pack qX6_pack (fun _ => rfl) (r_in g 0 9 _ _ rfl rfl M N) ?_
  refine hd_ju kX6_pack (fun _ => rfl) (fun q => bad (fun z => hd_b0.mp q z.2.1)) (fun q => ?_)
  have q1 := hd_b1.mp q
  refine hd_go kX6_pack 999 (fun _ => rfl) rfl trivial ?_
  refine hd_ci kX6_pack qX6_pack (fun _ => rfl) (r_in w 1 9 _ _ rfl rfl M N) ?_
  refine hd_ju kX6_pack (fun _ => rfl) (fun q => ?_) (fun q => bad (fun z => hd_b0.mp q z.2.2))
  have q2 := hd_b1.mp q
  unfold an_pack
  rw [if_pos ⟨q0, q1, q2⟩]
  refine hd_go kX6_pack 999 (fun _ => rfl) rfl trivial ?_
  refine hd_ci kX6_pack qX6_pack (fun _ => rfl) (r_allIn M N st.1 hI.1 hO.1) ?_
  refine hd_ju kX6_pack (fun _ => rfl) (fun q => ?_) (fun q => ?_)
  · have ha : st.1.2.1 = st.1.1 := hd_b1.mp q
    rw [if_pos ha]
    refine hd_go kX6_pack 999 (fun _ => rfl) rfl ⟨trivial, v138 (n := 28) (by decide)⟩ ?_
    show hd_Go mX6_pack 57 [some (.ref 51), some (.int k), some (.int g), some (.int w), none] [.int 7, .int (M 52 28)] M N _
    rw [a5]
    refine hd_ju kX6_pack (fun _ => rfl) (fun c => ?_) (fun c => ?_)
    · have hne : ¬ st.1.1 = 7 := fun z => c (by rw [z]; rfl)
      rw [if_neg hne]
      have hlt : st.1.1 < 7 := by omega
      obtain ⟨n, hn⟩ : ∃ n, n = st.1.1 := ⟨_, rfl⟩
      rw [← hn] at a5 hlt hne
      have e4 : (4 : Int32) * M 52 28 = nI (4 * n) := by rw [a5, show (4 : Int32) = nI 4 from rfl, pk_mul]
      refine hd_go kX6_pack 74 (fun _ => rfl) rfl ⟨trivial, v138 (n := 28) (by decide)⟩ ?_
      show hd_Go mX6_pack 74 [some (.ref 51), some (.int k), some (.int g), some (.int w), some (.int (4 * M 52 28))] [] M N _
      rw [e4]
      refine hd_go kX6_pack 999 (fun _ => rfl) rfl ?_ ?_
      · refine ⟨⟨⟨⟨⟨⟨⟨⟨⟨trivial, ?_⟩, ?_⟩, ?_⟩, ?_⟩, v138 (n := 28) (by decide)⟩, v138 (n := 28) (by decide)⟩, v138 (n := 29) (by decide)⟩, v138 (n := 29) (by decide)⟩, v138 (n := 28) (by decide)⟩
        · rw [show nI (4 * n) + 0 = nI (4 * n + 0) from ix4' n 0]; exact v138 (by omega)
        · rw [show nI (4 * n) + 1 = nI (4 * n + 1) from ix4' n 1]; exact v138 (by omega)
        · rw [show nI (4 * n) + 2 = nI (4 * n + 2) from ix4' n 2]; exact v138 (by omega)
        · rw [show nI (4 * n) + 3 = nI (4 * n + 3) from ix4' n 3]; exact v138 (by omega)
      rw [show nI (4 * n) + 0 = nI (4 * n + 0) from ix4' n 0, show nI (4 * n) + 1 = nI (4 * n + 1) from ix4' n 1, show nI (4 * n) + 2 = nI (4 * n + 2) from ix4' n 2, show nI (4 * n) + 3 = nI (4 * n + 3) from ix4' n 3, nI_clamp (show 4 * n + 0 < 2 ^ 31 by omega), nI_clamp (show 4 * n + 1 < 2 ^ 31 by omega), nI_clamp (show 4 * n + 2 < 2 ^ 31 by omega), nI_clamp (show 4 * n + 3 < 2 ^ 31 by omega), show Int32.toNatClampNeg 28 = 28 from rfl, show Int32.toNatClampNeg 29 = 29 from rfl]
      obtain ⟨M4, hM4⟩ : ∃ M4, M4 = hd_u (hd_u (hd_u (hd_u M 52 (4 * n + 0) k) 52 (4 * n + 1) g) 52 (4 * n + 2) w) 52 (4 * n + 3) 0 := ⟨_, rfl⟩
      rw [← hM4]
      have u28 : M4 52 28 = nI n := by rw [hM4, hd_u_n (by omega), hd_u_n (by omega), hd_u_n (by omega), hd_u_n (by omega)]; exact a5
      have u29 : M4 52 29 = nI n := by rw [hM4, hd_u_n (by omega), hd_u_n (by omega), hd_u_n (by omega), hd_u_n (by omega), a6, ha, hn]
      have ux : ∀ j, 28 ≤ j → M4 52 j = M 52 j := fun j hj => by rw [hM4, hd_u_n (by omega), hd_u_n (by omega), hd_u_n (by omega), hd_u_n (by omega)]
      have ul : ∀ j, j < 4 * n → M4 52 j = M 52 j := fun j hj => by rw [hM4, hd_u_n (by omega), hd_u_n (by omega), hd_u_n (by omega), hd_u_n (by omega)]
      have uf : fr (fun c j => c = 52 ∧ j < 33) M M4 := by
        rw [hM4]
        exact (((fr.rf.up (by show 52 = 52 ∧ 4 * n + 0 < 33; omega)).up (by show 52 = 52 ∧ 4 * n + 1 < 33; omega)).up (by show 52 = 52 ∧ 4 * n + 2 < 33; omega)).up (by show 52 = 52 ∧ 4 * n + 3 < 33; omega)
      rw [u28, nI_1, hd_u_n (show ¬ (52 = 52 ∧ 29 = 28) by decide), u29, nI_1, hd_u_n (show ¬ (52 = 52 ∧ 28 = 29) by decide), hd_u_s]
      have hf : fr (fun c j => c = 52 ∧ j < 33) M (hd_u (hd_u M4 52 28 (nI (n + 1))) 52 29 (nI (n + 1))) := (uf.up (by decide)).up (by decide)
      refine hd_en_ kX6_pack (fun _ => rfl) trivial ⟨by rw [hn], rfl, hf, hI.day hO (dayR hf).2 ?_⟩
      refine ⟨?_, ?_, ?_, ?_, ?_, fun x hx => ?_⟩
      · rw [hd_u_n (by omega), show 0 + 28 = 28 from rfl, hd_u_s, hn]; rfl
      · rw [show 0 + 29 = 29 from rfl, hd_u_s, hn]; rfl
      · rw [hd_u_n (by omega), hd_u_n (by omega), ux _ (by omega)]; exact a7
      · rw [hd_u_n (by omega), hd_u_n (by omega), ux _ (by omega)]; exact a8
      · rw [hd_u_n (by omega), hd_u_n (by omega), ux _ (by omega)]; exact a9
      · have hx : x < st.1.1 + 1 := hx
        rw [← hn] at hx
        have g9 : ∀ c, c < 4 → hd_u (hd_u M4 52 28 (nI (n + 1))) 52 29 (nI (n + 1)) 52 (0 + (4 * x + c)) = M4 52 (4 * x + c) := fun c hc => by rw [Nat.zero_add, hd_u_n (by omega), hd_u_n (by omega)]
        have g0 : hd_u (hd_u M4 52 28 (nI (n + 1))) 52 29 (nI (n + 1)) 52 (0 + 4 * x) = M4 52 (4 * x) := by rw [Nat.zero_add, hd_u_n (by omega), hd_u_n (by omega)]
        by_cases e : x = n
        · subst e
          refine ⟨?_, ?_, ?_, ?_⟩
          · show _ = if x = st.1.1 then k else _
            rw [if_pos hn, g0, hM4, hd_u_n (by omega), hd_u_n (by omega), hd_u_n (by omega)]; exact hd_u_s _ _ _ _
          · show _ = if x = st.1.1 then g else _
            rw [if_pos hn, g9 1 (by decide), hM4, hd_u_n (by omega), hd_u_n (by omega), hd_u_s]
          · show _ = if x = st.1.1 then w else _
            rw [if_pos hn, g9 2 (by decide), hM4, hd_u_n (by omega), hd_u_s]
          · show _ = if x = st.1.1 then 0 else _
            rw [if_pos hn, g9 3 (by decide), hM4, hd_u_s]
        · have hx2 : x < n := by omega
          obtain ⟨b0, b1, b2, b3⟩ := b x (by omega)
          have nn : ¬ x = st.1.1 := by omega
          refine ⟨?_, ?_, ?_, ?_⟩
          · show _ = if x = st.1.1 then k else st.1.2.2.2.2.2 0 x
            rw [if_neg nn, g0, ul _ (by omega)]; rw [Nat.zero_add] at b0; exact b0
          · show _ = if x = st.1.1 then g else st.1.2.2.2.2.2 1 x
            rw [if_neg nn, g9 1 (by decide), ul _ (by omega)]; rw [Nat.zero_add] at b1; exact b1
          · show _ = if x = st.1.1 then w else st.1.2.2.2.2.2 2 x
            rw [if_neg nn, g9 2 (by decide), ul _ (by omega)]; rw [Nat.zero_add] at b2; exact b2
          · show _ = if x = st.1.1 then 0 else st.1.2.2.2.2.2 3 x
            rw [if_neg nn, g9 3 (by decide), ul _ (by omega)]; rw [Nat.zero_add] at b3; exact b3
    · have he : st.1.1 = 7 := (nI_eq (by omega) (by decide)).mp c
      rw [if_pos he]
      refine hd_go kX6_pack 999 (fun _ => rfl) rfl trivial ?_
      exact hd_en_ kX6_pack (fun _ => rfl) trivial ⟨rfl, rfl, fr.rf, hI⟩
  · rw [if_neg (hd_b0.mp q)]
    refine hd_go kX6_pack 999 (fun _ => rfl) rfl trivial ?_
    exact hd_en_ kX6_pack (fun _ => rfl) trivial ⟨rfl, rfl, fr.rf, hI⟩
set_option maxRecDepth 20000 in
theorem d_pack (k g w : Int32) : rA mX6_pack [.int k, .int g, .int w] (an_pack k g w) := fun M N st hI hO => hd_Go.post (fun r M1 N1 ⟨a, _, b, c⟩ => ⟨a, (dayR b).1, c⟩) (r_pack k g w M N st hI hO)
set_option maxRecDepth 20000 in
/-- the row of now becomes the state -/
theorem r_se (M0 M : hd_M) (N : hd_N) (st : ab_T) (hI : RI M0 st) (hO : OK st) (hx : ∀ x, 33 ≤ x → x < 46 → M 53 x = M0 52 x) (h0 : fr nowF M0 M) (d : dy_T) (hd : rf M 53 0 d) (hn : d.1 ≤ 7) : hd_Ret mX6_settles [.ref 51] M N (fun r M1 N1 => r = none ∧ N1 = N ∧ fr refF M0 M1 ∧ RI M1 (d, st.2) ∧ rf M1 52 0 d) := by
  refine hd_Go.post ?_ (r_settles M N)
  rintro r M1 N1 ⟨rfl, rfl, hf, hy⟩
  have hf2 : fr (fun c j => (c = 52 ∧ j < 33) ∨ idR c j) M0 M1 := by
    intro c j hc
    have hc1 : ¬ (c = 52 ∧ j < 33) := fun z => hc (Or.inl z)
    have hc2 : ¬ c = 53 := fun z => hc (Or.inr (Or.inl z))
    by_cases e : c = 52 ∧ j < 46
    · obtain ⟨rfl, h46⟩ := e
      rw [hy j h46]
      exact hx j (by omega) h46
    · rw [hf c j e]
      exact h0 c j hc2
  have hd1 : rf M1 52 0 d := hd.pc hn hy
  refine ⟨rfl, rfl, hf2.mo (fun c j z => ?_), hI.day hO hf2 hd1, hd1⟩
  have z : (c = 52 ∧ j < 33) ∨ c = 53 ∨ c = 55 ∨ (57 ≤ c ∧ c ≤ 60) ∨ c = 64 ∨ (c = 51 ∧ _) := z
  show 51 ≤ c
  omega
set_option maxRecDepth 20000 in
theorem d_strap : rA mX6_strap [] an_strap := by
  intro M N st hI hO
  change hd_Go mX6_strap 0 [some (.ref 51), none] [] M N _
  have h7 := hO.1.1
  refine hd_go kX6_strap 999 (fun _ => rfl) rfl ⟨⟨trivial, v138 (n := 28) (by decide)⟩, v138 (n := 29) (by decide)⟩ ?_
  show hd_Go mX6_strap 17 [some (.ref 51), some (.int (M 52 28 - M 52 29))] [.ref 51] M N _
  rw [show M 52 28 = nI st.1.1 from hI.1.1, show M 52 29 = nI st.1.2.1 from hI.1.2.1]
  refine hd_ca kX6_strap qX6_strap (fun _ => rfl) (r_st M N _ hI.1 h7) ?_
  rintro r M1 N1 ⟨rfl, rfl, hf1, hd1, hx1⟩
  refine hd_go kX6_strap 999 (fun _ => rfl) rfl trivial ?_
  refine hd_ca kX6_strap qX6_strap (fun _ => rfl) (r_all M1 N1 _ hd1 h7) ?_
  rintro r M2 N2 ⟨rfl, rfl, hf2, hd2⟩
  refine hd_go kX6_strap 999 (fun _ => rfl) rfl trivial ?_
  refine hd_ca kX6_strap qX6_strap (fun _ => rfl) (r_se M M2 N2 st hI hO (fun x q1 q2 => ?_) (hf1.tr (hf2.mo (fun c j z => z.1))) _ hd2 h7) ?_
  · rw [hf2 53 x (by show ¬ (53 = 53 ∧ x < 33); omega)]; exact hx1 x q2
  rintro r M3 N3 ⟨rfl, rfl, hf3, hI3, -⟩
  refine hd_go kX6_strap 999 (fun _ => rfl) rfl trivial ?_
  exact hd_en_ kX6_strap (fun _ => rfl) trivial ⟨rfl, hf3, hI3⟩
set_option maxRecDepth 20000 in
theorem d_lift : rA mX6_lift [] an_lift := by
  intro M N st hI hO
  change hd_Go mX6_lift 0 [some (.ref 51)] [] M N _
  have h7 := hO.1.1
  obtain ⟨a5, a6, a7, a8, a9, b⟩ := id hI.1
  have a5 : M 52 28 = nI st.1.1 := a5
  have a6 : M 52 29 = nI st.1.2.1 := a6
  have bad : (st.1.1 = 0 ∨ ¬ dy_all st.1) → hd_Go mX6_lift 17 [some (.ref 51)] [] M N (fun r M1 _ => r = some (an_lift st).1 ∧ fr refF M M1 ∧ RI M1 (an_lift st).2) := by
    intro q
    refine hd_go kX6_lift 999 (fun _ => rfl) rfl trivial ?_
    refine hd_en_ kX6_lift (fun _ => rfl) trivial ?_
    unfold an_lift
    rw [if_pos q]
    exact ⟨rfl, fr.rf, hI⟩
  refine hd_go kX6_lift 999 (fun _ => rfl) rfl ⟨trivial, v138 (n := 28) (by decide)⟩ ?_
  show hd_Go mX6_lift 7 [some (.ref 51)] [.int (M 52 28)] M N _
  rw [a5]
  refine hd_ju kX6_lift (fun _ => rfl) (fun q => ?_) (fun q => ?_)
  · refine bad (Or.inl ?_)
    rcases Nat.eq_zero_or_pos st.1.1 with z | z
    · exact z
    · exact absurd q (nI_ne0 z (by omega))
  have hne : ¬ st.1.1 = 0 := fun z => q (by rw [z]; rfl)
  refine hd_go kX6_lift 999 (fun _ => rfl) rfl trivial ?_
  refine hd_ci kX6_lift qX6_lift (fun _ => rfl) (r_allIn M N st.1 hI.1 hO.1) ?_
  refine hd_ju kX6_lift (fun _ => rfl) (fun q => ?_) (fun q => bad (Or.inr (hd_b0.mp q)))
  have ha : st.1.2.1 = st.1.1 := hd_b1.mp q
  refine hd_go kX6_lift 999 (fun _ => rfl) rfl ⟨⟨⟨⟨⟨trivial, v138 (n := 28) (by decide)⟩, v138 (n := 28) (by decide)⟩, v138 (n := 29) (by decide)⟩, v138 (n := 29) (by decide)⟩, v138 (n := 28) (by decide)⟩ ?_
  rw [show Int32.toNatClampNeg 28 = 28 from rfl, show Int32.toNatClampNeg 29 = 29 from rfl]
  have e5 : M 52 28 - 1 = nI (st.1.1 - 1) := by
    rw [a5, show st.1.1 = (st.1.1 - 1) + 1 by omega, nI_pred]
    simp
  have e6 : M 52 29 - 1 = nI (st.1.1 - 1) := by
    rw [a6, ha, ← a5]; exact e5
  rw [hd_u_n (show ¬ (52 = 52 ∧ 29 = 28) by decide), e5, e6, hd_u_n (show ¬ (52 = 52 ∧ 28 = 29) by decide), hd_u_s]
  have hf : fr (fun c j => c = 52 ∧ j < 33) M (hd_u (hd_u M 52 28 (nI (st.1.1 - 1))) 52 29 (nI (st.1.1 - 1))) := (fr.rf.up (by decide)).up (by decide)
  refine hd_en_ kX6_lift (fun _ => rfl) trivial ?_
  unfold an_lift
  rw [if_neg (fun z => z.elim hne (fun z => z ha))]
  refine ⟨rfl, (dayR hf).1, hI.day hO (dayR hf).2 ?_⟩
  refine ⟨?_, ?_, ?_, ?_, ?_, fun x hx => ?_⟩
  · rw [hd_u_n (by omega), show 0 + 28 = 28 from rfl, hd_u_s]; rfl
  · rw [show 0 + 29 = 29 from rfl, hd_u_s]; rfl
  · rw [hd_u_n (by omega), hd_u_n (by omega)]; exact a7
  · rw [hd_u_n (by omega), hd_u_n (by omega)]; exact a8
  · rw [hd_u_n (by omega), hd_u_n (by omega)]; exact a9
  · have hx : x < st.1.1 - 1 := hx
    have q : ∀ j, j < 28 → hd_u (hd_u M 52 28 (nI (st.1.1 - 1))) 52 29 (nI (st.1.1 - 1)) 52 (0 + j) = M 52 (0 + j) := fun j hj => by rw [hd_u_n (by omega), hd_u_n (by omega)]
    rw [q _ (by omega), q _ (by omega), q _ (by omega), q _ (by omega)]
    exact b x (by omega)
set_option maxRecDepth 20000 in
theorem h999 (x : Int32) : ¬ 999 < x ↔ x < 1000 := by
  rw [Int32.lt_iff_toInt_lt, Int32.lt_iff_toInt_lt]
  have e1 : Int32.toInt 999 = 999 := rfl
  have e2 : Int32.toInt 1000 = 1000 := rfl
  omega
set_option maxRecDepth 20000 in
theorem d_hours (n : Int32) : rA mX6_hours [.int n] (an_hours n) := by
  intro M N st hI hO
  change hd_Go mX6_hours 0 [some (.ref 51), some (.int n)] [] M N _
  have h7 := hO.1.1
  refine hd_go kX6_hours 999 (fun _ => rfl) rfl trivial ?_
  refine hd_ci kX6_hours qX6_hours (fun _ => rfl) (r_in n 0 30 _ _ rfl rfl M N) ?_
  unfold an_hours
  refine hd_ju kX6_hours (fun _ => rfl) (fun q => ?_) (fun q => ?_)
  · have q := hd_b1.mp q
    obtain ⟨j, hj, rfl⟩ := wi_nat (n := 30) rfl q
    rw [if_pos q, nI_clamp (by omega)]
    refine hd_go kX6_hours 999 (fun _ => rfl) rfl ⟨trivial, v138 (n := 32) (by decide)⟩ ?_
    show hd_Go mX6_hours 26 [some (.ref 51), some (.int (nI j))] [.int 999, .int (M 52 32 + nI j)] M N _
    rw [show M 52 32 = st.1.2.2.2.2.1 from hI.1.2.2.2.2.1]
    refine hd_ju kX6_hours (fun _ => rfl) (fun c => ?_) (fun c => ?_)
    · rw [if_pos ((h999 _).mp (Int32.not_lt.mpr c))]
      refine hd_go kX6_hours 999 (fun _ => rfl) rfl trivial ?_
      refine hd_ca kX6_hours qX6_hours (fun _ => rfl) (r_st M N _ hI.1 h7) ?_
      rintro r M1 N1 ⟨rfl, rfl, hf1, hd1, hx1⟩
      refine hd_go kX6_hours 999 (fun _ => rfl) rfl trivial ?_
      refine hd_ca kX6_hours qX6_hours (fun _ => rfl) (r_hours0 M1 N1 _ hd1 hO.1 j (by omega)) ?_
      rintro r M2 N2 ⟨rfl, rfl, hf2, hd2⟩
      refine hd_go kX6_hours 999 (fun _ => rfl) rfl trivial ?_
      refine hd_ca kX6_hours qX6_hours (fun _ => rfl) (r_se M M2 N2 st hI hO (fun x q1 q2 => ?_) (hf1.tr (hf2.mo (fun c j z => z.1))) _ hd2 (dy_ok_hs j _ hO.1).1) ?_
      · rw [hf2 53 x (by show ¬ (53 = 53 ∧ x < 33); omega)]; exact hx1 x q2
      rintro r M3 N3 ⟨rfl, rfl, hf3, hI3, hd3⟩
      refine hd_go kX6_hours 999 (fun _ => rfl) rfl ⟨trivial, v138 (n := 30) (by decide)⟩ ?_
      exact hd_en_ kX6_hours (fun _ => rfl) trivial ⟨congrArg (fun x => some (Value.int x)) hd3.2.2.1, hf3, hI3⟩
    · rw [if_neg (fun z => (h999 _).mpr z (Int32.not_le.mp c))]
      refine hd_go kX6_hours 999 (fun _ => rfl) rfl trivial ?_
      exact hd_en_ kX6_hours (fun _ => rfl) trivial ⟨rfl, fr.rf, hI⟩
  · rw [if_neg (hd_b0.mp q)]
    refine hd_go kX6_hours 999 (fun _ => rfl) rfl trivial ?_
    exact hd_en_ kX6_hours (fun _ => rfl) trivial ⟨rfl, fr.rf, hI⟩
