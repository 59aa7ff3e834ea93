/-! READ, THE REFERENCE'S SIDE; printed by wip/whole/read2.py -/
set_option maxRecDepth 20000 in
theorem hd_fg3 {I : hd_I} {pc : Nat} {st : List Value} {M : hd_M} {N : hd_N} {Q : hd_Q} {a0 a1 a2 a3 a4 a5 a6 a7 x y z : Option Value} (h : hd_Go I pc [a0, a1, a2, a3, a4, a5, a6, a7, none, none, none] st M N Q) : hd_Go I pc [a0, a1, a2, a3, a4, a5, a6, a7, x, y, z] st M N Q := by
  refine hd_Go.less (lv' := [a0, a1, a2, a3, a4, a5, a6, a7, none, none, none]) (by simp) ?_ h
  intro j v h
  match j, h with
  | 0, h => exact h
  | 1, h => exact h
  | 2, h => exact h
  | 3, h => exact h
  | 4, h => exact h
  | 5, h => exact h
  | 6, h => exact h
  | 7, h => exact h
  | 8, h => cases h
  | 9, h => cases h
  | 10, h => cases h
  | j + 11, h => cases h
set_option maxRecDepth 20000 in
theorem hd_fg2 {I : hd_I} {pc : Nat} {st : List Value} {M : hd_M} {N : hd_N} {Q : hd_Q} {a0 a1 a2 a3 a4 a5 a6 a7 a8 y z : Option Value} (h : hd_Go I pc [a0, a1, a2, a3, a4, a5, a6, a7, a8, none, none] st M N Q) : hd_Go I pc [a0, a1, a2, a3, a4, a5, a6, a7, a8, y, z] st M N Q := by
  refine hd_Go.less (lv' := [a0, a1, a2, a3, a4, a5, a6, a7, a8, none, none]) (by simp) ?_ h
  intro j v h
  match j, h with
  | 0, h => exact h
  | 1, h => exact h
  | 2, h => exact h
  | 3, h => exact h
  | 4, h => exact h
  | 5, h => exact h
  | 6, h => exact h
  | 7, h => exact h
  | 8, h => exact h
  | 9, h => cases h
  | 10, h => cases h
  | j + 11, h => cases h
set_option maxRecDepth 20000 in
theorem lg_p (f : Int32) (a c : Nat) (ha : a < 100) (hc : c < 10) : (f.toInt64 + (nI a).toInt64 + (nI c).toInt64).toInt = f.toInt + a + c := by
  have e1 : (nI a).toInt64.toInt = a := by rw [Int32.toInt_toInt64]; exact nI_toInt (by omega)
  have e2 : (nI c).toInt64.toInt = c := by rw [Int32.toInt_toInt64]; exact nI_toInt (by omega)
  have l1 := f.toInt_lt
  have l2 := f.le_toInt
  rw [Int64.toInt_add, Int64.toInt_add, e1, e2, Int32.toInt_toInt64, Int.bmod_add_bmod, Int.bmod_eq_of_le (by omega) (by omega)]
/-- the reason at one cell -/
def rr (sh : sh_T) (l f : Int32) (i c : Nat) : Int32 := if sh.1 then 1 else if ¬ sh.2.1 = l then 3 else if f.toInt + (3 * i : Nat) + (c : Nat) < 0 ∨ ¬ f.toInt + (3 * i : Nat) + (c : Nat) < (sh.2.2.1 : Nat) then 2 else 0
set_option maxRecDepth 20000 in
theorem rr_all {sh : sh_T} {l f : Int32} {i : Nat} (h40 : sh.1 = false → sh.2.2.1 ≤ 40) (hi : i < 13) (h0 : i = 0 ∨ ¬ f < 0) : rd_f sh l f i = if rr sh l f i 0 = 0 then (if rr sh l f i 1 = 0 then rr sh l f i 2 else rr sh l f i 1) else rr sh l f i 0 := by
  unfold rd_f rr
  cases hb : sh.1 with
  | true => rfl
  | false =>
    have h40 := h40 hb
    simp only [Bool.false_eq_true, if_false]
    by_cases h1 : ¬ sh.2.1 = l
    · rw [if_pos h1, if_pos h1, if_pos h1, if_pos h1]; rfl
    · rw [if_neg h1, if_neg h1, if_neg h1, if_neg h1]
      have es : (nI sh.2.2.1).toInt = (sh.2.2.1 : Nat) := nI_toInt (by omega)
      have ef : f < 0 ↔ f.toInt < 0 := Int32.lt_iff_toInt_lt
      have e2 : f < nI sh.2.2.1 ↔ f.toInt < (sh.2.2.1 : Nat) := by rw [Int32.lt_iff_toInt_lt, es]
      rw [ef] at h0
      by_cases hf : f < 0
      · rw [if_neg (fun z => z.1 hf)]
        have hf := ef.mp hf
        have : i = 0 := by omega
        subst this
        rw [if_pos (show f.toInt + ((3 * 0 : Nat) : Int) + ((0 : Nat) : Int) < 0 ∨ _ from Or.inl (by omega))]
        rfl
      · obtain ⟨y, hy, rfl⟩ := nI_of hf
        have ey : (nI y).toInt = (y : Nat) := nI_toInt hy
        rw [ey]
        have e5 : (¬ nI y < 0 ∧ nI y < nI sh.2.2.1 ∧ nI y + 3 * nI i + 2 < nI sh.2.2.1) ↔ y + 3 * i + 2 < sh.2.2.1 := by
          constructor
          · rintro ⟨q1, q2, q3⟩
            have q2 := (nI_ltI hy (by omega)).mp q2
            rw [show (3 : Int32) = nI 3 from rfl, pk_mul, nI_add, show (2 : Int32) = nI 2 from rfl, nI_add] at q3
            exact (nI_ltI (by omega) (by omega)).mp q3
          · intro q
            refine ⟨hf, (nI_ltI hy (by omega)).mpr (by omega), ?_⟩
            rw [show (3 : Int32) = nI 3 from rfl, pk_mul, nI_add, show (2 : Int32) = nI 2 from rfl, nI_add]
            exact (nI_ltI (by omega) (by omega)).mpr q
        have ec : ∀ c : Nat, ((y : Nat) + ((3 * i : Nat) : Int) + (c : Nat) < 0 ∨ ¬ (y : Nat) + ((3 * i : Nat) : Int) + (c : Nat) < (sh.2.2.1 : Nat)) ↔ ¬ y + 3 * i + c < sh.2.2.1 := fun c => by omega
        simp only [e5, ec]
        by_cases g0 : y + 3 * i + 0 < sh.2.2.1
        · by_cases g1 : y + 3 * i + 1 < sh.2.2.1
          · by_cases g2 : y + 3 * i + 2 < sh.2.2.1
            · simp [g0, g1, g2]
              omega
            · simp [g0, g1, g2]
          · have g2 : ¬ y + 3 * i + 2 < sh.2.2.1 := by omega
            simp [g0, g1, g2]
        · have g2 : ¬ y + 3 * i + 2 < sh.2.2.1 := by omega
          simp only [g0, g2]
          simp
set_option maxRecDepth 20000 in
theorem r_cell (M : hd_M) (N : hd_N) (st : ab_T) (hO : OK st) (hS : shR M st.2.2.2.2.1) (j : Nat) (hj : j < 4) (l f : Int32) (n i : Nat) (hi : i < 13) (w : Int32) (c : Nat) (hc : c < 3) (x y : Option Value) (Q : hd_Q) (hk : ∀ p : Int64, hd_Go mX6_read 77 [some (.ref 51), some (.int (nI j)), some (.int l), some (.int f), some (.int (nI n)), some (.int (rr (st.2.2.2.2.1 j) l f i c)), some (.int w), some (.int (nI i)), some (.int (nI (c + 1))), some (.long p), none] [] M N Q) : hd_Go mX6_read 77 [some (.ref 51), some (.int (nI j)), some (.int l), some (.int f), some (.int (nI n)), some (.int 0), some (.int w), some (.int (nI i)), some (.int (nI c)), x, y] [] M N Q := by
  refine hd_fg2 ?_
  have hk' : ∀ (p : Int64) (u : Int32), u = rr (st.2.2.2.2.1 j) l f i c → hd_Go mX6_read 156 [some (.ref 51), some (.int (nI j)), some (.int l), some (.int f), some (.int (nI n)), some (.int 0), some (.int w), some (.int (nI i)), some (.int (nI c)), some (.long p), none] [.int u] M N Q := by
    rintro p u rfl
    refine hd_go kX6_read 77 (fun _ => rfl) rfl trivial ?_
    rw [nI_1]
    exact hk p
  obtain ⟨h1, h2⟩ := hS j hj
  have o9 := hO.2.2.2.2 j hj
  have e3 : (3 : Int32) * nI i = nI (3 * i) := by rw [show (3 : Int32) = nI 3 from rfl, pk_mul]
  have ej : (nI j).toNatClampNeg = j := nI_clamp (by omega)
  refine hd_go kX6_read 999 (fun _ => rfl) rfl trivial ?_
  refine hd_ju kX6_read (fun _ => rfl) (fun z => absurd z (nI_ge (b := 3) (by omega) (by decide))) (fun z => ?_)
  refine hd_go kX6_read 999 (fun _ => rfl) rfl trivial ?_
  refine hd_ju kX6_read (fun _ => rfl) (fun c9 => absurd rfl c9) (fun c9 => ?_)
  have go2 : hd_Go mX6_read 102 [some (.ref 51), some (.int (nI j)), some (.int l), some (.int f), some (.int (nI n)), some (.int 0), some (.int w), some (.int (nI i)), some (.int (nI c)), some (.long (f.toInt64 + (3 * nI i).toInt64 + (nI c).toInt64)), none] [] M N Q := by
    have hp := lg_p f (3 * i) c (by omega) (by omega)
    rw [e3]
    obtain ⟨p, hp0⟩ : ∃ p, p = f.toInt64 + (nI (3 * i)).toInt64 + (nI c).toInt64 := ⟨_, rfl⟩
    rw [← hp0] at hp ⊢
    refine hd_go kX6_read 999 (fun _ => rfl) rfl ⟨trivial, v4 hj⟩ ?_
    rw [ej]
    cases hb : (st.2.2.2.2.1 j).1 with
    | true =>
      rw [h1 hb]
      refine hd_ju kX6_read (fun _ => rfl) (fun c => absurd rfl c) (fun c => ?_)
      refine hd_go kX6_read 156 (fun _ => rfl) rfl trivial ?_
      exact hk' p 1 (by unfold rr; rw [hb]; rfl)
    | false =>
      obtain ⟨h3, h4, h5⟩ := h2 hb
      obtain ⟨h40, hl⟩ := o9 hb
      rw [h3]
      refine hd_ju kX6_read (fun _ => rfl) (fun c => ?_) (fun c => absurd c (by rcases hl with e | e | e <;> rw [e] <;> decide))
      refine hd_go kX6_read 999 (fun _ => rfl) rfl ⟨trivial, v4 hj⟩ ?_
      rw [ej, h3]
      have hs : (nI (st.2.2.2.2.1 j).2.2.1).toInt64.toInt = ((st.2.2.2.2.1 j).2.2.1 : Nat) := by rw [Int32.toInt_toInt64]; exact nI_toInt (by omega)
      refine hd_ju kX6_read (fun _ => rfl) (fun q => ?_) (fun q => ?_)
      · refine hd_go kX6_read 999 (fun _ => rfl) rfl trivial ?_
        have lt0 : lg_cmp p 0 < 0 ↔ p.toInt < 0 := by rw [lg_lt, Int64.lt_iff_toInt_lt]; rfl
        have lts : lg_cmp p (nI (st.2.2.2.2.1 j).2.2.1).toInt64 < 0 ↔ p.toInt < ((st.2.2.2.2.1 j).2.2.1 : Nat) := by rw [lg_lt, Int64.lt_iff_toInt_lt, hs]
        refine hd_ju kX6_read (fun _ => rfl) (fun z => ?_) (fun z => ?_)
        · refine hd_go kX6_read 156 (fun _ => rfl) rfl trivial ?_
          refine hk' p 2 ?_
          unfold rr
          rw [hb, if_neg (by decide), if_neg (fun z => z q), if_pos (Or.inl (by rw [← hp]; exact lt0.mp z))]
        · refine hd_go kX6_read 999 (fun _ => rfl) rfl ⟨trivial, v4 hj⟩ ?_
          rw [ej, h4]
          refine hd_ju kX6_read (fun _ => rfl) (fun z2 => ?_) (fun z2 => ?_)
          · refine hd_go kX6_read 156 (fun _ => rfl) rfl trivial ?_
            refine hk' p 0 ?_
            unfold rr
            rw [hb, if_neg (by decide), if_neg (fun z => z q), if_neg (fun z9 => z9.elim (fun a => z (lt0.mpr (by rw [hp]; exact a))) (fun a => a (by rw [← hp]; exact lts.mp z2)))]
          · refine hd_go kX6_read 156 (fun _ => rfl) rfl trivial ?_
            refine hk' p 2 ?_
            unfold rr
            rw [hb, if_neg (by decide), if_neg (fun z => z q), if_pos (Or.inr (fun a => z2 (lts.mpr (by rw [hp]; exact a))))]
      · refine hd_go kX6_read 156 (fun _ => rfl) rfl trivial ?_
        refine hk' p 3 ?_
        unfold rr
        rw [hb, if_neg (by decide), if_pos q]
  refine hd_go kX6_read 102 (fun _ => rfl) rfl trivial ?_
  exact go2
set_option maxRecDepth 20000 in
/-- the reasons of the three cells -/
theorem r_three (M : hd_M) (N : hd_N) (st : ab_T) (hO : OK st) (hS : shR M st.2.2.2.2.1) (j : Nat) (hj : j < 4) (l f : Int32) (n i : Nat) (hi : i < 13) (h0 : i = 0 ∨ ¬ f < 0) (w : Int32) (Q : hd_Q) (hk : hd_Go mX6_read 166 [some (.ref 51), some (.int (nI j)), some (.int l), some (.int f), some (.int (nI n)), some (.int (rd_f (st.2.2.2.2.1 j) l f i)), some (.int w), some (.int (nI i)), none, none, none] [.int (rd_f (st.2.2.2.2.1 j) l f i)] M N Q) : hd_Go mX6_read 77 [some (.ref 51), some (.int (nI j)), some (.int l), some (.int f), some (.int (nI n)), some (.int 0), some (.int w), some (.int (nI i)), some (.int (nI 0)), none, none] [] M N Q := by
  have out : ∀ (u : Int32) (c : Nat) (p : Int64), u = rd_f (st.2.2.2.2.1 j) l f i → (c = 3 ∨ (c < 3 ∧ ¬ u = 0)) → hd_Go mX6_read 77 [some (.ref 51), some (.int (nI j)), some (.int l), some (.int f), some (.int (nI n)), some (.int u), some (.int w), some (.int (nI i)), some (.int (nI c)), some (.long p), none] [] M N Q := by
    intro u c p hu hc
    subst hu
    have g2 : hd_Go mX6_read 164 [some (.ref 51), some (.int (nI j)), some (.int l), some (.int f), some (.int (nI n)), some (.int (rd_f (st.2.2.2.2.1 j) l f i)), some (.int w), some (.int (nI i)), some (.int (nI c)), some (.long p), none] [] M N Q := by
      refine hd_go kX6_read 999 (fun _ => rfl) rfl trivial ?_
      exact hd_fg3 hk
    refine hd_go kX6_read 999 (fun _ => rfl) rfl trivial ?_
    refine hd_ju kX6_read (fun _ => rfl) (fun z => g2) (fun z => ?_)
    refine hd_go kX6_read 999 (fun _ => rfl) rfl trivial ?_
    refine hd_ju kX6_read (fun _ => rfl) (fun z2 => g2) (fun z2 => ?_)
    rcases hc with rfl | hc
    · exact absurd (nI_le (a := 3) (b := 3) (by decide) (by decide)) z
    · exact absurd z2 hc.2
  have e := rr_all (sh := st.2.2.2.2.1 j) (l := l) (fun e => (hO.2.2.2.2 j hj e).1) hi h0
  refine r_cell M N st hO hS j hj l f n i hi w 0 (by decide) none none Q (fun p => ?_)
  by_cases c0 : rr (st.2.2.2.2.1 j) l f i 0 = 0
  · rw [if_pos c0] at e
    rw [c0]
    refine r_cell M N st hO hS j hj l f n i hi w 1 (by decide) _ _ Q (fun p => ?_)
    by_cases c1 : rr (st.2.2.2.2.1 j) l f i 1 = 0
    · rw [if_pos c1] at e
      rw [c1]
      refine r_cell M N st hO hS j hj l f n i hi w 2 (by decide) _ _ Q (fun p => ?_)
      exact out _ 3 p e.symm (Or.inl rfl)
    · rw [if_neg c1] at e
      exact out _ 2 p e.symm (Or.inr ⟨by decide, c1⟩)
  · rw [if_neg c0] at e
    exact out _ 1 p e.symm (Or.inr ⟨by decide, c0⟩)
set_option maxRecDepth 20000 in
theorem r_bef_l (N : hd_N) (M : hd_M) (st : ab_T) (hO : OK st) (hI : RI M st) (j : Nat) (l f : Int32) (n : Nat) (Q : hd_Q) (hk : ∀ M1, fr (fun c _ => c = 64) M M1 → (∀ x, x < 46 → M1 64 x = M 52 x) → hd_Go mX6_read 62 [some (.ref 51), some (.int (nI j)), some (.int l), some (.int f), some (.int (nI n)), some (.int 0), some (.int 0), some (.int 0), none, none, none] [] M1 N Q) : ∀ (m x : Nat) (M' : hd_M), x + m = 46 → fr (fun c _ => c = 64) M M' → (∀ y, y < x → M' 64 y = M 52 y) → hd_Go mX6_read 26 [some (.ref 51), some (.int (nI j)), some (.int l), some (.int f), some (.int (nI n)), some (.int (nI x)), none, none, none, none, none] [] M' N Q := by
  intro m
  induction m with
  | zero =>
    intro x M' hx hf h
    refine hd_go kX6_read 999 (fun _ => rfl) rfl trivial ?_
    refine hd_ju kX6_read (fun _ => rfl) (fun c => ?_) (fun c => absurd (nI_le (a := 46) (by omega) (by omega)) c)
    refine hd_go kX6_read 62 (fun _ => rfl) rfl trivial ?_
    exact hk M' hf (fun y hy => h y (by omega))
  | succ m ih =>
    intro x M' hx hf h
    refine hd_go kX6_read 999 (fun _ => rfl) rfl trivial ?_
    refine hd_ju kX6_read (fun _ => rfl) (fun c => absurd c (nI_ge (b := 46) (by omega) (by decide))) (fun c => ?_)
    refine hd_go kX6_read 999 (fun _ => rfl) rfl ⟨⟨trivial, v138 (by omega)⟩, v46 (by omega)⟩ ?_
    rw [nI_1, nI_clamp (show x < 2 ^ 31 by omega)]
    refine ih (x + 1) _ (by omega) (hf.up rfl) (fun y hy => ?_)
    by_cases e : y = x
    · rw [e, hd_u_s]; exact hf 52 x (by simp)
    · rw [hd_u_n (by omega)]; exact h y (by omega)
set_option maxRecDepth 20000 in
/-- the state comes back from what was before -/
theorem r_res_l (N : hd_N) (M : hd_M) (j : Nat) (l f : Int32) (n i : Nat) (w u p : Int32) (Q : hd_Q) (M1 : hd_M) (hb : ∀ x, x < 46 → M1 64 x = M 52 x) (hk : ∀ M2, fr (fun c x => c = 52 ∧ x < 46) M1 M2 → (∀ x, x < 46 → M2 52 x = M 52 x) → Q (some (.int (-20 - nI i))) M2 N) : ∀ (m x : Nat) (M' : hd_M), x + m = 46 → fr (fun c x => c = 52 ∧ x < 46) M1 M' → (∀ y, y < x → M' 52 y = M 52 y) → hd_Go mX6_read 217 [some (.ref 51), some (.int (nI j)), some (.int l), some (.int f), some (.int (nI n)), some (.int u), some (.int w), some (.int (nI i)), some (.int p), some (.int (nI x)), none] [] M' N Q := by
  intro m
  induction m with
  | zero =>
    intro x M' hx hf h
    refine hd_go kX6_read 999 (fun _ => rfl) rfl trivial ?_
    refine hd_ju kX6_read (fun _ => rfl) (fun c => ?_) (fun c => absurd (nI_le (a := 46) (by omega) (by omega)) c)
    refine hd_go kX6_read 999 (fun _ => rfl) rfl trivial ?_
    exact hd_en_ kX6_read (fun _ => rfl) trivial (hk M' hf (fun y hy => h y (by omega)))
  | succ m ih =>
    intro x M' hx hf h
    refine hd_go kX6_read 999 (fun _ => rfl) rfl trivial ?_
    refine hd_ju kX6_read (fun _ => rfl) (fun c => absurd c (nI_ge (b := 46) (by omega) (by decide))) (fun c => ?_)
    refine hd_go kX6_read 999 (fun _ => rfl) rfl ⟨⟨trivial, v46 (by omega)⟩, v138 (by omega)⟩ ?_
    rw [nI_1, nI_clamp (show x < 2 ^ 31 by omega)]
    refine ih (x + 1) _ (by omega) (hf.up (by show 52 = 52 ∧ x < 46; omega)) (fun y hy => ?_)
    by_cases e : y = x
    · rw [e, hd_u_s, hf 64 x (by show ¬ (64 = 52 ∧ x < 46); omega)]; exact hb x (by omega)
    · rw [hd_u_n (by omega)]; exact h y (by omega)
abbrev reF : Nat → Nat → Prop := fun c x => (c = 52 ∧ x < 33) ∨ c = 64
set_option maxRecDepth 20000 in
theorem d_read_l (M : hd_M) (N : hd_N) (st : ab_T) (hI0 : RI M st) (hO : OK st) (j : Nat) (hj : j < 4) (l f : Int32) (n : Nat) (hn : n ≤ 13) : ∀ (m i : Nat) (d : dy_T) (M' : hd_M), i + m = n → (i = 0 ∨ ¬ f < 0) → fr reF M M' → (∀ x, x < 46 → M' 64 x = M 52 x) → RI M' (d, st.2) → OK (d, st.2) → hd_Go mX6_read 62 [some (.ref 51), some (.int (nI j)), some (.int l), some (.int f), some (.int (nI n)), some (.int 0), some (.int (nI i)), some (.int (nI i)), none, none, none] [] M' N (fun r M1 _ => r = some (rd_go st (st.2.2.2.2.1 j) l f m i d).1 ∧ fr refF M M1 ∧ RI M1 (rd_go st (st.2.2.2.2.1 j) l f m i d).2) := by
  have rF : ∀ {M M1 : hd_M}, fr reF M M1 → fr refF M M1 := fun {M M1} h => h.mo (fun c x z => by have z : (c = 52 ∧ x < 33) ∨ c = 64 := z; show 51 ≤ c; omega)
  have fin : ∀ (i : Nat) (x y : Int32) (d : dy_T) (M' : hd_M), fr reF M M' → RI M' (d, st.2) → OK (d, st.2) → hd_Go mX6_read 259 [some (.ref 51), some (.int (nI j)), some (.int l), some (.int f), some (.int (nI n)), some (.int x), some (.int (nI i)), some (.int y), none, none, none] [] M' N (fun r M1 _ => r = some (.int (nI i)) ∧ fr refF M M1 ∧ RI M1 (rd_e st d x)) := by
    intro i x y d M' hf hI hOd
    refine hd_go kX6_read 999 (fun _ => rfl) rfl trivial ?_
    exact hd_en_ kX6_read (fun _ => rfl) trivial ⟨rfl, (rF hf).up (show 51 ≤ 51 by decide), hI.torn hOd⟩
  intro m
  induction m with
  | zero =>
    intro i d M' hi h0 hf hb hI hOd
    refine hd_go kX6_read 999 (fun _ => rfl) rfl trivial ?_
    refine hd_ju kX6_read (fun _ => rfl) (fun c => ?_) (fun c => absurd (nI_le (by omega) (by omega)) c)
    exact fin i 0 _ d M' hf hI hOd
  | succ m ih =>
    intro i d M' hi h0 hf hb hI hOd
    refine hd_go kX6_read 999 (fun _ => rfl) rfl trivial ?_
    refine hd_ju kX6_read (fun _ => rfl) (fun c => absurd c (nI_ge (by omega) (by omega))) (fun c => ?_)
    refine hd_go kX6_read 999 (fun _ => rfl) rfl trivial ?_
    refine hd_ju kX6_read (fun _ => rfl) (fun c => absurd rfl c) (fun c => ?_)
    refine hd_go kX6_read 77 (fun _ => rfl) rfl trivial ?_
    refine r_three M' N st hO hI.2.2.2.2.1 j hj l f n i (by omega) h0 (nI i) _ ?_
    by_cases hr : rd_f (st.2.2.2.2.1 j) l f i = 0
    · rw [rd_go, if_pos hr, hr]
      refine hd_ju kX6_read (fun _ => rfl) (fun c => absurd rfl c) (fun c => ?_)
      obtain ⟨hb9, y, rfl, hy, h40⟩ := rd_f0 (fun e => (hO.2.2.2.2 j hj e).1) (by omega) hr
      obtain ⟨h3, h4, h5⟩ := (hI.2.2.2.2.1 j hj).2 hb9
      have h5 : ∀ i, i < (st.2.2.2.2.1 j).2.2.1 → M' 63 (40 * j + i) = (st.2.2.2.2.1 j).2.2.2 i := h5
      have e1 : (40 : Int32) * nI j + nI y + 3 * nI i = nI (40 * j + (y + 3 * i)) := by rw [ix40, show (3 : Int32) = nI 3 from rfl, pk_mul, nI_add, Nat.add_assoc]
      have e2 : nI (40 * j + (y + 3 * i)) + 2 = nI (40 * j + (y + 3 * i) + 2) := nI_add _ 2
      have ey : (nI y).toNatClampNeg = y := nI_clamp (by omega)
      refine hd_go kX6_read 182 (fun _ => rfl) rfl trivial ?_
      rw [e1]
      refine hd_go kX6_read 999 (fun _ => rfl) rfl ?_ ?_
      · rw [e2, nI_1]
        exact ⟨⟨⟨trivial, v160 (by omega)⟩, v160 (by omega)⟩, v160 (by omega)⟩
      rw [e2, nI_1, nI_clamp (show 40 * j + (y + 3 * i) < 2 ^ 31 by omega), nI_clamp (show 40 * j + (y + 3 * i) + 1 < 2 ^ 31 by omega), nI_clamp (show 40 * j + (y + 3 * i) + 2 < 2 ^ 31 by omega), show 40 * j + (y + 3 * i) + 1 = 40 * j + (y + 3 * i + 1) from rfl, show 40 * j + (y + 3 * i) + 2 = 40 * j + (y + 3 * i + 2) from rfl, h5 _ (by omega), h5 _ (by omega), h5 _ (by omega)]
      unfold rd_x
      rw [ey, show y + 3 * i + 0 = y + 3 * i from rfl]
      obtain ⟨K, hK⟩ : ∃ K, K = (st.2.2.2.2.1 j).2.2.2 (y + 3 * i) := ⟨_, rfl⟩
      obtain ⟨G, hG⟩ : ∃ G, G = (st.2.2.2.2.1 j).2.2.2 (y + 3 * i + 1) := ⟨_, rfl⟩
      obtain ⟨W, hW⟩ : ∃ W, W = (st.2.2.2.2.1 j).2.2.2 (y + 3 * i + 2) := ⟨_, rfl⟩
      rw [← hK, ← hG, ← hW]
      refine hd_ca kX6_read qX6_read (fun _ => rfl) (r_pack K G W M' N (d, st.2) hI hOd) ?_
      rintro r M1 N1 ⟨e9, rfl, hf1, hI1⟩
      have hb1 : ∀ x, x < 46 → M1 64 x = M 52 x := fun x h => by rw [hf1 64 x (by show ¬ (64 = 52 ∧ x < 33); omega)]; exact hb x h
      have hfm : fr reF M M1 := hf.tr (hf1.mo (fun c x z => Or.inl z))
      by_cases hp : pk_ok K G W d
      · rw [if_pos hp]
        rw [an_pack_y hp] at e9 hI1
        subst e9
        have h7 : d.1 < 7 := by have := hp.2.2; have := hOd.1.1; have : d.1 ≤ 7 := this; omega
        refine hd_ju kX6_read (fun _ => rfl) (fun c => ?_) (fun c => absurd (Int32.not_lt.mp (nI_pos (by show d.1 + 1 < 2 ^ 31; omega))) c)
        refine hd_go kX6_read 62 (fun _ => rfl) rfl trivial ?_
        rw [nI_1]
        exact hd_fg3 (ih (i + 1) (dy_add K G W d) M1 (by omega) (Or.inr (nI_pos (by omega))) hfm hb1 hI1 ⟨dy_ok_add hOd.1 hp.2.1 h7, hOd.2⟩)
      · rw [if_neg hp]
        obtain ⟨v, hv, e8⟩ := an_pack_n (st := (d, st.2)) hp
        rw [e8] at e9 hI1
        subst e9
        refine hd_ju kX6_read (fun _ => rfl) (fun c => absurd hv (Int32.not_lt.mpr c)) (fun c => ?_)
        refine hd_go kX6_read 217 (fun _ => rfl) rfl trivial ?_
        refine r_res_l N1 M j l (nI y) n i (nI i) 0 _ _ M1 hb1 (fun M2 hf2 hx2 => ?_) 46 0 M1 (by omega) fr.rf (fun x h => absurd h (Nat.not_lt_zero x))
        have hq : fr idR M M2 := fun c x hc => by
          by_cases e : c = 52 ∧ x < 46
          · rw [e.1]; exact hx2 x e.2
          · rw [hf2 c x e, hfm c x (fun z => ?_)]
            rcases z with z | z
            · exact e ⟨z.1, by omega⟩
            · exact hc (Or.inr (Or.inr (Or.inr (Or.inl z))))
        exact ⟨rfl, hI0.q hO hq⟩
    · rw [rd_go, if_neg hr]
      refine hd_ju kX6_read (fun _ => rfl) (fun c => ?_) (fun c => absurd c hr)
      refine hd_go kX6_read 62 (fun _ => rfl) rfl trivial ?_
      refine hd_go kX6_read 999 (fun _ => rfl) rfl trivial ?_
      refine hd_ju kX6_read (fun _ => rfl) (fun c => fin i _ _ d M' hf hI hOd) (fun c => ?_)
      refine hd_go kX6_read 999 (fun _ => rfl) rfl trivial ?_
      exact hd_ju kX6_read (fun _ => rfl) (fun c => fin i _ _ d M' hf hI hOd) (fun c => absurd c hr)
set_option maxRecDepth 20000 in
theorem d_read (k l f n : Int32) : rA mX6_read [.int k, .int l, .int f, .int n] (an_read k l f n) := by
  intro M N st hI hO
  change hd_Go mX6_read 0 [some (.ref 51), some (.int k), some (.int l), some (.int f), some (.int n), none, none, none, none, none, none] [] M N _
  have bad : ¬ (wi k 0 3 ∧ wi l 0 2 ∧ wi n 0 13) → hd_Go mX6_read 21 [some (.ref 51), some (.int k), some (.int l), some (.int f), some (.int n), none, none, none, none, none, none] [] M N (fun r M1 _ => r = some (an_read k l f n st).1 ∧ fr refF M M1 ∧ RI M1 (an_read k l f n st).2) := by
    intro q
    refine hd_go kX6_read 999 (fun _ => rfl) rfl trivial ?_
    refine hd_en_ kX6_read (fun _ => rfl) trivial ?_
    unfold an_read
    rw [if_neg q]
    exact ⟨rfl, fr.rf, hI⟩
  unfold an_read at bad ⊢
  refine hd_go kX6_read 999 (fun _ => rfl) rfl trivial ?_
  refine hd_ci kX6_read qX6_read (fun _ => rfl) (r_isSheet _ _ M N) ?_
  refine hd_ju kX6_read (fun _ => rfl) (fun q => bad (fun z => hd_b0.mp q ⟨z.1, z.2.1⟩)) (fun q => ?_)
  obtain ⟨q1, q2⟩ := hd_b1.mp q
  refine hd_go kX6_read 999 (fun _ => rfl) rfl trivial ?_
  refine hd_ci kX6_read qX6_read (fun _ => rfl) (r_in n 0 13 _ _ rfl rfl M N) ?_
  refine hd_ju kX6_read (fun _ => rfl) (fun q => ?_) (fun q => bad (fun z => hd_b0.mp q z.2.2))
  have q3 := hd_b1.mp q
  rw [if_pos ⟨q1, q2, q3⟩]
  obtain ⟨x, hx, rfl⟩ := wi_nat (n := 13) rfl q3
  obtain ⟨j, hj, rfl, ek⟩ := wi03 q1
  rw [ek, nI_clamp (show x < 2 ^ 31 by omega)]
  refine hd_go kX6_read 26 (fun _ => rfl) rfl trivial ?_
  refine r_bef_l N M st hO hI j l f x _ (fun M1 hf hb => ?_) 46 0 M (by omega) fr.rf (fun x h => absurd h (Nat.not_lt_zero x))
  exact d_read_l M N st hI hO j hj l f x hx x 0 st.1 M1 (by omega) (Or.inl rfl) (hf.mo (fun c x z => Or.inr z)) hb (hI.mv hO (hf.mo (fun c x z => Or.inr (Or.inr (Or.inr (Or.inl z)))))) hO
