/-! THE REFERENCE'S KINDS, GOODS, DRIFT; printed by wip/whole/ref8.py -/
set_option maxRecDepth 20000 in
theorem v21 {n : Nat} (h : n < 21) : vp_in (nI n) 21 := vp_in_nI h (by decide)
/-- the moods behind 0 to 20 hours are told -/
def mdR (M : hd_M) (e : dy_T) (k : Nat) : Prop := ∀ x, x < k → M 59 x = dy_md x e
/-- what isSoWith writes -/
abbrev soF : Nat → Nat → Prop := fun c _ => c = 53 ∨ c = 59
set_option maxRecDepth 20000 in
theorem r_so_1 (M : hd_M) (N : hd_N) (e : dy_T) (ok : dy_ok e) (c v : Int32) (z : Option Value) (Q : hd_Q) (hQ : ∀ M1, fr soF M M1 → mdR M1 e 21 → hd_Go mX6_isSoWith 43 [some (.ref 51), some (.int c), some (.int v), some (.int 21), z] [] M1 N Q) : ∀ (m k : Nat) (M' : hd_M), k + m = 21 → fr soF M M' → rf M' 53 0 (dy_hs k e) → mdR M' e k → hd_Go mX6_isSoWith 13 [some (.ref 51), some (.int c), some (.int v), some (.int (nI k)), z] [] M' N Q := by
  intro m
  induction m with
  | zero =>
    intro k M' hk hf hd hm
    have hk : k = 21 := by omega
    subst hk
    refine hd_go kX6_isSoWith 999 (fun _ => rfl) rfl trivial ?_
    exact hd_ju kX6_isSoWith (fun _ => rfl) (fun c => hQ M' hf hm) (fun c => absurd (by decide) c)
  | succ m ih =>
    intro k M' hk hf hd hm
    have okk := dy_ok_hs k e ok
    refine hd_go kX6_isSoWith 999 (fun _ => rfl) rfl trivial ?_
    refine hd_ju kX6_isSoWith (fun _ => rfl) (fun c => absurd c (nI_nlt (a := 20) (by omega) (by decide))) (fun c => ?_)
    refine hd_go kX6_isSoWith 999 (fun _ => rfl) rfl ⟨⟨trivial, v46 (n := 30) (by decide)⟩, v21 (by omega)⟩ ?_
    rw [nI_clamp (by omega), show Int32.toNatClampNeg 30 = 30 from rfl, show M' 53 30 = dy_md k e from hd.2.2.1]
    have hd2 : rf (hd_u M' 59 k (dy_md k e)) 53 0 (dy_hs k e) := hd.mv okk.1 (fun j _ _ => hd_u_n (by omega))
    refine hd_ca kX6_isSoWith qX6_isSoWith (fun _ => rfl) (r_hour _ N _ hd2 okk 0 false rfl) ?_
    rintro r M1 N1 ⟨rfl, rfl, hf1, hd1⟩
    refine hd_go kX6_isSoWith 999 (fun _ => rfl) rfl trivial ?_
    rw [nI_1]
    rw [← dy_hs_succ] at hd1
    refine ih (k + 1) M1 (by omega) ((hf.up (show soF 59 k from Or.inr rfl)).tr (hf1.mo (fun c j z => Or.inl z.1))) hd1 (fun x hx => ?_)
    rw [hf1 59 x (by show ¬ (59 = 53 ∧ x < 33); omega)]
    by_cases ex : x = k
    · rw [ex, hd_u_s]
    · rw [hd_u_n (by omega)]; exact hm x (by omega)
set_option maxRecDepth 20000 in
theorem r_so_2 (M0 M : hd_M) (N : hd_N) (e : dy_T) (se : se_T) (hs : seR M 0 se) (sok : se_ok se) (hf : fr soF M0 M) (hm : mdR M e 21) (c v : Int32) : ∀ (m s : Nat), s + m = se.1 → hd_Go mX6_isSoWith 48 [some (.ref 51), some (.int c), some (.int v), some (.int (hd_b (se_so se e s = true))), some (.int (nI s))] [] M N (fun r M1 N1 => r = some (.int (hd_b (se_so se e se.1 = true))) ∧ fr soF M0 M1 ∧ mdR M1 e 21) := by
  have h6 := sok.1
  have e33 : M 52 33 = nI se.1 := hs.1
  intro m
  induction m with
  | zero =>
    intro s hsm
    have hsm : s = se.1 := by omega
    subst hsm
    refine hd_go kX6_isSoWith 999 (fun _ => rfl) rfl ⟨trivial, v138 (n := 33) (by decide)⟩ ?_
    refine hd_ju kX6_isSoWith (fun _ => rfl) (fun z => ?_) (fun z => ?_)
    · refine hd_go kX6_isSoWith 999 (fun _ => rfl) rfl trivial ?_
      exact hd_en_ kX6_isSoWith (fun _ => rfl) hd_b01 ⟨rfl, hf, hm⟩
    · have z : ¬ M 52 33 ≤ nI se.1 := z
      rw [e33] at z
      exact absurd (nI_le (Nat.le_refl _) (by omega)) z
  | succ m ih =>
    intro s hsm
    obtain ⟨j, hj, ej⟩ := sok.2 s (by omega)
    obtain ⟨b1, b2⟩ := hs.2 s (by omega)
    rw [Nat.zero_add] at b1 b2
    have i1 : (34 : Int32) + 2 * nI s = nI (34 + 2 * s) := by rw [show (34 : Int32) = nI 34 from rfl, show (2 : Int32) = nI 2 from rfl, pk_mul, nI_add]
    have es : se_so se e (s + 1) = (se_so se e s && decide (dy_md j e = se.2.2 s)) := by rw [se_so, ej, nI_clamp (by omega)]
    have next : ∀ x : Int32, x = hd_b (se_so se e (s + 1) = true) → hd_Go mX6_isSoWith 103 [some (.ref 51), some (.int c), some (.int v), some (.int (hd_b (se_so se e s = true))), some (.int (nI s))] [.int x] M N (fun r M1 N1 => r = some (.int (hd_b (se_so se e se.1 = true))) ∧ fr soF M0 M1 ∧ mdR M1 e 21) := by
      intro x hx
      refine hd_go kX6_isSoWith 999 (fun _ => rfl) rfl trivial ?_
      rw [nI_1, hx]
      exact ih (s + 1) (by omega)
    refine hd_go kX6_isSoWith 999 (fun _ => rfl) rfl ⟨trivial, v138 (n := 33) (by decide)⟩ ?_
    refine hd_ju kX6_isSoWith (fun _ => rfl) (fun z => ?_) (fun z => ?_)
    · have z : M 52 33 ≤ nI s := z
      rw [e33] at z
      exact absurd z (nI_ge (by omega) (by omega))
    refine hd_go kX6_isSoWith 999 (fun _ => rfl) rfl trivial ?_
    refine hd_ju kX6_isSoWith (fun _ => rfl) (fun z => ?_) (fun z => ?_)
    · refine hd_go kX6_isSoWith 103 (fun _ => rfl) rfl trivial ?_
      refine next 0 ?_
      have z := hd_b0.mp z
      rw [es, show se_so se e s = false by simpa using z]
      rfl
    · have z := hd_b1.mp z
      refine hd_go kX6_isSoWith 999 (fun _ => rfl) rfl ?_ ?_
      · rw [i1, nI_1, nI_clamp (show 34 + 2 * s < 2 ^ 31 by omega), b1, ej]
        exact ⟨⟨⟨trivial, v138 (by omega)⟩, v21 (by omega)⟩, v138 (by omega)⟩
      rw [i1, nI_1, nI_clamp (show 34 + 2 * s < 2 ^ 31 by omega), nI_clamp (show 34 + 2 * s + 1 < 2 ^ 31 by omega), b1, ej, nI_clamp (show j < 2 ^ 31 by omega), hm j (by omega), show 34 + 2 * s + 1 = 35 + 2 * s by omega, b2]
      refine hd_ju kX6_isSoWith (fun _ => rfl) (fun q => ?_) (fun q => ?_)
      · refine hd_go kX6_isSoWith 103 (fun _ => rfl) rfl trivial ?_
        refine next 0 ?_
        rw [es, decide_eq_false q, Bool.and_false]
        rfl
      · refine hd_go kX6_isSoWith 103 (fun _ => rfl) rfl trivial ?_
        refine next 1 ?_
        rw [es, decide_eq_true q, z]
        rfl
set_option maxRecDepth 20000 in
theorem hd_fg34 {I : hd_I} {pc : Nat} {st : List Value} {M : hd_M} {N : hd_N} {Q : hd_Q} {a0 a1 a2 y z : Option Value} (h : hd_Go I pc [a0, a1, a2, none, none] st M N Q) : hd_Go I pc [a0, a1, a2, y, z] st M N Q := by
  refine hd_Go.less (lv' := [a0, a1, a2, none, none]) (by simp) ?_ h
  intro j v h
  match j, h with
  | 0, h => exact h
  | 1, h => exact h
  | 2, h => exact h
  | 3, h => cases h
  | 4, h => cases h
  | j + 5, h => cases h
set_option maxRecDepth 20000 in
theorem r_so' (M : hd_M) (N : hd_N) (d : dy_T) (hd : rf M 52 0 d) (ok : dy_ok d) (se : se_T) (hs : seR M 0 se) (sok : se_ok se) (i c : Nat) (hi : i < d.1) (hc : c < 3) (v : Int32) : hd_Ret mX6_isSoWith [.ref 51, .int (nI (4 * i + c)), .int v] M N (fun r M1 N1 => r = some (.int (hd_b (se_so se (dy_set c i v d) se.1 = true))) ∧ fr soF M M1 ∧ mdR M1 (dy_set c i v d) 21) := by
  change hd_Go mX6_isSoWith 0 [some (.ref 51), some (.int (nI (4 * i + c))), some (.int v), none, none] [] M N _
  have h7 := ok.1
  refine hd_go kX6_isSoWith 999 (fun _ => rfl) rfl trivial ?_
  refine hd_ca kX6_isSoWith qX6_isSoWith (fun _ => rfl) (r_st M N d hd h7) ?_
  rintro r M1 N1 ⟨rfl, rfl, hf1, hd1, -⟩
  refine hd_go kX6_isSoWith 13 (fun _ => rfl) rfl ⟨trivial, v46 (by omega)⟩ ?_
  rw [nI_clamp (by omega)]
  refine r_so_1 M N1 (dy_set c i v d) (dy_ok_set ok (by omega)) _ v none _ (fun M2 hf2 hm2 => ?_) 21 0 _ (by decide) ((hf1.mo (fun c j z => Or.inl z)).up (show soF 53 (4 * i + c) from Or.inl rfl)) (rf_set hd1 c i (by omega) hi h7 v) (fun x h => absurd h (Nat.not_lt_zero x))
  refine hd_go kX6_isSoWith 48 (fun _ => rfl) rfl trivial ?_
  have hs2 : seR M2 0 se := hs.mv sok.1 (fun j _ _ => hf2 52 j (by simp))
  exact r_so_2 M M2 N1 _ se hs2 sok hf2 hm2 _ v se.1 0 (by omega)
set_option maxRecDepth 20000 in
theorem r_so (M : hd_M) (N : hd_N) (d : dy_T) (hd : rf M 52 0 d) (ok : dy_ok d) (se : se_T) (hs : seR M 0 se) (sok : se_ok se) (i c : Nat) (hi : i < d.1) (hc : c < 3) (v : Int32) : hd_Ret mX6_isSoWith [.ref 51, .int (nI (4 * i + c)), .int v] M N (fun r M1 N1 => r = some (.int (hd_b (se_so se (dy_set c i v d) se.1 = true))) ∧ fr idR M M1 ∧ mdR M1 (dy_set c i v d) 21) := hd_Go.post (fun r M1 N1 ⟨a, b, c⟩ => ⟨a, b.mo (fun c j z => z.elim Or.inl (fun z => Or.inr (Or.inr (Or.inl (by omega))))), c⟩) (r_so' M N d hd ok se hs sok i c hi hc v)
set_option maxRecDepth 20000 in
theorem r_wh_l (M : hd_M) (N : hd_N) (d : dy_T) (hd : rf M 52 0 d) (ok : dy_ok d) (se : se_T) (hs : seR M 0 se) (sok : se_ok se) (i c : Nat) (hi : i < d.1) (hc : c < 3) (t : Nat) (ht : t ≤ 9) : ∀ (m v : Nat) (N' : hd_N) (M' : hd_M), v + m = t + 1 → fr idR M M' → hd_Go mX6_which 5 [some (.ref 51), some (.int (nI (4 * i + c))), some (.int (nI t)), some (.int (se_bits se d c i v)), some (.int (nI v))] [] M' N' (fun r M1 _ => r = some (.int (se_bits se d c i (t + 1))) ∧ fr idR M M1) := by
  have h7 := ok.1
  intro m
  induction m with
  | zero =>
    intro v N' M' hv hf
    have hv : v = t + 1 := by omega
    subst hv
    refine hd_go kX6_which 999 (fun _ => rfl) rfl trivial ?_
    refine hd_ju kX6_which (fun _ => rfl) (fun z => ?_) (fun z => absurd (nI_lt (by omega) (by omega)) z)
    refine hd_go kX6_which 999 (fun _ => rfl) rfl trivial ?_
    exact hd_en_ kX6_which (fun _ => rfl) trivial ⟨rfl, hf⟩
  | succ m ih =>
    intro v N' M' hv hf
    refine hd_go kX6_which 999 (fun _ => rfl) rfl trivial ?_
    refine hd_ju kX6_which (fun _ => rfl) (fun z => absurd z (nI_nlt (by omega) (by omega))) (fun z => ?_)
    refine hd_go kX6_which 999 (fun _ => rfl) rfl trivial ?_
    have hs' : seR M' 0 se := hs.mv sok.1 (fun j _ _ => hf 52 j (by simp))
    refine hd_ca kX6_which qX6_which (fun _ => rfl) (r_so M' N' d (idR.rf hf hd h7) ok se hs' sok i c hi hc (nI v)) ?_
    rintro r M1 N1 ⟨rfl, hf1, -⟩
    refine hd_ci kX6_which qX6_which (fun _ => rfl) (r_flag _ M1 N1) ?_
    refine hd_go kX6_which 999 (fun _ => rfl) rfl trivial ?_
    rw [nI_1]
    have := ih (v + 1) N1 M1 (by omega) (hf.tr hf1)
    unfold se_bits at this ⊢
    rw [dy_bits] at this
    have ef : hd_b (¬ hd_b (se_so se (dy_set c i (nI v) d) se.1 = true) = 0) = hd_b (se_so se (dy_set c i (nI v) d) se.1 = true) := hd_bc hd_b1
    rw [ef, or_fl]
    exact this
set_option maxRecDepth 20000 in
theorem r_wh (M : hd_M) (N : hd_N) (d : dy_T) (hd : rf M 52 0 d) (ok : dy_ok d) (se : se_T) (hs : seR M 0 se) (sok : se_ok se) (i c : Nat) (hi : i < d.1) (hc : c < 3) (t : Nat) (ht : t ≤ 9) : hd_Ret mX6_which [.ref 51, .int (nI (4 * i + c)), .int (nI t)] M N (fun r M1 _ => r = some (.int (se_bits se d c i (t + 1))) ∧ fr idR M M1) := by
  change hd_Go mX6_which 0 [some (.ref 51), some (.int (nI (4 * i + c))), some (.int (nI t)), none, none] [] M N _
  refine hd_go kX6_which 5 (fun _ => rfl) rfl trivial ?_
  exact r_wh_l M N d hd ok se hs sok i c hi hc t ht (t + 1) 0 N M (by omega) fr.rf
set_option maxRecDepth 20000 in
theorem d_kinds (i : Int32) : rA mX6_kinds [.int i] (an_kinds i) := by
  intro M N st hI hO
  change hd_Go mX6_kinds 0 [some (.ref 51), some (.int i)] [] M N _
  unfold an_kinds
  have h7 := hO.1.1
  refine hd_go kX6_kinds 999 (fun _ => rfl) rfl trivial ?_
  refine hd_ci kX6_kinds qX6_kinds (fun _ => rfl) (r_isTh _ M N st.1 hI.1.1 h7) ?_
  refine hd_ju kX6_kinds (fun _ => rfl) (fun q => ?_) (fun q => ?_)
  · rw [if_neg (hd_b0.mp q)]
    refine hd_go kX6_kinds 999 (fun _ => rfl) rfl trivial ?_
    exact hd_en_ kX6_kinds (fun _ => rfl) trivial ⟨rfl, fr.rf, hI⟩
  · have q := hd_b1.mp q
    obtain ⟨j, hj, rfl⟩ := an_th_nat q h7
    rw [if_pos q, nI_clamp (by omega)]
    refine hd_go kX6_kinds 999 (fun _ => rfl) rfl trivial ?_
    rw [show (4 : Int32) * nI j + 0 = nI (4 * j + 0) from ix4 j 0]
    refine hd_ca kX6_kinds qX6_kinds (fun _ => rfl) (r_wh M N _ hI.1 hO.1 _ hI.2.1 hO.2.1 j 0 hj (by decide) 3 (by decide)) ?_
    rintro r M1 N1 ⟨rfl, hf⟩
    refine hd_go kX6_kinds 999 (fun _ => rfl) rfl trivial ?_
    exact hd_en_ kX6_kinds (fun _ => rfl) trivial ⟨rfl, hI.q hO hf⟩
set_option maxRecDepth 20000 in
theorem d_goods (i : Int32) : rA mX6_goods [.int i] (an_goods i) := by
  intro M N st hI hO
  change hd_Go mX6_goods 0 [some (.ref 51), some (.int i)] [] M N _
  unfold an_goods
  have h7 := hO.1.1
  refine hd_go kX6_goods 999 (fun _ => rfl) rfl trivial ?_
  refine hd_ci kX6_goods qX6_goods (fun _ => rfl) (r_isTh _ M N st.1 hI.1.1 h7) ?_
  refine hd_ju kX6_goods (fun _ => rfl) (fun q => ?_) (fun q => ?_)
  · rw [if_neg (hd_b0.mp q)]
    refine hd_go kX6_goods 999 (fun _ => rfl) rfl trivial ?_
    exact hd_en_ kX6_goods (fun _ => rfl) trivial ⟨rfl, fr.rf, hI⟩
  · have q := hd_b1.mp q
    obtain ⟨j, hj, rfl⟩ := an_th_nat q h7
    rw [if_pos q, nI_clamp (by omega)]
    refine hd_go kX6_goods 999 (fun _ => rfl) rfl trivial ?_
    rw [show (4 : Int32) * nI j + 1 = nI (4 * j + 1) from ix4 j 1]
    refine hd_ca kX6_goods qX6_goods (fun _ => rfl) (r_wh M N _ hI.1 hO.1 _ hI.2.1 hO.2.1 j 1 hj (by decide) 9 (by decide)) ?_
    rintro r M1 N1 ⟨rfl, hf⟩
    refine hd_go kX6_goods 999 (fun _ => rfl) rfl trivial ?_
    exact hd_en_ kX6_goods (fun _ => rfl) trivial ⟨rfl, hI.q hO hf⟩
set_option maxRecDepth 20000 in
theorem dr_ref (s : Int32) : (s >>> ((16 : Int32) &&& 31)) &&& 32767 = nI (dr_g s) := by
  rw [pk_and _ 15 rfl]
  unfold dr_g
  have h := pk_shr s ((16 : Int32) &&& 31) 16 (by decide)
  have e1 : ∀ x : Int32, x.toInt = if 2 * x.toBitVec.toNat < 2 ^ 32 then (x.toBitVec.toNat : Int) else (x.toBitVec.toNat : Int) - ((2 ^ 32 : Nat) : Int) := fun x => BitVec.toInt_eq_toNat_cond _
  rw [Int.shiftRight_eq_div_pow, e1, e1] at h
  have l1 : s.toBitVec.toNat < 2 ^ 32 := s.toBitVec.isLt
  have l2 : (s >>> ((16 : Int32) &&& 31)).toBitVec.toNat < 2 ^ 32 := BitVec.isLt _
  generalize (s >>> ((16 : Int32) &&& 31)).toBitVec.toNat = a at h l2
  generalize s.toBitVec.toNat = b at h l1
  have : a % 2 ^ 15 = b / 65536 % 32768 := by
    split at h
    · split at h
      · omega
      · omega
    · split at h
      · omega
      · omega
  rw [this]
set_option maxRecDepth 20000 in
theorem d_drift_l (M : hd_M) (N : hd_N) (n n7 : Nat) (hn : n ≤ 60) (h28 : M 52 28 = nI n7) (h0 : 0 < n7) (sd w : Int32) (Q : hd_Q) : ∀ (m j : Nat) (s : Int32) (z : Option Value) (d : dy_T) (M' : hd_M), j + m = n → fr idR M M' → rf M' 53 0 d → dy_ok d → d.1 = n7 → (∀ (M1 : hd_M) (s1 : Int32) (z : Option Value), fr idR M M1 → rf M1 53 0 (dy_dr m s d) → dy_ok (dy_dr m s d) → hd_Go mX6_drift 122 [some (.ref 51), some (.int sd), some (.int (nI n)), some (.int w), some (.int s1), some (.int (nI n)), z] [] M1 N Q) → hd_Go mX6_drift 44 [some (.ref 51), some (.int sd), some (.int (nI n)), some (.int w), some (.int s), some (.int (nI j)), z] [] M' N Q := by
  intro m
  induction m with
  | zero =>
    intro j s z d M' hj hf hd ok hdn hk
    have hj : j = n := by omega
    subst hj
    refine hd_go kX6_drift 999 (fun _ => rfl) rfl trivial ?_
    refine hd_ju kX6_drift (fun _ => rfl) (fun c => ?_) (fun c => absurd (nI_le (by omega) (by omega)) c)
    rw [dy_dr_0] at hk
    exact hk M' s z hf hd ok
  | succ m ih =>
    intro j s z d M' hj hf hd ok hdn hk
    have h7 := ok.1
    have e28 : M' 52 28 = nI d.1 := (hf 52 28 (by simp)).trans (by rw [h28, hdn])
    refine hd_go kX6_drift 999 (fun _ => rfl) rfl trivial ?_
    refine hd_ju kX6_drift (fun _ => rfl) (fun c => absurd c (nI_ge (by omega) (by omega))) (fun c => ?_)
    refine hd_go kX6_drift 73 (fun _ => rfl) rfl trivial ?_
    have es : s * 1103515245 + 12345 = dr_s s := dr_s_eq s
    rw [es]
    rw [dy_dr_s] at hk
    obtain ⟨s1, hs1⟩ : ∃ s1, s1 = dr_s s := ⟨_, rfl⟩
    rw [← hs1] at hk ⊢
    rw [dr_ref]
    obtain ⟨g, hg1⟩ : ∃ g, g = dr_g s1 := ⟨_, rfl⟩
    have hglt : g < 32768 := by rw [hg1]; exact dr_lt s1
    rw [← hg1] at hk ⊢
    have hd0 : 0 < d.1 := by omega
    have hm7 : g % d.1 < d.1 := Nat.mod_lt _ hd0
    have e1 : nI g - nI g / nI d.1 * nI d.1 = nI (g % d.1) := pk_rem (by omega) hd0 (by omega)
    have e2 : nI g / 8 = nI (g / 8) := pk_div (d := 8) (by omega) (by decide) (by decide)
    have e3 : nI (g / 8) - nI (g / 8) / 10 * 10 = nI (g / 8 % 10) := pk_rem (d := 10) (by omega) (by decide) (by decide)
    have e4 : nI g / 128 = nI (g / 128) := pk_div (d := 128) (by omega) (by decide) (by decide)
    have e5 : nI (g / 128) - nI (g / 128) / 4 * 4 = nI (g / 128 % 4) := pk_rem (d := 4) (by omega) (by decide) (by decide)
    refine hd_go kX6_drift 999 (fun _ => rfl) rfl ?_ ?_
    · rw [show Int32.toNatClampNeg 28 = 28 from rfl, e28]
      exact ⟨⟨⟨⟨trivial, v138 (n := 28) (by decide)⟩, nI_ne0 hd0 (by omega)⟩, by decide⟩, by decide⟩
    rw [show Int32.toNatClampNeg 28 = 28 from rfl, e28, e1, e2, e3]
    refine hd_ca kX6_drift qX6_drift (fun _ => rfl) (r_bo (g % d.1) 1 (by omega) _ M' N) ?_
    rintro r M1 N1 ⟨rfl, rfl, rfl⟩
    have hset := rf_set hd 1 (g % d.1) (by decide) hm7 h7 (nI (g / 8 % 10))
    have oks : dy_ok (dy_set 1 (g % d.1) (nI (g / 8 % 10)) d) := dy_ok_set ok (by decide)
    have hfs : fr idR M (hd_u M' 53 (4 * (g % d.1) + 1) (nI (g / 8 % 10))) := hf.up (show idR 53 _ from Or.inl rfl)
    have okb : dy_ok (dy_blow g d) := dy_ok_blow ok
    have nb : (dy_blow g d).1 = d.1 := dy_blow_n
    -- behind the wind
    have tail : ∀ M2, fr idR M M2 → rf M2 53 0 (dy_blow g d) → hd_Go mX6_drift 111 [some (.ref 51), some (.int sd), some (.int (nI n)), some (.int w), some (.int s1), some (.int (nI j)), some (.int (nI g))] [] M2 N1 Q := by
      intro M2 hf2 hd2
      obtain ⟨X, hX⟩ : ∃ X, X = dy_blow g d := ⟨_, rfl⟩
      rw [← hX] at hk okb nb hd2
      refine hd_go kX6_drift 999 (fun _ => rfl) rfl trivial ?_
      refine hd_ca kX6_drift qX6_drift (fun _ => rfl) (r_hour M2 N1 X hd2 okb 0 false rfl) ?_
      rintro r M3 N3 ⟨rfl, rfl, hf3, hd3⟩
      refine hd_go kX6_drift 999 (fun _ => rfl) rfl trivial ?_
      rw [nI_1]
      exact ih (j + 1) s1 _ (dy_ho false X) M3 (by omega) (hf2.tr (n33R hf3)) hd3 (dy_ok_ho okb) (by show X.1 = n7; rw [nb, hdn]) hk
    refine hd_go kX6_drift 999 (fun _ => rfl) rfl ⟨⟨trivial, by decide⟩, by decide⟩ ?_
    rw [e4, e5]
    refine hd_ju kX6_drift (fun _ => rfl) (fun c => ?_) (fun c => ?_)
    · have hne : ¬ g / 128 % 4 = 0 := fun z => c (by rw [z]; rfl)
      refine tail _ hfs ?_
      unfold dy_blow
      rw [if_neg hne]
      exact hset
    · have he : g / 128 % 4 = 0 := by
        rcases Nat.eq_zero_or_pos (g / 128 % 4) with z | z
        · exact z
        · exact absurd c (nI_ne0 z (by omega))
      refine hd_go kX6_drift 999 (fun _ => rfl) rfl trivial ?_
      refine hd_ca kX6_drift qX6_drift (fun _ => rfl) (r_all _ N1 _ hset h7) ?_
      rintro r M2 N2 ⟨rfl, rfl, hf2, hd2⟩
      refine tail M2 (hfs.tr (n33R hf2)) ?_
      unfold dy_blow
      rw [if_pos he]
      exact hd2
set_option maxRecDepth 20000 in
theorem d_drift (s n w : Int32) : rA mX6_drift [.int s, .int n, .int w] (an_drift s n w) := by
  intro M N st hI hO
  change hd_Go mX6_drift 0 [some (.ref 51), some (.int s), some (.int n), some (.int w), none, none, none] [] M N _
  have h7 := hO.1.1
  have e28 : M 52 28 = nI st.1.1 := hI.1.1
  have bad : ¬ (wi n 1 60 ∧ wi w 0 1) → hd_Go mX6_drift 19 [some (.ref 51), some (.int s), some (.int n), some (.int w), none, none, none] [] M N (fun r M1 _ => r = some (an_drift s n w st).1 ∧ fr refF M M1 ∧ RI M1 (an_drift s n w st).2) := by
    intro q
    refine hd_go kX6_drift 999 (fun _ => rfl) rfl trivial ?_
    refine hd_en_ kX6_drift (fun _ => rfl) trivial ⟨?_, fr.rf, hI⟩
    unfold an_drift
    rw [if_neg q]
  unfold an_drift at bad ⊢
  refine hd_go kX6_drift 999 (fun _ => rfl) rfl trivial ?_
  refine hd_ci kX6_drift qX6_drift (fun _ => rfl) (r_in n 1 60 _ _ rfl rfl M N) ?_
  refine hd_ju kX6_drift (fun _ => rfl) (fun q => bad (fun z => hd_b0.mp q z.1)) (fun q => ?_)
  have q1 := hd_b1.mp q
  refine hd_go kX6_drift 999 (fun _ => rfl) rfl trivial ?_
  refine hd_ci kX6_drift qX6_drift (fun _ => rfl) (r_isPart _ M N) ?_
  refine hd_ju kX6_drift (fun _ => rfl) (fun q => ?_) (fun q => bad (fun z => hd_b0.mp q z.2))
  have q2 := hd_b1.mp q
  rw [if_pos ⟨q1, q2⟩]
  refine hd_go kX6_drift 999 (fun _ => rfl) rfl ⟨trivial, v138 (n := 28) (by decide)⟩ ?_
  show hd_Go mX6_drift 28 [some (.ref 51), some (.int s), some (.int n), some (.int w), none, none, none] [.int (M 52 28)] M N _
  rw [e28]
  refine hd_ju kX6_drift (fun _ => rfl) (fun q => ?_) (fun q => ?_)
  · have h0 : 0 < st.1.1 := by
      rcases Nat.eq_zero_or_pos st.1.1 with z | z
      · rw [z] at q; exact absurd rfl q
      · exact z
    rw [if_neg (by omega)]
    have q0 : wi n 0 60 := ⟨fun z => q1.1 (Int32.lt_trans z (by decide)), q1.2⟩
    obtain ⟨j, hj, rfl⟩ := wi_nat (n := 60) rfl q0
    rw [nI_clamp (by omega)]
    refine hd_go kX6_drift 999 (fun _ => rfl) rfl trivial ?_
    refine hd_ca kX6_drift qX6_drift (fun _ => rfl) (r_st M N _ hI.1 h7) ?_
    rintro r M1 N1 ⟨rfl, rfl, hf1, hd1, -⟩
    refine hd_go kX6_drift 44 (fun _ => rfl) rfl trivial ?_
    refine d_drift_l M N1 j st.1.1 hj e28 h0 s w _ j 0 s _ st.1 M1 (by omega) (nowR hf1) hd1 hO.1 rfl (fun M2 s2 z hf2 hd2 ok2 => ?_)
    refine hd_go kX6_drift 999 (fun _ => rfl) rfl trivial ?_
    refine hd_ju kX6_drift (fun _ => rfl) (fun c => ?_) (fun c => ?_)
    · rw [if_neg c]
      refine hd_go kX6_drift 999 (fun _ => rfl) rfl trivial ?_
      refine hd_ci kX6_drift qX6_drift (fun _ => rfl) (r_out M2 N1 _ hd2 ok2.1) ?_
      exact hd_en_ kX6_drift (fun _ => rfl) trivial ⟨rfl, hI.q hO hf2⟩
    · rw [if_pos c]
      refine hd_go kX6_drift 999 (fun _ => rfl) rfl ⟨trivial, v46 (n := 30) (by decide)⟩ ?_
      exact hd_en_ kX6_drift (fun _ => rfl) trivial ⟨congrArg (fun x => some (Value.int x)) hd2.2.2.1, hI.q hO hf2⟩
  · have h0 : st.1.1 = 0 := by
      rcases Nat.eq_zero_or_pos st.1.1 with z | z
      · exact z
      · exact absurd q (nI_ne0 z (by omega))
    rw [if_pos h0]
    refine hd_go kX6_drift 999 (fun _ => rfl) rfl trivial ?_
    exact hd_en_ kX6_drift (fun _ => rfl) trivial ⟨rfl, fr.rf, hI⟩
