/-! READ, THE CLASS'S SIDE; printed by wip/whole/read1.py -/
/-- may this be packed -/
abbrev pk_ok (k g w : Int32) (d : dy_T) : Prop := (wi k 0 3 ∧ wi g 0 9 ∧ wi w 1 9) ∧ dy_all d ∧ ¬ d.1 = 7
set_option maxRecDepth 20000 in
theorem an_pack_y {k g w : Int32} {st : ab_T} (h : pk_ok k g w st.1) : an_pack k g w st = (.int (nI (st.1.1 + 1)), dy_add k g w st.1, st.2) := by
  unfold an_pack
  rw [if_pos h.1, if_pos h.2.1, if_neg h.2.2]
set_option maxRecDepth 20000 in
theorem an_pack_n {k g w : Int32} {st : ab_T} (h : ¬ pk_ok k g w st.1) : ∃ v : Int32, v < 0 ∧ an_pack k g w st = (.int v, st) := by
  unfold an_pack
  by_cases h1 : wi k 0 3 ∧ wi g 0 9 ∧ wi w 1 9
  · rw [if_pos h1]
    by_cases h2 : dy_all st.1
    · rw [if_pos h2]
      by_cases h3 : st.1.1 = 7
      · rw [if_pos h3]; exact ⟨-3, by decide, rfl⟩
      · exact absurd ⟨h1, h2, h3⟩ h
    · rw [if_neg h2]; exact ⟨-2, by decide, rfl⟩
  · rw [if_neg h1]; exact ⟨-1, by decide, rfl⟩
/-- what tears the reading at the i-th thing -/
def rd_f (sh : sh_T) (l f : Int32) (i : Nat) : Int32 := if sh.1 then 1 else if ¬ sh.2.1 = l then 3 else if ¬ f < 0 ∧ f < nI sh.2.2.1 ∧ f + 3 * nI i + 2 < nI sh.2.2.1 then 0 else 2
abbrev rd_x (sh : sh_T) (f : Int32) (i c : Nat) : Int32 := sh.2.2.2 (f.toNatClampNeg + 3 * i + c)
def rd_e (st : ab_T) (d : dy_T) (t : Int32) : ab_T := (d, st.2.1, st.2.2.1, st.2.2.2.1, st.2.2.2.2.1, t, st.2.2.2.2.2.2)
def rd_go (st : ab_T) (sh : sh_T) (l f : Int32) : Nat → Nat → dy_T → Value × ab_T
  | 0, i, d => (.int (nI i), rd_e st d 0)
  | m + 1, i, d => if rd_f sh l f i = 0 then (if pk_ok (rd_x sh f i 0) (rd_x sh f i 1) (rd_x sh f i 2) d then rd_go st sh l f m (i + 1) (dy_add (rd_x sh f i 0) (rd_x sh f i 1) (rd_x sh f i 2) d) else (.int (-20 - nI i), st)) else (.int (nI i), rd_e st d (rd_f sh l f i))
def an_read (k l f n : Int32) (st : ab_T) : Value × ab_T := if wi k 0 3 ∧ wi l 0 2 ∧ wi n 0 13 then rd_go st (st.2.2.2.2.1 k.toNatClampNeg) l f n.toNatClampNeg 0 st.1 else (.int (-1), st)
/-- d is d0 with more laid on -/
def rd_ext (d0 d : dy_T) : Prop := d = d0 ∨ (d0.1 < d.1 ∧ d0.2.1 = d0.1 ∧ d.2.2.1 = d0.2.2.1 ∧ d.2.2.2.1 = d0.2.2.2.1 ∧ d.2.2.2.2.1 = d0.2.2.2.2.1 ∧ ∀ c i, i < d0.1 → d.2.2.2.2.2 c i = d0.2.2.2.2.2 c i)
set_option maxRecDepth 20000 in
theorem rd_ext_add {d0 d : dy_T} {k g w : Int32} (h : rd_ext d0 d) (ha : dy_all d) : rd_ext d0 (dy_add k g w d) := by
  have ha : d.2.1 = d.1 := ha
  rcases h with rfl | ⟨h1, h2, h3, h4, h5, h6⟩
  · refine Or.inr ⟨Nat.lt_succ_self _, ha, rfl, rfl, rfl, fun c i hi => ?_⟩
    show (if i = d.1 then _ else d.2.2.2.2.2 c i) = _
    rw [if_neg (by omega)]
  · refine Or.inr ⟨Nat.lt_succ_of_lt h1, h2, h3, h4, h5, fun c i hi => ?_⟩
    show (if i = d.1 then _ else d.2.2.2.2.2 c i) = _
    rw [if_neg (by omega)]
    exact h6 c i hi
set_option maxRecDepth 20000 in
theorem rd_back {M : hd_M} {d0 d : dy_T} (h : rd_ext d0 d) (hd : hm M 1 (if d0.1 < d.1 then dy_shr d0.1 d else d)) : hm M 1 d0 := by
  rcases h with rfl | ⟨h1, h2, h3, h4, h5, h6⟩
  · rw [if_neg (Nat.lt_irrefl _)] at hd; exact hd
  · rw [if_pos h1] at hd
    obtain ⟨a1, a2, a3, a4, a5, a6, a7, a8, a9⟩ := hd
    refine ⟨a1, ?_, ?_, ?_, ?_, fun i hi => ?_, fun i hi => ?_, fun i hi => ?_, fun i hi => ?_⟩
    · rw [h2]; exact a2
    · rw [← h3]; exact a3
    · rw [← h4]; exact a4
    · rw [← h5]; exact a5
    · rw [← h6 0 i hi]; exact a6 i hi
    · rw [← h6 1 i hi]; exact a7 i hi
    · rw [← h6 2 i hi]; exact a8 i hi
    · rw [← h6 3 i hi]; exact a9 i hi
set_option maxRecDepth 20000 in
theorem s_f3S (M : hd_M) (st : ab_T) (hI : CI M st) (hO : OK st) (j : Nat) (hj : j < 4) (l f : Int32) (i : Nat) : (if M (40 + 2 * j) 2 < 0 then (1 : Int32) else if ¬ M (40 + 2 * j) 1 = l then 3 else if ¬ f < 0 ∧ f < M (40 + 2 * j) 2 ∧ f + 3 * nI i + 2 < M (40 + 2 * j) 2 then 0 else 2) = rd_f (st.2.2.2.2.1 j) l f i := by
  unfold rd_f
  obtain ⟨h1, h2⟩ := hI.2.2.2.2.1 j hj
  cases hb : (st.2.2.2.2.1 j).1 with
  | true => rw [h1 hb]; rfl
  | false =>
    obtain ⟨h3, h4, h5⟩ := h2 hb
    have h40 := (hO.2.2.2.2 j hj hb).1
    rw [h4, h3, if_neg (nI_pos (by omega))]
    rfl
set_option maxRecDepth 20000 in
/-- what is known where nothing tears -/
theorem rd_f0 {sh : sh_T} {l f : Int32} {i : Nat} (h40 : sh.1 = false → sh.2.2.1 ≤ 40) (hi : i < 13) (h : rd_f sh l f i = 0) : sh.1 = false ∧ ∃ y : Nat, f = nI y ∧ y + 3 * i + 2 < sh.2.2.1 ∧ sh.2.2.1 ≤ 40 := by
  unfold rd_f at h
  cases hb : sh.1 with
  | true => rw [hb, if_pos rfl] at h; exact absurd h (by decide)
  | false =>
    rw [hb, if_neg (by decide)] at h
    have h40 := h40 hb
    by_cases h1 : ¬ sh.2.1 = l
    · rw [if_pos h1] at h; exact absurd h (by decide)
    · rw [if_neg h1] at h
      by_cases h2 : ¬ f < 0 ∧ f < nI sh.2.2.1 ∧ f + 3 * nI i + 2 < nI sh.2.2.1
      · obtain ⟨q1, q2, q3⟩ := h2
        obtain ⟨y, hy, rfl⟩ := nI_of q1
        have q2 := (nI_ltI hy (by omega)).mp q2
        rw [show (3 : Int32) = nI 3 from rfl, pk_mul, nI_add, show (2 : Int32) = nI 2 from rfl, nI_add] at q3
        have q3 := (nI_ltI (by omega) (by omega)).mp q3
        exact ⟨rfl, y, rfl, q3, h40⟩
      · rw [if_neg h2] at h; exact absurd h (by decide)
set_option maxRecDepth 20000 in
theorem v40 {n : Nat} (h : n < 40) : vp_in (nI n) 40 := vp_in_nI h (by decide)
set_option maxRecDepth 20000 in
theorem c_read_l_0 (M : hd_M) (N : hd_N) (st : ab_T) (hO : OK st) (l f : Int32) (n : Nat) (hn : n ≤ 13) : ∀ (m i : Nat) (d : dy_T) (M' : hd_M) (z : Option Value), i + m = n → fr clsF M M' → CI M' (d, st.2) → OK (d, st.2) → rd_ext st.1 d → hd_Go mX5_read 53 [some (.ref 0), some (.int (nI 0)), some (.int l), some (.int f), some (.int (nI n)), some (.ref 40), some (.int (nI st.1.1)), some (.int 0), some (.int (nI i)), some (.int (nI i)), z] [] M' N (fun r M1 N1 => r = some (rd_go st (st.2.2.2.2.1 0) l f m i d).1 ∧ N1 = N ∧ fr clsF M M1 ∧ CI M1 (rd_go st (st.2.2.2.2.1 0) l f m i d).2) := by
  have fin : ∀ (i : Nat) (x y : Int32) (d : dy_T) (M' : hd_M) (z : Option Value), fr clsF M M' → CI M' (d, st.2) → hd_Go mX5_read 148 [some (.ref 0), some (.int (nI 0)), some (.int l), some (.int f), some (.int (nI n)), some (.ref 40), some (.int (nI st.1.1)), some (.int x), some (.int (nI i)), some (.int y), z] [] M' N (fun r M1 N1 => r = some (.int (nI i)) ∧ N1 = N ∧ fr clsF M M1 ∧ CI M1 (rd_e st d x)) := by
    intro i x y d M' z hf hI
    refine hd_go kX5_read 999 (fun _ => rfl) rfl trivial ?_
    exact hd_en_ kX5_read (fun _ => rfl) trivial ⟨rfl, rfl, hf.up (show 0 ≤ 50 by decide), hI.torn⟩
  intro m
  induction m with
  | zero =>
    intro i d M' z hi hf hI hOd hx
    refine hd_go kX5_read 999 (fun _ => rfl) rfl trivial ?_
    refine hd_ju kX5_read (fun _ => rfl) (fun c => ?_) (fun c => absurd (nI_le (by omega) (by omega)) c)
    exact fin i 0 _ d M' z hf hI
  | succ m ih =>
    intro i d M' z hi hf hI hOd hx
    refine hd_go kX5_read 999 (fun _ => rfl) rfl trivial ?_
    refine hd_ju kX5_read (fun _ => rfl) (fun c => absurd c (nI_ge (by omega) (by omega))) (fun c => ?_)
    refine hd_go kX5_read 999 (fun _ => rfl) rfl trivial ?_
    refine hd_ju kX5_read (fun _ => rfl) (fun c => absurd rfl c) (fun c => ?_)
    refine hd_go kX5_read 999 (fun _ => rfl) rfl trivial ?_
    refine hd_ci kX5_read qX5_read (fun _ => rfl) (s_fault3 40 (by simp) M' N l f (nI i)) ?_
    rw [s_f3S M' (d, st.2) hI hOd 0 (by decide) l f i]
    refine hd_go kX5_read 999 (fun _ => rfl) rfl trivial ?_
    show hd_Go mX5_read 78 [some (.ref 0), some (.int (nI 0)), some (.int l), some (.int f), some (.int (nI n)), some (.ref 40), some (.int (nI st.1.1)), some (.int (rd_f (st.2.2.2.2.1 0) l f i)), some (.int (nI i)), some (.int (nI i)), z] [.int (rd_f (st.2.2.2.2.1 0) l f i)] M' N _
    by_cases hr : rd_f (st.2.2.2.2.1 0) l f i = 0
    · rw [rd_go, if_pos hr, hr]
      refine hd_ju kX5_read (fun _ => rfl) (fun c => absurd rfl c) (fun c => ?_)
      obtain ⟨hb, y, rfl, hy, h40⟩ := rd_f0 (fun e => (hO.2.2.2.2 0 (by decide) e).1) (by omega) hr
      obtain ⟨h3, h4, h5⟩ := (hI.2.2.2.2.1 0 (by decide)).2 hb
      have h5 : ∀ i, i < (st.2.2.2.2.1 0).2.2.1 → M' 41 i = (st.2.2.2.2.1 0).2.2.2 i := h5
      have e1 : nI y + 3 * nI i = nI (y + 3 * i) := by rw [show (3 : Int32) = nI 3 from rfl, pk_mul, nI_add]
      have e2 : nI (y + 3 * i) + 2 = nI (y + 3 * i + 2) := nI_add _ 2
      have ey : (nI y).toNatClampNeg = y := nI_clamp (by omega)
      refine hd_go kX5_read 89 (fun _ => rfl) rfl trivial ?_
      rw [e1]
      refine hd_go kX5_read 999 (fun _ => rfl) rfl ?_ ?_
      · rw [e2, nI_1]
        exact ⟨⟨⟨trivial, v40 (by omega)⟩, v40 (by omega)⟩, v40 (by omega)⟩
      rw [e2, nI_1, nI_clamp (show y + 3 * i < 2 ^ 31 by omega), nI_clamp (show y + 3 * i + 1 < 2 ^ 31 by omega), nI_clamp (show y + 3 * i + 2 < 2 ^ 31 by omega), h5 _ (by omega), h5 _ (by omega), h5 _ (by omega)]
      unfold rd_x
      rw [ey, show y + 3 * i + 0 = y + 3 * i from rfl]
      obtain ⟨K, hK⟩ : ∃ K, K = (st.2.2.2.2.1 0).2.2.2 (y + 3 * i) := ⟨_, rfl⟩
      obtain ⟨G, hG⟩ : ∃ G, G = (st.2.2.2.2.1 0).2.2.2 (y + 3 * i + 1) := ⟨_, rfl⟩
      obtain ⟨W, hW⟩ : ∃ W, W = (st.2.2.2.2.1 0).2.2.2 (y + 3 * i + 2) := ⟨_, rfl⟩
      rw [← hK, ← hG, ← hW]
      refine hd_ca kX5_read qX5_read (fun _ => rfl) (c_pack K G W M' N (d, st.2) hI hOd) ?_
      rintro r M1 N1 ⟨e9, rfl, hf1, hI1⟩
      by_cases hp : pk_ok K G W d
      · rw [if_pos hp]
        rw [an_pack_y hp] at e9 hI1
        subst e9
        have h7 : d.1 < 7 := by have := hp.2.2; have := hOd.1.1; have : d.1 ≤ 7 := this; omega
        refine hd_ju kX5_read (fun _ => rfl) (fun c => ?_) (fun c => absurd (Int32.not_lt.mp (nI_pos (by show d.1 + 1 < 2 ^ 31; omega))) c)
        refine hd_go kX5_read 53 (fun _ => rfl) rfl trivial ?_
        rw [nI_1]
        exact ih (i + 1) (dy_add K G W d) M1 _ (by omega) (hf.tr hf1) hI1 ⟨dy_ok_add hOd.1 hp.2.1 h7, hOd.2⟩ (rd_ext_add hx hp.2.1)
      · rw [if_neg hp]
        obtain ⟨v, hv, e8⟩ := an_pack_n (st := (d, st.2)) hp
        rw [e8] at e9 hI1
        subst e9
        refine hd_ju kX5_read (fun _ => rfl) (fun c => absurd hv (Int32.not_lt.mpr c)) (fun c => ?_)
        refine hd_go kX5_read 999 (fun _ => rfl) rfl trivial ?_
        refine hd_ca kX5_read qX5_read (fun _ => rfl) (s_shrink_1 M1 N1 d hI1.1 hOd.1.1 st.1.1 hO.1.1) ?_
        rintro r M2 N2 ⟨rfl, rfl, hf2, hd2⟩
        refine hd_go kX5_read 999 (fun _ => rfl) rfl trivial ?_
        refine hd_en_ kX5_read (fun _ => rfl) trivial ⟨rfl, rfl, (hf.tr hf1).tr (hf2.mo (fun c j z => by have z : c = 1 := z; show c ≤ 50; omega)), ?_⟩
        exact hI1.day (d := st.1) (hf2.mo (fun c j z => by have z : c = 1 := z; show (1 ≤ c ∧ c ≤ 12) ∨ 48 ≤ c; omega)) (rd_back hx hd2)
    · rw [rd_go, if_neg hr]
      refine hd_ju kX5_read (fun _ => rfl) (fun c => ?_) (fun c => absurd c hr)
      refine hd_go kX5_read 53 (fun _ => rfl) rfl trivial ?_
      refine hd_go kX5_read 999 (fun _ => rfl) rfl trivial ?_
      refine hd_ju kX5_read (fun _ => rfl) (fun c => fin i _ _ d M' z hf hI) (fun c => ?_)
      refine hd_go kX5_read 999 (fun _ => rfl) rfl trivial ?_
      exact hd_ju kX5_read (fun _ => rfl) (fun c => fin i _ _ d M' z hf hI) (fun c => absurd c hr)
set_option maxRecDepth 20000 in
theorem c_read_l_1 (M : hd_M) (N : hd_N) (st : ab_T) (hO : OK st) (l f : Int32) (n : Nat) (hn : n ≤ 13) : ∀ (m i : Nat) (d : dy_T) (M' : hd_M) (z : Option Value), i + m = n → fr clsF M M' → CI M' (d, st.2) → OK (d, st.2) → rd_ext st.1 d → hd_Go mX5_read 53 [some (.ref 0), some (.int (nI 1)), some (.int l), some (.int f), some (.int (nI n)), some (.ref 42), some (.int (nI st.1.1)), some (.int 0), some (.int (nI i)), some (.int (nI i)), z] [] M' N (fun r M1 N1 => r = some (rd_go st (st.2.2.2.2.1 1) l f m i d).1 ∧ N1 = N ∧ fr clsF M M1 ∧ CI M1 (rd_go st (st.2.2.2.2.1 1) l f m i d).2) := by
  have fin : ∀ (i : Nat) (x y : Int32) (d : dy_T) (M' : hd_M) (z : Option Value), fr clsF M M' → CI M' (d, st.2) → hd_Go mX5_read 148 [some (.ref 0), some (.int (nI 1)), some (.int l), some (.int f), some (.int (nI n)), some (.ref 42), some (.int (nI st.1.1)), some (.int x), some (.int (nI i)), some (.int y), z] [] M' N (fun r M1 N1 => r = some (.int (nI i)) ∧ N1 = N ∧ fr clsF M M1 ∧ CI M1 (rd_e st d x)) := by
    intro i x y d M' z hf hI
    refine hd_go kX5_read 999 (fun _ => rfl) rfl trivial ?_
    exact hd_en_ kX5_read (fun _ => rfl) trivial ⟨rfl, rfl, hf.up (show 0 ≤ 50 by decide), hI.torn⟩
  intro m
  induction m with
  | zero =>
    intro i d M' z hi hf hI hOd hx
    refine hd_go kX5_read 999 (fun _ => rfl) rfl trivial ?_
    refine hd_ju kX5_read (fun _ => rfl) (fun c => ?_) (fun c => absurd (nI_le (by omega) (by omega)) c)
    exact fin i 0 _ d M' z hf hI
  | succ m ih =>
    intro i d M' z hi hf hI hOd hx
    refine hd_go kX5_read 999 (fun _ => rfl) rfl trivial ?_
    refine hd_ju kX5_read (fun _ => rfl) (fun c => absurd c (nI_ge (by omega) (by omega))) (fun c => ?_)
    refine hd_go kX5_read 999 (fun _ => rfl) rfl trivial ?_
    refine hd_ju kX5_read (fun _ => rfl) (fun c => absurd rfl c) (fun c => ?_)
    refine hd_go kX5_read 999 (fun _ => rfl) rfl trivial ?_
    refine hd_ci kX5_read qX5_read (fun _ => rfl) (s_fault3 42 (by simp) M' N l f (nI i)) ?_
    rw [s_f3S M' (d, st.2) hI hOd 1 (by decide) l f i]
    refine hd_go kX5_read 999 (fun _ => rfl) rfl trivial ?_
    show hd_Go mX5_read 78 [some (.ref 0), some (.int (nI 1)), some (.int l), some (.int f), some (.int (nI n)), some (.ref 42), some (.int (nI st.1.1)), some (.int (rd_f (st.2.2.2.2.1 1) l f i)), some (.int (nI i)), some (.int (nI i)), z] [.int (rd_f (st.2.2.2.2.1 1) l f i)] M' N _
    by_cases hr : rd_f (st.2.2.2.2.1 1) l f i = 0
    · rw [rd_go, if_pos hr, hr]
      refine hd_ju kX5_read (fun _ => rfl) (fun c => absurd rfl c) (fun c => ?_)
      obtain ⟨hb, y, rfl, hy, h40⟩ := rd_f0 (fun e => (hO.2.2.2.2 1 (by decide) e).1) (by omega) hr
      obtain ⟨h3, h4, h5⟩ := (hI.2.2.2.2.1 1 (by decide)).2 hb
      have h5 : ∀ i, i < (st.2.2.2.2.1 1).2.2.1 → M' 43 i = (st.2.2.2.2.1 1).2.2.2 i := h5
      have e1 : nI y + 3 * nI i = nI (y + 3 * i) := by rw [show (3 : Int32) = nI 3 from rfl, pk_mul, nI_add]
      have e2 : nI (y + 3 * i) + 2 = nI (y + 3 * i + 2) := nI_add _ 2
      have ey : (nI y).toNatClampNeg = y := nI_clamp (by omega)
      refine hd_go kX5_read 89 (fun _ => rfl) rfl trivial ?_
      rw [e1]
      refine hd_go kX5_read 999 (fun _ => rfl) rfl ?_ ?_
      · rw [e2, nI_1]
        exact ⟨⟨⟨trivial, v40 (by omega)⟩, v40 (by omega)⟩, v40 (by omega)⟩
      rw [e2, nI_1, nI_clamp (show y + 3 * i < 2 ^ 31 by omega), nI_clamp (show y + 3 * i + 1 < 2 ^ 31 by omega), nI_clamp (show y + 3 * i + 2 < 2 ^ 31 by omega), h5 _ (by omega), h5 _ (by omega), h5 _ (by omega)]
      unfold rd_x
      rw [ey, show y + 3 * i + 0 = y + 3 * i from rfl]
      obtain ⟨K, hK⟩ : ∃ K, K = (st.2.2.2.2.1 1).2.2.2 (y + 3 * i) := ⟨_, rfl⟩
      obtain ⟨G, hG⟩ : ∃ G, G = (st.2.2.2.2.1 1).2.2.2 (y + 3 * i + 1) := ⟨_, rfl⟩
      obtain ⟨W, hW⟩ : ∃ W, W = (st.2.2.2.2.1 1).2.2.2 (y + 3 * i + 2) := ⟨_, rfl⟩
      rw [← hK, ← hG, ← hW]
      refine hd_ca kX5_read qX5_read (fun _ => rfl) (c_pack K G W M' N (d, st.2) hI hOd) ?_
      rintro r M1 N1 ⟨e9, rfl, hf1, hI1⟩
      by_cases hp : pk_ok K G W d
      · rw [if_pos hp]
        rw [an_pack_y hp] at e9 hI1
        subst e9
        have h7 : d.1 < 7 := by have := hp.2.2; have := hOd.1.1; have : d.1 ≤ 7 := this; omega
        refine hd_ju kX5_read (fun _ => rfl) (fun c => ?_) (fun c => absurd (Int32.not_lt.mp (nI_pos (by show d.1 + 1 < 2 ^ 31; omega))) c)
        refine hd_go kX5_read 53 (fun _ => rfl) rfl trivial ?_
        rw [nI_1]
        exact ih (i + 1) (dy_add K G W d) M1 _ (by omega) (hf.tr hf1) hI1 ⟨dy_ok_add hOd.1 hp.2.1 h7, hOd.2⟩ (rd_ext_add hx hp.2.1)
      · rw [if_neg hp]
        obtain ⟨v, hv, e8⟩ := an_pack_n (st := (d, st.2)) hp
        rw [e8] at e9 hI1
        subst e9
        refine hd_ju kX5_read (fun _ => rfl) (fun c => absurd hv (Int32.not_lt.mpr c)) (fun c => ?_)
        refine hd_go kX5_read 999 (fun _ => rfl) rfl trivial ?_
        refine hd_ca kX5_read qX5_read (fun _ => rfl) (s_shrink_1 M1 N1 d hI1.1 hOd.1.1 st.1.1 hO.1.1) ?_
        rintro r M2 N2 ⟨rfl, rfl, hf2, hd2⟩
        refine hd_go kX5_read 999 (fun _ => rfl) rfl trivial ?_
        refine hd_en_ kX5_read (fun _ => rfl) trivial ⟨rfl, rfl, (hf.tr hf1).tr (hf2.mo (fun c j z => by have z : c = 1 := z; show c ≤ 50; omega)), ?_⟩
        exact hI1.day (d := st.1) (hf2.mo (fun c j z => by have z : c = 1 := z; show (1 ≤ c ∧ c ≤ 12) ∨ 48 ≤ c; omega)) (rd_back hx hd2)
    · rw [rd_go, if_neg hr]
      refine hd_ju kX5_read (fun _ => rfl) (fun c => ?_) (fun c => absurd c hr)
      refine hd_go kX5_read 53 (fun _ => rfl) rfl trivial ?_
      refine hd_go kX5_read 999 (fun _ => rfl) rfl trivial ?_
      refine hd_ju kX5_read (fun _ => rfl) (fun c => fin i _ _ d M' z hf hI) (fun c => ?_)
      refine hd_go kX5_read 999 (fun _ => rfl) rfl trivial ?_
      exact hd_ju kX5_read (fun _ => rfl) (fun c => fin i _ _ d M' z hf hI) (fun c => absurd c hr)
set_option maxRecDepth 20000 in
theorem c_read_l_2 (M : hd_M) (N : hd_N) (st : ab_T) (hO : OK st) (l f : Int32) (n : Nat) (hn : n ≤ 13) : ∀ (m i : Nat) (d : dy_T) (M' : hd_M) (z : Option Value), i + m = n → fr clsF M M' → CI M' (d, st.2) → OK (d, st.2) → rd_ext st.1 d → hd_Go mX5_read 53 [some (.ref 0), some (.int (nI 2)), some (.int l), some (.int f), some (.int (nI n)), some (.ref 44), some (.int (nI st.1.1)), some (.int 0), some (.int (nI i)), some (.int (nI i)), z] [] M' N (fun r M1 N1 => r = some (rd_go st (st.2.2.2.2.1 2) l f m i d).1 ∧ N1 = N ∧ fr clsF M M1 ∧ CI M1 (rd_go st (st.2.2.2.2.1 2) l f m i d).2) := by
  have fin : ∀ (i : Nat) (x y : Int32) (d : dy_T) (M' : hd_M) (z : Option Value), fr clsF M M' → CI M' (d, st.2) → hd_Go mX5_read 148 [some (.ref 0), some (.int (nI 2)), some (.int l), some (.int f), some (.int (nI n)), some (.ref 44), some (.int (nI st.1.1)), some (.int x), some (.int (nI i)), some (.int y), z] [] M' N (fun r M1 N1 => r = some (.int (nI i)) ∧ N1 = N ∧ fr clsF M M1 ∧ CI M1 (rd_e st d x)) := by
    intro i x y d M' z hf hI
    refine hd_go kX5_read 999 (fun _ => rfl) rfl trivial ?_
    exact hd_en_ kX5_read (fun _ => rfl) trivial ⟨rfl, rfl, hf.up (show 0 ≤ 50 by decide), hI.torn⟩
  intro m
  induction m with
  | zero =>
    intro i d M' z hi hf hI hOd hx
    refine hd_go kX5_read 999 (fun _ => rfl) rfl trivial ?_
    refine hd_ju kX5_read (fun _ => rfl) (fun c => ?_) (fun c => absurd (nI_le (by omega) (by omega)) c)
    exact fin i 0 _ d M' z hf hI
  | succ m ih =>
    intro i d M' z hi hf hI hOd hx
    refine hd_go kX5_read 999 (fun _ => rfl) rfl trivial ?_
    refine hd_ju kX5_read (fun _ => rfl) (fun c => absurd c (nI_ge (by omega) (by omega))) (fun c => ?_)
    refine hd_go kX5_read 999 (fun _ => rfl) rfl trivial ?_
    refine hd_ju kX5_read (fun _ => rfl) (fun c => absurd rfl c) (fun c => ?_)
    refine hd_go kX5_read 999 (fun _ => rfl) rfl trivial ?_
    refine hd_ci kX5_read qX5_read (fun _ => rfl) (s_fault3 44 (by simp) M' N l f (nI i)) ?_
    rw [s_f3S M' (d, st.2) hI hOd 2 (by decide) l f i]
    refine hd_go kX5_read 999 (fun _ => rfl) rfl trivial ?_
    show hd_Go mX5_read 78 [some (.ref 0), some (.int (nI 2)), some (.int l), some (.int f), some (.int (nI n)), some (.ref 44), some (.int (nI st.1.1)), some (.int (rd_f (st.2.2.2.2.1 2) l f i)), some (.int (nI i)), some (.int (nI i)), z] [.int (rd_f (st.2.2.2.2.1 2) l f i)] M' N _
    by_cases hr : rd_f (st.2.2.2.2.1 2) l f i = 0
    · rw [rd_go, if_pos hr, hr]
      refine hd_ju kX5_read (fun _ => rfl) (fun c => absurd rfl c) (fun c => ?_)
      obtain ⟨hb, y, rfl, hy, h40⟩ := rd_f0 (fun e => (hO.2.2.2.2 2 (by decide) e).1) (by omega) hr
      obtain ⟨h3, h4, h5⟩ := (hI.2.2.2.2.1 2 (by decide)).2 hb
      have h5 : ∀ i, i < (st.2.2.2.2.1 2).2.2.1 → M' 45 i = (st.2.2.2.2.1 2).2.2.2 i := h5
      have e1 : nI y + 3 * nI i = nI (y + 3 * i) := by rw [show (3 : Int32) = nI 3 from rfl, pk_mul, nI_add]
      have e2 : nI (y + 3 * i) + 2 = nI (y + 3 * i + 2) := nI_add _ 2
      have ey : (nI y).toNatClampNeg = y := nI_clamp (by omega)
      refine hd_go kX5_read 89 (fun _ => rfl) rfl trivial ?_
      rw [e1]
      refine hd_go kX5_read 999 (fun _ => rfl) rfl ?_ ?_
      · rw [e2, nI_1]
        exact ⟨⟨⟨trivial, v40 (by omega)⟩, v40 (by omega)⟩, v40 (by omega)⟩
      rw [e2, nI_1, nI_clamp (show y + 3 * i < 2 ^ 31 by omega), nI_clamp (show y + 3 * i + 1 < 2 ^ 31 by omega), nI_clamp (show y + 3 * i + 2 < 2 ^ 31 by omega), h5 _ (by omega), h5 _ (by omega), h5 _ (by omega)]
      unfold rd_x
      rw [ey, show y + 3 * i + 0 = y + 3 * i from rfl]
      obtain ⟨K, hK⟩ : ∃ K, K = (st.2.2.2.2.1 2).2.2.2 (y + 3 * i) := ⟨_, rfl⟩
      obtain ⟨G, hG⟩ : ∃ G, G = (st.2.2.2.2.1 2).2.2.2 (y + 3 * i + 1) := ⟨_, rfl⟩
      obtain ⟨W, hW⟩ : ∃ W, W = (st.2.2.2.2.1 2).2.2.2 (y + 3 * i + 2) := ⟨_, rfl⟩
      rw [← hK, ← hG, ← hW]
      refine hd_ca kX5_read qX5_read (fun _ => rfl) (c_pack K G W M' N (d, st.2) hI hOd) ?_
      rintro r M1 N1 ⟨e9, rfl, hf1, hI1⟩
      by_cases hp : pk_ok K G W d
      · rw [if_pos hp]
        rw [an_pack_y hp] at e9 hI1
        subst e9
        have h7 : d.1 < 7 := by have := hp.2.2; have := hOd.1.1; have : d.1 ≤ 7 := this; omega
        refine hd_ju kX5_read (fun _ => rfl) (fun c => ?_) (fun c => absurd (Int32.not_lt.mp (nI_pos (by show d.1 + 1 < 2 ^ 31; omega))) c)
        refine hd_go kX5_read 53 (fun _ => rfl) rfl trivial ?_
        rw [nI_1]
        exact ih (i + 1) (dy_add K G W d) M1 _ (by omega) (hf.tr hf1) hI1 ⟨dy_ok_add hOd.1 hp.2.1 h7, hOd.2⟩ (rd_ext_add hx hp.2.1)
      · rw [if_neg hp]
        obtain ⟨v, hv, e8⟩ := an_pack_n (st := (d, st.2)) hp
        rw [e8] at e9 hI1
        subst e9
        refine hd_ju kX5_read (fun _ => rfl) (fun c => absurd hv (Int32.not_lt.mpr c)) (fun c => ?_)
        refine hd_go kX5_read 999 (fun _ => rfl) rfl trivial ?_
        refine hd_ca kX5_read qX5_read (fun _ => rfl) (s_shrink_1 M1 N1 d hI1.1 hOd.1.1 st.1.1 hO.1.1) ?_
        rintro r M2 N2 ⟨rfl, rfl, hf2, hd2⟩
        refine hd_go kX5_read 999 (fun _ => rfl) rfl trivial ?_
        refine hd_en_ kX5_read (fun _ => rfl) trivial ⟨rfl, rfl, (hf.tr hf1).tr (hf2.mo (fun c j z => by have z : c = 1 := z; show c ≤ 50; omega)), ?_⟩
        exact hI1.day (d := st.1) (hf2.mo (fun c j z => by have z : c = 1 := z; show (1 ≤ c ∧ c ≤ 12) ∨ 48 ≤ c; omega)) (rd_back hx hd2)
    · rw [rd_go, if_neg hr]
      refine hd_ju kX5_read (fun _ => rfl) (fun c => ?_) (fun c => absurd c hr)
      refine hd_go kX5_read 53 (fun _ => rfl) rfl trivial ?_
      refine hd_go kX5_read 999 (fun _ => rfl) rfl trivial ?_
      refine hd_ju kX5_read (fun _ => rfl) (fun c => fin i _ _ d M' z hf hI) (fun c => ?_)
      refine hd_go kX5_read 999 (fun _ => rfl) rfl trivial ?_
      exact hd_ju kX5_read (fun _ => rfl) (fun c => fin i _ _ d M' z hf hI) (fun c => absurd c hr)
set_option maxRecDepth 20000 in
theorem c_read_l_3 (M : hd_M) (N : hd_N) (st : ab_T) (hO : OK st) (l f : Int32) (n : Nat) (hn : n ≤ 13) : ∀ (m i : Nat) (d : dy_T) (M' : hd_M) (z : Option Value), i + m = n → fr clsF M M' → CI M' (d, st.2) → OK (d, st.2) → rd_ext st.1 d → hd_Go mX5_read 53 [some (.ref 0), some (.int (nI 3)), some (.int l), some (.int f), some (.int (nI n)), some (.ref 46), some (.int (nI st.1.1)), some (.int 0), some (.int (nI i)), some (.int (nI i)), z] [] M' N (fun r M1 N1 => r = some (rd_go st (st.2.2.2.2.1 3) l f m i d).1 ∧ N1 = N ∧ fr clsF M M1 ∧ CI M1 (rd_go st (st.2.2.2.2.1 3) l f m i d).2) := by
  have fin : ∀ (i : Nat) (x y : Int32) (d : dy_T) (M' : hd_M) (z : Option Value), fr clsF M M' → CI M' (d, st.2) → hd_Go mX5_read 148 [some (.ref 0), some (.int (nI 3)), some (.int l), some (.int f), some (.int (nI n)), some (.ref 46), some (.int (nI st.1.1)), some (.int x), some (.int (nI i)), some (.int y), z] [] M' N (fun r M1 N1 => r = some (.int (nI i)) ∧ N1 = N ∧ fr clsF M M1 ∧ CI M1 (rd_e st d x)) := by
    intro i x y d M' z hf hI
    refine hd_go kX5_read 999 (fun _ => rfl) rfl trivial ?_
    exact hd_en_ kX5_read (fun _ => rfl) trivial ⟨rfl, rfl, hf.up (show 0 ≤ 50 by decide), hI.torn⟩
  intro m
  induction m with
  | zero =>
    intro i d M' z hi hf hI hOd hx
    refine hd_go kX5_read 999 (fun _ => rfl) rfl trivial ?_
    refine hd_ju kX5_read (fun _ => rfl) (fun c => ?_) (fun c => absurd (nI_le (by omega) (by omega)) c)
    exact fin i 0 _ d M' z hf hI
  | succ m ih =>
    intro i d M' z hi hf hI hOd hx
    refine hd_go kX5_read 999 (fun _ => rfl) rfl trivial ?_
    refine hd_ju kX5_read (fun _ => rfl) (fun c => absurd c (nI_ge (by omega) (by omega))) (fun c => ?_)
    refine hd_go kX5_read 999 (fun _ => rfl) rfl trivial ?_
    refine hd_ju kX5_read (fun _ => rfl) (fun c => absurd rfl c) (fun c => ?_)
    refine hd_go kX5_read 999 (fun _ => rfl) rfl trivial ?_
    refine hd_ci kX5_read qX5_read (fun _ => rfl) (s_fault3 46 (by simp) M' N l f (nI i)) ?_
    rw [s_f3S M' (d, st.2) hI hOd 3 (by decide) l f i]
    refine hd_go kX5_read 999 (fun _ => rfl) rfl trivial ?_
    show hd_Go mX5_read 78 [some (.ref 0), some (.int (nI 3)), some (.int l), some (.int f), some (.int (nI n)), some (.ref 46), some (.int (nI st.1.1)), some (.int (rd_f (st.2.2.2.2.1 3) l f i)), some (.int (nI i)), some (.int (nI i)), z] [.int (rd_f (st.2.2.2.2.1 3) l f i)] M' N _
    by_cases hr : rd_f (st.2.2.2.2.1 3) l f i = 0
    · rw [rd_go, if_pos hr, hr]
      refine hd_ju kX5_read (fun _ => rfl) (fun c => absurd rfl c) (fun c => ?_)
      obtain ⟨hb, y, rfl, hy, h40⟩ := rd_f0 (fun e => (hO.2.2.2.2 3 (by decide) e).1) (by omega) hr
      obtain ⟨h3, h4, h5⟩ := (hI.2.2.2.2.1 3 (by decide)).2 hb
      have h5 : ∀ i, i < (st.2.2.2.2.1 3).2.2.1 → M' 47 i = (st.2.2.2.2.1 3).2.2.2 i := h5
      have e1 : nI y + 3 * nI i = nI (y + 3 * i) := by rw [show (3 : Int32) = nI 3 from rfl, pk_mul, nI_add]
      have e2 : nI (y + 3 * i) + 2 = nI (y + 3 * i + 2) := nI_add _ 2
      have ey : (nI y).toNatClampNeg = y := nI_clamp (by omega)
      refine hd_go kX5_read 89 (fun _ => rfl) rfl trivial ?_
      rw [e1]
      refine hd_go kX5_read 999 (fun _ => rfl) rfl ?_ ?_
      · rw [e2, nI_1]
        exact ⟨⟨⟨trivial, v40 (by omega)⟩, v40 (by omega)⟩, v40 (by omega)⟩
      rw [e2, nI_1, nI_clamp (show y + 3 * i < 2 ^ 31 by omega), nI_clamp (show y + 3 * i + 1 < 2 ^ 31 by omega), nI_clamp (show y + 3 * i + 2 < 2 ^ 31 by omega), h5 _ (by omega), h5 _ (by omega), h5 _ (by omega)]
      unfold rd_x
      rw [ey, show y + 3 * i + 0 = y + 3 * i from rfl]
      obtain ⟨K, hK⟩ : ∃ K, K = (st.2.2.2.2.1 3).2.2.2 (y + 3 * i) := ⟨_, rfl⟩
      obtain ⟨G, hG⟩ : ∃ G, G = (st.2.2.2.2.1 3).2.2.2 (y + 3 * i + 1) := ⟨_, rfl⟩
      obtain ⟨W, hW⟩ : ∃ W, W = (st.2.2.2.2.1 3).2.2.2 (y + 3 * i + 2) := ⟨_, rfl⟩
      rw [← hK, ← hG, ← hW]
      refine hd_ca kX5_read qX5_read (fun _ => rfl) (c_pack K G W M' N (d, st.2) hI hOd) ?_
      rintro r M1 N1 ⟨e9, rfl, hf1, hI1⟩
      by_cases hp : pk_ok K G W d
      · rw [if_pos hp]
        rw [an_pack_y hp] at e9 hI1
        subst e9
        have h7 : d.1 < 7 := by have := hp.2.2; have := hOd.1.1; have : d.1 ≤ 7 := this; omega
        refine hd_ju kX5_read (fun _ => rfl) (fun c => ?_) (fun c => absurd (Int32.not_lt.mp (nI_pos (by show d.1 + 1 < 2 ^ 31; omega))) c)
        refine hd_go kX5_read 53 (fun _ => rfl) rfl trivial ?_
        rw [nI_1]
        exact ih (i + 1) (dy_add K G W d) M1 _ (by omega) (hf.tr hf1) hI1 ⟨dy_ok_add hOd.1 hp.2.1 h7, hOd.2⟩ (rd_ext_add hx hp.2.1)
      · rw [if_neg hp]
        obtain ⟨v, hv, e8⟩ := an_pack_n (st := (d, st.2)) hp
        rw [e8] at e9 hI1
        subst e9
        refine hd_ju kX5_read (fun _ => rfl) (fun c => absurd hv (Int32.not_lt.mpr c)) (fun c => ?_)
        refine hd_go kX5_read 999 (fun _ => rfl) rfl trivial ?_
        refine hd_ca kX5_read qX5_read (fun _ => rfl) (s_shrink_1 M1 N1 d hI1.1 hOd.1.1 st.1.1 hO.1.1) ?_
        rintro r M2 N2 ⟨rfl, rfl, hf2, hd2⟩
        refine hd_go kX5_read 999 (fun _ => rfl) rfl trivial ?_
        refine hd_en_ kX5_read (fun _ => rfl) trivial ⟨rfl, rfl, (hf.tr hf1).tr (hf2.mo (fun c j z => by have z : c = 1 := z; show c ≤ 50; omega)), ?_⟩
        exact hI1.day (d := st.1) (hf2.mo (fun c j z => by have z : c = 1 := z; show (1 ≤ c ∧ c ≤ 12) ∨ 48 ≤ c; omega)) (rd_back hx hd2)
    · rw [rd_go, if_neg hr]
      refine hd_ju kX5_read (fun _ => rfl) (fun c => ?_) (fun c => absurd c hr)
      refine hd_go kX5_read 53 (fun _ => rfl) rfl trivial ?_
      refine hd_go kX5_read 999 (fun _ => rfl) rfl trivial ?_
      refine hd_ju kX5_read (fun _ => rfl) (fun c => fin i _ _ d M' z hf hI) (fun c => ?_)
      refine hd_go kX5_read 999 (fun _ => rfl) rfl trivial ?_
      exact hd_ju kX5_read (fun _ => rfl) (fun c => fin i _ _ d M' z hf hI) (fun c => absurd c hr)
set_option maxRecDepth 20000 in
theorem c_read (k l f n : Int32) : cA mX5_read [.int k, .int l, .int f, .int n] (an_read k l f n) := by
  intro M N st hI hO
  change hd_Go mX5_read 0 [some (.ref 0), some (.int k), some (.int l), some (.int f), some (.int n), none, none, none, none, none, none] [] M N _
  have bad : ¬ (wi k 0 3 ∧ wi l 0 2 ∧ wi n 0 13) → hd_Go mX5_read 25 [some (.ref 0), some (.int k), some (.int l), some (.int f), some (.int n), none, none, none, none, none, none] [] M N (fun r M1 N1 => r = some (an_read k l f n st).1 ∧ N1 = N ∧ fr clsF M M1 ∧ CI M1 (an_read k l f n st).2) := by
    intro q
    refine hd_go kX5_read 999 (fun _ => rfl) rfl trivial ?_
    refine hd_en_ kX5_read (fun _ => rfl) trivial ?_
    unfold an_read
    rw [if_neg q]
    exact ⟨rfl, rfl, fr.rf, hI⟩
  unfold an_read at bad ⊢
  refine hd_go kX5_read 999 (fun _ => rfl) rfl trivial ?_
  refine hd_ci kX5_read qX5_read (fun _ => rfl) (s_isSheet _ M N) ?_
  refine hd_ju kX5_read (fun _ => rfl) (fun q => bad (fun z => hd_b0.mp q z.1)) (fun q => ?_)
  have q1 := hd_b1.mp q
  refine hd_go kX5_read 999 (fun _ => rfl) rfl trivial ?_
  refine hd_ci kX5_read qX5_read (fun _ => rfl) (s_isLane _ M N) ?_
  refine hd_ju kX5_read (fun _ => rfl) (fun q => bad (fun z => hd_b0.mp q z.2.1)) (fun q => ?_)
  have q2 := hd_b1.mp q
  refine hd_go kX5_read 999 (fun _ => rfl) rfl trivial ?_
  refine hd_ci kX5_read qX5_read (fun _ => rfl) (s_isWithin _ _ _ M N) ?_
  refine hd_ju kX5_read (fun _ => rfl) (fun q => ?_) (fun q => bad (fun z => hd_b0.mp q z.2.2))
  have q3 := hd_b1.mp q
  rw [if_pos ⟨q1, q2, q3⟩]
  obtain ⟨x, hx, rfl⟩ := wi_nat (n := 13) rfl q3
  obtain ⟨j, hj, rfl, ek⟩ := wi03 q1
  rw [ek, nI_clamp (show x < 2 ^ 31 by omega)]
  rcases (show j = 0 ∨ j = 1 ∨ j = 2 ∨ j = 3 by omega) with rfl | rfl | rfl | rfl
  · refine hd_go kX5_read 53 (fun _ => rfl) rfl ⟨trivial, by decide, by decide⟩ ?_
    rw [hI.1.1]
    exact c_read_l_0 M N st hO l f x hx x 0 st.1 M _ (by omega) fr.rf hI hO (Or.inl rfl)
  · refine hd_go kX5_read 53 (fun _ => rfl) rfl ⟨trivial, by decide, by decide⟩ ?_
    rw [hI.1.1]
    exact c_read_l_1 M N st hO l f x hx x 0 st.1 M _ (by omega) fr.rf hI hO (Or.inl rfl)
  · refine hd_go kX5_read 53 (fun _ => rfl) rfl ⟨trivial, by decide, by decide⟩ ?_
    rw [hI.1.1]
    exact c_read_l_2 M N st hO l f x hx x 0 st.1 M _ (by omega) fr.rf hI hO (Or.inl rfl)
  · refine hd_go kX5_read 53 (fun _ => rfl) rfl ⟨trivial, by decide, by decide⟩ ?_
    rw [hI.1.1]
    exact c_read_l_3 M N st hO l f x hx x 0 st.1 M _ (by omega) fr.rf hI hO (Or.inl rfl)
