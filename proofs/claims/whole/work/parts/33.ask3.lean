/-! ASK, THE CLASS'S SIDE; printed by wip/whole/ask1.py -/
def as_L (p : Nat → Bool) : Nat → Nat → List Nat
  | 0, _ => []
  | m + 1, k => if p k then k :: as_L p m (k + 1) else as_L p m (k + 1)
def as_c (f : Nat → Int32) (x : Int32) : List Nat → Nat → Nat
  | [], a => a
  | w :: ws, a => as_c f x ws (if f w = x then a + 1 else a)
def as_m (f : Nat → Int32) (L : List Nat) : List Nat → Nat → Nat
  | [], m => m
  | v :: vs, m => as_m f L vs (if m < as_c f (f v) L 0 then as_c f (f v) L 0 else m)
def as_g (w : Nat → Nat) : Nat → Nat → Nat → Int32 → Nat × Int32
  | 0, _, fw, fo => (fw, fo)
  | m + 1, n, fw, fo => if w n < fw then as_g w m (n + 1) (w n) (nI n) else as_g w m (n + 1) fw fo
abbrev as_p (se : se_T) (d : dy_T) (i : Nat) : Nat → Bool := fun v => se_so se (dy_set 1 i (nI v) d) se.1
abbrev as_k (d : dy_T) (i n : Nat) : Nat → Int32 := fun v => dy_md n (dy_set 1 i (nI v) d)
def as_w (L : List Nat) (d : dy_T) (i n : Nat) : Nat := as_m (as_k d i n) L L 0
def an_ask (i w : Int32) (st : ab_T) : Value × ab_T := an_q (if an_th i st.1 ∧ wi w 0 1 then dy_fob (as_g (as_w (as_L (as_p st.2.1 st.1 i.toNatClampNeg) 10 0) st.1 i.toNatClampNeg) 21 0 (as_L (as_p st.2.1 st.1 i.toNatClampNeg) 10 0).length (-4)).2 (nI (as_g (as_w (as_L (as_p st.2.1 st.1 i.toNatClampNeg) 10 0) st.1 i.toNatClampNeg) 21 0 (as_L (as_p st.2.1 st.1 i.toNatClampNeg) 10 0).length (-4)).1) w else -1) st
set_option maxRecDepth 20000 in
theorem as_L_len (p : Nat → Bool) : ∀ m k, (as_L p m k).length ≤ m := by
  intro m
  induction m with
  | zero => intro k; exact Nat.le_refl _
  | succ m ih =>
    intro k
    rw [as_L]
    split
    · exact Nat.succ_le_succ (ih _)
    · exact Nat.le_succ_of_le (ih _)
set_option maxRecDepth 20000 in
theorem as_L_mem (p : Nat → Bool) : ∀ m k v, v ∈ as_L p m k → k ≤ v ∧ v < k + m ∧ p v = true := by
  intro m
  induction m with
  | zero => intro k v h; cases h
  | succ m ih =>
    intro k v h
    rw [as_L] at h
    by_cases c : p k = true
    · rw [if_pos c] at h
      rcases List.mem_cons.mp h with e | e
      · subst e; exact ⟨Nat.le_refl _, by omega, c⟩
      · have := ih (k + 1) v e; exact ⟨by omega, by omega, this.2.2⟩
    · rw [if_neg c] at h
      have := ih (k + 1) v h; exact ⟨by omega, by omega, this.2.2⟩
set_option maxRecDepth 20000 in
theorem as_L_cong {p q : Nat → Bool} : ∀ m k, (∀ v, k ≤ v → v < k + m → p v = q v) → as_L p m k = as_L q m k := by
  intro m
  induction m with
  | zero => intro k h; rfl
  | succ m ih =>
    intro k h
    rw [as_L, as_L, h k (Nat.le_refl _) (by omega), ih (k + 1) (fun v a b => h v (by omega) (by omega))]
set_option maxRecDepth 20000 in
theorem as_c_le (f : Nat → Int32) (x : Int32) : ∀ L a, as_c f x L a ≤ a + L.length := by
  intro L
  induction L with
  | nil => intro a; exact Nat.le_refl _
  | cons w ws ih =>
    intro a
    rw [as_c]
    have := ih (if f w = x then a + 1 else a)
    rw [List.length_cons]
    split at this
    · rename_i h; rw [if_pos h]; omega
    · rename_i h; rw [if_neg h]; omega
set_option maxRecDepth 20000 in
theorem as_m_le (f : Nat → Int32) (L : List Nat) : ∀ vs m, m ≤ L.length → as_m f L vs m ≤ L.length := by
  intro vs
  induction vs with
  | nil => intro m h; exact h
  | cons v vs ih =>
    intro m h
    rw [as_m]
    refine ih _ ?_
    split
    · have := as_c_le f (f v) L 0; omega
    · exact h
set_option maxRecDepth 20000 in
theorem dy_bits_cong {p q : Nat → Bool} : ∀ n, (∀ v, v < n → p v = q v) → dy_bits p n = dy_bits q n := by
  intro n
  induction n with
  | zero => intro h; rfl
  | succ n ih => intro h; rw [dy_bits, dy_bits, h n (by omega), ih (fun v hv => h v (by omega))]
set_option maxRecDepth 20000 in
theorem as_ex (p : Nat → Bool) : ∀ n, ∃ x : Nat, x < 2 ^ n ∧ ∀ v, v < n → p v = x.testBit v := by
  intro n
  induction n with
  | zero => exact ⟨0, by decide, fun v h => absurd h (Nat.not_lt_zero v)⟩
  | succ n ih =>
    obtain ⟨x, hx, h⟩ := ih
    have tx : x.testBit n = false := Nat.testBit_lt_two_pow hx
    by_cases c : p n = true
    · refine ⟨2 ^ n + x, by rw [Nat.pow_succ]; omega, fun v hv => ?_⟩
      by_cases e : v = n
      · subst e; rw [Nat.testBit_two_pow_add_eq, tx, c]; rfl
      · rw [Nat.testBit_two_pow_add_gt (by omega)]; exact h v (by omega)
    · refine ⟨x, by rw [Nat.pow_succ]; omega, fun v hv => ?_⟩
      by_cases e : v = n
      · subst e; rw [tx]; simpa using c
      · exact h v (by omega)
set_option maxRecDepth 20000 in
theorem as_t1 : ∀ x, x < 1024 → dy_bits (fun v => x.testBit v) 10 = nI x := by decide +kernel
set_option maxRecDepth 20000 in
theorem as_t2 : ∀ x, x < 1024 → ∀ v, v < 10 → ((nI x >>> (nI v &&& 31)) &&& 1 = 1 ↔ x.testBit v = true) := by decide +kernel
def bc (x0 : Int32) : Int32 :=
  let s1 := fun (x : Int32) (k : Int32) => (x.toUInt32 >>> (k.toUInt32 &&& Int32.toUInt32 31)).toInt32
  let a := x0 - (s1 x0 1 &&& 1431655765)
  let b := (a &&& 858993459) + (s1 a 2 &&& 858993459)
  let c := (b + s1 b 4) &&& 252645135
  let e := c + s1 c 8
  let f := e + s1 e 16
  f &&& 63
set_option maxRecDepth 20000 in
theorem as_t3 : ∀ x, x < 1024 → bc (nI x) = nI (as_L (fun v => x.testBit v) 10 0).length := by decide +kernel
set_option maxRecDepth 20000 in
theorem as_bit (p : Nat → Bool) (v : Nat) (hv : v < 10) : (dy_bits p 10 >>> (nI v &&& 31)) &&& 1 = 1 ↔ p v = true := by
  obtain ⟨x, hx, h⟩ := as_ex p 10
  rw [dy_bits_cong 10 h, as_t1 x hx, as_t2 x hx v hv, h v hv]
set_option maxRecDepth 20000 in
theorem as_bc (p : Nat → Bool) : bc (dy_bits p 10) = nI (as_L p 10 0).length := by
  obtain ⟨x, hx, h⟩ := as_ex p 10
  rw [dy_bits_cong 10 h, as_t1 x hx, as_t3 x hx, as_L_cong (p := p) 10 0 (fun v _ b => h v (by omega))]
set_option maxRecDepth 20000 in
theorem s_bc (x : Int32) (M : hd_M) (N : hd_N) : hd_Ret mJ6_bitCount_0f7a4 [.int x] M N (hd_is (.int (bc x)) M N) := by
  change hd_Go mJ6_bitCount_0f7a4 0 [some (.int x)] [] M N _
  refine hd_go kJ6_bitCount_0f7a4 999 (fun _ => rfl) rfl trivial ?_
  exact hd_en_ kJ6_bitCount_0f7a4 (fun _ => rfl) trivial ⟨rfl, rfl, rfl⟩
set_option maxRecDepth 20000 in
theorem v210 {n : Nat} (h : n < 210) : vp_in (nI n) 210 := vp_in_nI h (by decide)
set_option maxRecDepth 20000 in
theorem ix10 (n v : Nat) : nI n * (10 : Int32) + nI v = nI (n * 10 + v) := by
  rw [show (10 : Int32) = nI 10 from rfl, pk_mul, nI_add]
abbrev flF : Nat → Nat → Prop := fun c _ => (7 ≤ c ∧ c ≤ 12) ∨ c = 50
set_option maxRecDepth 20000 in
theorem dy_hs_n : ∀ (n : Nat) (d : dy_T), (dy_hs n d).1 = d.1 := by
  intro n
  induction n with
  | zero => intro d; rfl
  | succ n ih => intro d; exact ih _
set_option maxRecDepth 20000 in
theorem s_fl_1 (M : hd_M) (N : hd_N) (d e : dy_T) (i may : Int32) (g : Nat) (hg : g < 10) (Q : hd_Q) (M0 : hd_M) (hk : ∀ (M1 : hd_M) (z : Int32), fr flF M M1 → (∀ x, ¬ x % 10 = g → M1 50 x = M0 50 x) → (∀ n, n < 21 → M1 50 (n * 10 + g) = dy_md n e) → hd_Go mX5_fillLooks 89 [some (.ref 0), some (.int i), some (.int may), some (.int (nI g)), some (.int z)] [] M1 N Q) : ∀ (m n : Nat) (M' : hd_M), n + m = 21 → fr flF M M' → hm M' 7 (dy_hs n e) → dy_ok (dy_hs n e) → (∀ x, x < e.1 → M' 12 x = dy_ch e x) → (∀ x, ¬ x % 10 = g → M' 50 x = M0 50 x) → (∀ y, y < n → M' 50 (y * 10 + g) = dy_md y e) → hd_Go mX5_fillLooks 49 [some (.ref 0), some (.int i), some (.int may), some (.int (nI g)), some (.int (nI n))] [] M' N Q := by
  intro m
  induction m with
  | zero =>
    intro n M' hn hf hd ok hc hu hx
    refine hd_go kX5_fillLooks 999 (fun _ => rfl) rfl trivial ?_
    refine hd_ju kX5_fillLooks (fun _ => rfl) (fun c => ?_) (fun c => absurd (nI_lt (a := 20) (by omega) (by omega)) c)
    exact hk M' _ hf hu (fun y hy => hx y (by omega))
  | succ m ih =>
    intro n M' hn hf hd ok hc hu hx
    refine hd_go kX5_fillLooks 999 (fun _ => rfl) rfl trivial ?_
    refine hd_ju kX5_fillLooks (fun _ => rfl) (fun c => absurd c (nI_nlt (a := 20) (by omega) (by decide))) (fun c => ?_)
    refine hd_go kX5_fillLooks 999 (fun _ => rfl) rfl ?_ ?_
    · rw [ix10]; exact ⟨trivial, v210 (by omega)⟩
    rw [ix10, nI_clamp (show n * 10 + g < 2 ^ 31 by omega), hd.2.2.1]
    have hn1 : (dy_hs n e).1 = e.1 := dy_hs_n n e
    have hd1 : hm (hd_u M' 50 (n * 10 + g) (dy_hs n e).2.2.1) 7 (dy_hs n e) := hd.mv (fun c j h1 h2 => hd_u_n (by omega))
    have hc1 : ∀ x, x < (dy_hs n e).1 → hd_u M' 50 (n * 10 + g) (dy_hs n e).2.2.1 12 x = dy_ch (dy_hs n e) x := fun x h => by rw [hd_u_n (by omega), dy_ch_hs]; exact hc x (by rw [← hn1]; exact h)
    refine hd_ca kX5_fillLooks qX5_fillLooks (fun _ => rfl) (s_passOne_7 _ N _ hd1 ok hc1 0 false rfl) ?_
    rintro r M1 N1 ⟨rfl, rfl, hf1, hd2⟩
    refine hd_go kX5_fillLooks 49 (fun _ => rfl) rfl trivial ?_
    rw [nI_1]
    have k1 : ∀ c x, 12 ≤ c → M1 c x = hd_u M' 50 (n * 10 + g) (dy_hs n e).2.2.1 c x := fun c x h => hf1 c x (by show ¬ (7 ≤ c ∧ c ≤ 11); omega)
    rw [← dy_hs_succ] at hd2
    refine ih (n + 1) M1 (by omega) ((hf.up (Or.inr rfl)).tr (hf1.mo (fun c j z => by have z : 7 ≤ c ∧ c ≤ 11 := z; exact Or.inl (by omega)))) hd2 (by rw [dy_hs_succ]; exact dy_ok_ho ok) (fun x h => by rw [k1 _ _ (by decide), hd_u_n (by omega)]; exact hc x h) (fun x h => ?_) (fun y hy => ?_)
    · rw [k1 _ _ (by decide), hd_u_n (by omega)]; exact hu x h
    · rw [k1 _ _ (by decide)]
      by_cases e9 : y = n
      · rw [e9, hd_u_s]; rfl
      · rw [hd_u_n (by omega)]; exact hx y (by omega)
set_option maxRecDepth 20000 in
theorem hd_fg4_5 {I : hd_I} {pc : Nat} {st : List Value} {M : hd_M} {N : hd_N} {Q : hd_Q} {a0 a1 a2 a3 y : Option Value} (h : hd_Go I pc [a0, a1, a2, a3, none] st M N Q) : hd_Go I pc [a0, a1, a2, a3, y] st M N Q := by
  refine hd_Go.less (lv' := [a0, a1, a2, a3, none]) (by simp) ?_ h
  intro j v h
  match j, h with
  | 0, h => exact h
  | 1, h => exact h
  | 2, h => exact h
  | 3, h => exact h
  | 4, h => cases h
  | j + 5, h => cases h
set_option maxRecDepth 20000 in
theorem s_fl_l (M : hd_M) (N : hd_N) (d : dy_T) (hd : hm M 1 d) (ok : dy_ok d) (i : Nat) (hi : i < d.1) (p : Nat → Bool) : ∀ (m g : Nat) (M' : hd_M), g + m = 10 → fr flF M M' → (∀ v, v < g → p v = true → ∀ n, n < 21 → M' 50 (n * 10 + v) = as_k d i n v) → hd_Go mX5_fillLooks 2 [some (.ref 0), some (.int (nI i)), some (.int (dy_bits p 10)), some (.int (nI g)), none] [] M' N (fun r M1 N1 => r = none ∧ N1 = N ∧ fr flF M M1 ∧ ∀ v, v < 10 → p v = true → ∀ n, n < 21 → M1 50 (n * 10 + v) = as_k d i n v) := by
  have h7 := ok.1
  intro m
  induction m with
  | zero =>
    intro g M' hg hf hx
    refine hd_go kX5_fillLooks 999 (fun _ => rfl) rfl trivial ?_
    refine hd_ju kX5_fillLooks (fun _ => rfl) (fun c => ?_) (fun c => absurd (nI_le (a := 10) (by omega) (by omega)) c)
    exact hd_en_ kX5_fillLooks (fun _ => rfl) trivial ⟨rfl, rfl, hf, fun v hv => hx v (by omega)⟩
  | succ m ih =>
    intro g M' hg hf hx
    refine hd_go kX5_fillLooks 999 (fun _ => rfl) rfl trivial ?_
    refine hd_ju kX5_fillLooks (fun _ => rfl) (fun c => absurd c (nI_ge (b := 10) (by omega) (by decide))) (fun c => ?_)
    refine hd_go kX5_fillLooks 999 (fun _ => rfl) rfl trivial ?_
    refine hd_ju kX5_fillLooks (fun _ => rfl) (fun c => ?_) (fun c => ?_)
    · refine hd_go kX5_fillLooks 2 (fun _ => rfl) rfl trivial ?_
      rw [nI_1]
      refine ih (g + 1) M' (by omega) hf (fun v hv hp => ?_)
      by_cases e : v = g
      · subst e; exact absurd ((as_bit p v (by omega)).mpr hp) c
      · exact hx v (by omega) hp
    · refine hd_go kX5_fillLooks 999 (fun _ => rfl) rfl trivial ?_
      have hd' : hm M' 1 d := hd.mv (fun c j h1 h2 => hf c j (by show ¬ ((7 ≤ c ∧ c ≤ 12) ∨ c = 50); omega))
      refine hd_ca kX5_fillLooks qX5_fillLooks (fun _ => rfl) (s_copyFrom_7_1 M' N d hd' h7) ?_
      rintro r M1 N1 ⟨rfl, rfl, hf1, hd1⟩
      refine hd_go kX5_fillLooks 999 (fun _ => rfl) rfl trivial ?_
      refine hd_ca kX5_fillLooks qX5_fillLooks (fun _ => rfl) (s_change_7 M1 N1 i 1 (by omega) (by decide) (nI g)) ?_
      rintro r M2 N2 ⟨rfl, rfl, rfl⟩
      refine hd_go kX5_fillLooks 999 (fun _ => rfl) rfl trivial ?_
      have oke : dy_ok (dy_set 1 i (nI g) d) := dy_ok_set ok (by decide)
      have hde := h_set_7 hd1 1 i (by decide) (nI g)
      obtain ⟨M2, hM2⟩ : ∃ M2, M2 = hd_u M1 (8 + 1) i (nI g) := ⟨_, rfl⟩
      rw [← hM2] at hde ⊢
      refine hd_ca kX5_fillLooks qX5_fillLooks (fun _ => rfl) (s_tally_7 M2 N2 _ hde oke.1) ?_
      rintro r M3 N3 ⟨rfl, rfl, hf3, hc3⟩
      refine hd_go kX5_fillLooks 49 (fun _ => rfl) rfl trivial ?_
      have f3 : fr flF M' M3 := ((hf1.mo (fun c j z => by have z : 7 ≤ c ∧ c ≤ 11 := z; exact Or.inl (by omega))).tr (by rw [hM2]; exact fr.rf.up (Or.inl (by decide)))).tr (hf3.mo (fun c j z => by have z : c = 12 := z; exact Or.inl (by omega)))
      have u3 : ∀ x, M3 50 x = M' 50 x := fun x => by rw [hf3 50 x (by show ¬ 50 = 12; decide), hM2, hd_u_n (by omega), hf1 50 x (by show ¬ (7 ≤ 50 ∧ 50 ≤ 11); decide)]
      refine s_fl_1 M N3 d (dy_set 1 i (nI g) d) _ _ g (by omega) _ M' (fun M4 z hf4 hu hk4 => ?_) 21 0 M3 (by omega) (hf.tr f3) (hde.mv (fun c j h1 h2 => hf3 c j (by show ¬ c = 12; omega))) oke hc3 (fun x _ => u3 x) (fun y hy => absurd hy (Nat.not_lt_zero y))
      refine hd_go kX5_fillLooks 2 (fun _ => rfl) rfl trivial ?_
      rw [nI_1]
      refine hd_fg4_5 (ih (g + 1) M4 (by omega) hf4 (fun v hv hp n hn => ?_))
      by_cases e : v = g
      · subst e; exact hk4 n hn
      · rw [hu _ (by omega)]; exact hx v (by omega) hp n hn
set_option maxRecDepth 20000 in
theorem s_fl (M : hd_M) (N : hd_N) (d : dy_T) (hd : hm M 1 d) (ok : dy_ok d) (i : Nat) (hi : i < d.1) (p : Nat → Bool) : hd_Ret mX5_fillLooks [.ref 0, .int (nI i), .int (dy_bits p 10)] M N (fun r M1 N1 => r = none ∧ N1 = N ∧ fr flF M M1 ∧ ∀ v, v < 10 → p v = true → ∀ n, n < 21 → M1 50 (n * 10 + v) = as_k d i n v) := by
  change hd_Go mX5_fillLooks 0 [some (.ref 0), some (.int (nI i)), some (.int (dy_bits p 10)), none, none] [] M N _
  refine hd_go kX5_fillLooks 2 (fun _ => rfl) rfl trivial ?_
  exact s_fl_l M N d hd ok i hi p 10 0 M (by omega) fr.rf (fun v h => absurd h (Nat.not_lt_zero v))
set_option maxRecDepth 20000 in
theorem s_al_l (M : hd_M) (N : hd_N) (n : Nat) (hn : n < 21) (p : Nat → Bool) (f : Nat → Int32) (hf : ∀ v, v < 10 → p v = true → M 50 (n * 10 + v) = f v) (g : Nat) (hg : g < 10) (pg : p g = true) : ∀ (m k a : Nat), k + m = 10 → hd_Go mX5_alikeWith 6 [some (.ref 0), some (.int (nI n)), some (.int (dy_bits p 10)), some (.int (nI g)), some (.int (nI a)), some (.int (nI k))] [] M N (hd_is (.int (nI (as_c f (f g) (as_L p m k) a))) M N) := by
  intro m
  induction m with
  | zero =>
    intro k a hk
    refine hd_go kX5_alikeWith 999 (fun _ => rfl) rfl trivial ?_
    refine hd_ju kX5_alikeWith (fun _ => rfl) (fun c => ?_) (fun c => absurd (nI_le (a := 10) (by omega) (by omega)) c)
    refine hd_go kX5_alikeWith 999 (fun _ => rfl) rfl trivial ?_
    exact hd_en_ kX5_alikeWith (fun _ => rfl) trivial ⟨rfl, rfl, rfl⟩
  | succ m ih =>
    intro k a hk
    rw [as_L]
    refine hd_go kX5_alikeWith 999 (fun _ => rfl) rfl trivial ?_
    refine hd_ju kX5_alikeWith (fun _ => rfl) (fun c => absurd c (nI_ge (b := 10) (by omega) (by decide))) (fun c => ?_)
    refine hd_go kX5_alikeWith 999 (fun _ => rfl) rfl trivial ?_
    refine hd_ju kX5_alikeWith (fun _ => rfl) (fun c => ?_) (fun c => ?_)
    · rw [if_neg (fun z => c ((as_bit p k (by omega)).mpr z))]
      refine hd_go kX5_alikeWith 6 (fun _ => rfl) rfl trivial ?_
      rw [nI_1]
      exact ih (k + 1) a (by omega)
    · have pk := (as_bit p k (by omega)).mp c
      rw [if_pos pk]
      refine hd_go kX5_alikeWith 999 (fun _ => rfl) rfl ?_ ?_
      · rw [ix10, ix10]; exact ⟨⟨trivial, v210 (by omega)⟩, v210 (by omega)⟩
      rw [ix10, ix10, nI_clamp (show n * 10 + k < 2 ^ 31 by omega), nI_clamp (show n * 10 + g < 2 ^ 31 by omega), hf k (by omega) pk, hf g hg pg]
      rw [as_c]
      refine hd_ju kX5_alikeWith (fun _ => rfl) (fun c => ?_) (fun c => ?_)
      · rw [if_neg c]
        refine hd_go kX5_alikeWith 6 (fun _ => rfl) rfl trivial ?_
        rw [nI_1]
        exact ih (k + 1) a (by omega)
      · rw [if_pos c]
        refine hd_go kX5_alikeWith 6 (fun _ => rfl) rfl trivial ?_
        rw [nI_1, nI_1]
        exact ih (k + 1) (a + 1) (by omega)
set_option maxRecDepth 20000 in
theorem s_al (M : hd_M) (N : hd_N) (n : Nat) (hn : n < 21) (p : Nat → Bool) (f : Nat → Int32) (hf : ∀ v, v < 10 → p v = true → M 50 (n * 10 + v) = f v) (g : Nat) (hg : g < 10) (pg : p g = true) : hd_Ret mX5_alikeWith [.ref 0, .int (nI n), .int (dy_bits p 10), .int (nI g)] M N (hd_is (.int (nI (as_c f (f g) (as_L p 10 0) 0))) M N) := by
  change hd_Go mX5_alikeWith 0 [some (.ref 0), some (.int (nI n)), some (.int (dy_bits p 10)), some (.int (nI g)), none, none] [] M N _
  refine hd_go kX5_alikeWith 6 (fun _ => rfl) rfl trivial ?_
  exact s_al_l M N n hn p f hf g hg pg 10 0 0 (by omega)
set_option maxRecDepth 20000 in
theorem s_mo_l (M : hd_M) (N : hd_N) (n : Nat) (hn : n < 21) (p : Nat → Bool) (f : Nat → Int32) (hf : ∀ v, v < 10 → p v = true → M 50 (n * 10 + v) = f v) : ∀ (m k a : Nat), k + m = 10 → a ≤ 10 → hd_Go mX5_mostAlike 5 [some (.ref 0), some (.int (nI n)), some (.int (dy_bits p 10)), some (.int (nI a)), some (.int (nI k))] [] M N (hd_is (.int (nI (as_m f (as_L p 10 0) (as_L p m k) a))) M N) := by
  intro m
  induction m with
  | zero =>
    intro k a hk ha
    refine hd_go kX5_mostAlike 999 (fun _ => rfl) rfl trivial ?_
    refine hd_ju kX5_mostAlike (fun _ => rfl) (fun c => ?_) (fun c => absurd (nI_le (a := 10) (by omega) (by omega)) c)
    refine hd_go kX5_mostAlike 999 (fun _ => rfl) rfl trivial ?_
    exact hd_en_ kX5_mostAlike (fun _ => rfl) trivial ⟨rfl, rfl, rfl⟩
  | succ m ih =>
    intro k a hk ha
    rw [show as_L p (m + 1) k = if p k then k :: as_L p m (k + 1) else as_L p m (k + 1) from rfl]
    refine hd_go kX5_mostAlike 999 (fun _ => rfl) rfl trivial ?_
    refine hd_ju kX5_mostAlike (fun _ => rfl) (fun c => absurd c (nI_ge (b := 10) (by omega) (by decide))) (fun c => ?_)
    refine hd_go kX5_mostAlike 999 (fun _ => rfl) rfl trivial ?_
    refine hd_ju kX5_mostAlike (fun _ => rfl) (fun c => ?_) (fun c => ?_)
    · rw [if_neg (fun z => c ((as_bit p k (by omega)).mpr z))]
      refine hd_go kX5_mostAlike 5 (fun _ => rfl) rfl trivial ?_
      rw [nI_1]
      exact ih (k + 1) a (by omega) ha
    · have pk := (as_bit p k (by omega)).mp c
      rw [if_pos pk]
      refine hd_go kX5_mostAlike 999 (fun _ => rfl) rfl trivial ?_
      refine hd_ci kX5_mostAlike qX5_mostAlike (fun _ => rfl) (s_al M N n hn p f hf k (by omega) pk) ?_
      refine hd_go kX5_mostAlike 5 (fun _ => rfl) rfl trivial ?_
      rw [nI_1]
      have l1 := as_L_len p 10 0
      have l2 := as_c_le f (f k) (as_L p 10 0) 0
      have e : (if nI a < nI (as_c f (f k) (as_L p 10 0) 0) then nI (as_c f (f k) (as_L p 10 0) 0) else nI a) = nI (if a < as_c f (f k) (as_L p 10 0) 0 then as_c f (f k) (as_L p 10 0) 0 else a) := by
        by_cases z : a < as_c f (f k) (as_L p 10 0) 0
        · rw [if_pos z, if_pos (nI_lt z (by omega))]
        · rw [if_neg z, if_neg (nI_nlt (by omega) (by omega))]
      rw [e]
      refine ih (k + 1) _ (by omega) ?_
      split
      · omega
      · exact ha
set_option maxRecDepth 20000 in
theorem s_mo (M : hd_M) (N : hd_N) (n : Nat) (hn : n < 21) (p : Nat → Bool) (f : Nat → Int32) (hf : ∀ v, v < 10 → p v = true → M 50 (n * 10 + v) = f v) : hd_Ret mX5_mostAlike [.ref 0, .int (nI n), .int (dy_bits p 10)] M N (hd_is (.int (nI (as_m f (as_L p 10 0) (as_L p 10 0) 0))) M N) := by
  change hd_Go mX5_mostAlike 0 [some (.ref 0), some (.int (nI n)), some (.int (dy_bits p 10)), none, none] [] M N _
  refine hd_go kX5_mostAlike 5 (fun _ => rfl) rfl trivial ?_
  exact s_mo_l M N n hn p f hf 10 0 0 (by omega) (by decide)
set_option maxRecDepth 20000 in
theorem c_ask_l (M : hd_M) (N : hd_N) (d : dy_T) (i : Nat) (p : Nat → Bool) (w : Int32) (hf : ∀ v, v < 10 → p v = true → ∀ n, n < 21 → M 50 (n * 10 + v) = as_k d i n v) : ∀ (m n fw : Nat) (fo : Int32) (z : Option Value), n + m = 21 → fw ≤ 10 → hd_Go mX5_ask 47 [some (.ref 0), some (.int (nI i)), some (.int w), some (.int (dy_bits p 10)), some (.int (nI fw)), some (.int fo), some (.int (nI n)), z] [] M N (hd_is (.int (dy_fob (as_g (as_w (as_L p 10 0) d i) m n fw fo).2 (nI (as_g (as_w (as_L p 10 0) d i) m n fw fo).1) w)) M N) := by
  intro m
  induction m with
  | zero =>
    intro n fw fo z hn hw
    refine hd_go kX5_ask 999 (fun _ => rfl) rfl trivial ?_
    refine hd_ju kX5_ask (fun _ => rfl) (fun c => ?_) (fun c => absurd (nI_lt (a := 20) (by omega) (by omega)) c)
    refine hd_go kX5_ask 999 (fun _ => rfl) rfl trivial ?_
    refine hd_ci kX5_ask qX5_ask (fun _ => rfl) (s_fob _ _ _ M N) ?_
    exact hd_en_ kX5_ask (fun _ => rfl) trivial ⟨rfl, rfl, rfl⟩
  | succ m ih =>
    intro n fw fo z hn hw
    refine hd_go kX5_ask 999 (fun _ => rfl) rfl trivial ?_
    refine hd_ju kX5_ask (fun _ => rfl) (fun c => absurd c (nI_nlt (a := 20) (by omega) (by decide))) (fun c => ?_)
    refine hd_go kX5_ask 999 (fun _ => rfl) rfl trivial ?_
    refine hd_ci kX5_ask qX5_ask (fun _ => rfl) (s_mo M N n (by omega) p (as_k d i n) (fun v a b => hf v a b n (by omega))) ?_
    have l1 := as_L_len p 10 0
    have l2 := as_m_le (as_k d i n) (as_L p 10 0) (as_L p 10 0) 0 (Nat.zero_le _)
    have ew : as_m (as_k d i n) (as_L p 10 0) (as_L p 10 0) 0 = as_w (as_L p 10 0) d i n := rfl
    rw [ew] at l2 ⊢
    rw [as_g]
    obtain ⟨W, hW⟩ : ∃ W, W = as_w (as_L p 10 0) d i n := ⟨_, rfl⟩
    rw [← hW] at l2 ⊢
    refine hd_go kX5_ask 999 (fun _ => rfl) rfl trivial ?_
    by_cases c2 : W < fw
    · rw [if_pos c2]
      refine hd_ju kX5_ask (fun _ => rfl) (fun c => absurd c (nI_ge c2 (by omega))) (fun c => ?_)
      refine hd_go kX5_ask 47 (fun _ => rfl) rfl trivial ?_
      rw [nI_1]
      exact ih (n + 1) W (nI n) _ (by omega) (by omega)
    · rw [if_neg c2]
      refine hd_ju kX5_ask (fun _ => rfl) (fun c => ?_) (fun c => absurd (nI_le (by omega) (by omega)) c)
      refine hd_go kX5_ask 47 (fun _ => rfl) rfl trivial ?_
      rw [nI_1]
      exact ih (n + 1) fw fo _ (by omega) hw
set_option maxRecDepth 20000 in
theorem c_ask (i w : Int32) : cA mX5_ask [.int i, .int w] (an_ask i w) := by
  intro M N st hI hO
  change hd_Go mX5_ask 0 [some (.ref 0), some (.int i), some (.int w), none, none, none, none, none] [] M N _
  have h7 := hO.1.1
  have bad : ¬ (an_th i st.1 ∧ wi w 0 1) → hd_Go mX5_ask 17 [some (.ref 0), some (.int i), some (.int w), none, none, none, none, none] [] M N (fun r M1 N1 => r = some (an_ask i w st).1 ∧ N1 = N ∧ fr clsF M M1 ∧ CI M1 (an_ask i w st).2) := by
    intro q
    refine hd_go kX5_ask 999 (fun _ => rfl) rfl trivial ?_
    refine hd_en_ kX5_ask (fun _ => rfl) trivial ?_
    unfold an_ask
    rw [if_neg q]
    exact ⟨rfl, rfl, fr.rf, hI⟩
  unfold an_ask at bad ⊢
  refine hd_go kX5_ask 999 (fun _ => rfl) rfl trivial ?_
  refine hd_ci kX5_ask qX5_ask (fun _ => rfl) (s_isThing _ M N) ?_
  rw [hI.1.1]
  refine hd_ju kX5_ask (fun _ => rfl) (fun q => bad (fun z => hd_b0.mp q z.1)) (fun q => ?_)
  have q1 : an_th i st.1 := hd_b1.mp q
  refine hd_go kX5_ask 999 (fun _ => rfl) rfl trivial ?_
  refine hd_ci kX5_ask qX5_ask (fun _ => rfl) (s_isWithin _ _ _ M N) ?_
  refine hd_ju kX5_ask (fun _ => rfl) (fun q => ?_) (fun q => bad (fun z => hd_b0.mp q z.2))
  have q2 := hd_b1.mp q
  rw [if_pos ⟨q1, q2⟩]
  obtain ⟨j, hj, rfl⟩ := an_th_nat q1 h7
  rw [nI_clamp (by omega)]
  refine hd_go kX5_ask 999 (fun _ => rfl) rfl trivial ?_
  refine hd_ca kX5_ask qX5_ask (fun _ => rfl) (s_traits M N _ hI.1 hO.1 _ hI.2.1 hO.2.1 j 1 hj (by decide) 9 (by decide)) ?_
  rintro r M1 N1 ⟨rfl, rfl, hf1⟩
  refine hd_go kX5_ask 999 (fun _ => rfl) rfl trivial ?_
  have hd1 : hm M1 1 st.1 := hI.1.mv (fun c j h1 h2 => hf1 c j (by show ¬ (7 ≤ c ∧ c ≤ 12); omega))
  refine hd_ca kX5_ask qX5_ask (fun _ => rfl) (s_fl M1 N1 st.1 hd1 hO.1 j hj (as_p st.2.1 st.1 j)) ?_
  rintro r M2 N2 ⟨rfl, rfl, hf2, hx2⟩
  refine hd_go kX5_ask 999 (fun _ => rfl) rfl trivial ?_
  refine hd_ci kX5_ask qX5_ask (fun _ => rfl) (s_bc _ M2 N2) ?_
  show hd_Go mX5_ask 38 [some (.ref 0), some (.int (nI j)), some (.int w), some (.int (dy_bits (as_p st.2.1 st.1 j) 10)), none, none, none, none] [.int (bc (dy_bits (as_p st.2.1 st.1 j) 10))] M2 N2 _
  rw [as_bc]
  refine hd_go kX5_ask 47 (fun _ => rfl) rfl trivial ?_
  refine hd_Go.post ?_ (c_ask_l M2 N2 st.1 j (as_p st.2.1 st.1 j) w hx2 21 0 _ (-4) none (by omega) (as_L_len _ 10 0))
  rintro r M3 N3 ⟨h1, rfl, rfl⟩
  have hf : fr (fun c _ => (7 ≤ c ∧ c ≤ 12) ∨ c = 50) M M3 := (hf1.mo (fun c j z => Or.inl z)).tr hf2
  refine ⟨h1, rfl, hf.mo (fun c j z => by have z : (7 ≤ c ∧ c ≤ 12) ∨ c = 50 := z; show c ≤ 50; omega), hI.mv (hf.mo (fun c j z => by have z : (7 ≤ c ∧ c ≤ 12) ∨ c = 50 := z; show (6 ≤ c ∧ c ≤ 12) ∨ 48 ≤ c; omega))⟩
