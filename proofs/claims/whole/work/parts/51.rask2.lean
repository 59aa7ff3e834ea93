/-! ASK, THE REFERENCE'S SIDE; printed by wip/whole/ask2.py -/
set_option maxRecDepth 20000 in
theorem hd_fg7_4 {I : hd_I} {pc : Nat} {st : List Value} {M : hd_M} {N : hd_N} {Q : hd_Q} {a0 a1 a2 a3 a4 a5 a6 y0 y1 y2 y3 : Option Value} (h : hd_Go I pc [a0, a1, a2, a3, a4, a5, a6, none, none, none, none] st M N Q) : hd_Go I pc [a0, a1, a2, a3, a4, a5, a6, y0, y1, y2, y3] st M N Q := by
  refine hd_Go.less (lv' := [a0, a1, a2, a3, a4, a5, a6, none, none, none, none]) (by simp) ?_ h
  intro j v h
  match j, h with
  | 0, h => exact h
  | 1, h => exact h
  | 2, h => exact h
  | 3, h => exact h
  | 4, h => exact h
  | 5, h => exact h
  | 6, h => exact h
  | 7, h => cases h
  | 8, h => cases h
  | 9, h => cases h
  | 10, h => cases h
  | j + 11, h => cases h
set_option maxRecDepth 20000 in
theorem hd_fg5_6 {I : hd_I} {pc : Nat} {st : List Value} {M : hd_M} {N : hd_N} {Q : hd_Q} {a0 a1 a2 a3 a4 y0 y1 y2 y3 y4 y5 : Option Value} (h : hd_Go I pc [a0, a1, a2, a3, a4, none, none, none, none, none, none] st M N Q) : hd_Go I pc [a0, a1, a2, a3, a4, y0, y1, y2, y3, y4, y5] st M N Q := by
  refine hd_Go.less (lv' := [a0, a1, a2, a3, a4, none, none, none, none, none, none]) (by simp) ?_ h
  intro j v h
  match j, h with
  | 0, h => exact h
  | 1, h => exact h
  | 2, h => exact h
  | 3, h => exact h
  | 4, h => exact h
  | 5, h => cases h
  | 6, h => cases h
  | 7, h => cases h
  | 8, h => cases h
  | 9, h => cases h
  | 10, h => cases h
  | j + 11, h => cases h
set_option maxRecDepth 20000 in
theorem ls_drop {L : List Nat} {k : Nat} (h : k < L.length) : L.drop k = L.getD k 0 :: L.drop (k + 1) := by
  rw [List.drop_eq_getElem_cons h, List.getD_eq_getElem?_getD, List.getElem?_eq_getElem h]
  rfl
set_option maxRecDepth 20000 in
theorem ix21 (a n : Nat) : (21 : Int32) * nI a + nI n = nI (21 * a + n) := by
  rw [show (21 : Int32) = nI 21 from rfl, pk_mul, nI_add]
/-- the rows of the goods that may be -/
def bgR (M : hd_M) (d : dy_T) (i : Nat) (L : List Nat) : Prop := ∀ a, a < L.length → ∀ n, n < 21 → M 60 (21 * a + n) = as_k d i n (L.getD a 0)
set_option maxRecDepth 20000 in
theorem r_b_l (M : hd_M) (N : hd_N) (d : dy_T) (i : Nat) (w : Int32) (L : List Nat) (hL : L.length ≤ 10) (hb : bgR M d i L) (n : Nat) (hn : n < 21) (few wst fo : Int32) (a : Nat) (ha : a < L.length) (Q : hd_Q) : ∀ (m b c : Nat), b + m = L.length → c ≤ b → hd_Go mX6_ask 176 [some (.ref 51), some (.int (nI i)), some (.int w), some (.int (nI L.length)), some (.int few), some (.int fo), some (.int (nI n)), some (.int wst), some (.int (nI a)), some (.int (nI (as_c (as_k d i n) (as_k d i n (L.getD a 0)) (L.drop b) c))), some (.int (nI L.length))] [] M N Q → hd_Go mX6_ask 122 [some (.ref 51), some (.int (nI i)), some (.int w), some (.int (nI L.length)), some (.int few), some (.int fo), some (.int (nI n)), some (.int wst), some (.int (nI a)), some (.int (nI c)), some (.int (nI b))] [] M N Q := by
  intro m
  induction m with
  | zero =>
    intro b c hm hc hk
    have hm : b = L.length := by omega
    subst hm
    rw [List.drop_length] at hk
    refine hd_go kX6_ask 999 (fun _ => rfl) rfl trivial ?_
    exact hd_ju kX6_ask (fun _ => rfl) (fun c => hk) (fun c => absurd (nI_le (by omega) (by omega)) c)
  | succ m ih =>
    intro b c hm hc hk
    rw [ls_drop (by omega), as_c] at hk
    refine hd_go kX6_ask 999 (fun _ => rfl) rfl trivial ?_
    refine hd_ju kX6_ask (fun _ => rfl) (fun c9 => absurd c9 (nI_ge (by omega) (by omega))) (fun c9 => ?_)
    refine hd_go kX6_ask 999 (fun _ => rfl) rfl ?_ ?_
    · rw [ix21, ix21]; exact ⟨⟨trivial, v210 (by omega)⟩, v210 (by omega)⟩
    rw [ix21, ix21, nI_clamp (show 21 * a + n < 2 ^ 31 by omega), nI_clamp (show 21 * b + n < 2 ^ 31 by omega), hb a ha n hn, hb b (by omega) n hn]
    refine hd_ju kX6_ask (fun _ => rfl) (fun q => ?_) (fun q => ?_)
    · rw [if_neg (fun z => q z.symm)] at hk
      refine hd_go kX6_ask 999 (fun _ => rfl) rfl trivial ?_
      refine hd_ci kX6_ask qX6_ask (fun _ => rfl) (r_flag 0 M N) ?_
      refine hd_go kX6_ask 122 (fun _ => rfl) rfl trivial ?_
      rw [show hd_b (¬ (0 : Int32) = 0) = 0 from rfl, Int32.add_zero, nI_1]
      exact ih (b + 1) c (by omega) (by omega) hk
    · rw [if_pos q.symm] at hk
      refine hd_go kX6_ask 999 (fun _ => rfl) rfl trivial ?_
      refine hd_ci kX6_ask qX6_ask (fun _ => rfl) (r_flag 1 M N) ?_
      refine hd_go kX6_ask 122 (fun _ => rfl) rfl trivial ?_
      rw [show hd_b (¬ (1 : Int32) = 0) = 1 from rfl, nI_1, nI_1]
      exact ih (b + 1) (c + 1) (by omega) (by omega) hk
set_option maxRecDepth 20000 in
theorem r_a_l (M : hd_M) (N : hd_N) (d : dy_T) (i : Nat) (w : Int32) (L : List Nat) (hL : L.length ≤ 10) (hb : bgR M d i L) (n : Nat) (hn : n < 21) (few fo : Int32) (Q : hd_Q) : ∀ (m a wst : Nat), a + m = L.length → wst ≤ 10 → hd_Go mX6_ask 198 [some (.ref 51), some (.int (nI i)), some (.int w), some (.int (nI L.length)), some (.int few), some (.int fo), some (.int (nI n)), some (.int (nI (as_m (as_k d i n) L (L.drop a) wst))), some (.int (nI L.length)), none, none] [] M N Q → hd_Go mX6_ask 110 [some (.ref 51), some (.int (nI i)), some (.int w), some (.int (nI L.length)), some (.int few), some (.int fo), some (.int (nI n)), some (.int (nI wst)), some (.int (nI a)), none, none] [] M N Q := by
  intro m
  induction m with
  | zero =>
    intro a wst hm hw hk
    have hm : a = L.length := by omega
    subst hm
    rw [List.drop_length] at hk
    refine hd_go kX6_ask 999 (fun _ => rfl) rfl trivial ?_
    exact hd_ju kX6_ask (fun _ => rfl) (fun c => hk) (fun c => absurd (nI_le (by omega) (by omega)) c)
  | succ m ih =>
    intro a wst hm hw hk
    rw [ls_drop (by omega), as_m] at hk
    refine hd_go kX6_ask 999 (fun _ => rfl) rfl trivial ?_
    refine hd_ju kX6_ask (fun _ => rfl) (fun c => absurd c (nI_ge (by omega) (by omega))) (fun c => ?_)
    refine hd_go kX6_ask 122 (fun _ => rfl) rfl trivial ?_
    refine r_b_l M N d i w L hL hb n hn few _ fo a (by omega) Q L.length 0 0 (by omega) (Nat.le_refl _) ?_
    rw [List.drop_zero]
    have l2 := as_c_le (as_k d i n) (as_k d i n (L.getD a 0)) L 0
    obtain ⟨C, hC⟩ : ∃ C, C = as_c (as_k d i n) (as_k d i n (L.getD a 0)) L 0 := ⟨_, rfl⟩
    rw [← hC] at l2 hk ⊢
    refine hd_go kX6_ask 999 (fun _ => rfl) rfl trivial ?_
    by_cases q : wst < C
    · rw [if_pos q] at hk
      refine hd_ju kX6_ask (fun _ => rfl) (fun c => absurd c (nI_ge q (by omega))) (fun c => ?_)
      refine hd_go kX6_ask 190 (fun _ => rfl) rfl trivial ?_
      refine hd_go kX6_ask 110 (fun _ => rfl) rfl trivial ?_
      rw [nI_1]
      exact hd_fg2 (ih (a + 1) C (by omega) (by omega) hk)
    · rw [if_neg q] at hk
      refine hd_ju kX6_ask (fun _ => rfl) (fun c => ?_) (fun c => absurd (nI_le (by omega) (by omega)) c)
      refine hd_go kX6_ask 190 (fun _ => rfl) rfl trivial ?_
      refine hd_go kX6_ask 110 (fun _ => rfl) rfl trivial ?_
      rw [nI_1]
      exact hd_fg2 (ih (a + 1) wst (by omega) (by omega) hk)
set_option maxRecDepth 20000 in
theorem r_n_l (M : hd_M) (N : hd_N) (d : dy_T) (i : Nat) (w : Int32) (L : List Nat) (hL : L.length ≤ 10) (hb : bgR M d i L) : ∀ (m n fw : Nat) (fo : Int32), n + m = 21 → fw ≤ 10 → hd_Go mX6_ask 97 [some (.ref 51), some (.int (nI i)), some (.int w), some (.int (nI L.length)), some (.int (nI fw)), some (.int fo), some (.int (nI n)), none, none, none, none] [] M N (hd_is (.int (dy_fob (as_g (as_w L d i) m n fw fo).2 (nI (as_g (as_w L d i) m n fw fo).1) w)) M N) := by
  intro m
  induction m with
  | zero =>
    intro n fw fo hn hw
    refine hd_go kX6_ask 999 (fun _ => rfl) rfl trivial ?_
    refine hd_ju kX6_ask (fun _ => rfl) (fun c => ?_) (fun c => absurd (nI_lt (a := 20) (by omega) (by omega)) c)
    refine hd_go kX6_ask 999 (fun _ => rfl) rfl trivial ?_
    show hd_Go mX6_ask _ _ _ M N (hd_is (.int (dy_fob fo (nI fw) w)) M N)
    unfold dy_fob
    refine hd_ju kX6_ask (fun _ => rfl) (fun c => ?_) (fun c => ?_)
    · refine hd_go kX6_ask 999 (fun _ => rfl) rfl trivial ?_
      refine hd_ju kX6_ask (fun _ => rfl) (fun c2 => ?_) (fun c2 => ?_)
      · rw [if_neg (fun z => z.elim c2 c)]
        refine hd_go kX6_ask 999 (fun _ => rfl) rfl trivial ?_
        exact hd_en_ kX6_ask (fun _ => rfl) trivial ⟨rfl, rfl, rfl⟩
      · rw [if_pos (Or.inl c2)]
        refine hd_go kX6_ask 999 (fun _ => rfl) rfl trivial ?_
        exact hd_en_ kX6_ask (fun _ => rfl) trivial ⟨rfl, rfl, rfl⟩
    · rw [if_pos (Or.inr c), c]
      refine hd_go kX6_ask 999 (fun _ => rfl) rfl trivial ?_
      exact hd_en_ kX6_ask (fun _ => rfl) trivial ⟨rfl, rfl, rfl⟩
  | succ m ih =>
    intro n fw fo hn hw
    refine hd_go kX6_ask 999 (fun _ => rfl) rfl trivial ?_
    refine hd_ju kX6_ask (fun _ => rfl) (fun c => absurd c (nI_nlt (a := 20) (by omega) (by decide))) (fun c => ?_)
    refine hd_go kX6_ask 110 (fun _ => rfl) rfl trivial ?_
    refine r_a_l M N d i w L hL hb n (by omega) _ fo _ L.length 0 0 (by omega) (by omega) ?_
    rw [List.drop_zero]
    have l2 := as_m_le (as_k d i n) L L 0 (Nat.zero_le _)
    have ew : as_m (as_k d i n) L L 0 = as_w L d i n := rfl
    rw [ew] at l2 ⊢
    rw [as_g]
    obtain ⟨W, hW⟩ : ∃ W, W = as_w L d i n := ⟨_, rfl⟩
    rw [← hW] at l2 ⊢
    refine hd_go kX6_ask 999 (fun _ => rfl) rfl trivial ?_
    by_cases c2 : W < fw
    · rw [if_pos c2]
      refine hd_ju kX6_ask (fun _ => rfl) (fun c => absurd c (nI_ge c2 (by omega))) (fun c => ?_)
      refine hd_go kX6_ask 97 (fun _ => rfl) rfl trivial ?_
      rw [nI_1]
      exact hd_fg7_4 (ih (n + 1) W (nI n) (by omega) (by omega))
    · rw [if_neg c2]
      refine hd_ju kX6_ask (fun _ => rfl) (fun c => ?_) (fun c => absurd (nI_le (by omega) (by omega)) c)
      refine hd_go kX6_ask 97 (fun _ => rfl) rfl trivial ?_
      rw [nI_1]
      exact hd_fg7_4 (ih (n + 1) fw fo (by omega) hw)
set_option maxRecDepth 20000 in
theorem r_cp_l (N : hd_N) (M : hd_M) (i : Nat) (w : Int32) (q v : Nat) (hq : q < 10) (f : Nat → Int32) (hf : ∀ x, x < 21 → M 59 x = f x) (Q : hd_Q) (hk : ∀ M1, fr (fun c x => c = 60 ∧ 21 * q ≤ x) M M1 → (∀ x, x < 21 → M1 60 (21 * q + x) = f x) → hd_Go mX6_ask 78 [some (.ref 51), some (.int (nI i)), some (.int w), some (.int (nI q)), some (.int (nI v)), none, none, none, none, none, none] [] M1 N Q) : ∀ (m n : Nat) (M' : hd_M), n + m = 21 → fr (fun c x => c = 60 ∧ 21 * q ≤ x) M M' → (∀ x, x < n → M' 60 (21 * q + x) = f x) → hd_Go mX6_ask 46 [some (.ref 51), some (.int (nI i)), some (.int w), some (.int (nI q)), some (.int (nI v)), some (.int (nI n)), none, none, none, none, none] [] M' N Q := by
  intro m
  induction m with
  | zero =>
    intro n M' hn hfr hx
    refine hd_go kX6_ask 999 (fun _ => rfl) rfl trivial ?_
    refine hd_ju kX6_ask (fun _ => rfl) (fun c => ?_) (fun c => absurd (nI_lt (a := 20) (by omega) (by omega)) c)
    exact hd_fg5_6 (hk M' hfr (fun x h => hx x (by omega)))
  | succ m ih =>
    intro n M' hn hfr hx
    refine hd_go kX6_ask 999 (fun _ => rfl) rfl trivial ?_
    refine hd_ju kX6_ask (fun _ => rfl) (fun c => absurd c (nI_nlt (a := 20) (by omega) (by decide))) (fun c => ?_)
    refine hd_go kX6_ask 999 (fun _ => rfl) rfl ?_ ?_
    · rw [ix21]; exact ⟨⟨trivial, v21 (by omega)⟩, v210 (by omega)⟩
    rw [ix21, nI_clamp (show 21 * q + n < 2 ^ 31 by omega), nI_clamp (show n < 2 ^ 31 by omega), hfr 59 n (by show ¬ (59 = 60 ∧ 21 * q ≤ n); omega), hf n (by omega), nI_1]
    refine ih (n + 1) _ (by omega) (hfr.up (by show 60 = 60 ∧ 21 * q ≤ 21 * q + n; omega)) (fun x h => ?_)
    by_cases e : x = n
    · rw [e, hd_u_s]
    · rw [hd_u_n (by omega)]; exact hx x (by omega)
set_option maxRecDepth 20000 in
theorem r_v_l (M : hd_M) (d : dy_T) (hd : rf M 52 0 d) (ok : dy_ok d) (se : se_T) (hs : seR M 0 se) (sok : se_ok se) (i : Nat) (hi : i < d.1) (w : Int32) (Q : hd_Q) (L : List Nat) (hL : L.length ≤ 10) (hk : ∀ (M1 : hd_M) (N1 : hd_N) (z : Int32), fr idR M M1 → bgR M1 d i L → hd_Go mX6_ask 87 [some (.ref 51), some (.int (nI i)), some (.int w), some (.int (nI L.length)), some (.int z), none, none, none, none, none, none] [] M1 N1 Q) : ∀ (m v : Nat) (A : List Nat) (N' : hd_N) (M' : hd_M), v + m = 10 → A ++ as_L (as_p se d i) m v = L → A.length ≤ v → fr idR M M' → bgR M' d i A → hd_Go mX6_ask 22 [some (.ref 51), some (.int (nI i)), some (.int w), some (.int (nI A.length)), some (.int (nI v)), none, none, none, none, none, none] [] M' N' Q := by
  have h7 := ok.1
  intro m
  induction m with
  | zero =>
    intro v A N' M' hv hA hl hf hb
    have hA : A = L := by rw [← hA]; exact (List.append_nil A).symm
    subst hA
    refine hd_go kX6_ask 999 (fun _ => rfl) rfl trivial ?_
    exact hd_ju kX6_ask (fun _ => rfl) (fun c => hk M' N' _ hf hb) (fun c => absurd (nI_lt (a := 9) (by omega) (by omega)) c)
  | succ m ih =>
    intro v A N' M' hv hA hl hf hb
    rw [as_L] at hA
    refine hd_go kX6_ask 999 (fun _ => rfl) rfl trivial ?_
    refine hd_ju kX6_ask (fun _ => rfl) (fun c => absurd c (nI_nlt (a := 9) (by omega) (by decide))) (fun c => ?_)
    refine hd_go kX6_ask 999 (fun _ => rfl) rfl trivial ?_
    rw [show (4 : Int32) * nI i + 1 = nI (4 * i + 1) from ix4 i 1]
    have hs' : seR M' 0 se := hs.mv sok.1 (fun j _ _ => hf 52 j (by simp))
    refine hd_ca kX6_ask qX6_ask (fun _ => rfl) (r_so' M' N' d (idR.rf hf hd h7) ok se hs' sok i 1 hi (by decide) (nI v)) ?_
    rintro r M1 N1 ⟨rfl, hf1, hm1⟩
    have hf1' : fr idR M' M1 := hf1.mo (fun c j z => z.elim Or.inl (fun z => Or.inr (Or.inr (Or.inl (by omega)))))
    have hb1 : bgR M1 d i A := fun a ha n hn => by rw [hf1 60 _ (by show ¬ (60 = 53 ∨ 60 = 59); decide)]; exact hb a ha n hn
    by_cases hp : as_p se d i v = true
    · rw [if_pos hp] at hA
      refine hd_ju kX6_ask (fun _ => rfl) (fun c => absurd hp (hd_b0.mp c)) (fun c => ?_)
      refine hd_go kX6_ask 46 (fun _ => rfl) rfl trivial ?_
      refine r_cp_l N1 M1 i w A.length v (by omega) (fun n => as_k d i n v) (fun x h => hm1 x h) _ (fun M2 hf2 hx2 => ?_) 21 0 M1 (by omega) fr.rf (fun x h => absurd h (Nat.not_lt_zero x))
      refine hd_go kX6_ask 22 (fun _ => rfl) rfl trivial ?_
      have el : nI A.length + 1 = nI (A ++ [v]).length := by rw [nI_1, List.length_append]; rfl
      rw [nI_1 v, el]
      refine ih (v + 1) (A ++ [v]) N1 M2 (by omega) (by rw [← hA, List.append_assoc]; rfl) (by rw [List.length_append]; show A.length + 1 ≤ v + 1; omega) ((hf.tr hf1').tr (hf2.mo (fun c j z => by have z : c = 60 ∧ _ := z; exact Or.inr (Or.inr (Or.inl (by omega)))))) (fun a ha n hn => ?_)
      rw [List.length_append] at ha
      have ha : a < A.length + 1 := ha
      by_cases e : a = A.length
      · subst e
        rw [hx2 n hn, List.getD_eq_getElem?_getD, List.getElem?_append_right (Nat.le_refl _), Nat.sub_self]
        rfl
      · rw [hf2 60 _ (by show ¬ (60 = 60 ∧ 21 * A.length ≤ 21 * a + n); omega), hb1 a (by omega) n hn, List.getD_eq_getElem?_getD, List.getD_eq_getElem?_getD, List.getElem?_append_left (by omega)]
    · rw [if_neg hp] at hA
      refine hd_ju kX6_ask (fun _ => rfl) (fun c => ?_) (fun c => absurd (hd_b1.mp c) hp)
      refine hd_go kX6_ask 22 (fun _ => rfl) rfl trivial ?_
      rw [nI_1]
      exact ih (v + 1) A N1 M1 (by omega) hA (by omega) (hf.tr hf1') hb1
set_option maxRecDepth 20000 in
theorem d_ask (i w : Int32) : rA mX6_ask [.int i, .int w] (an_ask i w) := by
  intro M N st hI hO
  change hd_Go mX6_ask 0 [some (.ref 51), some (.int i), some (.int w), none, none, none, none, none, none, none, none] [] M N _
  have h7 := hO.1.1
  have bad : ¬ (an_th i st.1 ∧ wi w 0 1) → hd_Go mX6_ask 15 [some (.ref 51), some (.int i), some (.int w), none, none, none, none, none, none, none, none] [] M N (fun r M1 _ => r = some (an_ask i w st).1 ∧ fr refF M M1 ∧ RI M1 (an_ask i w st).2) := by
    intro q
    refine hd_go kX6_ask 999 (fun _ => rfl) rfl trivial ?_
    refine hd_en_ kX6_ask (fun _ => rfl) trivial ?_
    unfold an_ask
    rw [if_neg q]
    exact ⟨rfl, fr.rf, hI⟩
  unfold an_ask at bad ⊢
  refine hd_go kX6_ask 999 (fun _ => rfl) rfl trivial ?_
  refine hd_ci kX6_ask qX6_ask (fun _ => rfl) (r_isTh _ M N st.1 hI.1.1 h7) ?_
  refine hd_ju kX6_ask (fun _ => rfl) (fun q => bad (fun z => hd_b0.mp q z.1)) (fun q => ?_)
  have q1 : an_th i st.1 := hd_b1.mp q
  refine hd_go kX6_ask 999 (fun _ => rfl) rfl trivial ?_
  refine hd_ci kX6_ask qX6_ask (fun _ => rfl) (r_isPart _ M N) ?_
  refine hd_ju kX6_ask (fun _ => rfl) (fun q => ?_) (fun q => bad (fun z => hd_b0.mp q z.2))
  have q2 := hd_b1.mp q
  rw [if_pos ⟨q1, q2⟩]
  obtain ⟨j, hj, rfl⟩ := an_th_nat q1 h7
  rw [nI_clamp (by omega)]
  have l10 := as_L_len (as_p st.2.1 st.1 j) 10 0
  refine hd_go kX6_ask 22 (fun _ => rfl) rfl trivial ?_
  refine r_v_l M st.1 hI.1 hO.1 st.2.1 hI.2.1 hO.2.1 j hj w _ (as_L (as_p st.2.1 st.1 j) 10 0) l10 (fun M1 N1 z hf hb => ?_) 10 0 [] N M (by omega) rfl (Nat.le_refl _) fr.rf (fun a ha => absurd ha (Nat.not_lt_zero a))
  refine hd_go kX6_ask 97 (fun _ => rfl) rfl trivial ?_
  refine hd_Go.post ?_ (r_n_l M1 N1 st.1 j w _ l10 hb 21 0 _ (-4) (by omega) l10)
  rintro r M2 N2 ⟨h1, rfl, rfl⟩
  exact ⟨h1, hI.q hO hf⟩
