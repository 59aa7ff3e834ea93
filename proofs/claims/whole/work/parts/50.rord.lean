/-! ORDER, THE REFERENCE'S SIDE; printed by wip/whole/ord2.py -/
/-- a day is told by its first n things alone -/
def dy_eq (d e : dy_T) : Prop := d.1 = e.1 ∧ d.2.1 = e.2.1 ∧ d.2.2.1 = e.2.2.1 ∧ d.2.2.2.1 = e.2.2.2.1 ∧ d.2.2.2.2.1 = e.2.2.2.2.1 ∧ ∀ c i, i < d.1 → d.2.2.2.2.2 c i = e.2.2.2.2.2 c i
set_option maxRecDepth 20000 in
theorem dy_eq_ho {d e : dy_T} (ok : dy_ok d) (h : dy_eq d e) : dy_eq (dy_ho false d) (dy_ho false e) := by
  obtain ⟨h1, h2, h3, h4, h5, h6⟩ := h
  have hch : ∀ i, i < d.1 → dy_ch d i = dy_ch e i := by
    intro i hi
    unfold dy_ch dy_ld
    rw [h6 0 i hi, h6 1 i hi, h6 2 i hi, ← h1, wsm_cong (w := d.2.2.2.2.2 2) (w' := e.2.2.2.2.2 2) _ _ (fun x _ hx => h6 2 x (by omega))]
  have hop : ∀ c i, i < d.1 → (dy_op false d).2.2.2.2.2 c i = (dy_op false e).2.2.2.2.2 c i := by
    intro c i hi
    unfold dy_op
    rw [h2]
    by_cases q : false = false ∧ 0 < e.2.1
    · rw [if_pos q, if_pos q]
      show (if c = 3 ∧ i = e.2.1 - 1 then dy_lst (d.2.2.2.2.2 0 i) else d.2.2.2.2.2 c i) = (if c = 3 ∧ i = e.2.1 - 1 then dy_lst (e.2.2.2.2.2 0 i) else e.2.2.2.2.2 c i)
      rw [h6 0 i hi, h6 c i hi]
    · rw [if_neg q, if_neg q]; exact h6 c i hi
  have hol : (dy_op false d).2.1 = (dy_op false e).2.1 := by
    unfold dy_op
    rw [h2]
    by_cases q : false = false ∧ 0 < e.2.1
    · rw [if_pos q, if_pos q]
    · rw [if_neg q, if_neg q]; exact h2
  refine ⟨h1, hol, ?_, h4, ?_, fun c i hi => ?_⟩
  · show dy_clm _ = dy_clm _
    rw [← h1, h3, h4]
    exact congrArg dy_clm (dy_tik_cong _ _ _ (fun x _ hx => ⟨hop 3 x (by omega), fun _ => hch x (by omega)⟩))
  · show d.2.2.2.2.1 + 1 = e.2.2.2.2.1 + 1
    rw [h5]
  · show (if c = 3 ∧ 0 < (dy_op false d).2.2.2.2.2 3 i then (dy_op false d).2.2.2.2.2 3 i - 1 else (dy_op false d).2.2.2.2.2 c i) = (if c = 3 ∧ 0 < (dy_op false e).2.2.2.2.2 3 i then (dy_op false e).2.2.2.2.2 3 i - 1 else (dy_op false e).2.2.2.2.2 c i)
    rw [hop 3 i hi, hop c i hi]
set_option maxRecDepth 20000 in
theorem dy_eq_md : ∀ (n : Nat) (d e : dy_T), dy_ok d → dy_eq d e → dy_md n d = dy_md n e := by
  intro n
  induction n with
  | zero => intro d e ok h; exact h.2.2.1
  | succ n ih => intro d e ok h; exact ih _ _ (dy_ok_ho ok) (dy_eq_ho ok h)
set_option maxRecDepth 20000 in
theorem dy_md_prm {d : dy_T} {n : Nat} {p q : Nat → Nat} (ok : dy_ok d) (ha : dy_all d) (hp : ∀ x, x < d.1 → p x < d.1) (h : ∀ x, x < d.1 → p x = q x) : dy_md n (dy_prm p d) = dy_md n (dy_prm q d) := by
  refine dy_eq_md n _ _ (dy_ok_prm ok ha hp) ⟨rfl, rfl, rfl, rfl, rfl, fun c i hi => ?_⟩
  show d.2.2.2.2.2 c (p i) = d.2.2.2.2.2 c (q i)
  rw [h i hi]
set_option maxRecDepth 20000 in
/-- judging leaves the best row -/
theorem r_ju58 (M0 M : hd_M) (N : hd_N) (b o : Int32) (h : jdR M0 M b o) (code x : Int32) : hd_Ret mX6_judges [.ref 51, .int code, .int x] M N (fun r M1 N1 => r = none ∧ N1 = N ∧ jdR M0 M1 (if b < x then x else b) (if b < x then code else o) ∧ M1 58 = M 58) := by
  change hd_Go mX6_judges 0 [some (.ref 51), some (.int code), some (.int x)] [] M N _
  obtain ⟨h1, h2, h3⟩ := h
  refine hd_go kX6_judges 999 (fun _ => rfl) rfl trivial ?_
  rw [h3]
  refine hd_ju kX6_judges (fun _ => rfl) (fun c => ?_) (fun c => ?_)
  · refine hd_go kX6_judges 999 (fun _ => rfl) rfl trivial ?_
    rw [h2, hd_u_n (show ¬ (51 = 51 ∧ 15 = 14) by decide), h3]
    refine hd_ju kX6_judges (fun _ => rfl) (fun c2 => ?_) (fun c2 => absurd c c2)
    refine hd_go kX6_judges 999 (fun _ => rfl) rfl trivial ?_
    rw [hd_u_n (show ¬ (51 = 51 ∧ 15 = 14) by decide), h3]
    refine hd_en_ kX6_judges (fun _ => rfl) trivial ⟨rfl, rfl, ⟨(h1.up (k := 51) (j := 14) j14).up (k := 51) (j := 15) j15, ?_, ?_⟩, funext fun z => by rw [hd_u_n (by omega), hd_u_n (by omega)]⟩
    · rw [if_neg (Int32.not_lt.mpr c), hd_u_n (by omega), hd_u_s]
    · rw [if_neg (Int32.not_lt.mpr c), hd_u_s]
  · refine hd_go kX6_judges 999 (fun _ => rfl) rfl trivial ?_
    refine hd_go kX6_judges 999 (fun _ => rfl) rfl trivial ?_
    rw [hd_u_n (show ¬ (51 = 51 ∧ 15 = 14) by decide), h3]
    refine hd_ju kX6_judges (fun _ => rfl) (fun c2 => absurd c2 c) (fun c2 => ?_)
    refine hd_go kX6_judges 999 (fun _ => rfl) rfl trivial ?_
    refine hd_go kX6_judges 999 (fun _ => rfl) rfl trivial ?_
    refine hd_en_ kX6_judges (fun _ => rfl) trivial ⟨rfl, rfl, ⟨(h1.up (k := 51) (j := 14) j14).up (k := 51) (j := 15) j15, ?_, ?_⟩, funext fun z => by rw [hd_u_n (by omega), hd_u_n (by omega)]⟩
    · rw [if_pos (Int32.not_le.mp c), hd_u_n (by omega), hd_u_s]
    · rw [if_pos (Int32.not_le.mp c), hd_u_s]
def ro_s : Nat → Nat → Nat → Nat
  | 0, _, s => s
  | m + 1, l, s => ro_s m (l / 5) (s ||| (1 <<< (l % 5)))
def ro_f : Nat → Nat → Nat → Nat
  | 0, _, _ => 0
  | m + 1, l, x => if x = m then l % 5 else ro_f m (l / 5) x
def ro_it (n : Nat) : Nat → Nat → List (List Nat)
  | 0, _ => []
  | m + 1, k => if ro_s n k 0 = 2 ^ n - 1 then ls_f n (ro_f n k) :: ro_it n m (k + 1) else ro_it n m (k + 1)
set_option maxRecDepth 20000 in
theorem ro_pr : ∀ n, n ≤ 5 → ro_it n (5 ^ n) 0 = pr_it n 120 (List.range n) := by
  intro n hn
  have : n = 0 ∨ n = 1 ∨ n = 2 ∨ n = 3 ∨ n = 4 ∨ n = 5 := by omega
  rcases this with rfl | rfl | rfl | rfl | rfl | rfl
  all_goals decide +kernel
set_option maxRecDepth 20000 in
theorem ro_or : ∀ s, s < 32 → ∀ r, r < 5 → nI s ||| (1 <<< (nI r &&& 31)) = nI (s ||| (1 <<< r)) ∧ s ||| (1 <<< r) < 32 := by decide +kernel
set_option maxRecDepth 20000 in
theorem ro_sh : ∀ n, n ≤ 5 → (1 : Int32) <<< (nI n &&& 31) - 1 = nI (2 ^ n - 1) := by decide +kernel
set_option maxRecDepth 20000 in
theorem ro_s_lt : ∀ (m l s : Nat), s < 32 → ro_s m l s < 32 := by
  intro m
  induction m with
  | zero => intro l s h; exact h
  | succ m ih => intro l s h; exact ih _ _ (ro_or s h (l % 5) (Nat.mod_lt _ (by decide))).2
set_option maxRecDepth 20000 in
theorem ro_f_lt5 : ∀ (m l x : Nat), ro_f m l x < 5 := by
  intro m
  induction m with
  | zero => intro l x; exact (by decide : 0 < 5)
  | succ m ih =>
    intro l x
    rw [ro_f]
    split
    · exact Nat.mod_lt _ (by decide)
    · exact ih _ _
abbrev r57 : Nat → Nat → Prop := fun c _ => c = 57
set_option maxRecDepth 20000 in
theorem r_isRow_l (M : hd_M) (N : hd_N) (n : Nat) (hn : n ≤ 5) (h28 : M 52 28 = nI n) (num : Int32) (b : Nat) (p : Nat → Nat) (hb : b < 32) : ∀ (m l s : Nat) (M' : hd_M), m ≤ n → l < 2 ^ 20 → s < 32 → fr r57 M M' → (∀ x, m ≤ x → x < n → M' 57 x = nI (p x)) → ro_s m l s = b → (∀ x, x < m → ro_f m l x = p x) → hd_Go mX6_isRow 15 [some (.ref 51), some (.int num), some (.int (nI l)), some (.int (nI s)), some (.int (nI m - 1))] [] M' N (fun r M1 N1 => r = some (.int (hd_b (b = 2 ^ n - 1))) ∧ N1 = N ∧ fr r57 M M1 ∧ rwH M1 57 n p) := by
  intro m
  induction m with
  | zero =>
    intro l s M' hm hl hs hf hx es ef
    refine hd_go kX6_isRow 999 (fun _ => rfl) rfl trivial ?_
    refine hd_ju kX6_isRow (fun _ => rfl) (fun c => ?_) (fun c => absurd (by decide) c)
    have es : s = b := es
    subst es
    have e28 : M' 52 28 = nI n := (hf 52 28 (by simp)).trans h28
    refine hd_go kX6_isRow 999 (fun _ => rfl) rfl ⟨trivial, v138 (n := 28) (by decide)⟩ ?_
    rw [show Int32.toNatClampNeg 28 = 28 from rfl, e28, ro_sh n hn]
    have hp : 2 ^ n - 1 < 2 ^ 31 := Nat.lt_of_le_of_lt (Nat.sub_le _ _) (Nat.pow_lt_pow_right (by decide) (by omega))
    refine hd_ju kX6_isRow (fun _ => rfl) (fun c => ?_) (fun c => ?_)
    · refine hd_go kX6_isRow 999 (fun _ => rfl) rfl trivial ?_
      exact hd_en_ kX6_isRow (fun _ => rfl) (Or.inl rfl) ⟨by rw [hd_b0.mpr (fun z => c (by rw [z]))], rfl, hf, fun x h => hx x (Nat.zero_le _) h⟩
    · refine hd_go kX6_isRow 999 (fun _ => rfl) rfl trivial ?_
      refine hd_en_ kX6_isRow (fun _ => rfl) (Or.inr rfl) ⟨?_, rfl, hf, fun x h => hx x (Nat.zero_le _) h⟩
      unfold hd_b
      rw [if_pos ((nI_eq (by omega) hp).mp c)]
  | succ m ih =>
    intro l s M' hm hl hs hf hx es ef
    have hr : l % 5 < 5 := Nat.mod_lt _ (by decide)
    obtain ⟨o1, o2⟩ := ro_or s hs (l % 5) hr
    have e1 : nI l - nI l / 5 * 5 = nI (l % 5) := pk_rem (d := 5) (by omega) (by decide) (by decide)
    have e2 : nI l / 5 = nI (l / 5) := pk_div (d := 5) (by omega) (by decide) (by decide)
    rw [nI_pred m]
    refine hd_go kX6_isRow 999 (fun _ => rfl) rfl trivial ?_
    refine hd_ju kX6_isRow (fun _ => rfl) (fun c => absurd c (nI_pos (by omega))) (fun c => ?_)
    refine hd_go kX6_isRow 999 (fun _ => rfl) rfl ⟨⟨⟨⟨trivial, by decide⟩, v5 (by omega)⟩, by decide⟩, v5 (by omega)⟩ ?_
    rw [nI_clamp (show m < 2 ^ 31 by omega), hd_u_s, e1, e2, o1, dec0]
    refine ih (l / 5) _ _ (by omega) (by omega) o2 (hf.up rfl) (fun x h1 h2 => ?_) es (fun x h => ?_)
    · by_cases e : x = m
      · rw [e, hd_u_s, ← ef m (by omega), ro_f, if_pos rfl]
      · rw [hd_u_n (by omega)]; exact hx x (by omega) h2
    · rw [← ef x (by omega), ro_f, if_neg (by omega)]
set_option maxRecDepth 20000 in
theorem r_isRow (M : hd_M) (N : hd_N) (n : Nat) (hn : n ≤ 5) (h28 : M 52 28 = nI n) (k : Nat) (hk : k < 2 ^ 20) : hd_Ret mX6_isRow [.ref 51, .int (nI k)] M N (fun r M1 N1 => r = some (.int (hd_b (ro_s n k 0 = 2 ^ n - 1))) ∧ N1 = N ∧ fr r57 M M1 ∧ rwH M1 57 n (ro_f n k)) := by
  change hd_Go mX6_isRow 0 [some (.ref 51), some (.int (nI k)), none, none, none] [] M N _
  refine hd_go kX6_isRow 15 (fun _ => rfl) rfl ⟨trivial, v138 (n := 28) (by decide)⟩ ?_
  rw [show Int32.toNatClampNeg 28 = 28 from rfl, h28]
  exact r_isRow_l M N n hn h28 (nI k) _ _ (ro_s_lt n k 0 (by decide)) n k 0 M (Nat.le_refl _) hk (by decide) fr.rf (fun x h1 h2 => absurd h2 (by omega)) rfl (fun x h => rfl)
set_option maxRecDepth 20000 in
/-- the things are laid by the row -/
theorem r_ol (M : hd_M) (N : hd_N) (n : Nat) (hn : n ≤ 5) (h28 : M 52 28 = nI n) (p : Nat → Nat) (hp : ∀ x, x < n → p x < n) (hr : rwH M 57 n p) (a1 a2 : Int32) (z4 : Option Value) (Q : hd_Q) (hk : ∀ M1, fr (fun c j => c = 53 ∧ j < 28) M M1 → (∀ x c, x < n → c < 4 → M1 53 (4 * x + c) = M 52 (4 * p x + c)) → hd_Go mX6_findOrder 79 [some (.ref 51), some (.int a1), some (.int a2), some (.int (nI n)), z4] [] M1 N Q) : ∀ (m i : Nat) (M' : hd_M), i + m = n → fr (fun c j => c = 53 ∧ j < 28) M M' → (∀ x c, x < i → c < 4 → M' 53 (4 * x + c) = M 52 (4 * p x + c)) → hd_Go mX6_findOrder 51 [some (.ref 51), some (.int a1), some (.int a2), some (.int (nI i)), z4] [] M' N Q := by
  intro m
  induction m with
  | zero =>
    intro i M' hi hf hx
    have hi : i = n := by omega
    subst hi
    refine hd_go kX6_findOrder 999 (fun _ => rfl) rfl ⟨trivial, v138 (n := 28) (by decide)⟩ ?_
    rw [show Int32.toNatClampNeg 28 = 28 from rfl, (hf 52 28 (by simp)).trans h28]
    refine hd_ju kX6_findOrder (fun _ => rfl) (fun c => hk M' hf hx) (fun c => absurd (nI_le (by omega) (by omega)) c)
  | succ m ih =>
    intro i M' hi hf hx
    have g : ∀ c j, ¬ c = 53 → M' c j = M c j := fun c j h => hf c j (fun z => h z.1)
    refine hd_go kX6_findOrder 999 (fun _ => rfl) rfl ⟨trivial, v138 (n := 28) (by decide)⟩ ?_
    rw [show Int32.toNatClampNeg 28 = 28 from rfl, (g 52 28 (by decide)).trans h28]
    refine hd_ju kX6_findOrder (fun _ => rfl) (fun c => absurd c (nI_ge (by omega) (by omega))) (fun c => ?_)
    refine hd_go kX6_findOrder 999 (fun _ => rfl) rfl ⟨trivial, v5 (by omega)⟩ ?_
    have hpi := hp i (by omega)
    rw [nI_clamp (show i < 2 ^ 31 by omega), g 57 i (by decide), hr i (by omega)]
    refine hd_ca kX6_findOrder qX6_findOrder (fun _ => rfl) (r_lays M' N i (p i) (by omega) (by omega)) ?_
    rintro r M1 N1 ⟨rfl, rfl, hf1, hx1⟩
    refine hd_go kX6_findOrder 51 (fun _ => rfl) rfl trivial ?_
    rw [nI_1]
    refine ih (i + 1) M1 (by omega) (hf.tr (hf1.mo (fun c j z => ⟨z.1, by have := z.2.2; omega⟩))) (fun x c h1 h2 => ?_)
    by_cases e : x = i
    · rw [e, hx1 c h2, g 52 _ (by decide)]
    · rw [hf1 53 (4 * x + c) (by show ¬ (53 = 53 ∧ 4 * i ≤ 4 * x + c ∧ 4 * x + c < 4 * i + 4); omega)]
      exact hx x c (by omega) h2
set_option maxRecDepth 20000 in
/-- the best row is kept -/
theorem r_ok (M : hd_M) (N : hd_N) (n : Nat) (hn : n ≤ 5) (h28 : M 52 28 = nI n) (p : Nat → Nat) (hr : rwH M 57 n p) (b y : Int32) (h15 : M 51 15 = b) (a1 a2 : Int32) (Q : hd_Q) (hk : ∀ (M1 : hd_M) (z : Int32), fr (fun c _ => c = 58) M M1 → (b < y → rwH M1 58 n p) → (¬ b < y → M1 = M) → hd_Go mX6_findOrder 129 [some (.ref 51), some (.int a1), some (.int a2), some (.int y), some (.int z)] [] M1 N Q) : ∀ (m i : Nat) (M' : hd_M), i + m = n → fr (fun c _ => c = 58) M M' → (∀ x, x < i → M' 58 x = nI (p x)) → (¬ b < y → M' = M) → hd_Go mX6_findOrder 89 [some (.ref 51), some (.int a1), some (.int a2), some (.int y), some (.int (nI i))] [] M' N Q := by
  intro m
  induction m with
  | zero =>
    intro i M' hi hf hx he
    have hi : i = n := by omega
    subst hi
    refine hd_go kX6_findOrder 999 (fun _ => rfl) rfl ⟨trivial, v138 (n := 28) (by decide)⟩ ?_
    rw [show Int32.toNatClampNeg 28 = 28 from rfl, (hf 52 28 (by simp)).trans h28]
    refine hd_ju kX6_findOrder (fun _ => rfl) (fun c => hk M' _ hf (fun _ => hx) he) (fun c => absurd (nI_le (by omega) (by omega)) c)
  | succ m ih =>
    intro i M' hi hf hx he
    have g : ∀ c j, ¬ c = 58 → M' c j = M c j := fun c j h => hf c j h
    refine hd_go kX6_findOrder 999 (fun _ => rfl) rfl ⟨trivial, v138 (n := 28) (by decide)⟩ ?_
    rw [show Int32.toNatClampNeg 28 = 28 from rfl, (g 52 28 (by decide)).trans h28]
    refine hd_ju kX6_findOrder (fun _ => rfl) (fun c => absurd c (nI_ge (by omega) (by omega))) (fun c => ?_)
    refine hd_go kX6_findOrder 999 (fun _ => rfl) rfl trivial ?_
    rw [(g 51 15 (by decide)).trans h15]
    refine hd_ju kX6_findOrder (fun _ => rfl) (fun c => ?_) (fun c => ?_)
    · exact hk M' _ hf (fun z => absurd z (Int32.not_lt.mpr c)) he
    · have hby := Int32.not_le.mp c
      refine hd_go kX6_findOrder 999 (fun _ => rfl) rfl ⟨⟨trivial, v5 (by omega)⟩, v5 (by omega)⟩ ?_
      rw [nI_clamp (show i < 2 ^ 31 by omega), g 57 i (by decide), hr i (by omega), nI_1]
      refine ih (i + 1) _ (by omega) (hf.up rfl) (fun x h => ?_) (fun z => absurd hby z)
      by_cases e : x = i
      · rw [e, hd_u_s]
      · rw [hd_u_n (by omega)]; exact hx x (by omega)
def orR (n : Nat) (M : hd_M) (b : Int32) (r : List Nat) : Prop := b = -1 ∨ rwH M 58 n (ls_p r)
set_option maxRecDepth 20000 in
theorem r_ord_l (M : hd_M) (N : hd_N) (d : dy_T) (hd : rf M 52 0 d) (ok : dy_ok d) (ha : dy_all d) (hn : d.1 ≤ 5) (all : Nat) (hall : all ≤ 3125) : ∀ (m k : Nat) (b o : Int32) (r : List Nat) (M' : hd_M), k + m = all → jdR M M' b o → (∀ q, q ∈ ro_it d.1 m k → gd d.1 q) → orR d.1 M' b r → hd_Go mX6_findOrder 32 [some (.ref 51), some (.int (nI all)), some (.int (nI k)), none, none] [] M' N (fun r1 M1 _ => r1 = some (.int (or_go d (ro_it d.1 m k) b r).1) ∧ fr idR M M1 ∧ orR d.1 M1 (or_go d (ro_it d.1 m k) b r).1 (or_go d (ro_it d.1 m k) b r).2) := by
  have h7 := ok.1
  intro m
  induction m with
  | zero =>
    intro k b o r M' hk hj hg ho
    refine hd_go kX6_findOrder 999 (fun _ => rfl) rfl trivial ?_
    refine hd_ju kX6_findOrder (fun _ => rfl) (fun c => ?_) (fun c => absurd (nI_le (by omega) (by omega)) c)
    refine hd_go kX6_findOrder 999 (fun _ => rfl) rfl trivial ?_
    rw [hj.2.2]
    exact hd_en_ kX6_findOrder (fun _ => rfl) trivial ⟨rfl, hj.1, ho⟩
  | succ m ih =>
    intro k b o r M' hk hj hg ho
    rw [ro_it] at hg ⊢
    have e28 : ∀ M9, fr idR M M9 → M9 52 28 = nI d.1 := fun M9 h => (h 52 28 (by simp)).trans hd.1
    refine hd_go kX6_findOrder 999 (fun _ => rfl) rfl trivial ?_
    refine hd_ju kX6_findOrder (fun _ => rfl) (fun c => absurd c (nI_ge (by omega) (by omega))) (fun c => ?_)
    refine hd_go kX6_findOrder 999 (fun _ => rfl) rfl trivial ?_
    refine hd_ca kX6_findOrder qX6_findOrder (fun _ => rfl) (r_isRow M' N d.1 hn (e28 M' hj.1) k (by omega)) ?_
    rintro r1 M1 N1 ⟨rfl, rfl, hf1, hr1⟩
    have q57 : fr idR M' M1 := hf1.mo (fun c j z => by have z : c = 57 := z; exact Or.inr (Or.inr (Or.inl (by omega))))
    have hj1 : jdR M M1 b o := ⟨hj.1.tr q57, (hf1 51 14 (by simp)).trans hj.2.1, (hf1 51 15 (by simp)).trans hj.2.2⟩
    have ho1 : orR d.1 M1 b r := ho.elim Or.inl (fun z => Or.inr (fun x hx => by rw [hf1 58 x (by simp)]; exact z x hx))
    by_cases hrow : ro_s d.1 k 0 = 2 ^ d.1 - 1
    · rw [if_pos hrow] at hg ⊢
      have gl : gd d.1 (ls_f d.1 (ro_f d.1 k)) := hg _ (List.mem_cons_self ..)
      have gt : ∀ q, q ∈ ro_it d.1 m (k + 1) → gd d.1 q := fun q hq => hg q (List.mem_cons_of_mem _ hq)
      have gp : ∀ x, x < d.1 → ro_f d.1 k x < d.1 := fun x hx => by have := gl x hx; rw [ls_pf hx] at this; exact this
      refine hd_ju kX6_findOrder (fun _ => rfl) (fun c => absurd hrow (hd_b0.mp c)) (fun c => ?_)
      refine hd_go kX6_findOrder 999 (fun _ => rfl) rfl trivial ?_
      refine hd_ca kX6_findOrder qX6_findOrder (fun _ => rfl) (r_st M1 N1 d (idR.rf hj1.1 hd h7) h7) ?_
      rintro r1 M2 N2 ⟨rfl, rfl, hf2, hd2, hx2⟩
      refine hd_go kX6_findOrder 51 (fun _ => rfl) rfl trivial ?_
      have hj2 := hj1.now hf2
      refine r_ol M2 N2 d.1 hn (e28 M2 hj2.1) (ro_f d.1 k) gp (fun x hx => by rw [hf2 57 x (by simp)]; exact hr1 x hx) _ _ _ _ (fun M3 hf3 hx3 => ?_) d.1 0 M2 (by omega) fr.rf (fun x c h => absurd h (Nat.not_lt_zero x))
      have g3 : ∀ j, 28 ≤ j → j < 46 → M3 53 j = M 52 j := fun j a b => by rw [hf3 53 j (by show ¬ (53 = 53 ∧ j < 28); omega), hx2 j b, hj1.1 52 j (by simp)]
      have hd3 : rf M3 53 0 (dy_prm (ro_f d.1 k) d) := by
        refine rf_perm (e := dy_prm (ro_f d.1 k) d) hd ok ha (ro_f d.1 k) gp (Nat.le_refl _) ?_ ?_ (g3 30 (by decide) (by decide)) (g3 31 (by decide) (by decide)) (g3 32 (by decide) (by decide)) (fun x c h1 h2 => ?_) rfl rfl rfl (fun x c _ _ => rfl) (fun x h => ?_)
        · rw [g3 28 (by decide) (by decide)]; exact hd.1
        · rw [g3 29 (by decide) (by decide)]; exact hd.2.1
        · rw [hx3 x c h1 h2, hj2.1 52 _ (by simp)]
        · have ha : d.2.1 = d.1 := ha
          show d.2.2.2.2.2 3 (ro_f d.1 k x) = d.2.2.2.2.2 3 x
          rw [ok.2.2.1 _ (by rw [ha]; exact gp x h), ok.2.2.1 x (by rw [ha]; exact h)]
      refine hd_go kX6_findOrder 999 (fun _ => rfl) rfl trivial ?_
      refine hd_ca kX6_findOrder qX6_findOrder (fun _ => rfl) (r_mb M3 N2 _ hd3 (dy_ok_prm ok ha gp) 10 (by decide)) ?_
      rintro r1 M4 N4 ⟨rfl, rfl, hf4⟩
      have f34 : fr nowF M2 M4 := (hf3.mo (fun c j z => z.1)).tr (hf4.mo (fun c j z => z.1))
      have hj4 := hj2.now f34
      have hr4 : rwH M4 57 d.1 (ro_f d.1 k) := fun x hx => by rw [f34 57 x (by simp), hf2 57 x (by simp)]; exact hr1 x hx
      have ho4 : orR d.1 M4 b r := ho1.elim Or.inl (fun z => Or.inr (fun x hx => by rw [f34 58 x (by simp), hf2 58 x (by simp)]; exact z x hx))
      obtain ⟨y, hy⟩ : ∃ y, y = dy_md 10 (dy_prm (ls_p (ls_f d.1 (ro_f d.1 k))) d) := ⟨_, rfl⟩
      have ey : dy_md 10 (dy_prm (ro_f d.1 k) d) = y := by rw [hy]; exact dy_md_prm ok ha gp (fun x hx => (ls_pf hx).symm)
      rw [or_go, ← hy]
      refine hd_go kX6_findOrder 89 (fun _ => rfl) rfl trivial ?_
      rw [ey]
      refine r_ok M4 N4 d.1 hn (e28 M4 hj4.1) (ro_f d.1 k) hr4 b y hj4.2.2 _ _ _ (fun M5 z hf5 h5 h5' => ?_) d.1 0 M4 (by omega) fr.rf (fun x h => absurd h (Nat.not_lt_zero x)) (fun _ => rfl)
      have hj5 : jdR M M5 b o := ⟨hj4.1.tr (hf5.mo (fun c j z => by have z : c = 58 := z; exact Or.inr (Or.inr (Or.inl (by omega))))), (hf5 51 14 (by simp)).trans hj4.2.1, (hf5 51 15 (by simp)).trans hj4.2.2⟩
      refine hd_go kX6_findOrder 999 (fun _ => rfl) rfl trivial ?_
      refine hd_ca kX6_findOrder qX6_findOrder (fun _ => rfl) (r_ju58 M M5 N4 b o hj5 (nI k) y) ?_
      rintro r1 M6 N6 ⟨rfl, rfl, hj6, h58⟩
      refine hd_go kX6_findOrder 32 (fun _ => rfl) rfl trivial ?_
      rw [nI_1]
      by_cases c2 : b < y
      · rw [if_pos c2]
        rw [if_pos c2, if_pos c2] at hj6
        exact hd_fg34 (ih (k + 1) y _ _ M6 (by omega) hj6 gt (Or.inr (fun x hx => by rw [h58, ls_pf hx]; exact h5 c2 x hx)))
      · rw [if_neg c2]
        rw [if_neg c2, if_neg c2] at hj6
        refine hd_fg34 (ih (k + 1) b _ r M6 (by omega) hj6 gt (ho4.elim Or.inl (fun z => Or.inr (fun x hx => by rw [h58, h5' c2]; exact z x hx))))
    · rw [if_neg hrow] at hg ⊢
      refine hd_ju kX6_findOrder (fun _ => rfl) (fun c => ?_) (fun c => absurd (hd_b1.mp c) hrow)
      refine hd_go kX6_findOrder 32 (fun _ => rfl) rfl trivial ?_
      rw [nI_1]
      exact ih (k + 1) b o r M1 (by omega) hj1 hg ho1
set_option maxRecDepth 20000 in
theorem r_all_l5 (M : hd_M) (N : hd_N) (n : Nat) (hn : n ≤ 5) (h28 : M 52 28 = nI n) (Q : hd_Q) (hk : hd_Go mX6_findOrder 25 [some (.ref 51), some (.int (nI (5 ^ n))), some (.int (nI n)), none, none] [] M N Q) : ∀ (m i : Nat), i + m = n → hd_Go mX6_findOrder 4 [some (.ref 51), some (.int (nI (5 ^ i))), some (.int (nI i)), none, none] [] M N Q := by
  intro m
  induction m with
  | zero =>
    intro i hi
    have hi : i = n := by omega
    subst hi
    refine hd_go kX6_findOrder 999 (fun _ => rfl) rfl ⟨trivial, v138 (n := 28) (by decide)⟩ ?_
    rw [show Int32.toNatClampNeg 28 = 28 from rfl, h28]
    exact hd_ju kX6_findOrder (fun _ => rfl) (fun c => hk) (fun c => absurd (nI_le (by omega) (by omega)) c)
  | succ m ih =>
    intro i hi
    refine hd_go kX6_findOrder 999 (fun _ => rfl) rfl ⟨trivial, v138 (n := 28) (by decide)⟩ ?_
    rw [show Int32.toNatClampNeg 28 = 28 from rfl, h28]
    refine hd_ju kX6_findOrder (fun _ => rfl) (fun c => absurd c (nI_ge (by omega) (by omega))) (fun c => ?_)
    refine hd_go kX6_findOrder 4 (fun _ => rfl) rfl trivial ?_
    rw [nI_1, show (5 : Int32) = nI 5 from rfl, pk_mul]
    exact ih (i + 1) (by omega)
set_option maxRecDepth 20000 in
theorem r_ord (M : hd_M) (N : hd_N) (d : dy_T) (hd : rf M 52 0 d) (ok : dy_ok d) (ha : dy_all d) (hn : d.1 ≤ 5) : hd_Ret mX6_findOrder [.ref 51] M N (fun r1 M1 _ => r1 = some (.int (or_b d).1) ∧ fr idR M M1 ∧ rwH M1 58 d.1 (ls_p (or_b d).2)) := by
  change hd_Go mX6_findOrder 0 [some (.ref 51), none, none, none, none] [] M N _
  refine hd_go kX6_findOrder 4 (fun _ => rfl) rfl trivial ?_
  refine r_all_l5 M N d.1 hn hd.1 _ ?_ d.1 0 (by omega)
  refine hd_go kX6_findOrder 999 (fun _ => rfl) rfl trivial ?_
  refine hd_ca kX6_findOrder qX6_findOrder (fun _ => rfl) (r_sj M M N fr.rf (-1)) ?_
  rintro r M1 N1 ⟨rfl, rfl, hj⟩
  refine hd_go kX6_findOrder 32 (fun _ => rfl) rfl trivial ?_
  have hp : 5 ^ d.1 ≤ 3125 := Nat.pow_le_pow_right (n := 5) (by decide) hn
  have hg := pr_gd d.1 hn
  have e := ro_pr d.1 hn
  refine hd_Go.post ?_ (r_ord_l M N1 d hd ok ha hn (5 ^ d.1) hp (5 ^ d.1) 0 (-1) (-4) [] M1 (by omega) hj (by rw [e]; exact hg) (Or.inl rfl))
  rw [e]
  rintro r1 M2 N2 ⟨h1, h2, h3⟩
  refine ⟨h1, h2, ?_⟩
  rcases h3 with z | z
  · have := or_pos d ok ha (pr_it d.1 120 (List.range d.1)) (-1) [] hg (Or.inr (by rw [pr_it]; exact List.cons_ne_nil _ _))
    rw [z] at this
    exact absurd this (by decide)
  · exact z
set_option maxRecDepth 20000 in
theorem d_order (w : Int32) : rA mX6_order [.int w] (an_order w) := by
  intro M N st hI hO
  change hd_Go mX6_order 0 [some (.ref 51), some (.int w), none] [] M N _
  have h7 := hO.1.1
  have e28 : M 52 28 = nI st.1.1 := hI.1.1
  have bad2 : ¬ (st.1.1 ≤ 5 ∧ dy_all st.1) → w = 0 ∨ wi w 10 14 → hd_Go mX6_order 38 [some (.ref 51), some (.int w), none] [] M N (fun r M1 _ => r = some (an_order w st).1 ∧ fr refF M M1 ∧ RI M1 (an_order w st).2) := by
    intro q q0
    refine hd_go kX6_order 999 (fun _ => rfl) rfl trivial ?_
    refine hd_en_ kX6_order (fun _ => rfl) trivial ?_
    unfold an_order
    rw [if_pos q0, if_neg q]
    exact ⟨rfl, fr.rf, hI⟩
  have main : w = 0 ∨ wi w 10 14 → hd_Go mX6_order 20 [some (.ref 51), some (.int w), none] [] M N (fun r M1 _ => r = some (an_order w st).1 ∧ fr refF M M1 ∧ RI M1 (an_order w st).2) := by
    intro q0
    refine hd_go kX6_order 999 (fun _ => rfl) rfl ⟨trivial, v138 (n := 28) (by decide)⟩ ?_
    rw [show Int32.toNatClampNeg 28 = 28 from rfl, e28]
    refine hd_ju kX6_order (fun _ => rfl) (fun c => bad2 (fun z => nI_nlt (a := 5) (b := st.1.1) z.1 (by decide) c) q0) (fun c => ?_)
    have hn : st.1.1 ≤ 5 := by
      rcases Nat.lt_or_ge 5 st.1.1 with z | z
      · exact absurd ((nI_ltI (a := 5) (by decide) (by omega)).mpr z) c
      · exact z
    refine hd_go kX6_order 999 (fun _ => rfl) rfl trivial ?_
    refine hd_ci kX6_order qX6_order (fun _ => rfl) (r_allIn M N st.1 hI.1 hO.1) ?_
    refine hd_ju kX6_order (fun _ => rfl) (fun q => ?_) (fun q => bad2 (fun z => hd_b0.mp q z.2) q0)
    have ha := hd_b1.mp q
    unfold an_order
    rw [if_pos q0, if_pos ⟨hn, ha⟩]
    refine hd_go kX6_order 999 (fun _ => rfl) rfl trivial ?_
    refine hd_ca kX6_order qX6_order (fun _ => rfl) (r_ord M N st.1 hI.1 hO.1 ha hn) ?_
    rintro r M1 N1 ⟨rfl, hf, hr⟩
    have e9 := hI.q hO hf
    refine hd_go kX6_order 999 (fun _ => rfl) rfl trivial ?_
    refine hd_ju kX6_order (fun _ => rfl) (fun c => ?_) (fun c => ?_)
    · rw [if_neg c]
      rcases q0 with z | z
      · exact absurd z c
      · obtain ⟨j, hj, e3, e4, e5⟩ := wi1014 z
        refine hd_go kX6_order 999 (fun _ => rfl) rfl ⟨trivial, v138 (n := 28) (by decide)⟩ ?_
        rw [show Int32.toNatClampNeg 28 = 28 from rfl, (hf 52 28 (by simp)).trans e28, e4, nI_clamp (show j < 2 ^ 31 by omega)]
        refine hd_ju kX6_order (fun _ => rfl) (fun c => ?_) (fun c => ?_)
        · rw [if_neg (Int32.not_lt.mpr c)]
          refine hd_go kX6_order 999 (fun _ => rfl) rfl trivial ?_
          exact hd_en_ kX6_order (fun _ => rfl) trivial ⟨rfl, e9⟩
        · have c9 := Int32.not_le.mp c
          have hjn : j < st.1.1 := (nI_ltI (by omega) (by omega)).mp c9
          rw [if_pos c9]
          refine hd_go kX6_order 999 (fun _ => rfl) rfl ?_ ?_
          · rw [e4]; exact ⟨trivial, v5 (by omega)⟩
          rw [e4, nI_clamp (show j < 2 ^ 31 by omega), hr j hjn]
          exact hd_en_ kX6_order (fun _ => rfl) trivial ⟨rfl, e9⟩
    · rw [if_pos c]
      refine hd_go kX6_order 999 (fun _ => rfl) rfl trivial ?_
      exact hd_en_ kX6_order (fun _ => rfl) trivial ⟨rfl, e9⟩
  refine hd_go kX6_order 999 (fun _ => rfl) rfl trivial ?_
  refine hd_ju kX6_order (fun _ => rfl) (fun c => main (Or.inl c)) (fun c => ?_)
  refine hd_go kX6_order 999 (fun _ => rfl) rfl trivial ?_
  refine hd_ci kX6_order qX6_order (fun _ => rfl) (r_in w 10 14 _ _ rfl rfl M N) ?_
  refine hd_ju kX6_order (fun _ => rfl) (fun q => main (Or.inr (hd_b1.mp q))) (fun q => ?_)
  have q := hd_b0.mp q
  refine hd_go kX6_order 999 (fun _ => rfl) rfl trivial ?_
  refine hd_en_ kX6_order (fun _ => rfl) trivial ?_
  unfold an_order
  rw [if_neg (fun z => z.elim c q)]
  exact ⟨rfl, fr.rf, hI⟩
