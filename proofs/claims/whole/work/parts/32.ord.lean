/-! ORDER, THE CLASS'S SIDE; printed by wip/whole/ord1.py -/
/-! THE ORDERS -/
def nx_i (p : Nat → Nat) : Nat → Nat
  | 0 => 0
  | m + 1 => if p (m + 1) < p m then nx_i p m else m + 1
def nx_j (p : Nat → Nat) (i : Nat) : Nat → Nat
  | 0 => 0
  | j + 1 => if i < j ∧ p (j + 1) < p i then nx_j p i j else j + 1
def nx_x (i j : Nat) (p : Nat → Nat) : Nat → Nat := fun x => if x = j then p i else if x = i then p j else p x
def nx_r : Nat → Nat → Nat → (Nat → Nat) → (Nat → Nat)
  | 0, _, _, p => p
  | f + 1, a, b, p => if a < b then nx_r f (a + 1) (b - 1) (nx_x a b p) else p
def nx_q (n : Nat) (p : Nat → Nat) : Nat → Option (Nat → Nat)
  | 0 => none
  | i + 1 => some (nx_r n (i + 1) (n - 1) (nx_x i (nx_j p i (n - 1)) p))
def nx (n : Nat) (p : Nat → Nat) : Option (Nat → Nat) := nx_q n p (nx_i p (n - 1))
abbrev ls_p (l : List Nat) : Nat → Nat := fun x => l.getD x 0
def ls_f (n : Nat) (p : Nat → Nat) : List Nat := (List.range n).map p
set_option maxRecDepth 20000 in
theorem ls_pf {n x : Nat} {p : Nat → Nat} (h : x < n) : ls_p (ls_f n p) x = p x := by
  simp [ls_f, ls_p, h]
def pr_t (n : Nat) (g : List Nat → List (List Nat)) : Option (Nat → Nat) → List (List Nat)
  | none => []
  | some q => g (ls_f n q)
def pr_it (n : Nat) : Nat → List Nat → List (List Nat)
  | 0, _ => []
  | f + 1, l => l :: pr_t n (pr_it n f) (nx n (ls_p l))
def or_go (d : dy_T) : List (List Nat) → Int32 → List Nat → Int32 × List Nat
  | [], b, r => (b, r)
  | p :: ps, b, r => if b < dy_md 10 (dy_prm (ls_p p) d) then or_go d ps (dy_md 10 (dy_prm (ls_p p) d)) p else or_go d ps b r
abbrev gd (n : Nat) (l : List Nat) : Prop := ∀ x, x < n → ls_p l x < n
def or_b (d : dy_T) : Int32 × List Nat := or_go d (pr_it d.1 120 (List.range d.1)) (-1) []
def an_order (w : Int32) (st : ab_T) : Value × ab_T := an_q (if w = 0 ∨ wi w 10 14 then (if st.1.1 ≤ 5 ∧ dy_all st.1 then (if w = 0 then (or_b st.1).1 else if w - 10 < nI st.1.1 then nI (ls_p (or_b st.1).2 (w - 10).toNatClampNeg) else -4) else -2) else -1) st
set_option maxRecDepth 20000 in
theorem dy_md_pos {n : Nat} {d : dy_T} (ok : dy_ok d) : 0 ≤ dy_md n d := (dy_ok_hs n d ok).2.2.2.2.1
set_option maxRecDepth 20000 in
theorem or_pos (d : dy_T) (ok : dy_ok d) (ha : dy_all d) : ∀ (L : List (List Nat)) (b : Int32) (r : List Nat), (∀ q, q ∈ L → gd d.1 q) → (0 ≤ b ∨ ¬ L = []) → 0 ≤ (or_go d L b r).1 := by
  intro L
  induction L with
  | nil => intro b r _ h; exact h.elim (fun z => z) (fun z => absurd rfl z)
  | cons p ps ih =>
    intro b r hg h
    have hp : 0 ≤ dy_md 10 (dy_prm (ls_p p) d) := dy_md_pos (dy_ok_prm ok ha (hg p (List.mem_cons_self ..)))
    rw [or_go]
    by_cases c : b < dy_md 10 (dy_prm (ls_p p) d)
    · rw [if_pos c]
      exact ih _ _ (fun q hq => hg q (List.mem_cons_of_mem _ hq)) (Or.inl hp)
    · rw [if_neg c]
      exact ih _ _ (fun q hq => hg q (List.mem_cons_of_mem _ hq)) (Or.inl (Int32.le_trans hp (Int32.not_lt.mp c)))
set_option maxRecDepth 20000 in
theorem pr_gd : ∀ n, n ≤ 5 → ∀ q, q ∈ pr_it n 120 (List.range n) → gd n q := by
  intro n hn
  have : n = 0 ∨ n = 1 ∨ n = 2 ∨ n = 3 ∨ n = 4 ∨ n = 5 := by omega
  rcases this with rfl | rfl | rfl | rfl | rfl | rfl
  all_goals decide +kernel
set_option maxRecDepth 20000 in
theorem dec0 (a : Int32) : a + -1 = a - 1 := (Int32.sub_eq_add_neg a 1).symm
set_option maxRecDepth 20000 in
theorem dec1 (a : Nat) : nI (a + 1) + -1 = nI a := by rw [dec0]; exact nI_pred a
set_option maxRecDepth 20000 in
theorem v5 {n : Nat} (h : n < 5) : vp_in (nI n) 5 := vp_in_nI h (by decide)
set_option maxRecDepth 20000 in
theorem s_exch (M : hd_M) (N : hd_N) (i j : Nat) (hi : i < 5) (hj : j < 5) : hd_Ret mX5_exchangeInRow [.ref 0, .int (nI i), .int (nI j)] M N (fun r M1 N1 => r = none ∧ N1 = N ∧ M1 = hd_u (hd_u M 48 i (M 48 j)) 48 j (M 48 i)) := by
  change hd_Go mX5_exchangeInRow 0 [some (.ref 0), some (.int (nI i)), some (.int (nI j)), none] [] M N _
  refine hd_go kX5_exchangeInRow 999 (fun _ => rfl) rfl ⟨⟨⟨⟨trivial, v5 hi⟩, v5 hj⟩, v5 hi⟩, v5 hj⟩ ?_
  refine hd_en_ kX5_exchangeInRow (fun _ => rfl) trivial ⟨rfl, rfl, ?_⟩
  rw [nI_clamp (show i < 2 ^ 31 by omega), nI_clamp (show j < 2 ^ 31 by omega)]
/-- the row of cell c holds p -/
def rwH (M : hd_M) (c n : Nat) (p : Nat → Nat) : Prop := ∀ x, x < n → M c x = nI (p x)
set_option maxRecDepth 20000 in
theorem rwH.ex {M : hd_M} {n i j : Nat} {p : Nat → Nat} (h : rwH M 48 n p) (hi : i < n) (hj : j < n) : rwH (hd_u (hd_u M 48 i (M 48 j)) 48 j (M 48 i)) 48 n (nx_x i j p) := by
  intro x hx
  unfold nx_x
  by_cases e1 : x = j
  · rw [if_pos e1, e1, hd_u_s]; exact h i hi
  · rw [if_neg e1, hd_u_n (by omega)]
    by_cases e2 : x = i
    · rw [if_pos e2, e2, hd_u_s]; exact h j hj
    · rw [if_neg e2, hd_u_n (by omega)]; exact h x hx
set_option maxRecDepth 20000 in
theorem nx_x_lt {n i j : Nat} {p : Nat → Nat} (h : ∀ x, x < n → p x < n) (hi : i < n) (hj : j < n) : ∀ x, x < n → nx_x i j p x < n := by
  intro x hx
  unfold nx_x
  by_cases e1 : x = j
  · rw [if_pos e1]; exact h i hi
  · rw [if_neg e1]
    by_cases e2 : x = i
    · rw [if_pos e2]; exact h j hj
    · rw [if_neg e2]; exact h x hx
abbrev r48 : Nat → Nat → Prop := fun c _ => c = 48
set_option maxRecDepth 20000 in
theorem s_step_3 (M0 : hd_M) (N : hd_N) (n : Nat) (hn : n ≤ 5) (i j : Int32) (Q : hd_Q) : ∀ (f a b : Nat) (p : Nat → Nat) (M : hd_M), b < n → b ≤ a + 2 * f → (a ≤ b + 1) → rwH M 48 n p → fr r48 M0 M → (∀ M1, fr r48 M0 M1 → rwH M1 48 n (nx_r f a b p) → Q (some (.int 1)) M1 N) → hd_Go mX5_stepRow 85 [some (.ref 0), some (.int (nI n)), some (.int i), some (.int j), some (.int (nI a)), some (.int (nI b))] [] M N Q := by
  intro f
  induction f with
  | zero =>
    intro a b p M hb hf ha hr h0 hQ
    refine hd_go kX5_stepRow 999 (fun _ => rfl) rfl trivial ?_
    refine hd_ju kX5_stepRow (fun _ => rfl) (fun c => ?_) (fun c => absurd (nI_le (by omega) (by omega)) c)
    refine hd_go kX5_stepRow 999 (fun _ => rfl) rfl trivial ?_
    exact hd_en_ kX5_stepRow (fun _ => rfl) (Or.inr rfl) (hQ M h0 hr)
  | succ f ih =>
    intro a b p M hb hf ha hr h0 hQ
    rw [nx_r] at hQ
    refine hd_go kX5_stepRow 999 (fun _ => rfl) rfl trivial ?_
    by_cases hab : a < b
    · rw [if_pos hab] at hQ
      refine hd_ju kX5_stepRow (fun _ => rfl) (fun c => absurd c (nI_ge hab (by omega))) (fun c => ?_)
      refine hd_go kX5_stepRow 999 (fun _ => rfl) rfl trivial ?_
      refine hd_ca kX5_stepRow qX5_stepRow (fun _ => rfl) (s_exch M N a b (by omega) (by omega)) ?_
      rintro r M1 N1 ⟨rfl, rfl, e⟩
      refine hd_go kX5_stepRow 85 (fun _ => rfl) rfl trivial ?_
      rw [nI_1, show nI b + -1 = nI (b - 1) from by rw [← dec1 (b - 1), show b - 1 + 1 = b by omega]]
      subst e
      exact ih (a + 1) (b - 1) _ _ (by omega) (by omega) (by omega) (hr.ex (by omega) hb) ((h0.up rfl).up rfl) hQ
    · rw [if_neg hab] at hQ
      refine hd_ju kX5_stepRow (fun _ => rfl) (fun c => ?_) (fun c => absurd (nI_le (by omega) (by omega)) c)
      refine hd_go kX5_stepRow 999 (fun _ => rfl) rfl trivial ?_
      exact hd_en_ kX5_stepRow (fun _ => rfl) (Or.inr rfl) (hQ M h0 hr)
set_option maxRecDepth 20000 in
theorem s_step_2 (M : hd_M) (N : hd_N) (n : Nat) (hn : n ≤ 5) (i : Nat) (p : Nat → Nat) (hp : ∀ x, x < n → p x < n) (hr : rwH M 48 n p) (hi : i + 1 < n) (Q : hd_Q) : ∀ (j : Nat), i < j → j < n → (i < nx_j p i j → nx_j p i j < n → hd_Go mX5_stepRow 69 [some (.ref 0), some (.int (nI n)), some (.int (nI i)), some (.int (nI (nx_j p i j))), none, none] [] M N Q) → hd_Go mX5_stepRow 41 [some (.ref 0), some (.int (nI n)), some (.int (nI i)), some (.int (nI j)), none, none] [] M N Q := by
  intro j
  induction j with
  | zero => intro h; exact absurd h (Nat.not_lt_zero _)
  | succ j ih =>
    intro hij hj hk
    rw [nx_j] at hk
    refine hd_go kX5_stepRow 999 (fun _ => rfl) rfl trivial ?_
    rw [nI_1]
    by_cases c1 : i < j
    · refine hd_ju kX5_stepRow (fun _ => rfl) (fun c => absurd c (nI_ge (by omega) (by omega))) (fun c => ?_)
      refine hd_go kX5_stepRow 999 (fun _ => rfl) rfl ⟨⟨trivial, v5 (by omega)⟩, v5 (by omega)⟩ ?_
      rw [nI_clamp (show j + 1 < 2 ^ 31 by omega), nI_clamp (show i < 2 ^ 31 by omega), hr _ hj, hr _ (by omega)]
      have b1 := hp (j + 1) hj
      have b2 := hp i (by omega)
      by_cases c2 : p (j + 1) < p i
      · rw [if_pos ⟨c1, c2⟩] at hk
        refine hd_ju kX5_stepRow (fun _ => rfl) (fun c => absurd c (nI_ge c2 (by omega))) (fun c => ?_)
        refine hd_go kX5_stepRow 41 (fun _ => rfl) rfl trivial ?_
        rw [dec1 j]
        exact ih c1 (by omega) hk
      · rw [if_neg (fun z => c2 z.2)] at hk
        refine hd_ju kX5_stepRow (fun _ => rfl) (fun c => ?_) (fun c => absurd (nI_le (by omega) (by omega)) c)
        exact hk hij hj
    · rw [if_neg (fun z => c1 z.1)] at hk
      refine hd_ju kX5_stepRow (fun _ => rfl) (fun c => ?_) (fun c => absurd (nI_le (by omega) (by omega)) c)
      exact hk hij hj
set_option maxRecDepth 20000 in
theorem s_step_1 (M : hd_M) (N : hd_N) (n : Nat) (hn : n ≤ 5) (p : Nat → Nat) (hp : ∀ x, x < n → p x < n) (hr : rwH M 48 n p) (Q : hd_Q) : ∀ (m : Nat), m < n → (nx_i p m < n → hd_Go mX5_stepRow 31 [some (.ref 0), some (.int (nI n)), some (.int (nI (nx_i p m) - 1)), none, none, none] [] M N Q) → hd_Go mX5_stepRow 4 [some (.ref 0), some (.int (nI n)), some (.int (nI m - 1)), none, none, none] [] M N Q := by
  intro m
  induction m with
  | zero =>
    intro hm hk
    refine hd_go kX5_stepRow 999 (fun _ => rfl) rfl trivial ?_
    refine hd_ju kX5_stepRow (fun _ => rfl) (fun c => hk hm) (fun c => absurd (by decide) c)
  | succ m ih =>
    intro hm hk
    rw [nx_i] at hk
    rw [nI_pred m]
    refine hd_go kX5_stepRow 999 (fun _ => rfl) rfl trivial ?_
    refine hd_ju kX5_stepRow (fun _ => rfl) (fun c => absurd c (nI_pos (by omega))) (fun c => ?_)
    refine hd_go kX5_stepRow 999 (fun _ => rfl) rfl ?_ ?_
    · rw [nI_1]; exact ⟨⟨trivial, v5 (by omega)⟩, v5 (by omega)⟩
    rw [nI_1, nI_clamp (show m + 1 < 2 ^ 31 by omega), nI_clamp (show m < 2 ^ 31 by omega), hr _ hm, hr _ (by omega)]
    have b1 := hp (m + 1) hm
    have b2 := hp m (by omega)
    by_cases c2 : p (m + 1) < p m
    · rw [if_pos c2] at hk
      refine hd_ju kX5_stepRow (fun _ => rfl) (fun c => absurd c (nI_ge c2 (by omega))) (fun c => ?_)
      refine hd_go kX5_stepRow 4 (fun _ => rfl) rfl trivial ?_
      rw [dec0]
      exact ih (by omega) hk
    · rw [if_neg c2] at hk
      refine hd_ju kX5_stepRow (fun _ => rfl) (fun c => ?_) (fun c => absurd (nI_le (by omega) (by omega)) c)
      have := hk hm
      rw [nI_pred m] at this
      exact this
def stQ (n : Nat) (M1 : hd_M) (r : Option Value) : Option (Nat → Nat) → Prop
  | none => r = some (.int 0)
  | some q => r = some (.int 1) ∧ rwH M1 48 n q
set_option maxRecDepth 20000 in
theorem s_step (M : hd_M) (N : hd_N) (n : Nat) (hn : n ≤ 5) (p : Nat → Nat) (hp : ∀ x, x < n → p x < n) (hr : rwH M 48 n p) : hd_Ret mX5_stepRow [.ref 0, .int (nI n)] M N (fun r M1 N1 => N1 = N ∧ fr r48 M M1 ∧ stQ n M1 r (nx n p)) := by
  change hd_Go mX5_stepRow 0 [some (.ref 0), some (.int (nI n)), none, none, none, none] [] M N _
  have none_ : ∀ x : Int32, x < 0 → stQ n M (some (.int 0)) (nx n p) → hd_Go mX5_stepRow 31 [some (.ref 0), some (.int (nI n)), some (.int x), none, none, none] [] M N (fun r M1 N1 => N1 = N ∧ fr r48 M M1 ∧ stQ n M1 r (nx n p)) := by
    intro x hx h
    refine hd_go kX5_stepRow 999 (fun _ => rfl) rfl trivial ?_
    refine hd_ju kX5_stepRow (fun _ => rfl) (fun c => absurd hx (Int32.not_lt.mpr c)) (fun c => ?_)
    refine hd_go kX5_stepRow 999 (fun _ => rfl) rfl trivial ?_
    exact hd_en_ kX5_stepRow (fun _ => rfl) (Or.inl rfl) ⟨rfl, fr.rf, h⟩
  refine hd_go kX5_stepRow 4 (fun _ => rfl) rfl trivial ?_
  rcases Nat.eq_zero_or_pos n with h0 | h0
  · subst h0
    refine hd_go kX5_stepRow 999 (fun _ => rfl) rfl trivial ?_
    refine hd_ju kX5_stepRow (fun _ => rfl) (fun c => ?_) (fun c => absurd (by decide) c)
    exact none_ _ (by decide) rfl
  · have e2 : nI n - 2 = nI (n - 1) - 1 := by
      rw [← nI_pred (n - 1), show n - 1 + 1 = n by omega, Int32.sub_sub]
      rfl
    rw [e2]
    refine s_step_1 M N n hn p hp hr _ (n - 1) (by omega) (fun hlt => ?_)
    unfold nx at none_ ⊢
    cases hm : nx_i p (n - 1) with
    | zero =>
      rw [hm] at none_
      exact none_ _ (by decide) rfl
    | succ i =>
      rw [hm] at hlt
      rw [nI_pred i]
      refine hd_go kX5_stepRow 999 (fun _ => rfl) rfl trivial ?_
      refine hd_ju kX5_stepRow (fun _ => rfl) (fun c => ?_) (fun c => absurd (Int32.not_lt.mp (nI_pos (by omega))) c)
      refine hd_go kX5_stepRow 41 (fun _ => rfl) rfl trivial ?_
      have e1 : nI n - 1 = nI (n - 1) := by rw [← nI_pred (n - 1), show n - 1 + 1 = n by omega]
      rw [e1]
      refine s_step_2 M N n hn i p hp hr hlt _ (n - 1) (by omega) (by omega) (fun g1 g2 => ?_)
      refine hd_go kX5_stepRow 999 (fun _ => rfl) rfl trivial ?_
      refine hd_ca kX5_stepRow qX5_stepRow (fun _ => rfl) (s_exch M N i _ (by omega) (by omega)) ?_
      rintro r M1 N1 ⟨rfl, rfl, e⟩
      refine hd_go kX5_stepRow 85 (fun _ => rfl) rfl trivial ?_
      rw [e1, nI_1]
      subst e
      exact s_step_3 M N1 n hn _ _ _ n (i + 1) (n - 1) _ _ (by omega) (by omega) (by omega) (hr.ex (by omega) (by omega)) ((fr.rf.up (show r48 48 _ from rfl)).up (show r48 48 _ from rfl)) (fun M1 a b => ⟨rfl, a, rfl, b⟩)
abbrev orF : Nat → Nat → Prop := fun c _ => (7 ≤ c ∧ c ≤ 12) ∨ c = 48 ∨ c = 49
def orH (n : Nat) (M : hd_M) (b : Int32) (r : List Nat) : Prop := b = -1 ∨ rwH M 49 n (ls_p r)
set_option maxRecDepth 20000 in
theorem s_bst_l (M : hd_M) (N : hd_N) (d : dy_T) (hd : hm M 1 d) (ok : dy_ok d) (ha : dy_all d) (hn : d.1 ≤ 5) : ∀ (m k : Nat) (l : List Nat) (b : Int32) (r : List Nat) (z : Option Value) (M' : hd_M), k + m = 120 → fr orF M M' → rwH M' 48 d.1 (ls_p l) → (∀ q, q ∈ pr_it d.1 m l → gd d.1 q) → orH d.1 M' b r → hd_Go mX5_findBestRow 35 [some (.ref 0), some (.int (nI d.1)), some (.int b), some (.int 1), some (.int (nI k)), z] [] M' N (fun r1 M1 N1 => r1 = some (.int (or_go d (pr_it d.1 m l) b r).1) ∧ N1 = N ∧ fr orF M M1 ∧ orH d.1 M1 (or_go d (pr_it d.1 m l) b r).1 (or_go d (pr_it d.1 m l) b r).2) := by
  intro m
  induction m with
  | zero =>
    intro k l b r z M' hk hf hr hg ho
    refine hd_go kX5_findBestRow 999 (fun _ => rfl) rfl trivial ?_
    refine hd_ju kX5_findBestRow (fun _ => rfl) (fun c => ?_) (fun c => absurd (nI_le (a := 120) (by omega) (by omega)) c)
    refine hd_go kX5_findBestRow 999 (fun _ => rfl) rfl trivial ?_
    exact hd_en_ kX5_findBestRow (fun _ => rfl) trivial ⟨rfl, rfl, hf, ho⟩
  | succ m ih =>
    intro k l b r z M' hk hf hr hg ho
    rw [pr_it] at hg ⊢
    have gl : gd d.1 l := hg l (List.mem_cons_self ..)
    have gt : ∀ q, q ∈ pr_t d.1 (pr_it d.1 m) (nx d.1 (ls_p l)) → gd d.1 q := fun q hq => hg q (List.mem_cons_of_mem _ hq)
    refine hd_go kX5_findBestRow 999 (fun _ => rfl) rfl trivial ?_
    refine hd_ju kX5_findBestRow (fun _ => rfl) (fun c => absurd c (nI_ge (b := 120) (by omega) (by decide))) (fun c => ?_)
    refine hd_go kX5_findBestRow 999 (fun _ => rfl) rfl trivial ?_
    refine hd_ju kX5_findBestRow (fun _ => rfl) (fun c => absurd c (by decide)) (fun c => ?_)
    refine hd_go kX5_findBestRow 999 (fun _ => rfl) rfl trivial ?_
    have hd' : hm M' 1 d := hd.mv (fun c j h1 h2 => hf c j (by show ¬ ((7 ≤ c ∧ c ≤ 12) ∨ c = 48 ∨ c = 49); omega))
    refine hd_ca kX5_findBestRow qX5_findBestRow (fun _ => rfl) (s_copyOrd M' N d hd' hn (ls_p l) (fun i hi => ⟨hr i hi, gl i hi⟩)) ?_
    rintro r1 M1 N1 ⟨rfl, rfl, hf1, hd1⟩
    refine hd_go kX5_findBestRow 999 (fun _ => rfl) rfl trivial ?_
    refine hd_ca kX5_findBestRow qX5_findBestRow (fun _ => rfl) (s_pass_7 M1 N1 _ hd1 (dy_ok_prm ok ha gl) 10 (by decide)) ?_
    rintro r1 M2 N2 ⟨rfl, rfl, hf2, -⟩
    have f2 : fr orF M M2 := (hf.tr (hf1.mo (fun c j z => by have z : 7 ≤ c ∧ c ≤ 11 := z; exact Or.inl (by omega)))).tr (hf2.mo (fun c j z => Or.inl z))
    have k2 : ∀ c j, 48 ≤ c → c ≤ 49 → M2 c j = M' c j := fun c j h1 h2 => by rw [hf2 c j (by show ¬ (7 ≤ c ∧ c ≤ 12); omega), hf1 c j (by show ¬ (7 ≤ c ∧ c ≤ 11); omega)]
    obtain ⟨y, hy⟩ : ∃ y, y = dy_md 10 (dy_prm (ls_p l) d) := ⟨_, rfl⟩
    have y0 : 0 ≤ y := by rw [hy]; exact dy_md_pos (dy_ok_prm ok ha gl)
    refine hd_go kX5_findBestRow 999 (fun _ => rfl) rfl trivial ?_
    show hd_Go mX5_findBestRow 75 [some (.ref 0), some (.int (nI d.1)), some (.int b), some (.int 1), some (.int (nI k)), some (.int (dy_md 10 (dy_prm (ls_p l) d)))] [.int b, .int (dy_md 10 (dy_prm (ls_p l) d))] M2 N2 _
    rw [or_go, ← hy]
    -- behind the comparing
    have tail : ∀ (b2 : Int32) (r2 : List Nat) (M3 : hd_M), fr orF M M3 → rwH M3 48 d.1 (ls_p l) → orH d.1 M3 b2 r2 → hd_Go mX5_findBestRow 95 [some (.ref 0), some (.int (nI d.1)), some (.int b2), some (.int 1), some (.int (nI k)), some (.int y)] [] M3 N2 (fun r1 M1 N1 => r1 = some (.int (or_go d (pr_t d.1 (pr_it d.1 m) (nx d.1 (ls_p l))) b2 r2).1) ∧ N1 = N2 ∧ fr orF M M1 ∧ orH d.1 M1 (or_go d (pr_t d.1 (pr_it d.1 m) (nx d.1 (ls_p l))) b2 r2).1 (or_go d (pr_t d.1 (pr_it d.1 m) (nx d.1 (ls_p l))) b2 r2).2) := by
      intro b2 r2 M3 f3 hr3 ho3
      refine hd_go kX5_findBestRow 999 (fun _ => rfl) rfl trivial ?_
      refine hd_ca kX5_findBestRow qX5_findBestRow (fun _ => rfl) (s_step M3 N2 d.1 hn (ls_p l) gl hr3) ?_
      rintro r1 M4 N4 ⟨rfl, hf4, hs⟩
      have f4 : fr orF M M4 := f3.tr (hf4.mo (fun c j z => Or.inr (Or.inl z)))
      have ho4 : orH d.1 M4 b2 r2 := ho3.elim Or.inl (fun z => Or.inr (fun x hx => by rw [hf4 49 x (by show ¬ 49 = 48; decide)]; exact z x hx))
      cases hq : nx d.1 (ls_p l) with
      | none =>
        rw [hq] at hs
        have hs : r1 = some (.int 0) := hs
        subst hs
        have fin : ∀ y1 y2 : Int32, hd_Go mX5_findBestRow 107 [some (.ref 0), some (.int (nI d.1)), some (.int b2), some (.int y1), some (.int y2), some (.int y)] [] M4 N4 (fun r1 M1 N1 => r1 = some (.int b2) ∧ N1 = N4 ∧ fr orF M M1 ∧ orH d.1 M1 b2 r2) := fun y1 y2 => by
          refine hd_go kX5_findBestRow 999 (fun _ => rfl) rfl trivial ?_
          exact hd_en_ kX5_findBestRow (fun _ => rfl) trivial ⟨rfl, rfl, f4, ho4⟩
        refine hd_go kX5_findBestRow 35 (fun _ => rfl) rfl trivial ?_
        refine hd_go kX5_findBestRow 999 (fun _ => rfl) rfl trivial ?_
        refine hd_ju kX5_findBestRow (fun _ => rfl) (fun c => fin _ _) (fun c => ?_)
        refine hd_go kX5_findBestRow 999 (fun _ => rfl) rfl trivial ?_
        exact hd_ju kX5_findBestRow (fun _ => rfl) (fun c => fin _ _) (fun c => absurd rfl c)
      | some q =>
        rw [hq] at hs
        obtain ⟨rfl, hs⟩ : r1 = some (.int 1) ∧ rwH M4 48 d.1 q := hs
        refine hd_go kX5_findBestRow 35 (fun _ => rfl) rfl trivial ?_
        rw [nI_1]
        rw [hq] at gt
        exact ih (k + 1) (ls_f d.1 q) b2 r2 _ M4 (by omega) f4 (fun x hx => by rw [ls_pf hx]; exact hs x hx) gt ho4
    by_cases c2 : b < y
    · rw [if_pos c2]
      refine hd_ju kX5_findBestRow (fun _ => rfl) (fun c => absurd c2 (Int32.not_lt.mpr c)) (fun c => ?_)
      have e9 : (nI d.1).toNatClampNeg = d.1 := nI_clamp (by omega)
      refine hd_go kX5_findBestRow 95 (fun _ => rfl) rfl ?_ ?_
      · refine ⟨trivial, by decide, by decide, nI_pos (by omega), ?_, ?_⟩
        · rw [e9]; show 0 + d.1 ≤ 5; omega
        · rw [e9]; show 0 + d.1 ≤ 5; omega
      rw [e9]
      refine tail y l _ ?_ ?_ (Or.inr ?_)
      · intro c j hc
        have hc9 : ¬ ((7 ≤ c ∧ c ≤ 12) ∨ c = 48 ∨ c = 49) := hc
        rw [← f2 c j hc]
        show (if c = 49 then _ else M2 c j) = M2 c j
        rw [if_neg (by omega)]
      · intro x hx
        show (if 48 = 49 then _ else M2 48 x) = _
        rw [if_neg (by decide), k2 _ _ (by decide) (by decide)]; exact hr x hx
      · intro x hx
        simp [hd_cp, va_cpy, hx]
        rw [k2 _ _ (by decide) (by decide)]; exact hr x hx
    · rw [if_neg c2]
      refine hd_ju kX5_findBestRow (fun _ => rfl) (fun c => ?_) (fun c => absurd (Int32.not_le.mp c) c2)
      refine tail b r M2 f2 (fun x hx => by rw [k2 _ _ (by decide) (by decide)]; exact hr x hx) (ho.elim Or.inl (fun z => Or.inr (fun x hx => by rw [k2 _ _ (by decide) (by decide)]; exact z x hx)))
set_option maxRecDepth 20000 in
theorem s_bst_0 (M : hd_M) (N : hd_N) (n : Nat) (hn : n ≤ 5) (Q : hd_Q) (hk : ∀ M1, fr r48 M M1 → rwH M1 48 n (ls_p (List.range n)) → hd_Go mX5_findBestRow 28 [some (.ref 0), some (.int (nI n)), some (.int (nI n)), none, none, none] [] M1 N Q) : ∀ (m i : Nat) (M' : hd_M), i + m = n → fr r48 M M' → (∀ x, x < i → M' 48 x = nI x) → hd_Go mX5_findBestRow 10 [some (.ref 0), some (.int (nI n)), some (.int (nI i)), none, none, none] [] M' N Q := by
  intro m
  induction m with
  | zero =>
    intro i M' hi hf hx
    have hi : i = n := by omega
    subst hi
    refine hd_go kX5_findBestRow 999 (fun _ => rfl) rfl trivial ?_
    refine hd_ju kX5_findBestRow (fun _ => rfl) (fun c => ?_) (fun c => absurd (nI_le (by omega) (by omega)) c)
    refine hk M' hf (fun x h => ?_)
    rw [hx x h]
    simp [ls_p, h]
  | succ m ih =>
    intro i M' hi hf hx
    refine hd_go kX5_findBestRow 999 (fun _ => rfl) rfl trivial ?_
    refine hd_ju kX5_findBestRow (fun _ => rfl) (fun c => absurd c (nI_ge (by omega) (by omega))) (fun c => ?_)
    refine hd_go kX5_findBestRow 999 (fun _ => rfl) rfl ⟨trivial, v5 (by omega)⟩ ?_
    rw [nI_1, nI_clamp (show i < 2 ^ 31 by omega)]
    refine ih (i + 1) _ (by omega) (hf.up rfl) (fun x h => ?_)
    by_cases e : x = i
    · rw [e, hd_u_s]
    · rw [hd_u_n (by omega)]; exact hx x (by omega)
set_option maxRecDepth 20000 in
theorem s_bst (M : hd_M) (N : hd_N) (d : dy_T) (hd : hm M 1 d) (ok : dy_ok d) (ha : dy_all d) (hn : d.1 ≤ 5) : hd_Ret mX5_findBestRow [.ref 0] M N (fun r1 M1 N1 => r1 = some (.int (or_b d).1) ∧ N1 = N ∧ fr orF M M1 ∧ rwH M1 49 d.1 (ls_p (or_b d).2)) := by
  change hd_Go mX5_findBestRow 0 [some (.ref 0), none, none, none, none, none] [] M N _
  refine hd_go kX5_findBestRow 10 (fun _ => rfl) rfl trivial ?_
  rw [hd.1]
  refine s_bst_0 M N d.1 hn _ (fun M1 hf hr => ?_) d.1 0 M (by omega) fr.rf (fun x h => absurd h (Nat.not_lt_zero x))
  refine hd_go kX5_findBestRow 35 (fun _ => rfl) rfl trivial ?_
  have hg := pr_gd d.1 hn
  refine hd_Go.post ?_ (s_bst_l M N d hd ok ha hn 120 0 (List.range d.1) (-1) [] none M1 rfl (hf.mo (fun c j z => Or.inr (Or.inl z))) hr hg (Or.inl rfl))
  rintro r1 M2 N2 ⟨h1, h2, h3, h4⟩
  refine ⟨h1, h2, h3, ?_⟩
  rcases h4 with z | z
  · have := or_pos d ok ha (pr_it d.1 120 (List.range d.1)) (-1) [] hg (Or.inr (by rw [pr_it]; exact List.cons_ne_nil _ _))
    rw [z] at this
    exact absurd this (by decide)
  · exact z
set_option maxRecDepth 20000 in
theorem wi1014 {w : Int32} (h : wi w 10 14) : ∃ j : Nat, j ≤ 4 ∧ w = nI (10 + j) ∧ w - 10 = nI j ∧ ¬ w = 0 := by
  have h0 : wi w 0 14 := ⟨fun z => h.1 (Int32.lt_trans z (by decide)), h.2⟩
  obtain ⟨j, hj, rfl⟩ := wi_nat (n := 14) rfl h0
  have : 10 ≤ j := by
    rcases Nat.lt_or_ge j 10 with z | z
    · exact absurd ((nI_ltI (a := j) (b := 10) (by omega) (by decide)).mpr z) h.1
    · exact z
  obtain ⟨k, rfl⟩ : ∃ k, j = 10 + k := ⟨j - 10, by omega⟩
  refine ⟨k, by omega, rfl, ?_, fun z => ?_⟩
  · rw [show nI (10 + k) = nI 10 + nI k from (nI_add _ _).symm, Int32.add_comm]
    exact Int32.add_sub_cancel _ _
  · exact nI_ne0 (n := 10 + k) (by omega) (by omega) z
set_option maxRecDepth 20000 in
theorem c_order (w : Int32) : cA mX5_order [.int w] (an_order w) := by
  intro M N st hI hO
  change hd_Go mX5_order 0 [some (.ref 0), some (.int w), none] [] M N _
  have h7 := hO.1.1
  have bad2 : ¬ (st.1.1 ≤ 5 ∧ dy_all st.1) → w = 0 ∨ wi w 10 14 → hd_Go mX5_order 38 [some (.ref 0), some (.int w), none] [] M N (fun r M1 N1 => r = some (an_order w st).1 ∧ N1 = N ∧ fr clsF M M1 ∧ CI M1 (an_order w st).2) := by
    intro q q0
    refine hd_go kX5_order 999 (fun _ => rfl) rfl trivial ?_
    refine hd_en_ kX5_order (fun _ => rfl) trivial ?_
    unfold an_order
    rw [if_pos q0, if_neg q]
    exact ⟨rfl, rfl, fr.rf, hI⟩
  have main : w = 0 ∨ wi w 10 14 → hd_Go mX5_order 17 [some (.ref 0), some (.int w), none] [] M N (fun r M1 N1 => r = some (an_order w st).1 ∧ N1 = N ∧ fr clsF M M1 ∧ CI M1 (an_order w st).2) := by
    intro q0
    refine hd_go kX5_order 999 (fun _ => rfl) rfl trivial ?_
    rw [hI.1.1]
    refine hd_ju kX5_order (fun _ => rfl) (fun c => bad2 (fun z => nI_nlt (a := 5) (b := st.1.1) z.1 (by decide) c) q0) (fun c => ?_)
    have hn : st.1.1 ≤ 5 := by
      rcases Nat.lt_or_ge 5 st.1.1 with z | z
      · exact absurd ((nI_ltI (a := 5) (by decide) (by omega)).mpr z) c
      · exact z
    refine hd_go kX5_order 999 (fun _ => rfl) rfl trivial ?_
    refine hd_ci kX5_order qX5_order (fun _ => rfl) (s_allIn M N st.1 hI.1 hO.1) ?_
    refine hd_ju kX5_order (fun _ => rfl) (fun q => ?_) (fun q => bad2 (fun z => hd_b0.mp q z.2) q0)
    have ha := hd_b1.mp q
    unfold an_order
    rw [if_pos q0, if_pos ⟨hn, ha⟩]
    refine hd_go kX5_order 999 (fun _ => rfl) rfl trivial ?_
    rw [hI.1.1]
    have goon : w = 0 ∨ (w - 10 < nI st.1.1 ∧ wi w 10 14) → hd_Go mX5_order 58 [some (.ref 0), some (.int w), none] [] M N (fun r M1 N1 => r = some (Value.int (if w = 0 then (or_b st.1).1 else if w - 10 < nI st.1.1 then nI (ls_p (or_b st.1).2 (w - 10).toNatClampNeg) else -4)) ∧ N1 = N ∧ fr clsF M M1 ∧ CI M1 st) := by
      intro hw
      refine hd_go kX5_order 999 (fun _ => rfl) rfl trivial ?_
      refine hd_ca kX5_order qX5_order (fun _ => rfl) (s_bst M N st.1 hI.1 hO.1 ha hn) ?_
      rintro r M1 N1 ⟨rfl, rfl, hf, hr⟩
      have e1 : fr clsF M M1 := hf.mo (fun c j z => by have z : (7 ≤ c ∧ c ≤ 12) ∨ c = 48 ∨ c = 49 := z; show c ≤ 50; omega)
      have e2 : CI M1 st := hI.mv (hf.mo (fun c j z => by have z : (7 ≤ c ∧ c ≤ 12) ∨ c = 48 ∨ c = 49 := z; show (6 ≤ c ∧ c ≤ 12) ∨ 48 ≤ c; omega))
      refine hd_go kX5_order 999 (fun _ => rfl) rfl trivial ?_
      refine hd_ju kX5_order (fun _ => rfl) (fun c => ?_) (fun c => ?_)
      · rcases hw with z | ⟨z1, z2⟩
        · exact absurd z c
        · obtain ⟨j, hj, e3, e4, e5⟩ := wi1014 z2
          rw [if_neg c, if_pos z1, e4, nI_clamp (by omega)]
          have hjn : j < st.1.1 := by rw [e4] at z1; exact (nI_ltI (by omega) (by omega)).mp z1
          refine hd_go kX5_order 999 (fun _ => rfl) rfl ?_ ?_
          · rw [e4]; exact ⟨trivial, v5 (by omega)⟩
          rw [e4, nI_clamp (show j < 2 ^ 31 by omega), hr j hjn]
          exact hd_en_ kX5_order (fun _ => rfl) trivial ⟨rfl, rfl, e1, e2⟩
      · rw [if_pos c]
        refine hd_go kX5_order 999 (fun _ => rfl) rfl trivial ?_
        exact hd_en_ kX5_order (fun _ => rfl) trivial ⟨rfl, rfl, e1, e2⟩
    refine hd_ju kX5_order (fun _ => rfl) (fun c => ?_) (fun c => ?_)
    · exact goon (q0.elim Or.inl (fun z => Or.inr ⟨c, z⟩))
    · rcases q0 with z | z
      · subst z
        exact absurd (by rw [Int32.lt_iff_toInt_lt, nI_toInt (by omega)]; show (-10 : Int) < _; omega) c
      · obtain ⟨j, hj, e3, e4, e5⟩ := wi1014 z
        rw [if_neg e5, if_neg c]
        refine hd_go kX5_order 999 (fun _ => rfl) rfl trivial ?_
        exact hd_en_ kX5_order (fun _ => rfl) trivial ⟨rfl, rfl, fr.rf, hI⟩
  refine hd_go kX5_order 999 (fun _ => rfl) rfl trivial ?_
  refine hd_ju kX5_order (fun _ => rfl) (fun c => main (Or.inl c)) (fun c => ?_)
  refine hd_go kX5_order 999 (fun _ => rfl) rfl trivial ?_
  refine hd_ci kX5_order qX5_order (fun _ => rfl) (s_isWithin _ _ _ M N) ?_
  refine hd_ju kX5_order (fun _ => rfl) (fun q => main (Or.inr (hd_b1.mp q))) (fun q => ?_)
  have q := hd_b0.mp q
  refine hd_go kX5_order 999 (fun _ => rfl) rfl trivial ?_
  refine hd_en_ kX5_order (fun _ => rfl) trivial ?_
  unfold an_order
  rw [if_neg (fun z => z.elim c q)]
  exact ⟨rfl, rfl, fr.rf, hI⟩
