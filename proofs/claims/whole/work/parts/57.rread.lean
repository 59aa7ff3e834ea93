/-! THE REFERENCE READS ITS TAPE; printed by wip/whole/rt1.py -/
abbrev rdF : Nat → Nat → Prop := fun c j => c = 51 ∧ 8 ≤ j ∧ j ≤ 13
def tx_b (t : tx_T) (p : Nat) : Int32 := if p < t.1 then t.2 p else -1
/-- a text as the state holds it -/
def tx_ok (t : tx_T) : Prop := t.1 ≤ 160 ∧ ∀ i, i < t.1 → ∃ b, b ≤ 127 ∧ t.2 i = nI b
theorem tpR.fr {M M1 : hd_M} {t : tx_T} {S : Nat → Nat → Prop} (h : tpR M t) (he : fr S M M1) (h1 : ¬ S 51 7) (h2 : ∀ j, ¬ S 56 j) : tpR M1 t :=
  ⟨by rw [he 51 7 h1]; exact h.1, fun i hi => by rw [he 56 i (h2 i)]; exact h.2 i hi⟩
theorem rd_7 : ¬ rdF 51 7 := fun z => by have z := z.2.1; omega
theorem rd_56 (j : Nat) : ¬ rdF 56 j := fun z => by have z := z.1; omega
theorem tb_in {t : tx_T} {p : Nat} (h : p < t.1) : tx_b t p = t.2 p := if_pos h
theorem tb4 (t : tx_T) (p : Nat) : tx_b t p = 32 ↔ tx_so t p = 4 := by
  unfold tx_b tx_so
  by_cases h : p < t.1
  · simp only [h, if_true]
    generalize t.2 p = x
    constructor
    · rintro rfl; decide
    · intro z
      by_cases h1 : ¬ x < 97 ∧ ¬ 122 < x
      · rw [if_pos h1] at z; exact absurd z (by decide)
      rw [if_neg h1] at z
      by_cases h2 : ¬ x < 48 ∧ ¬ 57 < x
      · rw [if_pos h2] at z; exact absurd z (by decide)
      rw [if_neg h2] at z
      by_cases h3 : x = 59
      · rw [if_pos h3] at z; exact absurd z (by decide)
      rw [if_neg h3] at z
      by_cases h4 : x = 32
      · exact h4
      · rw [if_neg h4] at z; exact absurd z (by decide)
  · simp only [h, if_false]
    decide
theorem tb3 (t : tx_T) (p : Nat) : tx_b t p = 59 ↔ tx_so t p = 3 := by
  unfold tx_b tx_so
  by_cases h : p < t.1
  · simp only [h, if_true]
    generalize t.2 p = x
    constructor
    · rintro rfl; decide
    · intro z
      by_cases h1 : ¬ x < 97 ∧ ¬ 122 < x
      · rw [if_pos h1] at z; exact absurd z (by decide)
      rw [if_neg h1] at z
      by_cases h2 : ¬ x < 48 ∧ ¬ 57 < x
      · rw [if_pos h2] at z; exact absurd z (by decide)
      rw [if_neg h2] at z
      by_cases h3 : x = 59
      · exact h3
      rw [if_neg h3] at z
      by_cases h4 : x = 32
      · rw [if_pos h4] at z; exact absurd z (by decide)
      · rw [if_neg h4] at z; exact absurd z (by decide)
  · simp only [h, if_false]
    decide
theorem tb1 (t : tx_T) (p : Nat) : wi (tx_b t p) 97 122 ↔ tx_so t p = 1 := by
  unfold tx_b tx_so
  by_cases h : p < t.1
  · simp only [h, if_true]
    generalize t.2 p = x
    by_cases h1 : ¬ x < 97 ∧ ¬ 122 < x
    · rw [if_pos h1]; exact ⟨fun _ => rfl, fun _ => h1⟩
    · rw [if_neg h1]
      refine ⟨fun z => absurd z h1, fun z => ?_⟩
      exfalso
      revert z
      split
      · decide
      split
      · decide
      split <;> decide
  · simp only [h, if_false]
    decide
theorem tb2 (t : tx_T) (p : Nat) : wi (tx_b t p) 48 57 ↔ tx_so t p = 2 := by
  unfold tx_b tx_so
  by_cases h : p < t.1
  · simp only [h, if_true]
    generalize t.2 p = x
    by_cases h1 : ¬ x < 97 ∧ ¬ 122 < x
    · rw [if_pos h1]
      refine ⟨fun z => ?_, fun z => absurd z (by decide)⟩
      have a := Int32.not_lt.mp h1.1
      have b := Int32.not_lt.mp z.2
      exact absurd (Int32.le_trans a b) (by decide)
    · rw [if_neg h1]
      by_cases h2 : ¬ x < 48 ∧ ¬ 57 < x
      · rw [if_pos h2]; exact ⟨fun _ => rfl, fun _ => h2⟩
      · rw [if_neg h2]
        refine ⟨fun z => absurd z h2, fun z => ?_⟩
        exfalso
        revert z
        split
        · decide
        split <;> decide
  · simp only [h, if_false]
    decide
theorem tb0 {t : tx_T} (ok : tx_ok t) (p : Nat) : 0 ≤ tx_b t p ↔ ¬ tx_so t p = 0 := by
  rw [tx_so0]
  unfold tx_b
  by_cases h : p < t.1
  · obtain ⟨b, hb, e⟩ := ok.2 p h
    simp only [h, if_true, e]
    exact ⟨fun _ z => z trivial, fun _ => nI_pos' (by omega)⟩
  · simp only [h, if_false]
    decide
theorem tx_nu_snoc (t : tx_T) : ∀ (m p : Nat) (a : Int32), tx_nu t (m + 1) p a = 10 * tx_nu t m p a + t.2 (p + m) - 48 := by
  intro m
  induction m with
  | zero => intro p a; rfl
  | succ m ih =>
    intro p a
    rw [tx_nu, ih (p + 1), show p + 1 + m = p + (m + 1) by omega]
    rfl
/-- the reader: a fault, or a token by its start -/
def rS (M : hd_M) (t : tx_T) : tx_F ⊕ Nat → Prop
  | .inl (c, w) => M 51 12 = c ∧ 0 < c ∧ M 51 13 = nI w
  | .inr s => M 51 12 = 0 ∧ s ≤ t.1 ∧ M 51 8 = nI (tx_e t s) ∧ M 51 9 = nI s ∧ M 51 10 = tx_so t s ∧ (tx_so t s = 2 → M 51 11 = tx_v t s)
set_option maxRecDepth 20000 in
theorem r_byteAt (M : hd_M) (N : hd_N) (t : tx_T) (ht : tpR M t) (hn : t.1 ≤ 160) (p : Nat) (hp : p ≤ 200) : hd_Ret mX6_byteAt [.ref 51, .int (nI p)] M N (hd_is (.int (tx_b t p)) M N) := by
  change hd_Go mX6_byteAt 0 [some (.ref 51), some (.int (nI p))] [] M N _
  unfold tx_b
  refine hd_go kX6_byteAt 999 (fun _ => rfl) rfl trivial ?_
  rw [ht.1]
  refine hd_ju kX6_byteAt (fun _ => rfl) (fun c => ?_) (fun c => ?_)
  · have hlt : ¬ p < t.1 := fun z => nI_ge z (by omega) c
    rw [if_neg hlt]
    refine hd_go kX6_byteAt 999 (fun _ => rfl) rfl trivial ?_
    exact hd_en_ kX6_byteAt (fun _ => rfl) trivial ⟨rfl, rfl, rfl⟩
  · have hlt : p < t.1 := Decidable.byContradiction (fun z => c (nI_le (by omega) (by omega)))
    rw [if_pos hlt]
    refine hd_go kX6_byteAt 18 (fun _ => rfl) rfl ⟨trivial, vp_in_nI (by omega) (by decide)⟩ ?_
    rw [nI_clamp (show p < 2 ^ 31 by omega), ht.2 p hlt]
    exact hd_en_ kX6_byteAt (fun _ => rfl) trivial ⟨rfl, rfl, rfl⟩
set_option maxRecDepth 20000 in
theorem r_req (M : hd_M) (N : hd_N) (g c : Int32) : hd_Ret mX6_requires [.ref 51, .int g, .int c] M N (fun r M1 N1 => r = none ∧ N1 = N ∧ M1 = if g = 0 ∧ M 51 12 = 0 then hd_u (hd_u M 51 12 c) 51 13 (M 51 9) else M) := by
  change hd_Go mX6_requires 0 [some (.ref 51), some (.int g), some (.int c)] [] M N _
  refine hd_go kX6_requires 999 (fun _ => rfl) rfl trivial ?_
  refine hd_ju kX6_requires (fun _ => rfl) (fun c => ?_) (fun c => ?_)
  · exact hd_en_ kX6_requires (fun _ => rfl) trivial ⟨rfl, rfl, (if_neg (fun z => c z.1)).symm⟩
  · refine hd_go kX6_requires 999 (fun _ => rfl) rfl trivial ?_
    refine hd_ju kX6_requires (fun _ => rfl) (fun c2 => ?_) (fun c2 => ?_)
    · exact hd_en_ kX6_requires (fun _ => rfl) trivial ⟨rfl, rfl, (if_neg (fun z => c2 z.2)).symm⟩
    ·
      refine hd_go kX6_requires 999 (fun _ => rfl) rfl trivial ?_
      refine hd_en_ kX6_requires (fun _ => rfl) trivial ⟨rfl, rfl, ?_⟩
      rw [if_pos ⟨c, c2⟩, hd_u_n (by omega)]
/-- what is required of a reader -/
def rq (b : Prop) [Decidable b] (c : Int32) : tx_F ⊕ Nat → tx_F ⊕ Nat
  | .inl f => .inl f
  | .inr s => if b then .inr s else .inl (c, s)
theorem rq_t {b : Prop} [Decidable b] {c : Int32} {s : Nat} (h : b) : rq b c (.inr s) = .inr s := by
  show (if b then _ else _) = _
  rw [if_pos h]
theorem rq_f {b : Prop} [Decidable b] {c : Int32} {s : Nat} (h : ¬ b) : rq b c (.inr s) = .inl (c, s) := by
  show (if b then _ else _) = _
  rw [if_neg h]
set_option maxRecDepth 20000 in
theorem r_rq (M : hd_M) (N : hd_N) (t : tx_T) (σ : tx_F ⊕ Nat) (hS : rS M t σ) (b : Prop) [Decidable b] (c : Int32) (hc : 0 < c) : hd_Ret mX6_requires [.ref 51, .int (hd_b b), .int c] M N (fun r M1 N1 => r = none ∧ N1 = N ∧ fr (fun c j => c = 51 ∧ 12 ≤ j ∧ j ≤ 13) M M1 ∧ rS M1 t (rq b c σ)) := by
  refine hd_Go.post ?_ (r_req M N (hd_b b) c)
  rintro r M1 N1 ⟨rfl, rfl, h⟩
  refine ⟨rfl, rfl, ?_⟩
  match σ, hS with
  | .inl (c1, w1), hS =>
    have h0 : ¬ M 51 12 = 0 := fun z => by
      rw [← hS.1, z] at hS
      exact absurd hS.2.1 (by decide)
    rw [if_neg (fun z => h0 z.2)] at h
    rw [h]
    exact ⟨fr.rf, hS⟩
  | .inr s, hS =>
    by_cases hb : b
    · rw [if_neg (fun z => hd_b0.mp z.1 hb)] at h
      rw [h]
      rw [rq_t hb]
      exact ⟨fr.rf, hS⟩
    · rw [if_pos ⟨hd_b0.mpr hb, hS.1⟩] at h
      rw [h]
      rw [rq_f hb]
      refine ⟨(fr.rf.up ⟨rfl, by decide, by decide⟩).up ⟨rfl, by decide, by decide⟩, ?_, hc, ?_⟩
      · rw [hd_u_n (by omega), hd_u_s]
      · rw [hd_u_s]; exact hS.2.2.2.1
set_option maxRecDepth 20000 in
theorem r_rd_1 (M : hd_M) (N : hd_N) (t : tx_T) (ht : tpR M t) (ok : tx_ok t) (Q : hd_Q) (E : Nat) (hk : ∀ M1, fr (fun c j => c = 51 ∧ j = 8) M M1 → M1 51 8 = nI E → hd_Go mX6_reads 34 [some (.ref 51), none] [] M1 N Q) : ∀ (m p : Nat) (M' : hd_M), p + m = t.1 → fr (fun c j => c = 51 ∧ j = 8) M M' → M' 51 8 = nI p → tx_run t 4 m p = E → hd_Go mX6_reads 8 [some (.ref 51), none] [] M' N Q := by
  have hn := ok.1
  intro m
  induction m with
  | zero =>
    intro p M' hp hf h8 hE
    have hE : p = E := hE
    have ht' : tpR M' t := ht.fr hf (by show ¬ (51 = 51 ∧ 7 = 8); omega) (fun j z => by have z : 56 = 51 ∧ j = 8 := z; omega)
    refine hd_go kX6_reads 999 (fun _ => rfl) rfl trivial ?_
    rw [h8]
    refine hd_ci kX6_reads qX6_reads (fun _ => rfl) (r_byteAt M' N t ht' hn p (by omega)) ?_
    refine hd_go kX6_reads 999 (fun _ => rfl) rfl trivial ?_
    refine hd_ju kX6_reads (fun _ => rfl) (fun c => hk M' hf (by rw [h8, hE])) (fun c => ?_)
    exfalso
    have z := (tb4 t p).mp c
    rw [(tx_so0 t p).mpr (by omega)] at z
    exact absurd z (by decide)
  | succ m ih =>
    intro p M' hp hf h8 hE
    rw [tx_run] at hE
    have ht' : tpR M' t := ht.fr hf (by show ¬ (51 = 51 ∧ 7 = 8); omega) (fun j z => by have z : 56 = 51 ∧ j = 8 := z; omega)
    refine hd_go kX6_reads 999 (fun _ => rfl) rfl trivial ?_
    rw [h8]
    refine hd_ci kX6_reads qX6_reads (fun _ => rfl) (r_byteAt M' N t ht' hn p (by omega)) ?_
    refine hd_go kX6_reads 999 (fun _ => rfl) rfl trivial ?_
    refine hd_ju kX6_reads (fun _ => rfl) (fun c => ?_) (fun c => ?_)
    · rw [if_neg (fun z => c ((tb4 t p).mpr z))] at hE
      exact hk M' hf (by rw [h8, hE])
    · rw [if_pos ((tb4 t p).mp c)] at hE
      refine hd_go kX6_reads 8 (fun _ => rfl) rfl trivial ?_
      rw [h8, nI_1]
      exact ih (p + 1) _ (by omega) (hf.up ⟨rfl, rfl⟩) (hd_u_s _ _ _ _) hE
set_option maxRecDepth 20000 in
theorem r_rd_2 (M : hd_M) (N : hd_N) (t : tx_T) (ht : tpR M t) (ok : tx_ok t) (x : Int32) (E : Nat) : ∀ (m p : Nat) (M' : hd_M), p + m = t.1 → fr (fun c j => c = 51 ∧ j = 8) M M' → M' 51 8 = nI p → tx_run t 1 m p = E → hd_Go mX6_reads 82 [some (.ref 51), some (.int x)] [] M' N (fun r M1 N1 => r = none ∧ N1 = N ∧ fr (fun c j => c = 51 ∧ j = 8) M M1 ∧ M1 51 8 = nI E) := by
  have hn := ok.1
  intro m
  induction m with
  | zero =>
    intro p M' hp hf h8 hE
    have hE : p = E := hE
    have ht' : tpR M' t := ht.fr hf (by show ¬ (51 = 51 ∧ 7 = 8); omega) (fun j z => by have z : 56 = 51 ∧ j = 8 := z; omega)
    refine hd_go kX6_reads 999 (fun _ => rfl) rfl trivial ?_
    rw [h8]
    refine hd_ci kX6_reads qX6_reads (fun _ => rfl) (r_byteAt M' N t ht' hn p (by omega)) ?_
    refine hd_go kX6_reads 999 (fun _ => rfl) rfl trivial ?_
    refine hd_ci kX6_reads qX6_reads (fun _ => rfl) (r_in (tx_b t p) 97 122 _ _ rfl rfl M' N) ?_
    refine hd_ju kX6_reads (fun _ => rfl) (fun c => ?_) (fun c => ?_)
    · exact hd_en_ kX6_reads (fun _ => rfl) trivial ⟨rfl, rfl, hf, by rw [h8, hE]⟩
    · exfalso
      have z := (tb1 t p).mp (hd_b1.mp c)
      rw [(tx_so0 t p).mpr (by omega)] at z
      exact absurd z (by decide)
  | succ m ih =>
    intro p M' hp hf h8 hE
    rw [tx_run] at hE
    have ht' : tpR M' t := ht.fr hf (by show ¬ (51 = 51 ∧ 7 = 8); omega) (fun j z => by have z : 56 = 51 ∧ j = 8 := z; omega)
    refine hd_go kX6_reads 999 (fun _ => rfl) rfl trivial ?_
    rw [h8]
    refine hd_ci kX6_reads qX6_reads (fun _ => rfl) (r_byteAt M' N t ht' hn p (by omega)) ?_
    refine hd_go kX6_reads 999 (fun _ => rfl) rfl trivial ?_
    refine hd_ci kX6_reads qX6_reads (fun _ => rfl) (r_in (tx_b t p) 97 122 _ _ rfl rfl M' N) ?_
    refine hd_ju kX6_reads (fun _ => rfl) (fun c => ?_) (fun c => ?_)
    · rw [if_neg (fun z => hd_b0.mp c ((tb1 t p).mpr z))] at hE
      exact hd_en_ kX6_reads (fun _ => rfl) trivial ⟨rfl, rfl, hf, by rw [h8, hE]⟩
    · rw [if_pos ((tb1 t p).mp (hd_b1.mp c))] at hE
      refine hd_go kX6_reads 82 (fun _ => rfl) rfl trivial ?_
      rw [h8, nI_1]
      exact ih (p + 1) _ (by omega) (hf.up ⟨rfl, rfl⟩) (hd_u_s _ _ _ _) hE
set_option maxRecDepth 20000 in
theorem r_rd_3 (M : hd_M) (N : hd_N) (t : tx_T) (ht : tpR M t) (ok : tx_ok t) (x : Int32) (E s : Nat) (h9 : M 51 9 = nI s) (Q : hd_Q) (hk : ∀ M1, fr (fun c j => c = 51 ∧ (j = 8 ∨ j = 11)) M M1 → M1 51 8 = nI E → (E - s ≤ 2 → M1 51 11 = tx_nu t (E - s) s 0) → hd_Go mX6_reads 217 [some (.ref 51), some (.int x)] [] M1 N Q) : ∀ (m p : Nat) (M' : hd_M), s ≤ p → p + m = t.1 → fr (fun c j => c = 51 ∧ (j = 8 ∨ j = 11)) M M' → M' 51 8 = nI p → (p - s ≤ 2 → M' 51 11 = tx_nu t (p - s) s 0) → tx_run t 2 m p = E → hd_Go mX6_reads 140 [some (.ref 51), some (.int x)] [] M' N Q := by
  have hn := ok.1
  intro m
  induction m with
  | zero =>
    intro p M' hs hp hf h8 h11 hE
    have hE : p = E := hE
    have ht' : tpR M' t := ht.fr hf (by show ¬ (51 = 51 ∧ (7 = 8 ∨ 7 = 11)); omega) (fun j z => by have z := z.1; omega)
    refine hd_go kX6_reads 999 (fun _ => rfl) rfl trivial ?_
    rw [h8]
    refine hd_ci kX6_reads qX6_reads (fun _ => rfl) (r_byteAt M' N t ht' hn p (by omega)) ?_
    refine hd_go kX6_reads 999 (fun _ => rfl) rfl trivial ?_
    refine hd_ci kX6_reads qX6_reads (fun _ => rfl) (r_in (tx_b t p) 48 57 _ _ rfl rfl M' N) ?_
    refine hd_ju kX6_reads (fun _ => rfl) (fun c => ?_) (fun c => ?_)
    · exact hk M' hf (by rw [h8, hE]) (by rw [← hE]; exact h11)
    · exfalso
      have z := (tb2 t p).mp (hd_b1.mp c)
      rw [(tx_so0 t p).mpr (by omega)] at z
      exact absurd z (by decide)
  | succ m ih =>
    intro p M' hs hp hf h8 h11 hE
    rw [tx_run] at hE
    have ht' : tpR M' t := ht.fr hf (by show ¬ (51 = 51 ∧ (7 = 8 ∨ 7 = 11)); omega) (fun j z => by have z := z.1; omega)
    have e9 : M' 51 9 = nI s := by rw [hf 51 9 (by show ¬ (51 = 51 ∧ (9 = 8 ∨ 9 = 11)); omega)]; exact h9
    refine hd_go kX6_reads 999 (fun _ => rfl) rfl trivial ?_
    rw [h8]
    refine hd_ci kX6_reads qX6_reads (fun _ => rfl) (r_byteAt M' N t ht' hn p (by omega)) ?_
    refine hd_go kX6_reads 999 (fun _ => rfl) rfl trivial ?_
    refine hd_ci kX6_reads qX6_reads (fun _ => rfl) (r_in (tx_b t p) 48 57 _ _ rfl rfl M' N) ?_
    refine hd_ju kX6_reads (fun _ => rfl) (fun c => ?_) (fun c => ?_)
    · rw [if_neg (fun z => hd_b0.mp c ((tb2 t p).mpr z))] at hE
      exact hk M' hf (by rw [h8, hE]) (by rw [← hE]; exact h11)
    · rw [if_pos ((tb2 t p).mp (hd_b1.mp c))] at hE
      -- the number has grown to y
      have nx : ∀ y : Int32, (p + 1 - s ≤ 2 → y = tx_nu t (p + 1 - s) s 0) → hd_Go mX6_reads 201 [some (.ref 51), some (.int x)] [.int y, .ref 51] M' N Q := by
        intro y hy
        refine hd_go kX6_reads 140 (fun _ => rfl) rfl trivial ?_
        rw [hd_u_n (by omega), h8, nI_1]
        exact ih (p + 1) _ (by omega) (by omega) ((hf.up ⟨rfl, Or.inr rfl⟩).up ⟨rfl, Or.inl rfl⟩) (hd_u_s _ _ _ _) (fun z => by rw [hd_u_n (by omega), hd_u_s]; exact hy z) hE
      refine hd_go kX6_reads 999 (fun _ => rfl) rfl trivial ?_
      rw [h8, e9, nI_sb hs]
      refine hd_ju kX6_reads (fun _ => rfl) (fun c => ?_) (fun c => ?_)
      · refine hd_go kX6_reads 201 (fun _ => rfl) rfl trivial ?_
        refine nx _ (fun z => absurd c (nI_ge (b := 2) (by omega) (by decide)))
      · have hlt : p - s < 2 := Decidable.byContradiction (fun z => c (nI_le (a := 2) (by omega) (by omega)))
        refine hd_go kX6_reads 999 (fun _ => rfl) rfl trivial ?_
        rw [h8]
        refine hd_ci kX6_reads qX6_reads (fun _ => rfl) (r_byteAt M' N t ht' hn p (by omega)) ?_
        refine hd_go kX6_reads 201 (fun _ => rfl) rfl trivial ?_
        refine nx _ (fun _ => ?_)
        rw [h11 (by omega), tb_in (show p < t.1 by omega), show p + 1 - s = (p - s) + 1 by omega, tx_nu_snoc, show s + (p - s) = p by omega]
set_option maxRecDepth 20000 in
theorem r_reads_f (M : hd_M) (N : hd_N) (h : 0 < M 51 12) : hd_Ret mX6_reads [.ref 51] M N (fun r M1 N1 => r = none ∧ M1 = M ∧ N1 = N) := by
  change hd_Go mX6_reads 0 [some (.ref 51), none] [] M N _
  refine hd_go kX6_reads 999 (fun _ => rfl) rfl trivial ?_
  refine hd_ju kX6_reads (fun _ => rfl) (fun c => absurd h (Int32.not_lt.mpr c)) (fun _ => ?_)
  exact hd_en_ kX6_reads (fun _ => rfl) trivial ⟨rfl, rfl, rfl⟩
set_option maxRecDepth 20000 in
theorem r_reads (M : hd_M) (N : hd_N) (t : tx_T) (ht : tpR M t) (ok : tx_ok t) (p : Nat) (hp : p ≤ t.1) (h12 : M 51 12 = 0) (h8 : M 51 8 = nI p) : hd_Ret mX6_reads [.ref 51] M N (fun r M1 N1 => r = none ∧ N1 = N ∧ fr rdF M M1 ∧ rS M1 t (tx_rd t p)) := by
  change hd_Go mX6_reads 0 [some (.ref 51), none] [] M N _
  have hn := ok.1
  have hs := tx_s_le hp
  have he := tx_e_le hs.2
  have s4 := tx_s_4 hp
  refine hd_go kX6_reads 999 (fun _ => rfl) rfl trivial ?_
  rw [h12]
  refine hd_ju kX6_reads (fun _ => rfl) (fun _ => ?_) (fun c => absurd (by decide) c)
  refine r_rd_1 M N t ht ok _ (tx_s t p) ?_ (t.1 - p) p M (by omega) fr.rf h8 rfl
  intro M1 hf1 g8
  have hf1' : fr rdF M M1 := hf1.mo (fun c j z => by have z : c = 51 ∧ j = 8 := z; exact ⟨z.1, by omega, by omega⟩)
  refine hd_go kX6_reads 999 (fun _ => rfl) rfl trivial ?_
  rw [g8, hd_u_n (by omega), g8]
  obtain ⟨M2, hM2⟩ : ∃ M2, M2 = hd_u M1 51 9 (nI (tx_s t p)) := ⟨_, rfl⟩
  rw [← hM2]
  have f2 : fr rdF M M2 := by rw [hM2]; exact hf1'.up ⟨rfl, by decide, by decide⟩
  have k12 : M2 51 12 = 0 := by rw [hM2, hd_u_n (by omega), hf1 51 12 (by show ¬ (51 = 51 ∧ 12 = 8); omega)]; exact h12
  have k8 : M2 51 8 = nI (tx_s t p) := by rw [hM2, hd_u_n (by omega), g8]
  have k9 : M2 51 9 = nI (tx_s t p) := by rw [hM2, hd_u_s]
  clear hM2
  have ht2 : tpR M2 t := ht.fr f2 rd_7 rd_56
  refine hd_ci kX6_reads qX6_reads (fun _ => rfl) (r_byteAt M2 N t ht2 hn (tx_s t p) (by omega)) ?_
  refine hd_go kX6_reads 999 (fun _ => rfl) rfl trivial ?_
  refine hd_ju kX6_reads (fun _ => rfl) (fun c => ?_) (fun c => ?_)
  · have n0 := (tb0 ok (tx_s t p)).mp c
    refine hd_go kX6_reads 999 (fun _ => rfl) rfl trivial ?_
    refine hd_ci kX6_reads qX6_reads (fun _ => rfl) (r_in (tx_b t (tx_s t p)) 97 122 _ _ rfl rfl M2 N) ?_
    refine hd_ju kX6_reads (fun _ => rfl) (fun c1 => ?_) (fun c1 => ?_)
    ·
      have n1 : ¬ tx_so t (tx_s t p) = 1 := fun z => hd_b0.mp c1 ((tb1 t _).mpr z)
      refine hd_go kX6_reads 999 (fun _ => rfl) rfl trivial ?_
      refine hd_ci kX6_reads qX6_reads (fun _ => rfl) (r_in (tx_b t (tx_s t p)) 48 57 _ _ rfl rfl M2 N) ?_
      refine hd_ju kX6_reads (fun _ => rfl) (fun c2 => ?_) (fun c2 => ?_)
      ·
        have n2 : ¬ tx_so t (tx_s t p) = 2 := fun z => hd_b0.mp c2 ((tb2 t _).mpr z)
        refine hd_go kX6_reads 252 (fun _ => rfl) rfl trivial ?_
        have f3 : fr rdF M (hd_u M2 51 10 3) := f2.up ⟨rfl, by decide, by decide⟩
        have q12 : hd_u M2 51 10 3 51 12 = 0 := by rw [hd_u_n (by omega)]; exact k12
        refine hd_ju kX6_reads (fun _ => rfl) (fun c3 => ?_) (fun c3 => ?_)
        ·
          have n3 : ¬ tx_so t (tx_s t p) = 3 := fun z => c3 ((tb3 t _).mpr z)
          have h5 : tx_so t (tx_s t p) = 5 := by
            revert n0 n1 n2 n3 s4
            unfold tx_so
            intro s4 n0 n1 n2 n3
            split
            · split
              · simp_all
              split
              · simp_all
              split
              · simp_all
              split
              · simp_all
              · rfl
            · simp_all
          refine hd_go kX6_reads 999 (fun _ => rfl) rfl trivial ?_
          refine hd_ca kX6_reads qX6_reads (fun _ => rfl) (r_req (hd_u M2 51 10 3) N 0 1) ?_
          rintro r M4 N4 ⟨rfl, rfl, h⟩
          rw [if_pos ⟨rfl, q12⟩] at h
          refine hd_go kX6_reads 999 (fun _ => rfl) rfl trivial ?_
          refine hd_en_ kX6_reads (fun _ => rfl) trivial ⟨rfl, rfl, ?_, ?_⟩
          · rw [h]; exact ((f3.up ⟨rfl, by decide, by decide⟩).up ⟨rfl, by decide, by decide⟩).up ⟨rfl, by decide, by decide⟩
          · unfold tx_rd
            rw [if_pos (Or.inl h5)]
            refine ⟨?_, by decide, ?_⟩
            · rw [hd_u_n (by omega), h, hd_u_n (by omega), hd_u_s]
            · rw [hd_u_n (by omega), h, hd_u_s, hd_u_n (by omega)]; exact k9
        ·
          have h3 : tx_so t (tx_s t p) = 3 := (tb3 t _).mp c3
          have nb : ¬ tx_bad t (tx_s t p) := fun z => z.elim (fun z => by rw [h3] at z; exact absurd z (by decide)) (fun z => by have z := z.1; rw [h3] at z; exact absurd z (by decide))
          have ee : tx_e t (tx_s t p) = tx_s t p + 1 := by unfold tx_e; rw [if_pos h3]
          refine hd_go kX6_reads 260 (fun _ => rfl) rfl trivial ?_
          refine hd_go kX6_reads 999 (fun _ => rfl) rfl trivial ?_
          refine hd_ca kX6_reads qX6_reads (fun _ => rfl) (r_req (hd_u M2 51 10 3) N 1 1) ?_
          rintro r M4 N4 ⟨rfl, rfl, h⟩
          rw [if_neg (fun z => absurd z.1 (by decide))] at h
          refine hd_go kX6_reads 999 (fun _ => rfl) rfl trivial ?_
          rw [h, hd_u_n (by omega), k8, nI_1]
          refine hd_en_ kX6_reads (fun _ => rfl) trivial ⟨rfl, rfl, f3.up ⟨rfl, by decide, by decide⟩, ?_⟩
          unfold tx_rd
          rw [if_neg nb]
          refine ⟨?_, hs.2, ?_, ?_, ?_, fun z => absurd z n2⟩
          · rw [hd_u_n (by omega)]; exact q12
          · rw [hd_u_s, ee]
          · rw [hd_u_n (by omega), hd_u_n (by omega)]; exact k9
          · rw [hd_u_n (by omega), hd_u_s, h3]
      ·
        have h2 : tx_so t (tx_s t p) = 2 := (tb2 t _).mp (hd_b1.mp c2)
        have ee : tx_run t 2 (t.1 - tx_s t p) (tx_s t p) = tx_e t (tx_s t p) := by unfold tx_e; rw [h2, if_neg (by decide)]
        refine hd_go kX6_reads 140 (fun _ => rfl) rfl trivial ?_
        obtain ⟨M3, hM3⟩ : ∃ M3, M3 = hd_u (hd_u M2 51 10 2) 51 11 0 := ⟨_, rfl⟩
        rw [← hM3]
        have f3 : fr rdF M M3 := by rw [hM3]; exact (f2.up ⟨rfl, by decide, by decide⟩).up ⟨rfl, by decide, by decide⟩
        have j12 : M3 51 12 = 0 := by rw [hM3, hd_u_n (by omega), hd_u_n (by omega)]; exact k12
        have j8 : M3 51 8 = nI (tx_s t p) := by rw [hM3, hd_u_n (by omega), hd_u_n (by omega)]; exact k8
        have j9 : M3 51 9 = nI (tx_s t p) := by rw [hM3, hd_u_n (by omega), hd_u_n (by omega)]; exact k9
        have j10 : M3 51 10 = 2 := by rw [hM3, hd_u_n (by omega), hd_u_s]
        have j11 : M3 51 11 = 0 := by rw [hM3, hd_u_s]
        clear hM3
        refine r_rd_3 M3 N t (ht.fr f3 rd_7 rd_56) ok _ (tx_e t (tx_s t p)) (tx_s t p) j9 _ ?_ (t.1 - tx_s t p) (tx_s t p) M3 (Nat.le_refl _) (by omega) fr.rf j8 (fun _ => by rw [j11, Nat.sub_self]; rfl) ee
        intro M4 hf4 i8 i11
        have f4 : fr rdF M M4 := f3.tr (hf4.mo (fun c j z => ⟨z.1, by have := z.2; omega, by have := z.2; omega⟩))
        have o4 : ∀ j, ¬ (j = 8 ∨ j = 11) → M4 51 j = M3 51 j := fun j hj => hf4 51 j (fun z => hj z.2)
        refine hd_go kX6_reads 999 (fun _ => rfl) rfl trivial ?_
        rw [i8, o4 9 (by omega), j9, nI_sb he.1]
        refine hd_ju kX6_reads (fun _ => rfl) (fun c3 => ?_) (fun c3 => ?_)
        ·
          have hb : 2 < tx_e t (tx_s t p) - tx_s t p := Decidable.byContradiction (fun z => nI_nlt (a := 2) (by omega) (by decide) c3)
          refine hd_go kX6_reads 999 (fun _ => rfl) rfl trivial ?_
          refine hd_ca kX6_reads qX6_reads (fun _ => rfl) (r_req M4 N 0 1) ?_
          rintro r M5 N5 ⟨rfl, rfl, h⟩
          rw [if_pos ⟨rfl, by rw [o4 12 (by omega)]; exact j12⟩] at h
          refine hd_go kX6_reads 999 (fun _ => rfl) rfl trivial ?_
          refine hd_en_ kX6_reads (fun _ => rfl) trivial ⟨rfl, rfl, ?_, ?_⟩
          · rw [h]; exact (f4.up ⟨rfl, by decide, by decide⟩).up ⟨rfl, by decide, by decide⟩
          · unfold tx_rd
            rw [if_pos (Or.inr ⟨h2, hb⟩)]
            refine ⟨?_, by decide, ?_⟩
            · rw [h, hd_u_n (by omega), hd_u_s]
            · rw [h, hd_u_s, o4 9 (by omega)]; exact j9
        ·
          have hb : ¬ 2 < tx_e t (tx_s t p) - tx_s t p := fun z => c3 (nI_lt (a := 2) z (by omega))
          have nb : ¬ tx_bad t (tx_s t p) := fun z => z.elim (fun z => by rw [h2] at z; exact absurd z (by decide)) (fun z => hb z.2)
          refine hd_go kX6_reads 236 (fun _ => rfl) rfl trivial ?_
          refine hd_go kX6_reads 999 (fun _ => rfl) rfl trivial ?_
          refine hd_ca kX6_reads qX6_reads (fun _ => rfl) (r_req M4 N 1 1) ?_
          rintro r M5 N5 ⟨rfl, rfl, h⟩
          rw [if_neg (fun z => absurd z.1 (by decide))] at h
          refine hd_go kX6_reads 999 (fun _ => rfl) rfl trivial ?_
          rw [h]
          refine hd_en_ kX6_reads (fun _ => rfl) trivial ⟨rfl, rfl, f4, ?_⟩
          unfold tx_rd
          rw [if_neg nb]
          refine ⟨?_, hs.2, i8, ?_, ?_, fun _ => i11 (by omega)⟩
          · rw [o4 12 (by omega)]; exact j12
          · rw [o4 9 (by omega)]; exact j9
          · rw [o4 10 (by omega), j10, h2]
    ·
      have h1 : tx_so t (tx_s t p) = 1 := (tb1 t _).mp (hd_b1.mp c1)
      have nb : ¬ tx_bad t (tx_s t p) := fun z => z.elim (fun z => by rw [h1] at z; exact absurd z (by decide)) (fun z => by have z := z.1; rw [h1] at z; exact absurd z (by decide))
      have ee : tx_run t 1 (t.1 - tx_s t p) (tx_s t p) = tx_e t (tx_s t p) := by unfold tx_e; rw [h1, if_neg (by decide)]
      refine hd_go kX6_reads 82 (fun _ => rfl) rfl trivial ?_
      have f3 : fr rdF M (hd_u M2 51 10 1) := f2.up ⟨rfl, by decide, by decide⟩
      refine hd_Go.post ?_ (r_rd_2 (hd_u M2 51 10 1) N t (ht.fr f3 rd_7 rd_56) ok _ (tx_e t (tx_s t p)) (t.1 - tx_s t p) (tx_s t p) _ (by omega) fr.rf (by rw [hd_u_n (by omega)]; exact k8) ee)
      rintro r M4 N4 ⟨rfl, rfl, hf4, i8⟩
      have o4 : ∀ j, ¬ j = 8 → M4 51 j = hd_u M2 51 10 1 51 j := fun j hj => hf4 51 j (fun z => hj z.2)
      refine ⟨rfl, rfl, f3.tr (hf4.mo (fun c j z => by have z : c = 51 ∧ j = 8 := z; exact ⟨z.1, by omega, by omega⟩)), ?_⟩
      unfold tx_rd
      rw [if_neg nb]
      refine ⟨?_, hs.2, i8, ?_, ?_, fun z => by rw [h1] at z; exact absurd z (by decide)⟩
      · rw [o4 12 (by omega), hd_u_n (by omega)]; exact k12
      · rw [o4 9 (by omega), hd_u_n (by omega)]; exact k9
      · rw [o4 10 (by omega), hd_u_s, h1]
  · have h0 : tx_so t (tx_s t p) = 0 := Decidable.byContradiction (fun z => c ((tb0 ok _).mpr z))
    have nb : ¬ tx_bad t (tx_s t p) := fun z => z.elim (fun z => by rw [h0] at z; exact absurd z (by decide)) (fun z => by have z := z.1; rw [h0] at z; exact absurd z (by decide))
    have ee : tx_e t (tx_s t p) = tx_s t p := by
      unfold tx_e
      have := (tx_so0 t (tx_s t p)).mp h0
      rw [h0, if_neg (by decide), show t.1 - tx_s t p = 0 by omega]
      rfl
    refine hd_go kX6_reads 999 (fun _ => rfl) rfl trivial ?_
    refine hd_en_ kX6_reads (fun _ => rfl) trivial ⟨rfl, rfl, f2.up ⟨rfl, by decide, by decide⟩, ?_⟩
    unfold tx_rd
    rw [if_neg nb]
    refine ⟨?_, hs.2, ?_, ?_, ?_, fun z => by rw [h0] at z; exact absurd z (by decide)⟩
    · rw [hd_u_n (by omega)]; exact k12
    · rw [hd_u_n (by omega), ee]; exact k8
    · rw [hd_u_n (by omega)]; exact k9
    · rw [hd_u_s, h0]
/-- the next token, unless there is a fault -/
def rnx (t : tx_T) : tx_F ⊕ Nat → tx_F ⊕ Nat
  | .inl f => .inl f
  | .inr s => tx_rd t (tx_e t s)
def rnv (t : tx_T) : tx_F ⊕ Nat → Int32
  | .inl _ => 0
  | .inr s => tx_v t s
def rso (t : tx_T) : tx_F ⊕ Nat → Int32
  | .inl _ => 0
  | .inr s => tx_so t s
set_option maxRecDepth 20000 in
theorem r_rdS (M : hd_M) (N : hd_N) (t : tx_T) (ht : tpR M t) (ok : tx_ok t) (σ : tx_F ⊕ Nat) (hS : rS M t σ) : hd_Ret mX6_reads [.ref 51] M N (fun r M1 N1 => r = none ∧ N1 = N ∧ fr rdF M M1 ∧ rS M1 t (rnx t σ)) := by
  match σ, hS with
  | .inl (c, w), hS =>
    refine hd_Go.post ?_ (r_reads_f M N (by rw [hS.1]; exact hS.2.1))
    rintro r M1 N1 ⟨rfl, rfl, rfl⟩
    exact ⟨rfl, rfl, fr.rf, hS⟩
  | .inr s, hS =>
    exact r_reads M N t ht ok (tx_e t s) (tx_e_le hS.2.1).2.1 hS.1 hS.2.2.1
set_option maxRecDepth 20000 in
theorem rS.zero {M : hd_M} {t : tx_T} {σ : tx_F ⊕ Nat} (h : rS M t σ) : M 51 12 = 0 ↔ ∃ s, σ = .inr s := by
  match σ, h with
  | .inl (c, w), h => exact ⟨fun z => by have h2 := h.2.1; rw [← h.1, z] at h2; exact absurd h2 (by decide), fun ⟨s, z⟩ => by cases z⟩
  | .inr s, h => exact ⟨fun _ => ⟨s, rfl⟩, fun _ => h.1⟩
/-- a number is read -/
def rnm (t : tx_T) (lo hi : Int32) (σ : tx_F ⊕ Nat) : Int32 × (tx_F ⊕ Nat) := match σ with
  | .inl f => (0, .inl f)
  | .inr s => if tx_so t s = 2 then (if wi (tx_v t s) lo hi then (tx_v t s, tx_rd t (tx_e t s)) else (0, .inl (3, s))) else (0, .inl (2, s))
set_option maxRecDepth 20000 in
theorem r_num (M : hd_M) (N : hd_N) (t : tx_T) (ht : tpR M t) (ok : tx_ok t) (σ : tx_F ⊕ Nat) (hS : rS M t σ) (lo hi : Int32) : hd_Ret mX6_readNumber [.ref 51, .int lo, .int hi] M N (fun r M1 N1 => r = some (.int (rnm t lo hi σ).1) ∧ N1 = N ∧ fr rdF M M1 ∧ rS M1 t (rnm t lo hi σ).2) := by
  change hd_Go mX6_readNumber 0 [some (.ref 51), some (.int lo), some (.int hi), none] [] M N _
  have up : ∀ c j, (c = 51 ∧ 12 ≤ j ∧ j ≤ 13) → rdF c j := fun c j z => ⟨z.1, by have := z.2; omega, by have := z.2; omega⟩
  -- with a fault nothing more happens
  have bad : ∀ (M1 : hd_M) (c : Int32) (w : Nat), fr rdF M M1 → rS M1 t (.inl (c, w)) → (rnm t lo hi σ) = (0, .inl (c, w)) → hd_Go mX6_readNumber 49 [some (.ref 51), some (.int lo), some (.int hi), none] [] M1 N (fun r M1 N1 => r = some (.int (rnm t lo hi σ).1) ∧ N1 = N ∧ fr rdF M M1 ∧ rS M1 t (rnm t lo hi σ).2) := by
    intro M1 c w hf h1 h2
    rw [h2]
    have n0 : ¬ M1 51 12 = 0 := fun z => by obtain ⟨s, e⟩ := (rS.zero h1).mp z; cases e
    refine hd_go kX6_readNumber 999 (fun _ => rfl) rfl trivial ?_
    refine hd_ju kX6_readNumber (fun _ => rfl) (fun _ => ?_) (fun z => absurd z n0)
    refine hd_go kX6_readNumber 999 (fun _ => rfl) rfl trivial ?_
    refine hd_ca kX6_readNumber qX6_readNumber (fun _ => rfl) (r_reads_f M1 N (by rw [h1.1]; exact h1.2.1)) ?_
    rintro r M2 N2 ⟨rfl, rfl, rfl⟩
    refine hd_go kX6_readNumber 999 (fun _ => rfl) rfl trivial ?_
    exact hd_en_ kX6_readNumber (fun _ => rfl) trivial ⟨rfl, rfl, hf, h1⟩
  have bad2 : ∀ (M1 : hd_M) (c : Int32) (w : Nat), fr rdF M M1 → rS M1 t (.inl (c, w)) → (rnm t lo hi σ) = (0, .inl (c, w)) → hd_Go mX6_readNumber 25 [some (.ref 51), some (.int lo), some (.int hi), none] [] M1 N (fun r M1 N1 => r = some (.int (rnm t lo hi σ).1) ∧ N1 = N ∧ fr rdF M M1 ∧ rS M1 t (rnm t lo hi σ).2) := by
    intro M1 c w hf h1 h2
    have n0 : ¬ M1 51 12 = 0 := fun z => by obtain ⟨s, e⟩ := (rS.zero h1).mp z; cases e
    refine hd_go kX6_readNumber 999 (fun _ => rfl) rfl trivial ?_
    refine hd_ju kX6_readNumber (fun _ => rfl) (fun _ => bad M1 c w hf h1 h2) (fun z => absurd z n0)
  refine hd_go kX6_readNumber 999 (fun _ => rfl) rfl trivial ?_
  match σ, hS with
  | .inl (c, w), hS =>
    have n0 : ¬ M 51 12 = 0 := fun z => by obtain ⟨s, e⟩ := (rS.zero hS).mp z; cases e
    refine hd_ju kX6_readNumber (fun _ => rfl) (fun _ => bad2 M c w fr.rf hS rfl) (fun z => absurd z n0)
  | .inr s, hS =>
    rw [hS.1]
    refine hd_ju kX6_readNumber (fun _ => rfl) (fun c => absurd rfl c) (fun _ => ?_)
    refine hd_go kX6_readNumber 999 (fun _ => rfl) rfl trivial ?_
    rw [hS.2.2.2.2.1]
    have nx : ∀ x : Int32, x = hd_b (tx_so t s = 2) → hd_Go mX6_readNumber 21 [some (.ref 51), some (.int lo), some (.int hi), none] [.int x, .ref 51] M N (fun r M1 N1 => r = some (.int (rnm t lo hi (.inr s)).1) ∧ N1 = N ∧ fr rdF M M1 ∧ rS M1 t (rnm t lo hi (.inr s)).2) := by
      rintro x rfl
      refine hd_go kX6_readNumber 999 (fun _ => rfl) rfl trivial ?_
      refine hd_ca kX6_readNumber qX6_readNumber (fun _ => rfl) (r_rq M N t (.inr s) hS (tx_so t s = 2) 2 (by decide)) ?_
      rintro r M1 N1 ⟨rfl, rfl, hf, h1⟩
      by_cases h2 : tx_so t s = 2
      · rw [rq_t h2] at h1
        refine hd_go kX6_readNumber 999 (fun _ => rfl) rfl trivial ?_
        rw [h1.1]
        refine hd_ju kX6_readNumber (fun _ => rfl) (fun c => absurd rfl c) (fun _ => ?_)
        refine hd_go kX6_readNumber 999 (fun _ => rfl) rfl trivial ?_
        rw [h1.2.2.2.2.2 h2]
        refine hd_ci kX6_readNumber qX6_readNumber (fun _ => rfl) (r_in (tx_v t s) lo hi _ _ rfl rfl M1 N1) ?_
        refine hd_go kX6_readNumber 999 (fun _ => rfl) rfl trivial ?_
        refine hd_ca kX6_readNumber qX6_readNumber (fun _ => rfl) (r_rq M1 N1 t (.inr s) h1 (wi (tx_v t s) lo hi) 3 (by decide)) ?_
        rintro r M2 N2 ⟨rfl, rfl, hf2, h3⟩
        by_cases hw : wi (tx_v t s) lo hi
        · rw [rq_t hw] at h3
          refine hd_go kX6_readNumber 999 (fun _ => rfl) rfl trivial ?_
          rw [h3.1]
          refine hd_ju kX6_readNumber (fun _ => rfl) (fun c => absurd rfl c) (fun _ => ?_)
          refine hd_go kX6_readNumber 64 (fun _ => rfl) rfl trivial ?_
          rw [h3.2.2.2.2.2 h2]
          refine hd_go kX6_readNumber 999 (fun _ => rfl) rfl trivial ?_
          refine hd_ca kX6_readNumber qX6_readNumber (fun _ => rfl) (r_rdS M2 N2 t (ht.fr ((hf.tr hf2).mo up) rd_7 rd_56) ok (.inr s) h3) ?_
          rintro r M3 N3 ⟨rfl, rfl, hf3, h4⟩
          refine hd_go kX6_readNumber 999 (fun _ => rfl) rfl trivial ?_
          have e : rnm t lo hi (.inr s) = (tx_v t s, tx_rd t (tx_e t s)) := by unfold rnm; simp only []; rw [if_pos h2, if_pos hw]
          rw [e]
          exact hd_en_ kX6_readNumber (fun _ => rfl) trivial ⟨rfl, rfl, ((hf.tr hf2).mo up).tr hf3, h4⟩
        · rw [rq_f hw] at h3
          exact bad M2 3 s ((hf.tr hf2).mo up) h3 (by unfold rnm; simp only []; rw [if_pos h2, if_neg hw])
      · rw [rq_f h2] at h1
        exact bad2 M1 2 s (hf.mo up) h1 (by unfold rnm; simp only []; rw [if_neg h2])
    refine hd_ju kX6_readNumber (fun _ => rfl) (fun c => ?_) (fun c => ?_)
    · refine hd_go kX6_readNumber 21 (fun _ => rfl) rfl trivial ?_
      exact nx 0 (by unfold hd_b; rw [if_neg c])
    · refine hd_go kX6_readNumber 21 (fun _ => rfl) rfl trivial ?_
      exact nx 1 (by unfold hd_b; rw [if_pos c])
