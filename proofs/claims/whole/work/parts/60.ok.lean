/-! WHAT ALWAYS HOLDS IS KEPT; printed by wip/whole/ok1.py -/
def kp (f : ab_T → Value × ab_T) : Prop := ∀ st, OK st → OK (f st).2
theorem OK.day {st : ab_T} {d : dy_T} (h : OK st) (hd : dy_ok d) : OK (d, st.2) := ⟨hd, h.2⟩
theorem k_rule (w : Int32) : kp (an_rule w) := fun _ h => h
theorem k_thing (i w : Int32) : kp (an_thing i w) := fun _ h => h
theorem k_runs (n w : Int32) : kp (an_runs n w) := fun _ h => h
theorem k_gone (i : Int32) : kp (an_gone i) := fun _ h => h
theorem k_glad (v : Int32) : kp (an_glad v) := fun _ h => h
theorem k_order (w : Int32) : kp (an_order w) := fun _ h => h
theorem k_leave (n w : Int32) : kp (an_leave n w) := fun _ h => h
theorem k_top (n w : Int32) : kp (an_top n w) := fun _ h => h
theorem k_swap (n w : Int32) : kp (an_swap n w) := fun _ h => h
theorem k_need (i n v : Int32) : kp (an_need i n v) := fun _ h => h
theorem k_kind (i n w : Int32) : kp (an_kind i n w) := fun _ h => h
theorem k_bear (n v : Int32) : kp (an_bear n v) := fun _ h => h
theorem k_luck (v n w q : Int32) : kp (an_luck v n w q) := fun _ h => h
theorem k_mean (v n q : Int32) : kp (an_mean v n q) := fun _ h => h
theorem k_kinds (i : Int32) : kp (an_kinds i) := fun _ h => h
theorem k_goods (i : Int32) : kp (an_goods i) := fun _ h => h
theorem k_ask (i w : Int32) : kp (an_ask i w) := fun _ h => h
theorem k_drift (s n w : Int32) : kp (an_drift s n w) := fun _ h => h
theorem k_count (w : Int32) : kp (an_count w) := fun _ h => h
theorem k_fault : kp an_fault := fun _ h => h
theorem k_torn : kp an_torn := fun _ h => h
theorem k_feed (c : Int32) : kp (an_feed c) := by
  intro st h
  unfold an_feed
  by_cases hc : wi c 0 127
  · rw [if_pos hc]
    by_cases h6 : st.2.2.1.1 = 160
    · rw [if_pos h6]; exact h
    · rw [if_neg h6]
      obtain ⟨h1, h2, h3, h4⟩ := h
      refine ⟨h1, h2, ⟨by show st.2.2.1.1 + 1 ≤ 160; have := h3.1; omega, fun i hi => ?_⟩, h4⟩
      have hi : i < st.2.2.1.1 + 1 := hi
      show ∃ b, b ≤ 127 ∧ (if i = st.2.2.1.1 then c else st.2.2.1.2 i) = nI b
      by_cases e : i = st.2.2.1.1
      · rw [if_pos e]; exact wi_nat (n := 127) rfl hc
      · rw [if_neg e]; exact h3.2 i (by omega)
  · rw [if_neg hc]; exact h
theorem k_end (n : Int32) : kp (an_end n) := by
  intro st h
  unfold an_end
  by_cases hc : wi n 0 (nI st.2.2.1.1)
  · rw [if_pos hc]
    obtain ⟨h1, h2, h3, h4⟩ := h
    obtain ⟨j, hj, rfl⟩ := nI_of hc.1
    have hj2 : j ≤ st.2.2.1.1 := by
      have h9 := h3.1
      exact Decidable.byContradiction (fun z => hc.2 ((nI_ltI (by omega) hj).mpr (by omega)))
    refine ⟨h1, h2, ⟨?_, fun i hi => ?_⟩, h4⟩
    · show (nI j).toNatClampNeg ≤ 160
      rw [nI_clamp hj]; have := h3.1; omega
    · have hi : i < (nI j).toNatClampNeg := hi
      rw [nI_clamp hj] at hi
      exact h3.2 i (by omega)
  · rw [if_neg hc]; exact h
theorem k_text : kp an_text := by
  intro st h
  obtain ⟨h1, h2, h3, h4, h5⟩ := h
  unfold an_text
  have okL := tx_lp_ok st.2.2.1 (st.2.2.1.1 + 1) 0 0 dy_0 false false (Nat.zero_le _) txd_0
  rcases okL with ⟨c, w, q, -⟩ | ⟨l, d, q, ok⟩
  · rw [q]
    exact ⟨h1, h2, ⟨Nat.zero_le _, fun i hi => absurd hi (Nat.not_lt_zero i)⟩, h4, h5⟩
  · rw [q]
    exact ⟨ok.ok, ⟨Nat.zero_le _, fun i hi => absurd hi (Nat.not_lt_zero i)⟩, ⟨Nat.zero_le _, fun i hi => absurd hi (Nat.not_lt_zero i)⟩, (fun k _ z => absurd (show false = true from z) (by decide)), h5⟩
theorem k_alter (i w v : Int32) : kp (an_alter i w v) := by
  intro st h
  unfold an_alter
  by_cases hc : an_th i st.1 ∧ tra w v
  · rw [if_pos hc]
    refine h.day (dy_ok_set h.1 ?_)
    rcases hc.2 with ⟨rfl, -⟩ | ⟨rfl, -⟩ | ⟨rfl, -⟩ <;> decide
  · rw [if_neg hc]; exact h
theorem k_mood (v : Int32) : kp (an_mood v) := by
  intro st h
  unfold an_mood
  by_cases hc : wi v 0 99
  · rw [if_pos hc]; exact h.day (dy_ok_mood h.1 ⟨Int32.not_lt.mp hc.1, Int32.not_lt.mp hc.2⟩)
  · rw [if_neg hc]; exact h
theorem k_tire (v : Int32) : kp (an_tire v) := by
  intro st h
  unfold an_tire
  by_cases hc : wi v 0 9
  · rw [if_pos hc]; exact h.day (dy_ok_tire h.1)
  · rw [if_neg hc]; exact h
theorem k_pack (k g w : Int32) : kp (an_pack k g w) := by
  intro st h
  unfold an_pack
  by_cases hc : wi k 0 3 ∧ wi g 0 9 ∧ wi w 1 9
  · rw [if_pos hc]
    by_cases ha : dy_all st.1
    · rw [if_pos ha]
      by_cases h7 : st.1.1 = 7
      · rw [if_pos h7]; exact h
      · rw [if_neg h7]; exact h.day (dy_ok_add h.1 ha (by have := h.1.1; omega))
    · rw [if_neg ha]; exact h
  · rw [if_neg hc]; exact h
theorem k_strap : kp an_strap := fun st h => h.day (dy_ok_in h.1)
theorem k_lift : kp an_lift := by
  intro st h
  unfold an_lift
  by_cases hc : st.1.1 = 0 ∨ ¬ dy_all st.1
  · rw [if_pos hc]; exact h
  · rw [if_neg hc]
    exact h.day (dy_ok_shr h.1 (Decidable.byContradiction (fun z => hc (Or.inr z))) (by omega))
theorem k_hours (n : Int32) : kp (an_hours n) := by
  intro st h
  unfold an_hours
  by_cases hc : wi n 0 30
  · rw [if_pos hc]
    by_cases hh : st.1.2.2.2.2.1 + n < 1000
    · rw [if_pos hh]; exact h.day (dy_ok_hs _ _ h.1)
    · rw [if_neg hh]; exact h
  · rw [if_neg hc]; exact h
theorem k_see (n v : Int32) : kp (an_see n v) := by
  intro st h
  unfold an_see
  by_cases hc : wi n 0 20 ∧ wi v 0 99
  · rw [if_pos hc]
    by_cases h6 : st.2.1.1 = 6
    · rw [if_pos h6]; exact h
    · rw [if_neg h6]
      obtain ⟨h1, h2, h3⟩ := h
      refine ⟨h1, ⟨by show st.2.1.1 + 1 ≤ 6; have := h2.1; omega, fun i hi => ?_⟩, h3⟩
      have hi : i < st.2.1.1 + 1 := hi
      show ∃ j, j ≤ 20 ∧ (if i = st.2.1.1 then n else st.2.1.2.1 i) = nI j
      by_cases e : i = st.2.1.1
      · rw [if_pos e]; exact wi_nat (n := 20) rfl hc.1
      · rw [if_neg e]; exact h2.2 i (by omega)
  · rw [if_neg hc]; exact h
theorem k_forget (n : Int32) : kp (an_forget n) := by
  intro st h
  unfold an_forget
  by_cases hc : wi n 0 (nI st.2.1.1)
  · rw [if_pos hc]
    obtain ⟨h1, h2, h3⟩ := h
    obtain ⟨j, hj, rfl⟩ := nI_of hc.1
    have hj2 : j ≤ st.2.1.1 := by
      have h9 := h2.1
      exact Decidable.byContradiction (fun z => hc.2 ((nI_ltI (by omega) hj).mpr (by omega)))
    refine ⟨h1, ⟨?_, fun i hi => ?_⟩, h3⟩
    · show (nI j).toNatClampNeg ≤ 6
      rw [nI_clamp hj]; have := h2.1; omega
    · have hi : i < (nI j).toNatClampNeg := hi
      rw [nI_clamp hj] at hi
      exact h2.2 i (by omega)
  · rw [if_neg hc]; exact h
theorem k_keep (k : Int32) : kp (an_keep k) := by
  intro st h
  unfold an_keep
  by_cases hc : wi k 0 1
  · rw [if_pos hc]
    obtain ⟨h1, h2, h3, h4, h5⟩ := h
    refine ⟨h1, h2, h3, fun j hj => ?_, h5⟩
    show (if j = k.toNatClampNeg then ((true, st.1, st.2.1) : im_T) else st.2.2.2.1 j).1 = true → dy_ok (if j = k.toNatClampNeg then ((true, st.1, st.2.1) : im_T) else st.2.2.2.1 j).2.1 ∧ se_ok (if j = k.toNatClampNeg then ((true, st.1, st.2.1) : im_T) else st.2.2.2.1 j).2.2
    by_cases e : j = k.toNatClampNeg
    · rw [if_pos e]; exact fun _ => ⟨h1, h2⟩
    · rw [if_neg e]; exact h4 j hj
  · rw [if_neg hc]; exact h
theorem k_back (k : Int32) : kp (an_back k) := by
  intro st h
  unfold an_back
  by_cases hc : wi k 0 1
  · rw [if_pos hc]
    by_cases hm : (st.2.2.2.1 k.toNatClampNeg).1 = true
    · rw [if_pos hm]
      obtain ⟨h1, h2, h3, h4, h5⟩ := h
      have hk : k.toNatClampNeg < 2 := by
        obtain ⟨j, hj, rfl⟩ := wi_nat (n := 1) rfl hc
        rw [nI_clamp (by omega)]; omega
      obtain ⟨g1, g2⟩ := h4 _ hk hm
      exact ⟨g1, g2, h3, h4, h5⟩
    · rw [if_neg hm]; exact h
  · rw [if_neg hc]; exact h
theorem k_sheet (k l n : Int32) : kp (an_sheet k l n) := by
  intro st h
  unfold an_sheet
  by_cases hc : wi k 0 3 ∧ wi l 0 2 ∧ ¬ 40 < n
  · rw [if_pos hc]
    by_cases hn : n < 0
    · rw [if_pos hn]; exact h
    · rw [if_neg hn]
      obtain ⟨h1, h2, h3, h4, h5⟩ := h
      refine ⟨h1, h2, h3, h4, fun j hj => ?_⟩
      show (if j = k.toNatClampNeg then ((false, l, n.toNatClampNeg, fun _ => 0) : sh_T) else st.2.2.2.2.1 j).1 = false → (if j = k.toNatClampNeg then ((false, l, n.toNatClampNeg, fun _ => 0) : sh_T) else st.2.2.2.2.1 j).2.2.1 ≤ 40 ∧ ((if j = k.toNatClampNeg then ((false, l, n.toNatClampNeg, fun _ => 0) : sh_T) else st.2.2.2.2.1 j).2.1 = 0 ∨ (if j = k.toNatClampNeg then ((false, l, n.toNatClampNeg, fun _ => 0) : sh_T) else st.2.2.2.2.1 j).2.1 = 1 ∨ (if j = k.toNatClampNeg then ((false, l, n.toNatClampNeg, fun _ => 0) : sh_T) else st.2.2.2.2.1 j).2.1 = 2)
      by_cases e : j = k.toNatClampNeg
      · rw [if_pos e]
        intro _
        refine ⟨?_, ?_⟩
        · obtain ⟨x, hx, rfl⟩ := nI_of2 (M := 40) (n := 40) rfl hn (Int32.not_lt.mp hc.2.2)
          show (nI x).toNatClampNeg ≤ 40
          rw [nI_clamp (by omega)]; exact hx
        · obtain ⟨x, hx, rfl⟩ := wi_nat (n := 2) rfl hc.2.1
          show nI x = 0 ∨ nI x = 1 ∨ nI x = 2
          rcases (show x = 0 ∨ x = 1 ∨ x = 2 by omega) with rfl | rfl | rfl <;> decide
      · rw [if_neg e]; exact h5 j hj
  · rw [if_neg hc]; exact h
theorem k_lay (k i v : Int32) : kp (an_lay k i v) := by
  intro st h
  unfold an_lay
  by_cases hc : wi k 0 3
  · rw [if_pos hc]
    by_cases hm : (st.2.2.2.2.1 k.toNatClampNeg).1 = true
    · rw [if_pos hm]; exact h
    · rw [if_neg hm]
      by_cases hi : ¬ i < 0 ∧ i < nI (st.2.2.2.2.1 k.toNatClampNeg).2.2.1
      · rw [if_pos hi]
        obtain ⟨h1, h2, h3, h4, h5⟩ := h
        refine ⟨h1, h2, h3, h4, fun j hj => ?_⟩
        have hk : k.toNatClampNeg < 4 := by
          obtain ⟨j, hj, rfl⟩ := wi_nat (n := 3) rfl hc
          rw [nI_clamp (by omega)]; omega
        have hm : (st.2.2.2.2.1 k.toNatClampNeg).1 = false := by
          cases z : (st.2.2.2.2.1 k.toNatClampNeg).1 with
          | true => exact absurd z hm
          | false => rfl
        have g := h5 _ hk hm
        by_cases e : j = k.toNatClampNeg
        · simp only [e, if_true]
          exact fun _ => g
        · simp only [e, if_false]
          exact h5 j hj
      · rw [if_neg hi]; exact h
  · rw [if_neg hc]; exact h
theorem rd_go_ok (st : ab_T) (h : OK st) (sh : sh_T) (l f : Int32) : ∀ (m i : Nat) (d : dy_T), dy_ok d → OK (rd_go st sh l f m i d).2 := by
  intro m
  induction m with
  | zero => intro i d hd; exact ⟨hd, h.2⟩
  | succ m ih =>
    intro i d hd
    rw [rd_go]
    by_cases hf : rd_f sh l f i = 0
    · rw [if_pos hf]
      by_cases hp : pk_ok (rd_x sh f i 0) (rd_x sh f i 1) (rd_x sh f i 2) d
      · rw [if_pos hp]
        exact ih (i + 1) _ (dy_ok_add hd hp.2.1 (by have := hd.1; have := hp.2.2; omega))
      · rw [if_neg hp]; exact h
    · rw [if_neg hf]; exact ⟨hd, h.2⟩
theorem k_read (k l f n : Int32) : kp (an_read k l f n) := by
  intro st h
  unfold an_read
  by_cases hc : wi k 0 3 ∧ wi l 0 2 ∧ wi n 0 13
  · rw [if_pos hc]; exact rd_go_ok st h _ _ _ _ _ _ h.1
  · rw [if_neg hc]; exact h
