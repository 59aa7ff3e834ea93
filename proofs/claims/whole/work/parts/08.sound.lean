/-! THE EVALUATOR IS RIGHT -/
section
variable {I : hd_I} {pc : Nat} {lv : hd_L} {st : List Value} {M : hd_M} {N : hd_N} {Q : hd_Q}
theorem hd_lget {lv : hd_L} {a : Nat} {x : Value} (h : lv[a]? = some (some x)) {y : Value} (e : x = y) : lv[a]? = some (some y) := e ▸ h
theorem hd_sv2_ok {lv : hd_L} {a : Nat} {v : Value} {k : hd_L → Prop} (h : hd_sv lv (a + 1) none (fun lv => hd_sv lv a (some v) k)) : k ((lv.set a (some v)).set (a + 1) none) ∧ a + 1 < lv.length ∧ ∀ u : Value, lv[a - 1]? = some (some u) → 0 < a → u.category ≠ 2 := by
  obtain ⟨h1, h2, h3⟩ := hd_sv_ok _ _ _ _ h
  obtain ⟨h4, h5, h6⟩ := hd_sv_ok _ _ _ _ h1
  refine ⟨?_, h2, fun u hu ha => h6 u ?_ ha⟩
  · rw [List.set_comm _ _ (by omega)]
    exact h4
  · rw [List.getElem?_set_ne (by omega)]
    exact hu
set_option maxHeartbeats 4000000 in
theorem hd_st1_ok {o : hd_O} {C : Prop} {k : hd_L → List Value → hd_M → hd_N → Prop → Prop} {stop : Nat → Prop} (hok : hd_ok1 I pc o = true) (h : hd_st1 o pc lv st M N C k stop) (hk : ∀ lv st M N C', k lv st M N C' → C' ∧ hd_Go I o.2.1 lv st M N Q) (hs : ∀ pc', stop pc' → C ∧ hd_Go I pc' lv st M N Q) : C ∧ hd_Go I pc lv st M N Q := by
  obtain ⟨i, nx, a, b, v, v64, sw, ws⟩ := o
  cases i
  case iconst z0 =>
    simp only [hd_ok1, Bool.and_eq_true, decide_eq_true_eq] at hok
    obtain ⟨⟨hd, rfl⟩, hv⟩ := hok
    obtain ⟨hC, hg⟩ := hk _ _ _ _ _ h
    exact ⟨hC, hd_iconst hd hv hg⟩
  case bipush z0 =>
    simp only [hd_ok1, Bool.and_eq_true, decide_eq_true_eq] at hok
    obtain ⟨⟨hd, rfl⟩, hv⟩ := hok
    obtain ⟨hC, hg⟩ := hk _ _ _ _ _ h
    exact ⟨hC, hd_bipush hd hv hg⟩
  case sipush z0 =>
    simp only [hd_ok1, Bool.and_eq_true, decide_eq_true_eq] at hok
    obtain ⟨⟨hd, rfl⟩, hv⟩ := hok
    obtain ⟨hC, hg⟩ := hk _ _ _ _ _ h
    exact ⟨hC, hd_sipush hd hv hg⟩
  case lconst z0 =>
    simp only [hd_ok1, Bool.and_eq_true, decide_eq_true_eq] at hok
    obtain ⟨⟨hd, rfl⟩, hv⟩ := hok
    obtain ⟨hC, hg⟩ := hk _ _ _ _ _ h
    exact ⟨hC, hd_lconst hd hv hg⟩
  case ldc z0 =>
    match b, h, hok with
    | 0, h, hok =>
      simp only [hd_ok1, Bool.and_eq_true, decide_eq_true_eq] at hok
      obtain ⟨⟨hd, rfl⟩, hv⟩ := hok
      obtain ⟨hC, hg⟩ := hk _ _ _ _ _ h
      exact ⟨hC, hd_ldc hd (hd_wd_ok hv) hg⟩
    | j + 1, h, hok =>
      simp only [hd_ok1, Bool.and_eq_true, decide_eq_true_eq] at hok
      obtain ⟨⟨hd, rfl⟩, ⟨ho, ha⟩, hx⟩ := hok
      obtain ⟨hC, hg⟩ := hk _ _ _ _ _ h
      subst ha
      cases hj : hd_tx[j]? with
      | none => rw [hj] at hx; cases hx
      | some q =>
        obtain ⟨q1, q2⟩ := q
        rw [hj] at hx
        cases hx
        exact ⟨hC, hd_ldcs hd ho hj hg⟩
  case ldc_w z0 =>
    simp only [hd_ok1, Bool.and_eq_true, decide_eq_true_eq] at hok
    obtain ⟨⟨hd, rfl⟩, hv⟩ := hok
    obtain ⟨hC, hg⟩ := hk _ _ _ _ _ h
    exact ⟨hC, hd_ldcw hd (hd_wd_ok hv) hg⟩
  case ldc2_w z0 =>
    simp only [hd_ok1, Bool.and_eq_true, decide_eq_true_eq] at hok
    obtain ⟨⟨hd, rfl⟩, hv⟩ := hok
    obtain ⟨hC, hg⟩ := hk _ _ _ _ _ h
    exact ⟨hC, hd_ldc2 hd (hd_wd_ok hv) hg⟩
  case iload_n z0 =>
    simp only [hd_ok1, Bool.and_eq_true, decide_eq_true_eq] at hok
    obtain ⟨⟨hd, rfl⟩, hv⟩ := hok
    obtain ⟨z, h1, h2⟩ := hd_ld_ok _ _ _ h
    obtain ⟨x, rfl, h3⟩ := hd_isI_ok h2
    obtain ⟨hC, hg⟩ := hk _ _ _ _ _ h3
    exact ⟨hC, hd_iload_n hd hv h1 hg⟩
  case iload z0 =>
    simp only [hd_ok1, Bool.and_eq_true, decide_eq_true_eq] at hok
    obtain ⟨⟨hd, rfl⟩, rfl⟩ := hok
    obtain ⟨z, h1, h2⟩ := hd_ld_ok _ _ _ h
    obtain ⟨x, rfl, h3⟩ := hd_isI_ok h2
    obtain ⟨hC, hg⟩ := hk _ _ _ _ _ h3
    exact ⟨hC, hd_iload hd h1 hg⟩
  case lload_n z0 =>
    simp only [hd_ok1, Bool.and_eq_true, decide_eq_true_eq] at hok
    obtain ⟨⟨hd, rfl⟩, hv⟩ := hok
    obtain ⟨z, h1, h2⟩ := hd_ld_ok _ _ _ h
    obtain ⟨x, rfl, h3⟩ := hd_isL_ok h2
    obtain ⟨hC, hg⟩ := hk _ _ _ _ _ h3
    exact ⟨hC, hd_lload_n hd hv h1 hg⟩
  case lload z0 =>
    simp only [hd_ok1, Bool.and_eq_true, decide_eq_true_eq] at hok
    obtain ⟨⟨hd, rfl⟩, rfl⟩ := hok
    obtain ⟨z, h1, h2⟩ := hd_ld_ok _ _ _ h
    obtain ⟨x, rfl, h3⟩ := hd_isL_ok h2
    obtain ⟨hC, hg⟩ := hk _ _ _ _ _ h3
    exact ⟨hC, hd_lload hd h1 hg⟩
  case aload_n z0 =>
    simp only [hd_ok1, Bool.and_eq_true, decide_eq_true_eq] at hok
    obtain ⟨⟨hd, rfl⟩, hv⟩ := hok
    obtain ⟨z, h1, h2⟩ := hd_ld_ok _ _ _ h
    obtain ⟨x, rfl, h3⟩ := hd_isR_ok h2
    obtain ⟨hC, hg⟩ := hk _ _ _ _ _ h3
    exact ⟨hC, hd_aload_n hd hv h1 hg⟩
  case aload z0 =>
    simp only [hd_ok1, Bool.and_eq_true, decide_eq_true_eq] at hok
    obtain ⟨⟨hd, rfl⟩, rfl⟩ := hok
    obtain ⟨z, h1, h2⟩ := hd_ld_ok _ _ _ h
    obtain ⟨x, rfl, h3⟩ := hd_isR_ok h2
    obtain ⟨hC, hg⟩ := hk _ _ _ _ _ h3
    exact ⟨hC, hd_aload hd h1 hg⟩
  case istore_n z0 =>
    simp only [hd_ok1, Bool.and_eq_true, decide_eq_true_eq] at hok
    obtain ⟨⟨hd, rfl⟩, hv⟩ := hok
    obtain ⟨x, r, rfl, h2⟩ := hd_i1_ok h
    obtain ⟨h3, h4, h5⟩ := hd_sv_ok _ _ _ _ h2
    obtain ⟨hC, hg⟩ := hk _ _ _ _ _ h3
    exact ⟨hC, hd_istore_n hd hv h4 h5 hg⟩
  case istore z0 =>
    simp only [hd_ok1, Bool.and_eq_true, decide_eq_true_eq] at hok
    obtain ⟨⟨hd, rfl⟩, rfl⟩ := hok
    obtain ⟨x, r, rfl, h2⟩ := hd_i1_ok h
    obtain ⟨h3, h4, h5⟩ := hd_sv_ok _ _ _ _ h2
    obtain ⟨hC, hg⟩ := hk _ _ _ _ _ h3
    exact ⟨hC, hd_istore hd h4 h5 hg⟩
  case astore_n z0 =>
    simp only [hd_ok1, Bool.and_eq_true, decide_eq_true_eq] at hok
    obtain ⟨⟨hd, rfl⟩, hv⟩ := hok
    obtain ⟨x, r, rfl, h2⟩ := hd_r1_ok h
    obtain ⟨h3, h4, h5⟩ := hd_sv_ok _ _ _ _ h2
    obtain ⟨hC, hg⟩ := hk _ _ _ _ _ h3
    exact ⟨hC, hd_astore_n hd hv h4 h5 hg⟩
  case astore z0 =>
    simp only [hd_ok1, Bool.and_eq_true, decide_eq_true_eq] at hok
    obtain ⟨⟨hd, rfl⟩, rfl⟩ := hok
    obtain ⟨x, r, rfl, h2⟩ := hd_r1_ok h
    obtain ⟨h3, h4, h5⟩ := hd_sv_ok _ _ _ _ h2
    obtain ⟨hC, hg⟩ := hk _ _ _ _ _ h3
    exact ⟨hC, hd_astore hd h4 h5 hg⟩
  case lstore_n z0 =>
    simp only [hd_ok1, Bool.and_eq_true, decide_eq_true_eq] at hok
    obtain ⟨⟨hd, rfl⟩, hv⟩ := hok
    obtain ⟨x, r, rfl, h2⟩ := hd_l1_ok h
    obtain ⟨h3, h4, h5⟩ := hd_sv2_ok h2
    obtain ⟨hC, hg⟩ := hk _ _ _ _ _ h3
    exact ⟨hC, hd_lstore_n hd hv h4 h5 hg⟩
  case lstore z0 =>
    simp only [hd_ok1, Bool.and_eq_true, decide_eq_true_eq] at hok
    obtain ⟨⟨hd, rfl⟩, rfl⟩ := hok
    obtain ⟨x, r, rfl, h2⟩ := hd_l1_ok h
    obtain ⟨h3, h4, h5⟩ := hd_sv2_ok h2
    obtain ⟨hC, hg⟩ := hk _ _ _ _ _ h3
    exact ⟨hC, hd_lstore hd h4 h5 hg⟩
  case iinc z0 z1 =>
    simp only [hd_ok1, Bool.and_eq_true, decide_eq_true_eq] at hok
    obtain ⟨⟨hd, rfl⟩, rfl, hv⟩ := hok
    obtain ⟨z, h1, h2⟩ := hd_ld_ok _ _ _ h
    obtain ⟨x, rfl, h3⟩ := hd_isI_ok h2
    obtain ⟨h4, h5, h6⟩ := hd_sv_ok _ _ _ _ h3
    obtain ⟨hC, hg⟩ := hk _ _ _ _ _ h4
    exact ⟨hC, hd_iinc hd h1 hv h6 hg⟩
  case iadd =>
    simp only [hd_ok1, Bool.and_eq_true, decide_eq_true_eq] at hok
    obtain ⟨⟨hd, rfl⟩, -⟩ := hok
    obtain ⟨x, y, r, rfl, h2⟩ := hd_i2_ok h
    obtain ⟨hC, hg⟩ := hk _ _ _ _ _ h2
    exact ⟨hC, hd_iadd hd hg⟩
  case isub =>
    simp only [hd_ok1, Bool.and_eq_true, decide_eq_true_eq] at hok
    obtain ⟨⟨hd, rfl⟩, -⟩ := hok
    obtain ⟨x, y, r, rfl, h2⟩ := hd_i2_ok h
    obtain ⟨hC, hg⟩ := hk _ _ _ _ _ h2
    exact ⟨hC, hd_isub hd hg⟩
  case imul =>
    simp only [hd_ok1, Bool.and_eq_true, decide_eq_true_eq] at hok
    obtain ⟨⟨hd, rfl⟩, -⟩ := hok
    obtain ⟨x, y, r, rfl, h2⟩ := hd_i2_ok h
    obtain ⟨hC, hg⟩ := hk _ _ _ _ _ h2
    exact ⟨hC, hd_imul hd hg⟩
  case ishl =>
    simp only [hd_ok1, Bool.and_eq_true, decide_eq_true_eq] at hok
    obtain ⟨⟨hd, rfl⟩, -⟩ := hok
    obtain ⟨x, y, r, rfl, h2⟩ := hd_i2_ok h
    obtain ⟨hC, hg⟩ := hk _ _ _ _ _ h2
    exact ⟨hC, hd_ishl hd hg⟩
  case ishr =>
    simp only [hd_ok1, Bool.and_eq_true, decide_eq_true_eq] at hok
    obtain ⟨⟨hd, rfl⟩, -⟩ := hok
    obtain ⟨x, y, r, rfl, h2⟩ := hd_i2_ok h
    obtain ⟨hC, hg⟩ := hk _ _ _ _ _ h2
    exact ⟨hC, hd_ishr hd hg⟩
  case iand =>
    simp only [hd_ok1, Bool.and_eq_true, decide_eq_true_eq] at hok
    obtain ⟨⟨hd, rfl⟩, -⟩ := hok
    obtain ⟨x, y, r, rfl, h2⟩ := hd_i2_ok h
    obtain ⟨hC, hg⟩ := hk _ _ _ _ _ h2
    exact ⟨hC, hd_iand hd hg⟩
  case ior =>
    simp only [hd_ok1, Bool.and_eq_true, decide_eq_true_eq] at hok
    obtain ⟨⟨hd, rfl⟩, -⟩ := hok
    obtain ⟨x, y, r, rfl, h2⟩ := hd_i2_ok h
    obtain ⟨hC, hg⟩ := hk _ _ _ _ _ h2
    exact ⟨hC, hd_ior hd hg⟩
  case iushr =>
    simp only [hd_ok1, Bool.and_eq_true, decide_eq_true_eq] at hok
    obtain ⟨⟨hd, rfl⟩, -⟩ := hok
    obtain ⟨x, y, r, rfl, h2⟩ := hd_i2_ok h
    obtain ⟨hC, hg⟩ := hk _ _ _ _ _ h2
    exact ⟨hC, hd_iushr hd hg⟩
  case idiv =>
    simp only [hd_ok1, Bool.and_eq_true, decide_eq_true_eq] at hok
    obtain ⟨⟨hd, rfl⟩, -⟩ := hok
    obtain ⟨x, y, r, rfl, h2⟩ := hd_i2_ok h
    obtain ⟨⟨hC, hn⟩, hg⟩ := hk _ _ _ _ _ h2
    exact ⟨hC, hd_idiv hd hn hg⟩
  case irem =>
    simp only [hd_ok1, Bool.and_eq_true, decide_eq_true_eq] at hok
    obtain ⟨⟨hd, rfl⟩, -⟩ := hok
    obtain ⟨x, y, r, rfl, h2⟩ := hd_i2_ok h
    obtain ⟨⟨hC, hn⟩, hg⟩ := hk _ _ _ _ _ h2
    exact ⟨hC, hd_irem hd hn hg⟩
  case ineg =>
    simp only [hd_ok1, Bool.and_eq_true, decide_eq_true_eq] at hok
    obtain ⟨⟨hd, rfl⟩, -⟩ := hok
    obtain ⟨x, r, rfl, h2⟩ := hd_i1_ok h
    obtain ⟨hC, hg⟩ := hk _ _ _ _ _ h2
    exact ⟨hC, hd_ineg hd hg⟩
  case i2l =>
    simp only [hd_ok1, Bool.and_eq_true, decide_eq_true_eq] at hok
    obtain ⟨⟨hd, rfl⟩, -⟩ := hok
    obtain ⟨x, r, rfl, h2⟩ := hd_i1_ok h
    obtain ⟨hC, hg⟩ := hk _ _ _ _ _ h2
    exact ⟨hC, hd_i2l hd hg⟩
  case i2b =>
    simp only [hd_ok1, Bool.and_eq_true, decide_eq_true_eq] at hok
    obtain ⟨⟨hd, rfl⟩, -⟩ := hok
    obtain ⟨x, r, rfl, h2⟩ := hd_i1_ok h
    obtain ⟨hC, hg⟩ := hk _ _ _ _ _ h2
    exact ⟨hC, hd_i2b hd hg⟩
  case i2s =>
    simp only [hd_ok1, Bool.and_eq_true, decide_eq_true_eq] at hok
    obtain ⟨⟨hd, rfl⟩, -⟩ := hok
    obtain ⟨x, r, rfl, h2⟩ := hd_i1_ok h
    obtain ⟨hC, hg⟩ := hk _ _ _ _ _ h2
    exact ⟨hC, hd_i2s hd hg⟩
  case ladd =>
    simp only [hd_ok1, Bool.and_eq_true, decide_eq_true_eq] at hok
    obtain ⟨⟨hd, rfl⟩, -⟩ := hok
    obtain ⟨x, y, r, rfl, h2⟩ := hd_l2_ok h
    obtain ⟨hC, hg⟩ := hk _ _ _ _ _ h2
    exact ⟨hC, hd_ladd hd hg⟩
  case lmul =>
    simp only [hd_ok1, Bool.and_eq_true, decide_eq_true_eq] at hok
    obtain ⟨⟨hd, rfl⟩, -⟩ := hok
    obtain ⟨x, y, r, rfl, h2⟩ := hd_l2_ok h
    obtain ⟨hC, hg⟩ := hk _ _ _ _ _ h2
    exact ⟨hC, hd_lmul hd hg⟩
  case lcmp =>
    simp only [hd_ok1, Bool.and_eq_true, decide_eq_true_eq] at hok
    obtain ⟨⟨hd, rfl⟩, -⟩ := hok
    obtain ⟨x, y, r, rfl, h2⟩ := hd_l2_ok h
    obtain ⟨hC, hg⟩ := hk _ _ _ _ _ h2
    exact ⟨hC, hd_lcmp hd hg⟩
  case ldiv =>
    simp only [hd_ok1, Bool.and_eq_true, decide_eq_true_eq] at hok
    obtain ⟨⟨hd, rfl⟩, -⟩ := hok
    obtain ⟨x, y, r, rfl, h2⟩ := hd_l2_ok h
    obtain ⟨⟨hC, hn⟩, hg⟩ := hk _ _ _ _ _ h2
    exact ⟨hC, hd_ldiv hd hn hg⟩
  case lrem =>
    simp only [hd_ok1, Bool.and_eq_true, decide_eq_true_eq] at hok
    obtain ⟨⟨hd, rfl⟩, -⟩ := hok
    obtain ⟨x, y, r, rfl, h2⟩ := hd_l2_ok h
    obtain ⟨⟨hC, hn⟩, hg⟩ := hk _ _ _ _ _ h2
    exact ⟨hC, hd_lrem hd hn hg⟩
  case dup =>
    simp only [hd_ok1, Bool.and_eq_true, decide_eq_true_eq] at hok
    obtain ⟨⟨hd, rfl⟩, -⟩ := hok
    simp only [hd_st1] at h
    split at h
    · obtain ⟨hC, hg⟩ := hk _ _ _ _ _ h
      exact ⟨hC, hd_dup hd rfl hg⟩
    · obtain ⟨hC, hg⟩ := hk _ _ _ _ _ h
      exact ⟨hC, hd_dup hd rfl hg⟩
    · exact h.elim
  case pop =>
    simp only [hd_ok1, Bool.and_eq_true, decide_eq_true_eq] at hok
    obtain ⟨⟨hd, rfl⟩, -⟩ := hok
    simp only [hd_st1] at h
    split at h
    · obtain ⟨hC, hg⟩ := hk _ _ _ _ _ h
      exact ⟨hC, hd_pop hd rfl hg⟩
    · obtain ⟨hC, hg⟩ := hk _ _ _ _ _ h
      exact ⟨hC, hd_pop hd rfl hg⟩
    · exact h.elim
  case dup2 =>
    simp only [hd_ok1, Bool.and_eq_true, decide_eq_true_eq] at hok
    obtain ⟨⟨hd, rfl⟩, -⟩ := hok
    simp only [hd_st1] at h
    split at h
    · obtain ⟨hC, hg⟩ := hk _ _ _ _ _ h
      exact ⟨hC, hd_dup2 hd rfl rfl hg⟩
    · obtain ⟨hC, hg⟩ := hk _ _ _ _ _ h
      exact ⟨hC, hd_dup2 hd rfl rfl hg⟩
    · exact h.elim
  case getfield z0 =>
    simp only [hd_ok1, Bool.and_eq_true, decide_eq_true_eq] at hok
    obtain ⟨⟨hd, rfl⟩, hv⟩ := hok
    obtain ⟨q, hq, hlt, hl⟩ := hd_fld_ok hv
    obtain ⟨c, r, rfl, h2⟩ := hd_r1_ok h
    obtain ⟨ci, fs, hsh, h3⟩ := hd_obj_ok h2
    obtain ⟨rfl, h4⟩ := hd_bq_ok h3
    rw [hd_nth_eq] at h4
    cases hr : fs[b]? with
    | none => rw [hr] at h4; exact h4.elim
    | some r =>
      rw [hr] at h4
      obtain ⟨r1, r2⟩ := r
      match r1, h4, hr with
      | 0, h4, hr =>
        obtain ⟨hC, hg⟩ := hk _ _ _ _ _ h4
        exact ⟨hC, hd_getf hd hsh hq hlt hl hr hg⟩
      | 1, h4, hr =>
        obtain ⟨hC, hg⟩ := hk _ _ _ _ _ h4
        exact ⟨hC, hd_getf hd hsh hq hlt hl hr hg⟩
      | j + 2, h4, hr =>
        obtain ⟨hC, hg⟩ := hk _ _ _ _ _ h4
        exact ⟨hC, hd_getf hd hsh hq hlt hl hr hg⟩
  case putfield z0 =>
    simp only [hd_ok1, Bool.and_eq_true, decide_eq_true_eq] at hok
    obtain ⟨⟨hd, rfl⟩, ⟨hv, hf⟩, hkd⟩ := hok
    obtain ⟨q, hq, hlt, hl⟩ := hd_fld_ok hv
    have hfin : (q.2.1 b).2.2.2 = false := by
      unfold hd_fin at hf
      rw [hd_nth_eq, hq] at hf
      simpa using hf
    simp only [hd_st1] at h
    split at h
    · next x c r =>
      obtain ⟨ci, fs, hsh, h3⟩ := hd_obj_ok h
      obtain ⟨rfl, h4⟩ := hd_bq_ok h3
      rw [hd_nth_eq] at h4
      cases hr : fs[b]? with
      | none => rw [hr] at h4; exact h4.elim
      | some r =>
        rw [hr] at h4
        obtain ⟨r1, r2⟩ := r
        obtain ⟨e1, h5⟩ := hd_bq_ok h4
        have e1 : r1 = 0 := e1
        subst e1
        by_cases hv0 : v = 0
        · rw [if_pos hv0] at h5
          obtain ⟨hC, hg⟩ := hk _ _ _ _ _ h5
          have ht : hd_ty ci b = .int := by
            unfold hd_kd at hkd
            split at hkd
            · assumption
            · rw [hv0] at hkd; exact absurd hkd (by decide)
            · rw [hv0] at hkd; exact absurd hkd (by decide)
            · cases hkd
          exact ⟨hC, hd_putf hd hsh hq hlt hl hr hfin (by rw [ht]; rfl) (by rw [ht]; rfl) hg⟩
        · rw [if_neg hv0] at h5
          by_cases hv1 : v = 1
          · rw [if_pos hv1] at h5
            obtain ⟨⟨hC, hx⟩, hg⟩ := hk _ _ _ _ _ h5
            have ht : hd_ty ci b = .boolean := by
              unfold hd_kd at hkd
              split at hkd
              · rw [hv1] at hkd; exact absurd hkd (by decide)
              · assumption
              · rw [hv1] at hkd; exact absurd hkd (by decide)
              · cases hkd
            refine ⟨hC, hd_putf hd hsh hq hlt hl hr hfin ?_ ?_ hg⟩
            · rw [ht]; rcases hx with rfl | rfl <;> rfl
            · rw [ht]; rcases hx with rfl | rfl <;> rfl
          · rw [if_neg hv1] at h5; exact h5.elim
    · next x c r =>
      obtain ⟨ci, fs, hsh, h3⟩ := hd_obj_ok h
      obtain ⟨rfl, h4⟩ := hd_bq_ok h3
      rw [hd_nth_eq] at h4
      cases hr : fs[b]? with
      | none => rw [hr] at h4; exact h4.elim
      | some r =>
        rw [hr] at h4
        obtain ⟨r1, r2⟩ := r
        obtain ⟨e1, h5⟩ := hd_bq_ok h4
        have e1 : r1 = 1 := e1
        subst e1
        by_cases hv2 : v = 2
        · rw [if_pos hv2] at h5
          obtain ⟨hC, hg⟩ := hk _ _ _ _ _ h5
          have ht : hd_ty ci b = .long := by
            unfold hd_kd at hkd
            split at hkd
            · rw [hv2] at hkd; exact absurd hkd (by decide)
            · rw [hv2] at hkd; exact absurd hkd (by decide)
            · assumption
            · cases hkd
          exact ⟨hC, hd_putl hd hsh hq hlt hl hr hfin (by rw [ht]; rfl) (by rw [ht]; rfl) hg⟩
        · rw [if_neg hv2] at h5; exact h5.elim
    · exact h.elim
  case iaload =>
    simp only [hd_ok1, Bool.and_eq_true, decide_eq_true_eq] at hok
    obtain ⟨⟨hd, rfl⟩, -⟩ := hok
    obtain ⟨x, r, rfl, h2⟩ := hd_i1_ok h
    obtain ⟨c, r2, rfl, h3⟩ := hd_r1_ok h2
    obtain ⟨t, n, hsh, h4⟩ := hd_arr_ok h3
    obtain ⟨rfl, h5⟩ := hd_bq_ok h4
    obtain ⟨⟨hC, hn⟩, hg⟩ := hk _ _ _ _ _ h5
    exact ⟨hC, hd_iaload hd hsh hn hg⟩
  case iastore =>
    simp only [hd_ok1, Bool.and_eq_true, decide_eq_true_eq] at hok
    obtain ⟨⟨hd, rfl⟩, -⟩ := hok
    obtain ⟨x, y, r, rfl, h2⟩ := hd_i2_ok h
    obtain ⟨c, r2, rfl, h3⟩ := hd_r1_ok h2
    obtain ⟨t, n, hsh, h4⟩ := hd_arr_ok h3
    obtain ⟨rfl, h5⟩ := hd_bq_ok h4
    obtain ⟨⟨hC, hn⟩, hg⟩ := hk _ _ _ _ _ h5
    exact ⟨hC, hd_iastore hd hsh hn hg⟩
  case baload =>
    simp only [hd_ok1, Bool.and_eq_true, decide_eq_true_eq] at hok
    obtain ⟨⟨hd, rfl⟩, -⟩ := hok
    obtain ⟨x, r, rfl, h2⟩ := hd_i1_ok h
    obtain ⟨c, r2, rfl, h3⟩ := hd_r1_ok h2
    obtain ⟨t, n, hsh, h4⟩ := hd_arr_ok h3
    split at h4
    · obtain ⟨⟨hC, hn⟩, hg⟩ := hk _ _ _ _ _ h4
      exact ⟨hC, hd_baload hd (Or.inl hsh) hn hg⟩
    · obtain ⟨⟨hC, hn⟩, hg⟩ := hk _ _ _ _ _ h4
      exact ⟨hC, hd_baload hd (Or.inr hsh) hn hg⟩
    · exact h4.elim
  case bastore =>
    simp only [hd_ok1, Bool.and_eq_true, decide_eq_true_eq] at hok
    obtain ⟨⟨hd, rfl⟩, -⟩ := hok
    obtain ⟨x, y, r, rfl, h2⟩ := hd_i2_ok h
    obtain ⟨c, r2, rfl, h3⟩ := hd_r1_ok h2
    obtain ⟨t, n, hsh, h4⟩ := hd_arr_ok h3
    split at h4
    · obtain ⟨⟨hC, hn, hx⟩, hg⟩ := hk _ _ _ _ _ h4
      exact ⟨hC, hd_bastore hd (Or.inl ⟨hsh, hx⟩) hn hg⟩
    · obtain ⟨⟨hC, hn, hx⟩, hg⟩ := hk _ _ _ _ _ h4
      exact ⟨hC, hd_bastore hd (Or.inr ⟨hsh, by rcases hx with rfl | rfl <;> rfl⟩) hn hg⟩
    · exact h4.elim
  case aaload =>
    simp only [hd_ok1, Bool.and_eq_true, decide_eq_true_eq] at hok
    obtain ⟨⟨hd, rfl⟩, -⟩ := hok
    obtain ⟨x, r, rfl, h2⟩ := hd_i1_ok h
    obtain ⟨c, r2, rfl, h3⟩ := hd_r1_ok h2
    obtain ⟨t, rs, hsh, h4⟩ := hd_rar_ok h3
    rw [hd_nth_eq] at h4
    split at h4
    · next j hj =>
      obtain ⟨⟨hC, ht, hn⟩, hg⟩ := hk _ _ _ _ _ h4
      exact ⟨hC, hd_aaload hd ht hsh hn hj hg⟩
    · exact h4.elim
  case arraylength =>
    simp only [hd_ok1, Bool.and_eq_true, decide_eq_true_eq] at hok
    obtain ⟨⟨hd, rfl⟩, -⟩ := hok
    obtain ⟨c, r2, rfl, h3⟩ := hd_r1_ok h
    obtain ⟨t, n, hsh, h4⟩ := hd_arr_ok h3
    obtain ⟨⟨hC, hn⟩, hg⟩ := hk _ _ _ _ _ h4
    exact ⟨hC, hd_alen hd hn hsh rfl hg⟩
  case invokestatic z0 =>
    simp only [hd_st1] at h
    cases e1 : Nat.beq a 9001 with
    | true =>
      simp only [hd_ok1, e1, Bool.and_eq_true, decide_eq_true_eq] at hok
      rw [e1] at h
      obtain ⟨⟨hd, rfl⟩, ⟨⟨⟨w1, w2⟩, w3⟩, w4⟩, w5⟩ := hok
      obtain ⟨x, y, r, rfl, h2⟩ := hd_i2_ok h
      obtain ⟨h3, h4⟩ := hd_few_ok _ _ _ h2
      obtain ⟨hC, hg⟩ := hk _ _ _ _ _ h4
      exact ⟨hC, hd_mmax hd (hd_wd_ok w3) (hd_wd_ok w4) (hd_wd_ok w2) (hd_wd_ok w1) w5 h3 hg⟩
    | false =>
      rw [e1] at h
      cases e2 : Nat.beq a 9002 with
      | true =>
        simp only [hd_ok1, e1, e2, Bool.and_eq_true, decide_eq_true_eq] at hok
        rw [e2] at h
        obtain ⟨⟨hd, rfl⟩, ⟨⟨⟨w1, w2⟩, w3⟩, w4⟩, w5⟩ := hok
        obtain ⟨x, y, r, rfl, h2⟩ := hd_i2_ok h
        obtain ⟨h3, h4⟩ := hd_few_ok _ _ _ h2
        obtain ⟨hC, hg⟩ := hk _ _ _ _ _ h4
        exact ⟨hC, hd_mmin hd (hd_wd_ok w3) (hd_wd_ok w4) (hd_wd_ok w2) (hd_wd_ok w1) w5 h3 hg⟩
      | false =>
        rw [e2] at h
        cases e3 : Nat.beq a 9003 with
        | true =>
          simp only [hd_ok1, e1, e2, e3, Bool.and_eq_true, decide_eq_true_eq] at hok
          rw [e3] at h
          obtain ⟨⟨hd, rfl⟩, ⟨⟨⟨w1, w2⟩, w3⟩, w4⟩, w5⟩ := hok
          obtain ⟨x, y, r, rfl, g2⟩ := hd_i2_ok h
          obtain ⟨q1, r1, rfl, g3⟩ := hd_r1_ok g2
          obtain ⟨sp, r2, rfl, g4⟩ := hd_i1_ok g3
          obtain ⟨q0, r3, rfl, g5⟩ := hd_r1_ok g4
          obtain ⟨t0, n0, hs0, g6⟩ := hd_arr_ok g5
          obtain ⟨t1, n1, hs1, g7⟩ := hd_arr_ok g6
          obtain ⟨rfl, g8⟩ := hd_bq_ok g7
          obtain ⟨rfl, g9⟩ := hd_bq_ok g8
          cases r3 with
          | nil =>
            obtain ⟨-, g10⟩ := hd_few_ok _ _ _ g9
            obtain ⟨⟨hC, c1, c2, c3, c4, c5⟩, hg⟩ := hk _ _ _ _ _ g10
            exact ⟨hC, hd_copy hd (hd_wd_ok w3) (hd_wd_ok w1) (hd_wd_ok w4) (hd_wd_ok w2) w5 rfl hs0 hs1 c1 c2 c3 c4 c5 hg⟩
          | cons z r3 => exact g9.elim
        | false =>
          rw [e3] at h
          exact hs _ h
  case goto z0 =>
    simp only [hd_ok1, Bool.and_eq_true, decide_eq_true_eq] at hok
    obtain ⟨⟨hd, -⟩, ht⟩ := hok
    obtain ⟨hC, hg⟩ := hs _ h
    exact ⟨hC, hd_goto hd ht hg⟩
  all_goals exact hs _ h
/-- a list of instructions, each as it stands in the bytes, one behind another -/
def hd_okL (I : hd_I) : List (Nat × hd_O) → Bool
  | [] => true
  | (pc, o) :: r => hd_ok1 I pc o && (match r with
    | [] => true
    | (q, _) :: _ => Nat.beq o.2.1 q) && hd_okL I r
theorem hd_ev1_ok (till : Nat) {k : hd_K} (hk : ∀ C pc lv st M N, k C pc lv st M N → C ∧ hd_Go I pc lv st M N Q) : ∀ (l : List (Nat × hd_O)) (lv : hd_L) (st : List Value) (M : hd_M) (N : hd_N) (C : Prop), hd_okL I l = true → hd_ev1 till k l lv st M N C → ∃ q o r, l = (q, o) :: r ∧ C ∧ hd_Go I q lv st M N Q := by
  intro l
  induction l with
  | nil => intro lv st M N C _ h; exact h.elim
  | cons x r ih =>
    obtain ⟨pc, o⟩ := x
    intro lv st M N C hok h
    refine ⟨pc, o, r, rfl, ?_⟩
    unfold hd_ev1 at h
    split at h
    · exact hk _ _ _ _ _ _ h
    · unfold hd_okL at hok
      rw [Bool.and_eq_true, Bool.and_eq_true] at hok
      refine hd_st1_ok hok.1.1 h ?_ (fun pc' h' => hk _ _ _ _ _ _ h')
      intro lv1 st1 M1 N1 C1 h1
      obtain ⟨q, o1, r1, rfl, h2, h3⟩ := ih lv1 st1 M1 N1 C1 hok.2 h1
      refine ⟨h2, ?_⟩
      have e : o.2.1 = q := Nat.eq_of_beq_eq_true hok.1.2
      rw [e]
      exact h3
theorem hd_from_ok : ∀ (l : List (Nat × hd_O)) (pc : Nat), hd_okL I l = true → hd_okL I (hd_from pc l) = true ∧ ∀ q o r, hd_from pc l = (q, o) :: r → q = pc := by
  intro l
  induction l with
  | nil => intro pc h; exact ⟨h, fun q o r e => by cases e⟩
  | cons x r ih =>
    obtain ⟨p, o⟩ := x
    intro pc h
    unfold hd_from
    split
    · next e => exact ⟨h, fun q o r e' => by cases e'; exact Nat.eq_of_beq_eq_true e⟩
    · unfold hd_okL at h
      rw [Bool.and_eq_true] at h
      exact ih pc h.2
abbrev hd_pg (I : hd_I) : List (Nat × hd_O) := I.2.2.2.2.2.2
/-- a straight stretch from pc on, to its end, or to the place 'till' -/
theorem hd_ev (ok : hd_okL I (hd_pg I) = true) (till : Nat) (h : ∀ k : hd_K, (∀ C pc lv st M N, C → hd_Go I pc lv st M N Q → k C pc lv st M N) → hd_ev0 till k (hd_from pc (hd_pg I)) lv st M N) : hd_Go I pc lv st M N Q := by
  have h0 := h (fun C pc lv st M N => C ∧ hd_Go I pc lv st M N Q) (fun C pc lv st M N a b => ⟨a, b⟩)
  obtain ⟨h1, h2⟩ := hd_from_ok (hd_pg I) pc ok
  generalize hd_from pc (hd_pg I) = l at h0 h1 h2
  cases l with
  | nil => exact h0.elim
  | cons x r =>
    obtain ⟨q, o⟩ := x
    have e := h2 q o r rfl
    subst e
    unfold hd_okL at h1
    rw [Bool.and_eq_true, Bool.and_eq_true] at h1
    unfold hd_ev0 at h0
    refine (hd_st1_ok h1.1.1 h0 ?_ (fun pc' h' => h')).2
    intro lv1 st1 M1 N1 C1 h3
    obtain ⟨q2, o1, r1, rfl, h4, h5⟩ := hd_ev1_ok till (fun C pc lv st M N h' => h') r lv1 st1 M1 N1 C1 h1.2 h3
    refine ⟨h4, ?_⟩
    have e : o.2.1 = q2 := Nat.eq_of_beq_eq_true h1.1.2
    rw [e]
    exact h5
end
