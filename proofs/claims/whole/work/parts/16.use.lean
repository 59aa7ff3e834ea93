/-! THE ROWS AS THEY ARE USED: what a stretch comes to is found by reckoning ('fun _ => rfl') -/
section
variable {I : hd_I} {pc : Nat} {lv : hd_L} {st : List Value} {M : hd_M} {N : hd_N} {Q : hd_Q}
theorem hd_go (ok : hd_okL I (hd_pg I) = true) (till : Nat) {C : Prop} {pc' : Nat} {lv' : hd_L} {st' : List Value} {M' : hd_M} {N' : hd_N} (e : ∀ k : hd_K, hd_ev0 till k (hd_from pc (hd_pg I)) lv st M N = k C pc' lv' st' M' N') (hp : Nat.beq pc pc' = false) (hC : C) (h : hd_Go I pc' lv' st' M' N' Q) : hd_Go I pc lv st M N Q :=
  hd_ev ok till (fun k hk => by rw [e]; exact hk _ _ _ _ _ _ hC h)
theorem hd_ju (ok : hd_okL I (hd_pg I) = true) {ct cf : Prop} {t f : Nat} {st' : List Value} (e : ∀ k : Prop → Prop → Nat → Nat → List Value → Prop, hd_brK (hd_from pc (hd_pg I)) st k = k ct cf t f st') (h1 : ct → hd_Go I t lv st' M N Q) (h2 : cf → hd_Go I f lv st' M N Q) : hd_Go I pc lv st M N Q :=
  hd_br ok (fun k hk => by rw [e]; exact hk _ _ _ _ _ h1 h2)
theorem hd_en_ (ok : hd_okL I (hd_pg I) = true) {C : Prop} {r : Option Value} (e : ∀ k : Prop → Option Value → Prop, hd_rtK I.2.2.2.2.1 (hd_from pc (hd_pg I)) st k = k C r) (hC : C) (h : Q r M N) : hd_Go I pc lv st M N Q :=
  hd_rt ok (fun k hk => by rw [e]; exact hk _ _ hC h)
theorem hd_ca {T : List hd_I} (ok : hd_okL I (hd_pg I) = true) (okc : hd_okC T I (hd_pg I) = true) {J : hd_I} {nx : Nat} {as st' : List Value} (e : ∀ k : hd_I → Nat → List Value → List Value → Prop, hd_clK T (hd_from pc (hd_pg I)) st k = k J nx as st') {P : hd_Q} (hR : hd_Ret J as M N P) (h : ∀ r M1 N1, P r M1 N1 → hd_Go I nx lv (r.toList ++ st') M1 N1 Q) : hd_Go I pc lv st M N Q :=
  hd_cll ok okc (fun k hk => by rw [e]; exact hk _ _ _ _ ⟨P, hR, h⟩)
/-- the answer v, and nothing changed -/
abbrev hd_is (v : Value) (M : hd_M) (N : hd_N) : hd_Q := fun r M1 N1 => r = some v ∧ M1 = M ∧ N1 = N
theorem hd_ci {T : List hd_I} (ok : hd_okL I (hd_pg I) = true) (okc : hd_okC T I (hd_pg I) = true) {J : hd_I} {nx : Nat} {as st' : List Value} (e : ∀ k : hd_I → Nat → List Value → List Value → Prop, hd_clK T (hd_from pc (hd_pg I)) st k = k J nx as st') {v : Value} (hR : hd_Ret J as M N (hd_is v M N)) (h : hd_Go I nx lv (v :: st') M N Q) : hd_Go I pc lv st M N Q :=
  hd_ca ok okc e hR (fun r M1 N1 ⟨e1, e2, e3⟩ => by subst e1; subst e2; subst e3; exact h)
theorem hd_sc (ok : hd_okL I (hd_pg I) = true) {x : Int32} {d : Nat} {sw : List (Int32 × Nat)} {st' : List Value} (e : ∀ k : Int32 → Nat → List (Int32 × Nat) → List Value → Prop, hd_swK (hd_from pc (hd_pg I)) st k = k x d sw st') (h : hd_swP I lv st' M N Q x d sw) : hd_Go I pc lv st M N Q :=
  hd_swi ok (fun k hk => by rw [e]; exact hk _ _ _ _ h)
end
