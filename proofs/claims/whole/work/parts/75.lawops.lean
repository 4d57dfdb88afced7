/-! The law's loop: one call on both sides. -/
theorem ux_BsldN {P : ux_P} {sc : List Int32} {d i pc : Nat} {ls st : List Value} {E : ux_Ev} {x z : Nat} {w : Bool} {K : ux_K1} (k : Nat) {j y : Int32} (hi : P.1 i pc = some (.iaload, 1)) (hj : j = nI k) (hb : k < 2 ^ 31) (hk : k < sc.length) (hy : sc.getD k 0 = y) (kk : ux_B P sc d i (pc + 1) ls (.int y :: st) E x z w K) : ux_B P sc d i pc ls (.int j :: .ref 0 :: st) E x z w K := by
  subst hj hy
  refine ux_Bsld hi (nI_pos hb) ?_ kk
  rw [nI_clamp hb, List.getD_eq_getElem?_getD, List.getElem?_eq_getElem hk]; rfl
theorem not_in {v c : Int32} {n m : Nat} (h : v < 0 ∨ c ≤ v) (hc : c = nI m) (hm : m < 2 ^ 31) (hv : v = nI n) (hn : n < m) : False := by
  subst hc hv
  rcases h with h | h
  · exact nI_pos (by omega) h
  · exact nI_ge hn hm h
section LW
variable {sc : List Int32} {i N : Nat} {E : ux_Ev} {x z : Nat} {w : Bool} {K : ux_K1}
abbrev lwK (sc : List Int32) (i N x z : Nat) (K : ux_K1) : Prop := ∀ e, e ≤ 1 → ∀ E' w' v5 v6, RL (N + 8) E' → ux_B uxP sc 110 0 759 [.ref 0, .ref 1, .ref 210, .ref 238, .int (nI i), v5, v6] [] E' (x + e) (z + 6 * e) w' K
theorem lw_sign (h : RL N E) (hi : i + 5 < sc.length) (hs : sc.length ≤ 3072) (hN : lwK sc i N x z K) (v5 v6 : Value) : ux_B uxP sc 110 0 108 [.ref 0, .ref 1, .ref 210, .ref 238, .int (nI i), v5, v6] [] E x z w K := by
  obtain ⟨sl, tx, us, fk, fp, dn, ct, W, AD, PR, L, rs, sp, n, F, pc, S, B, R, g, A, y0, st, q, hc, hI, hn, hp, hm, hR, hst, ht, ho, h9⟩ := h
  obtain ⟨a1, e1⟩ : ∃ y, sc.getD (i + 1) 0 = y := ⟨_, rfl⟩
  obtain ⟨a2, e2⟩ : ∃ y, sc.getD (i + 2) 0 = y := ⟨_, rfl⟩
  obtain ⟨a3, e3⟩ : ∃ y, sc.getD (i + 3) 0 = y := ⟨_, rfl⟩
  obtain ⟨a4, e4⟩ : ∃ y, sc.getD (i + 4) 0 = y := ⟨_, rfl⟩
  refine ux_BN 5 rfl ?_
  refine ux_BsldN (i + 1) rfl (nI_add i 1) (by omega) (by omega) e1 ?_
  refine ux_BN 4 rfl ?_
  refine ux_BsldN (i + 2) rfl (nI_add i 2) (by omega) (by omega) e2 ?_
  refine ux_BN 4 rfl ?_
  refine ux_BsldN (i + 3) rfl (nI_add i 3) (by omega) (by omega) e3 ?_
  refine ux_BN 4 rfl ?_
  refine ux_BsldN (i + 4) rfl (nI_add i 4) (by omega) (by omega) e4 ?_
  refine ux_BN 1 rfl ?_
  refine ux_Bsel 1 2 rfl rfl ?_
  refine ux_Bk (j := 47) rfl rfl ?_
  refine lh_sign hc a1 a2 a3 _ (fun hbad => ?_) (fun m k hm8 hk4 he he2 E1 w1 c1 f1 => ?_)
  · refine ux_BN 6 rfl ?_
    refine ux_BsldN (i + 1) rfl (nI_add i 1) (by omega) (by omega) e1 ?_
    refine ux_BN 4 rfl ?_
    refine ux_BsldN (i + 2) rfl (nI_add i 2) (by omega) (by omega) e2 ?_
    refine ux_BN 4 rfl ?_
    refine ux_BsldN (i + 3) rfl (nI_add i 3) (by omega) (by omega) e3 ?_
    refine ux_BN 4 rfl ?_
    refine ux_BsldN (i + 4) rfl (nI_add i 4) (by omega) (by omega) e4 ?_
    refine ux_BN 1 rfl ?_
    refine ux_Bsel 1 2 rfl rfl ?_
    refine ux_Bv rfl rfl rfl hm.1 rfl (by decide) rfl rfl ?_
    refine mo_sign hm a1 a2 a3 _ (fun _ E2 w2 m2 => ?_) (fun m k hm8 hk4 he he2 => ?_)
    · refine ux_BN 1 rfl ?_
      refine ux_Bv rfl rfl rfl m2.1 rfl (by decide) rfl rfl ?_
      refine mo_thrown m2 ?_
      refine ux_BN 2 rfl ?_
      refine ux_Byes rfl ?_
      refine ux_BN 1 rfl ?_
      exact hN 1 (by omega) _ _ _ _ (RL_of hc hI hn hp m2 (hR.same (fU_ne _ _ (by decide)) (fun _ _ _ => rfl)) (by omega) (ht.same (fun _ _ => rfl) (fun j hj => fU_ne _ _ hj)) ho h9)
    · rcases hbad with hb | hb
      · exact absurd (not_in hb (m := 8) rfl (by decide) he hm8) id
      · exact absurd (not_in hb (m := 4) rfl (by decide) he2 hk4) id
  · have hm1 : md E1 g A E1 := hm.mv fun b b1 b2 => f1 b (by omega)
    have hI1 := hI.fr (E2 := E1) fun b b1 b2 => f1 b (by omega)
    have hn1 := hn.fr (E2 := E1) fun b b1 b2 => f1 b (by omega)
    have ho1 : E1 238 = some (102, [], [.long q]) := by rw [f1 238 (by omega)]; exact ho
    have h91 : E1 239 = none := by rw [f1 239 (by omega)]; exact h9
    refine ux_BN 6 rfl ?_
    refine ux_BsldN (i + 1) rfl (nI_add i 1) (by omega) (by omega) e1 ?_
    refine ux_BN 4 rfl ?_
    refine ux_BsldN (i + 2) rfl (nI_add i 2) (by omega) (by omega) e2 ?_
    refine ux_BN 4 rfl ?_
    refine ux_BsldN (i + 3) rfl (nI_add i 3) (by omega) (by omega) e3 ?_
    refine ux_BN 4 rfl ?_
    refine ux_BsldN (i + 4) rfl (nI_add i 4) (by omega) (by omega) e4 ?_
    refine ux_BN 1 rfl ?_
    refine ux_Bsel 1 2 rfl rfl ?_
    refine ux_Bv rfl rfl rfl hm1.1 rfl (by decide) rfl rfl ?_
    refine mo_sign hm1 a1 a2 a3 _ (fun hbad E2 w2 m2 => ?_) (fun m' k' hm8' hk4' he' he2' E2 w2 m2 => ?_)
    · rcases hbad with hb | hb
      · exact absurd (not_in hb (m := 8) rfl (by decide) he hm8) id
      · exact absurd (not_in hb (m := 4) rfl (by decide) he2 hk4) id
    · subst he he2
      have : m' = m := ((nI_eq (by omega) (by omega)).mp he').symm
      subst this
      refine ux_BN 1 rfl ?_
      refine ux_Bv rfl rfl rfl m2.1 rfl (by decide) rfl rfl ?_
      refine mo_thrown m2 ?_
      refine ux_BN 2 rfl ?_
      refine ux_Byes rfl ?_
      refine ux_BN 1 rfl ?_
      exact hN 0 (by omega) _ _ _ _ (RL_of c1 hI1 hn1 hp m2 (hR.mt (mT_sign hR.1 hc.2.2.1.1 (hm.len 211 (by decide)) (hm.len 212 (by decide)) hm8 hk4 _ _) (fU_ne _ _ (by decide)) (fun a h1 h2 => by rw [fU_ne _ _ (by omega), fU_ne _ _ (by omega)])) (by omega) (ht.same (fun a h1 => by rw [fU_ne _ _ (by omega), fU_ne _ _ (by omega)]) (fun j hj => fU_ne _ _ hj)) ho1 h91)
theorem lw_drop (h : RL N E) (hi : i + 5 < sc.length) (hs : sc.length ≤ 3072) (hN : lwK sc i N x z K) (v5 v6 : Value) : ux_B uxP sc 110 0 196 [.ref 0, .ref 1, .ref 210, .ref 238, .int (nI i), v5, v6] [] E x z w K := by
  obtain ⟨sl, tx, us, fk, fp, dn, ct, W, AD, PR, L, rs, sp, n, F, pc, S, B, R, g, A, y0, st, q, hc, hI, hn, hp, hm, hR, hst, ht, ho, h9⟩ := h
  obtain ⟨a1, e1⟩ : ∃ y, sc.getD (i + 1) 0 = y := ⟨_, rfl⟩
  refine ux_BN 5 rfl ?_
  refine ux_BsldN (i + 1) rfl (nI_add i 1) (by omega) (by omega) e1 ?_
  refine ux_Bk (j := 51) rfl rfl ?_
  refine lh_drop hc a1 (fun hbad => ?_) (fun m hm8 he E1 w1 c1 f1 => ?_)
  · refine ux_BN 6 rfl ?_
    refine ux_BsldN (i + 1) rfl (nI_add i 1) (by omega) (by omega) e1 ?_
    refine ux_Bv rfl rfl rfl hm.1 rfl (by decide) rfl rfl ?_
    refine mo_drop hm a1 (fun _ E2 w2 m2 => ?_) (fun m hm8 he => absurd (not_in hbad (m := 8) rfl (by decide) he hm8) id)
    refine ux_BN 1 rfl ?_
    refine ux_Bv rfl rfl rfl m2.1 rfl (by decide) rfl rfl ?_
    refine mo_thrown m2 ?_
    refine ux_BN 2 rfl ?_
    refine ux_Byes rfl ?_
    refine ux_BN 1 rfl ?_
    exact hN 1 (by omega) _ _ _ _ (RL_of hc hI hn hp m2 (hR.same (fU_ne _ _ (by decide)) (fun _ _ _ => rfl)) (by omega) (ht.same (fun _ _ => rfl) (fun j hj => fU_ne _ _ hj)) ho h9)
  · have hm1 : md E1 g A E1 := hm.mv fun b b1 b2 => f1 b (by omega) (by omega)
    have hI1 := hI.fr (E2 := E1) fun b b1 b2 => f1 b (by omega) (by omega)
    have hn1 := hn.fr (E2 := E1) fun b b1 b2 => f1 b (by omega) (by omega)
    have ho1 : E1 238 = some (102, [], [.long q]) := by rw [f1 238 (by omega) (by omega)]; exact ho
    have h91 : E1 239 = none := by rw [f1 239 (by omega) (by omega)]; exact h9
    refine ux_BN 6 rfl ?_
    refine ux_BsldN (i + 1) rfl (nI_add i 1) (by omega) (by omega) e1 ?_
    refine ux_Bv rfl rfl rfl hm1.1 rfl (by decide) rfl rfl ?_
    refine mo_drop hm1 a1 (fun hbad => absurd (not_in hbad (m := 8) rfl (by decide) he hm8) id) (fun m' hm8' he' E2 w2 m2 => ?_)
    subst he
    have : m' = m := ((nI_eq (by omega) (by omega)).mp he').symm
    subst this
    refine ux_BN 1 rfl ?_
    refine ux_Bv rfl rfl rfl m2.1 rfl (by decide) rfl rfl ?_
    refine mo_thrown m2 ?_
    refine ux_BN 2 rfl ?_
    refine ux_Byes rfl ?_
    refine ux_BN 1 rfl ?_
    exact hN 0 (by omega) _ _ _ _ (RL_of c1 hI1 hn1 hp m2 (hR.mt (mT_drop hR.1 hc.2.2.1.1 (hm.len 211 (by decide)) (hm.len 213 (by decide)) hm8) (fU_ne _ _ (by decide)) (fun a h1 h2 => by rw [fU_ne _ _ (by omega), fU_ne _ _ (by omega)])) (by omega) (ht.same (fun a h1 => by rw [fU_ne _ _ (by omega), fU_ne _ _ (by omega)]) (fun j hj => fU_ne _ _ hj)) ho1 h91)
theorem lw_edit (h : RL N E) (hi : i + 5 < sc.length) (hs : sc.length ≤ 3072) (hN : lwK sc i N x z K) (v5 v6 : Value) : ux_B uxP sc 110 0 307 [.ref 0, .ref 1, .ref 210, .ref 238, .int (nI i), v5, v6] [] E x z w K := by
  obtain ⟨sl, tx, us, fk, fp, dn, ct, W, AD, PR, L, rs, sp, n, F, pc, S, B, R, g, A, y0, st, q, hc, hI, hn, hp, hm, hR, hst, ht, ho, h9⟩ := h
  obtain ⟨a1, e1⟩ : ∃ y, sc.getD (i + 1) 0 = y := ⟨_, rfl⟩
  obtain ⟨a2, e2⟩ : ∃ y, sc.getD (i + 2) 0 = y := ⟨_, rfl⟩
  obtain ⟨a3, e3⟩ : ∃ y, sc.getD (i + 3) 0 = y := ⟨_, rfl⟩
  refine ux_BN 5 rfl ?_
  refine ux_BsldN (i + 1) rfl (nI_add i 1) (by omega) (by omega) e1 ?_
  refine ux_BN 4 rfl ?_
  refine ux_BsldN (i + 2) rfl (nI_add i 2) (by omega) (by omega) e2 ?_
  refine ux_BN 4 rfl ?_
  refine ux_BsldN (i + 3) rfl (nI_add i 3) (by omega) (by omega) e3 ?_
  have hln : ∀ m, m < 8 → (A 213).getD m 0 = nI (tx m).length ∧ (tx m).length ≤ 30 := fun m hm8 => ⟨(hR.1.2 m hm8).2.1, (hR.1.2 m hm8).1⟩
  refine ux_Bk (j := 56) rfl rfl ?_
  refine lh_edit hc a1 a2 a3 (fun hbad => ?_) (fun m hm8 he hbad => ?_) (fun m k hm8 he hk he2 E1 w1 c1 f1 => ?_)
  · refine ux_BN 6 rfl ?_
    refine ux_BsldN (i + 1) rfl (nI_add i 1) (by omega) (by omega) e1 ?_
    refine ux_BN 4 rfl ?_
    refine ux_BsldN (i + 2) rfl (nI_add i 2) (by omega) (by omega) e2 ?_
    refine ux_BN 4 rfl ?_
    refine ux_BsldN (i + 3) rfl (nI_add i 3) (by omega) (by omega) e3 ?_
    refine ux_Bv rfl rfl rfl hm.1 rfl (by decide) rfl rfl ?_
    refine mo_edit hm a1 a2 a3 (fun m => (tx m).length) hln (fun _ E2 w2 m2 => ?_) (fun m hm8 he => absurd (not_in hbad (m := 8) rfl (by decide) he hm8) id) (fun m k hm8 he => absurd (not_in hbad (m := 8) rfl (by decide) he hm8) id)
    refine ux_BN 1 rfl ?_
    refine ux_Bv rfl rfl rfl m2.1 rfl (by decide) rfl rfl ?_
    refine mo_thrown m2 ?_
    refine ux_BN 2 rfl ?_
    refine ux_Byes rfl ?_
    refine ux_BN 1 rfl ?_
    exact hN 1 (by omega) _ _ _ _ (RL_of hc hI hn hp m2 (hR.same (fU_ne _ _ (by decide)) (fun _ _ _ => rfl)) (by omega) (ht.same (fun _ _ => rfl) (fun j hj => fU_ne _ _ hj)) ho h9)
  · refine ux_BN 6 rfl ?_
    refine ux_BsldN (i + 1) rfl (nI_add i 1) (by omega) (by omega) e1 ?_
    refine ux_BN 4 rfl ?_
    refine ux_BsldN (i + 2) rfl (nI_add i 2) (by omega) (by omega) e2 ?_
    refine ux_BN 4 rfl ?_
    refine ux_BsldN (i + 3) rfl (nI_add i 3) (by omega) (by omega) e3 ?_
    refine ux_Bv rfl rfl rfl hm.1 rfl (by decide) rfl rfl ?_
    refine mo_edit hm a1 a2 a3 (fun m => (tx m).length) hln (fun hb => absurd (not_in hb (m := 8) rfl (by decide) he hm8) id) (fun m' hm8' he' _ E2 w2 m2 => ?_) (fun m' k hm8' he' hk he2 => ?_)
    · refine ux_BN 1 rfl ?_
      refine ux_Bv rfl rfl rfl m2.1 rfl (by decide) rfl rfl ?_
      refine mo_thrown m2 ?_
      refine ux_BN 2 rfl ?_
      refine ux_Byes rfl ?_
      refine ux_BN 1 rfl ?_
      exact hN 1 (by omega) _ _ _ _ (RL_of hc hI hn hp m2 (hR.same (fU_ne _ _ (by decide)) (fun _ _ _ => rfl)) (by omega) (ht.same (fun _ _ => rfl) (fun j hj => fU_ne _ _ hj)) ho h9)
    · have : m' = m := (nI_eq (by omega) (by omega)).mp (he'.symm.trans he)
      subst this
      exact absurd (not_in hbad rfl (by have := (hln m' hm8).2; omega) he2 hk) id
  · have hm1 : md E1 g A E1 := hm.mv fun b b1 b2 => f1 b (by omega)
    have hI1 := hI.fr (E2 := E1) fun b b1 b2 => f1 b (by omega)
    have hn1 := hn.fr (E2 := E1) fun b b1 b2 => f1 b (by omega)
    have ho1 : E1 238 = some (102, [], [.long q]) := by rw [f1 238 (by omega)]; exact ho
    have h91 : E1 239 = none := by rw [f1 239 (by omega)]; exact h9
    refine ux_BN 6 rfl ?_
    refine ux_BsldN (i + 1) rfl (nI_add i 1) (by omega) (by omega) e1 ?_
    refine ux_BN 4 rfl ?_
    refine ux_BsldN (i + 2) rfl (nI_add i 2) (by omega) (by omega) e2 ?_
    refine ux_BN 4 rfl ?_
    refine ux_BsldN (i + 3) rfl (nI_add i 3) (by omega) (by omega) e3 ?_
    refine ux_Bv rfl rfl rfl hm1.1 rfl (by decide) rfl rfl ?_
    refine mo_edit hm1 a1 a2 a3 (fun m => (tx m).length) hln (fun hb => absurd (not_in hb (m := 8) rfl (by decide) he hm8) id) (fun m' hm8' he' hb => ?_) (fun m' k' hm8' he' hk' he2' E2 w2 m2 => ?_)
    · have : m' = m := (nI_eq (by omega) (by omega)).mp (he'.symm.trans he)
      subst this
      exact absurd (not_in hb rfl (by have := (hln m' hm8).2; omega) he2 hk) id
    · have : m' = m := (nI_eq (by omega) (by omega)).mp (he'.symm.trans he)
      subst this
      have h30 := (hln m' hm8).2
      have : k' = k := (nI_eq (by have : k' < (tx m').length := hk'; omega) (by omega)).mp (he2'.symm.trans he2)
      subst this
      refine ux_BN 1 rfl ?_
      refine ux_Bv rfl rfl rfl m2.1 rfl (by decide) rfl rfl ?_
      refine mo_thrown m2 ?_
      refine ux_BN 2 rfl ?_
      refine ux_Byes rfl ?_
      refine ux_BN 1 rfl ?_
      exact hN 0 (by omega) _ _ _ _ (RL_of c1 hI1 hn1 hp m2 (hR.mt (mT_edit hR.1 (hm.len 214 (by decide)) hm8 hk _) (fU_ne _ _ (by decide)) (fun a h1 h2 => by rw [fU_ne _ _ (by omega)])) (by omega) (ht.same (fun a h1 => by rw [fU_ne _ _ (by omega)]) (fun j hj => fU_ne _ _ hj)) ho1 h91)
end LW
