/-! The law's loop: the calls that answer. -/
section LW2
variable {sc : List Int32} {i N : Nat} {E : ux_Ev} {x z : Nat} {w : Bool} {K : ux_K1}
set_option maxRecDepth 100000 in
theorem lw_token (h : RL N E) (hi : i + 5 < sc.length) (hs : sc.length ≤ 3072) (hN : lwK sc i N x z K) (v5 v6 : Value) : ux_B uxP sc 110 0 232 [.ref 0, .ref 1, .ref 210, .ref 238, .int (nI i), v5, v6] [] E x z w K := by
  obtain ⟨sl, tx, us, fk, fp, dn, ct, W, AD, PR, L, rs, sp, n, F, pc, S, B, R, g, A, y0, st, q, hc, hI, hn, hp, hm, hR, hst, ht, ho, h9⟩ := h
  obtain ⟨a1, e1⟩ : ∃ y, sc.getD (i + 1) 0 = y := ⟨_, rfl⟩
  obtain ⟨a2, e2⟩ : ∃ y, sc.getD (i + 2) 0 = y := ⟨_, rfl⟩
  refine ux_BN 5 rfl ?_
  refine ux_BsldN (i + 1) rfl (nI_add i 1) (by omega) (by omega) e1 ?_
  refine ux_BN 4 rfl ?_
  refine ux_BsldN (i + 2) rfl (nI_add i 2) (by omega) (by omega) e2 ?_
  have hln : ∀ m, m < 8 → (A 213).getD m 0 = nI (tx m).length ∧ (tx m).length ≤ 30 := fun m hm8 => ⟨(hR.1.2 m hm8).2.1, (hR.1.2 m hm8).1⟩
  have h64 : ∀ m, m < 8 → ¬ (A 211).getD m 0 = 0 → ¬ sl.getD m 0 = -1 := fun m hm8 hne => by
    obtain ⟨_, j, hj, e⟩ := (hR.1.1 m hm8).2 hne
    rw [e]; exact nI_m1 j hj
  refine ux_BN 1 rfl ?_
  refine ux_Bk (j := 53) rfl rfl ?_
  refine lh_token hc ho a1 a2 (fun hbad => ?_) (fun m hm8 he ha => ?_) (fun m hm8 he ha h30 w1 => ?_) (fun m hm8 he ha h30 E1 w1 c1 f1 => ?_)
  · refine ux_BN 6 rfl ?_
    refine ux_BsldN (i + 1) rfl (nI_add i 1) (by omega) (by omega) e1 ?_
    refine ux_BN 4 rfl ?_
    refine ux_BsldN (i + 2) rfl (nI_add i 2) (by omega) (by omega) e2 ?_
    refine ux_Bv rfl rfl rfl hm.1 rfl (by decide) rfl rfl ?_
    refine mo_token hm a1 a2 (fun m => (tx m).length) hln (fun _ E2 w2 m2 => ?_) (fun m hm8 he => absurd (not_in hbad (m := 8) rfl (by decide) he hm8) id) (fun m hm8 he => absurd (not_in hbad (m := 8) rfl (by decide) he hm8) id) (fun m hm8 he => absurd (not_in hbad (m := 8) rfl (by decide) he hm8) id)
    refine ux_BN 2 rfl ?_
    refine ux_Bv rfl rfl rfl m2.1 rfl (by decide) rfl rfl ?_
    refine mo_thrown m2 ?_
    refine ux_BN 2 rfl ?_
    refine ux_Byes rfl ?_
    refine ux_BN 2 rfl ?_
    refine ux_Byes (by decide) ?_
    refine ux_BN 1 rfl ?_
    exact hN 1 (by omega) _ _ _ _ (RL_of hc hI hn hp m2 (hR.same (fU_ne _ _ (by decide)) (fun _ _ _ => rfl)) (by omega) (ht.same (fun _ _ => rfl) (fun j hj => fU_ne _ _ hj)) ho h9)
  · refine ux_BN 6 rfl ?_
    refine ux_BsldN (i + 1) rfl (nI_add i 1) (by omega) (by omega) e1 ?_
    refine ux_BN 4 rfl ?_
    refine ux_BsldN (i + 2) rfl (nI_add i 2) (by omega) (by omega) e2 ?_
    refine ux_Bv rfl rfl rfl hm.1 rfl (by decide) rfl rfl ?_
    refine mo_token hm a1 a2 (fun m => (tx m).length) hln (fun hb => absurd (not_in hb (m := 8) rfl (by decide) he hm8) id) (fun m' hm8' he' _ E2 w2 m2 => ?_) (fun m' hm8' he' hne => ?_) (fun m' hm8' he' hne => ?_)
    · refine ux_BN 2 rfl ?_
      refine ux_Bv rfl rfl rfl m2.1 rfl (by decide) rfl rfl ?_
      refine mo_thrown m2 ?_
      refine ux_BN 2 rfl ?_
      refine ux_Byes rfl ?_
      refine ux_BN 2 rfl ?_
      refine ux_Byes (by decide) ?_
      refine ux_BN 1 rfl ?_
      exact hN 1 (by omega) _ _ _ _ (RL_of hc hI hn hp m2 (hR.same (fU_ne _ _ (by decide)) (fun _ _ _ => rfl)) (by omega) (ht.same (fun _ _ => rfl) (fun j hj => fU_ne _ _ hj)) ho h9)
    · have : m' = m := (nI_eq (by omega) (by omega)).mp (he'.symm.trans he)
      subst this
      exact absurd ha (h64 m' hm8 hne)
    · have : m' = m := (nI_eq (by omega) (by omega)).mp (he'.symm.trans he)
      subst this
      exact absurd ha (h64 m' hm8 hne)
  · have c2 := hc.fr (E2 := ux_up E 238 (102, [], [.long 0])) fun b _ hb => ux_up_ne _ _ (by omega)
    have I2 := hI.fr (E2 := ux_up E 238 (102, [], [.long 0])) fun b b1 b2 => ux_up_ne _ _ (by omega)
    have n2 := hn.fr (E2 := ux_up E 238 (102, [], [.long 0])) fun b b1 b2 => ux_up_ne _ _ (by omega)
    have hm2 : md (ux_up E 238 (102, [], [.long 0])) g A (ux_up E 238 (102, [], [.long 0])) := hm.mv fun b b1 b2 => by rw [ux_up_ne _ _ (by omega)]
    have ho2 : ux_up E 238 (102, [], [.long 0]) 238 = some (102, [], [.long 0]) := ux_up_at _ _ _
    have h92 : ux_up E 238 (102, [], [.long 0]) 239 = none := by rw [ux_up_ne _ _ (by decide)]; exact h9
    refine ux_BN 6 rfl ?_
    refine ux_BsldN (i + 1) rfl (nI_add i 1) (by omega) (by omega) e1 ?_
    refine ux_BN 4 rfl ?_
    refine ux_BsldN (i + 2) rfl (nI_add i 2) (by omega) (by omega) e2 ?_
    refine ux_Bv rfl rfl rfl hm2.1 rfl (by decide) rfl rfl ?_
    refine mo_token hm2 a1 a2 (fun m => (tx m).length) hln (fun hb => absurd (not_in hb (m := 8) rfl (by decide) he hm8) id) (fun m' hm8' he' h0 => ?_) (fun m' hm8' he' hne h30' E2 w2 m2 => ?_) (fun m' hm8' he' hne h30' => ?_)
    · have : m' = m := (nI_eq (by omega) (by omega)).mp (he'.symm.trans he)
      subst this
      exact absurd ((hR.1.1 m' hm8).1 h0) ha
    · have : m' = m := (nI_eq (by omega) (by omega)).mp (he'.symm.trans he)
      subst this
      refine ux_BN 2 rfl ?_
      refine ux_Bv rfl rfl rfl m2.1 rfl (by decide) rfl rfl ?_
      refine mo_thrown m2 ?_
      refine ux_BN 2 rfl ?_
      refine ux_Byes rfl ?_
      refine ux_BN 2 rfl ?_
      refine ux_Bno (by decide) ?_
      refine ux_BN 2 rfl ?_
      refine ux_Blld rfl (by rw [m2.2.2 238 (by omega)]; exact ho2) (by decide) rfl ?_
      refine ux_BN 2 rfl ?_
      refine ux_Byes rfl ?_
      refine ux_BN 3 rfl ?_
      refine ux_Byes ((lg_cmp_eq _ _).mpr rfl) ?_
      refine ux_BN 1 rfl ?_
      exact hN 0 (by omega) _ _ _ _ (RL_of c2 I2 n2 hp m2 (hR.same (fU_ne _ _ (by decide)) (fun _ _ _ => rfl)) (by omega) (ht.same (fun _ _ => rfl) (fun j hj => fU_ne _ _ hj)) ho2 h92)
    · have : m' = m := (nI_eq (by omega) (by omega)).mp (he'.symm.trans he)
      subst this
      have h30' : (tx m').length < 30 := h30'
      exact absurd h30' (by omega)
  · have hI1 := hI.fr (E2 := E1) fun b b1 b2 => f1 b (by omega)
    have hn1 := hn.fr (E2 := E1) fun b b1 b2 => f1 b (by omega)
    have c2 := c1.fr (E2 := ux_up E1 238 (102, [], [.long 1])) fun b _ hb => ux_up_ne _ _ (by omega)
    have I2 := hI1.fr (E2 := ux_up E1 238 (102, [], [.long 1])) fun b b1 b2 => ux_up_ne _ _ (by omega)
    have n2 := hn1.fr (E2 := ux_up E1 238 (102, [], [.long 1])) fun b b1 b2 => ux_up_ne _ _ (by omega)
    have hm2 : md (ux_up E1 238 (102, [], [.long 1])) g A (ux_up E1 238 (102, [], [.long 1])) := hm.mv fun b b1 b2 => by rw [ux_up_ne _ _ (by omega)]; exact f1 b (by omega)
    have ho2 : ux_up E1 238 (102, [], [.long 1]) 238 = some (102, [], [.long 1]) := ux_up_at _ _ _
    have h92 : ux_up E1 238 (102, [], [.long 1]) 239 = none := by rw [ux_up_ne _ _ (by decide)]; exact (f1 239 (by omega)).trans h9
    refine ux_BN 6 rfl ?_
    refine ux_BsldN (i + 1) rfl (nI_add i 1) (by omega) (by omega) e1 ?_
    refine ux_BN 4 rfl ?_
    refine ux_BsldN (i + 2) rfl (nI_add i 2) (by omega) (by omega) e2 ?_
    refine ux_Bv rfl rfl rfl hm2.1 rfl (by decide) rfl rfl ?_
    refine mo_token hm2 a1 a2 (fun m => (tx m).length) hln (fun hb => absurd (not_in hb (m := 8) rfl (by decide) he hm8) id) (fun m' hm8' he' h0 => ?_) (fun m' hm8' he' hne h30' => ?_) (fun m' hm8' he' hne h30' E2 w2 m2 => ?_)
    · have : m' = m := (nI_eq (by omega) (by omega)).mp (he'.symm.trans he)
      subst this
      exact absurd ((hR.1.1 m' hm8).1 h0) ha
    · have : m' = m := (nI_eq (by omega) (by omega)).mp (he'.symm.trans he)
      subst this
      have h30' : (tx m').length = 30 := h30'
      exact absurd h30' (by omega)
    · have : m' = m := (nI_eq (by omega) (by omega)).mp (he'.symm.trans he)
      subst this
      refine ux_BN 2 rfl ?_
      refine ux_Bv rfl rfl rfl m2.1 rfl (by decide) rfl rfl ?_
      refine mo_thrown m2 ?_
      refine ux_BN 2 rfl ?_
      refine ux_Byes rfl ?_
      refine ux_BN 2 rfl ?_
      refine ux_Bno (by decide) ?_
      refine ux_BN 2 rfl ?_
      refine ux_Blld rfl (by rw [m2.2.2 238 (by omega)]; exact ho2) (by decide) rfl ?_
      refine ux_BN 2 rfl ?_
      refine ux_Bno (by decide) ?_
      refine ux_BN 4 rfl ?_
      refine ux_Byes ((lg_cmp_eq _ _).mpr rfl) ?_
      refine ux_BN 1 rfl ?_
      exact hN 0 (by omega) _ _ _ _ (RL_of c2 I2 n2 hp m2 (hR.mt (mT_token hR.1 (hm.len 213 (by decide)) (hm.len 214 (by decide)) hm8 h30 _) (fU_ne _ _ (by decide)) (fun a h1 h2 => by rw [fU_ne _ _ (by omega), fU_ne _ _ (by omega)])) (by omega) (ht.same (fun a h1 => by rw [fU_ne _ _ (by omega), fU_ne _ _ (by omega)]) (fun j hj => fU_ne _ _ hj)) ho2 h92)
set_option maxRecDepth 100000 in
theorem lw_wipe (h : RL N E) (hi : i + 5 < sc.length) (hs : sc.length ≤ 3072) (hN : lwK sc i N x z K) (v5 v6 : Value) : ux_B uxP sc 110 0 367 [.ref 0, .ref 1, .ref 210, .ref 238, .int (nI i), v5, v6] [] E x z w K := by
  obtain ⟨sl, tx, us, fk, fp, dn, ct, W, AD, PR, L, rs, sp, n, F, pc, S, B, R, g, A, y0, st, q, hc, hI, hn, hp, hm, hR, hst, ht, ho, h9⟩ := h
  obtain ⟨a1, e1⟩ : ∃ y, sc.getD (i + 1) 0 = y := ⟨_, rfl⟩
  refine ux_BN 5 rfl ?_
  refine ux_BsldN (i + 1) rfl (nI_add i 1) (by omega) (by omega) e1 ?_
  refine ux_BN 1 rfl ?_
  refine ux_Bk (j := 58) rfl rfl ?_
  refine lh_wipe hc ho a1 (fun hbad => ?_) (fun m hm8 he E1 w1 c1 f1 => ?_)
  · refine ux_BN 6 rfl ?_
    refine ux_BsldN (i + 1) rfl (nI_add i 1) (by omega) (by omega) e1 ?_
    refine ux_Bv rfl rfl rfl hm.1 rfl (by decide) rfl rfl ?_
    refine mo_wipe hm a1 (fun _ E2 w2 m2 => ?_) (fun m hm8 he => absurd (not_in hbad (m := 8) rfl (by decide) he hm8) id)
    refine ux_BN 2 rfl ?_
    refine ux_Bv rfl rfl rfl m2.1 rfl (by decide) rfl rfl ?_
    refine mo_thrown m2 ?_
    refine ux_BN 2 rfl ?_
    refine ux_Byes rfl ?_
    refine ux_BN 2 rfl ?_
    refine ux_Byes (by decide) ?_
    refine ux_BN 1 rfl ?_
    exact hN 1 (by omega) _ _ _ _ (RL_of hc hI hn hp m2 (hR.same (fU_ne _ _ (by decide)) (fun _ _ _ => rfl)) (by omega) (ht.same (fun _ _ => rfl) (fun j hj => fU_ne _ _ hj)) ho h9)
  · have hI1 := hI.fr (E2 := E1) fun b b1 b2 => f1 b (by omega)
    have hn1 := hn.fr (E2 := E1) fun b b1 b2 => f1 b (by omega)
    have c2 := c1.fr (E2 := ux_up E1 238 (102, [], [.long (nI (tx m).length).toInt64])) fun b _ hb => ux_up_ne _ _ (by omega)
    have I2 := hI1.fr (E2 := ux_up E1 238 (102, [], [.long (nI (tx m).length).toInt64])) fun b b1 b2 => ux_up_ne _ _ (by omega)
    have n2 := hn1.fr (E2 := ux_up E1 238 (102, [], [.long (nI (tx m).length).toInt64])) fun b b1 b2 => ux_up_ne _ _ (by omega)
    have hm2 : md (ux_up E1 238 (102, [], [.long (nI (tx m).length).toInt64])) g A (ux_up E1 238 (102, [], [.long (nI (tx m).length).toInt64])) := hm.mv fun b b1 b2 => by rw [ux_up_ne _ _ (by omega)]; exact f1 b (by omega)
    have ho2 : ux_up E1 238 (102, [], [.long (nI (tx m).length).toInt64]) 238 = some (102, [], [.long (nI (tx m).length).toInt64]) := ux_up_at _ _ _
    have h92 : ux_up E1 238 (102, [], [.long (nI (tx m).length).toInt64]) 239 = none := by rw [ux_up_ne _ _ (by decide)]; exact (f1 239 (by omega)).trans h9
    refine ux_BN 6 rfl ?_
    refine ux_BsldN (i + 1) rfl (nI_add i 1) (by omega) (by omega) e1 ?_
    refine ux_Bv rfl rfl rfl hm2.1 rfl (by decide) rfl rfl ?_
    refine mo_wipe hm2 a1 (fun hb => absurd (not_in hb (m := 8) rfl (by decide) he hm8) id) (fun m' hm8' he' E2 w2 m2 => ?_)
    have : m' = m := (nI_eq (by omega) (by omega)).mp (he'.symm.trans he)
    subst this
    rw [(hR.1.2 m' hm8).2.1]
    refine ux_BN 2 rfl ?_
    refine ux_Bv rfl rfl rfl m2.1 rfl (by decide) rfl rfl ?_
    refine mo_thrown m2 ?_
    refine ux_BN 2 rfl ?_
    refine ux_Byes rfl ?_
    refine ux_BN 2 rfl ?_
    refine ux_Bno (by decide) ?_
    refine ux_BN 2 rfl ?_
    refine ux_Blld rfl (by rw [m2.2.2 238 (by omega)]; exact ho2) (by decide) rfl ?_
    refine ux_BN 4 rfl ?_
    refine ux_Byes ((lg_cmp_eq _ _).mpr rfl) ?_
    refine ux_BN 1 rfl ?_
    exact hN 0 (by omega) _ _ _ _ (RL_of c2 I2 n2 hp m2 (hR.mt (mT_wipe hR.1 (hm.len 213 (by decide)) hm8) (fU_ne _ _ (by decide)) (fun a h1 h2 => by rw [fU_ne _ _ (by omega)])) (by omega) (ht.same (fun a h1 => by rw [fU_ne _ _ (by omega)]) (fun j hj => fU_ne _ _ hj)) ho2 h92)
set_option maxRecDepth 100000 in
theorem lw_count (h : RL N E) (hi : i + 5 < sc.length) (hs : sc.length ≤ 3072) (hN : lwK sc i N x z K) (v5 v6 : Value) : ux_B uxP sc 110 0 436 [.ref 0, .ref 1, .ref 210, .ref 238, .int (nI i), v5, v6] [] E x z w K := by
  obtain ⟨sl, tx, us, fk, fp, dn, ct, W, AD, PR, L, rs, sp, n, F, pc, S, B, R, g, A, y0, st, q, hc, hI, hn, hp, hm, hR, hst, ht, ho, h9⟩ := h
  obtain ⟨a1, e1⟩ : ∃ y, sc.getD (i + 1) 0 = y := ⟨_, rfl⟩
  refine ux_BN 5 rfl ?_
  refine ux_BsldN (i + 1) rfl (nI_add i 1) (by omega) (by omega) e1 ?_
  refine ux_BN 1 rfl ?_
  refine ux_Bk (j := 60) rfl rfl ?_
  refine lh_count hc ho a1 (fun hbad => ?_) (fun m hm8 he w1 => ?_)
  · refine ux_BN 6 rfl ?_
    refine ux_BsldN (i + 1) rfl (nI_add i 1) (by omega) (by omega) e1 ?_
    refine ux_Bv rfl rfl rfl hm.1 rfl (by decide) rfl rfl ?_
    refine mo_count hm a1 (fun _ E2 w2 m2 => ?_) (fun m hm8 he => absurd (not_in hbad (m := 5) rfl (by decide) he hm8) id)
    refine ux_BN 2 rfl ?_
    refine ux_Bv rfl rfl rfl m2.1 rfl (by decide) rfl rfl ?_
    refine mo_thrown m2 ?_
    refine ux_BN 2 rfl ?_
    refine ux_Byes rfl ?_
    refine ux_BN 2 rfl ?_
    refine ux_Byes (by decide) ?_
    refine ux_BN 1 rfl ?_
    exact hN 1 (by omega) _ _ _ _ (RL_of hc hI hn hp m2 (hR.same (fU_ne _ _ (by decide)) (fun _ _ _ => rfl)) (by omega) (ht.same (fun _ _ => rfl) (fun j hj => fU_ne _ _ hj)) ho h9)
  · have c2 := hc.fr (E2 := ux_up E 238 (102, [], [.long (ct.getD m 0).toInt64])) fun b _ hb => ux_up_ne _ _ (by omega)
    have I2 := hI.fr (E2 := ux_up E 238 (102, [], [.long (ct.getD m 0).toInt64])) fun b b1 b2 => ux_up_ne _ _ (by omega)
    have n2 := hn.fr (E2 := ux_up E 238 (102, [], [.long (ct.getD m 0).toInt64])) fun b b1 b2 => ux_up_ne _ _ (by omega)
    have hm2 : md (ux_up E 238 (102, [], [.long (ct.getD m 0).toInt64])) g A (ux_up E 238 (102, [], [.long (ct.getD m 0).toInt64])) := hm.mv fun b b1 b2 => by rw [ux_up_ne _ _ (by omega)]
    have ho2 : ux_up E 238 (102, [], [.long (ct.getD m 0).toInt64]) 238 = some (102, [], [.long (ct.getD m 0).toInt64]) := ux_up_at _ _ _
    have h92 : ux_up E 238 (102, [], [.long (ct.getD m 0).toInt64]) 239 = none := by rw [ux_up_ne _ _ (by decide)]; exact h9
    refine ux_BN 6 rfl ?_
    refine ux_BsldN (i + 1) rfl (nI_add i 1) (by omega) (by omega) e1 ?_
    refine ux_Bv rfl rfl rfl hm2.1 rfl (by decide) rfl rfl ?_
    refine mo_count hm2 a1 (fun hb => absurd (not_in hb (m := 5) rfl (by decide) he hm8) id) (fun m' hm8' he' E2 w2 m2 => ?_)
    have : m' = m := (nI_eq (by omega) (by omega)).mp (he'.symm.trans he)
    subst this
    rw [ht.1.2.2.2]
    refine ux_BN 2 rfl ?_
    refine ux_Bv rfl rfl rfl m2.1 rfl (by decide) rfl rfl ?_
    refine mo_thrown m2 ?_
    refine ux_BN 2 rfl ?_
    refine ux_Byes rfl ?_
    refine ux_BN 2 rfl ?_
    refine ux_Bno (by decide) ?_
    refine ux_BN 2 rfl ?_
    refine ux_Blld rfl (by rw [m2.2.2 238 (by omega)]; exact ho2) (by decide) rfl ?_
    refine ux_BN 4 rfl ?_
    refine ux_Byes ((lg_cmp_eq _ _).mpr rfl) ?_
    refine ux_BN 1 rfl ?_
    exact hN 0 (by omega) _ _ _ _ (RL_of c2 I2 n2 hp m2 (hR.same (fU_ne _ _ (by decide)) (fun _ _ _ => rfl)) (by omega) (ht.same (fun _ _ => rfl) (fun j hj => fU_ne _ _ hj)) ho2 h92)
set_option maxRecDepth 100000 in
theorem lw_look (h : RL N E) (hi : i + 5 < sc.length) (hs : sc.length ≤ 3072) (hNb : N ≤ 40000) (hN : lwK sc i N x z K) (v5 v6 : Value) : ux_B uxP sc 110 0 492 [.ref 0, .ref 1, .ref 210, .ref 238, .int (nI i), v5, v6] [] E x z w K := by
  obtain ⟨sl, tx, us, fk, fp, dn, ct, W, AD, PR, L, rs, sp, n, F, pc, S, B, R, g, A, y0, st, q, hc, hI, hn, hp, hm, hR, hst, ht, ho, h9⟩ := h
  obtain ⟨a1, e1⟩ : ∃ y, sc.getD (i + 1) 0 = y := ⟨_, rfl⟩
  obtain ⟨a2, e2⟩ : ∃ y, sc.getD (i + 2) 0 = y := ⟨_, rfl⟩
  refine ux_BN 5 rfl ?_
  refine ux_BsldN (i + 1) rfl (nI_add i 1) (by omega) (by omega) e1 ?_
  refine ux_BN 4 rfl ?_
  refine ux_BsldN (i + 2) rfl (nI_add i 2) (by omega) (by omega) e2 ?_
  refine ux_BN 1 rfl ?_
  refine ux_Bk (j := 62) rfl rfl ?_
  refine lh_look hc hI hp.1.2.1 ho a1 a2 (fun hbad => ?_) (fun m k hm8 hk5 he he2 w1 => ?_)
  · refine ux_BN 6 rfl ?_
    refine ux_BsldN (i + 1) rfl (nI_add i 1) (by omega) (by omega) e1 ?_
    refine ux_BN 4 rfl ?_
    refine ux_BsldN (i + 2) rfl (nI_add i 2) (by omega) (by omega) e2 ?_
    refine ux_Bv rfl rfl rfl hm.1 rfl (by decide) rfl rfl ?_
    refine mo_look hm a1 a2 (fun _ E2 w2 m2 => ?_) (fun m k hm8 hk5 he he2 => ?_)
    · refine ux_BN 2 rfl ?_
      refine ux_Bv rfl rfl rfl m2.1 rfl (by decide) rfl rfl ?_
      refine mo_thrown m2 ?_
      refine ux_BN 2 rfl ?_
      refine ux_Byes rfl ?_
      refine ux_BN 2 rfl ?_
      refine ux_Byes (by decide) ?_
      refine ux_BN 1 rfl ?_
      exact hN 1 (by omega) _ _ _ _ (RL_of hc hI hn hp m2 (hR.same (fU_ne _ _ (by decide)) (fun _ _ _ => rfl)) (by omega) (ht.same (fun _ _ => rfl) (fun j hj => fU_ne _ _ hj)) ho h9)
    · rcases hbad with hb | hb
      · exact absurd (not_in hb (m := 8) rfl (by decide) he hm8) id
      · exact absurd (not_in hb (m := 5) rfl (by decide) he2 hk5) id
  · have c2 := hc.fr (E2 := ux_up E 238 (102, [], [.long (if k = 0 then fk.getD m 0 else if k = 1 then fp.getD m 0 else if k = 2 then dn.getD m 0 else if k = 3 then nI (us m).length else AD.getD m 0).toInt64])) fun b _ hb => ux_up_ne _ _ (by omega)
    have I2 := hI.fr (E2 := ux_up E 238 (102, [], [.long (if k = 0 then fk.getD m 0 else if k = 1 then fp.getD m 0 else if k = 2 then dn.getD m 0 else if k = 3 then nI (us m).length else AD.getD m 0).toInt64])) fun b b1 b2 => ux_up_ne _ _ (by omega)
    have n2 := hn.fr (E2 := ux_up E 238 (102, [], [.long (if k = 0 then fk.getD m 0 else if k = 1 then fp.getD m 0 else if k = 2 then dn.getD m 0 else if k = 3 then nI (us m).length else AD.getD m 0).toInt64])) fun b b1 b2 => ux_up_ne _ _ (by omega)
    have hm2 : md (ux_up E 238 (102, [], [.long (if k = 0 then fk.getD m 0 else if k = 1 then fp.getD m 0 else if k = 2 then dn.getD m 0 else if k = 3 then nI (us m).length else AD.getD m 0).toInt64])) g A (ux_up E 238 (102, [], [.long (if k = 0 then fk.getD m 0 else if k = 1 then fp.getD m 0 else if k = 2 then dn.getD m 0 else if k = 3 then nI (us m).length else AD.getD m 0).toInt64])) := hm.mv fun b b1 b2 => by rw [ux_up_ne _ _ (by omega)]
    have ho2 : ux_up E 238 (102, [], [.long (if k = 0 then fk.getD m 0 else if k = 1 then fp.getD m 0 else if k = 2 then dn.getD m 0 else if k = 3 then nI (us m).length else AD.getD m 0).toInt64]) 238 = some (102, [], [.long (if k = 0 then fk.getD m 0 else if k = 1 then fp.getD m 0 else if k = 2 then dn.getD m 0 else if k = 3 then nI (us m).length else AD.getD m 0).toInt64]) := ux_up_at _ _ _
    have h92 : ux_up E 238 (102, [], [.long (if k = 0 then fk.getD m 0 else if k = 1 then fp.getD m 0 else if k = 2 then dn.getD m 0 else if k = 3 then nI (us m).length else AD.getD m 0).toInt64]) 239 = none := by rw [ux_up_ne _ _ (by decide)]; exact h9
    refine ux_BN 6 rfl ?_
    refine ux_BsldN (i + 1) rfl (nI_add i 1) (by omega) (by omega) e1 ?_
    refine ux_BN 4 rfl ?_
    refine ux_BsldN (i + 2) rfl (nI_add i 2) (by omega) (by omega) e2 ?_
    refine ux_Bv rfl rfl rfl hm2.1 rfl (by decide) rfl rfl ?_
    refine mo_look hm2 a1 a2 (fun hb => ?_) (fun m' k' hm8' hk5' he' he2' E2 w2 m2 => ?_)
    · rcases hb with hb | hb
      · exact absurd (not_in hb (m := 8) rfl (by decide) he hm8) id
      · exact absurd (not_in hb (m := 5) rfl (by decide) he2 hk5) id
    · have : m' = m := (nI_eq (by omega) (by omega)).mp (he'.symm.trans he)
      subst this
      have : k' = k := (nI_eq (by omega) (by omega)).mp (he2'.symm.trans he2)
      subst this
      obtain ⟨_, qs, q1, q2⟩ := hR.2.2 m' hm8
      rw [cnt_of q1 (by omega), show qs.length = (us m').length by rw [q2, List.length_map], ht.1.1, ht.1.2.1, ht.1.2.2.1, ht.2.1.2.1]
      refine ux_BN 2 rfl ?_
      refine ux_Bv rfl rfl rfl m2.1 rfl (by decide) rfl rfl ?_
      refine mo_thrown m2 ?_
      refine ux_BN 2 rfl ?_
      refine ux_Byes rfl ?_
      refine ux_BN 2 rfl ?_
      refine ux_Bno (by decide) ?_
      refine ux_BN 2 rfl ?_
      refine ux_Blld rfl (by rw [m2.2.2 238 (by omega)]; exact ho2) (by decide) rfl ?_
      refine ux_BN 4 rfl ?_
      refine ux_Byes ((lg_cmp_eq _ _).mpr rfl) ?_
      refine ux_BN 1 rfl ?_
      exact hN 0 (by omega) _ _ _ _ (RL_of c2 I2 n2 hp m2 (hR.same (fU_ne _ _ (by decide)) (fun _ _ _ => rfl)) (by omega) (ht.same (fun _ _ => rfl) (fun j hj => fU_ne _ _ hj)) ho2 h92)
set_option maxRecDepth 100000 in
theorem lw_word (h : RL N E) (hi : i + 5 < sc.length) (hs : sc.length ≤ 3072) (hN : lwK sc i N x z K) (v5 v6 : Value) : ux_B uxP sc 110 0 573 [.ref 0, .ref 1, .ref 210, .ref 238, .int (nI i), v5, v6] [] E x z w K := by
  obtain ⟨sl, tx, us, fk, fp, dn, ct, W, AD, PR, L, rs, sp, n, F, pc, S, B, R, g, A, y0, st, q, hc, hI, hn, hp, hm, hR, hst, ht, ho, h9⟩ := h
  obtain ⟨a1, e1⟩ : ∃ y, sc.getD (i + 1) 0 = y := ⟨_, rfl⟩
  refine ux_BN 5 rfl ?_
  refine ux_BsldN (i + 1) rfl (nI_add i 1) (by omega) (by omega) e1 ?_
  refine ux_BN 1 rfl ?_
  refine ux_Bk (j := 64) rfl rfl ?_
  have hL := hp.1.2.2.2.1
  refine lh_word hc hI hL hp.1.1 ho a1 (fun hbad => ?_) (fun m hm8 he w1 => ?_)
  · refine ux_BN 6 rfl ?_
    refine ux_BsldN (i + 1) rfl (nI_add i 1) (by omega) (by omega) e1 ?_
    refine ux_Bv rfl rfl rfl hm.1 rfl (by decide) rfl rfl ?_
    refine mo_word hm a1 L ht.2.1.2.2.2 hL (fun _ E2 w2 m2 => ?_) (fun m hm8 he => absurd (not_in hbad rfl (by omega) he hm8) id)
    refine ux_BN 2 rfl ?_
    refine ux_Bv rfl rfl rfl m2.1 rfl (by decide) rfl rfl ?_
    refine mo_thrown m2 ?_
    refine ux_BN 2 rfl ?_
    refine ux_Byes rfl ?_
    refine ux_BN 2 rfl ?_
    refine ux_Byes (by decide) ?_
    refine ux_BN 1 rfl ?_
    exact hN 1 (by omega) _ _ _ _ (RL_of hc hI hn hp m2 (hR.same (fU_ne _ _ (by decide)) (fun _ _ _ => rfl)) (by omega) (ht.same (fun _ _ => rfl) (fun j hj => fU_ne _ _ hj)) ho h9)
  · have c2 := hc.fr (E2 := ux_up E 238 (102, [], [.long (W.getD m 0).toInt64])) fun b _ hb => ux_up_ne _ _ (by omega)
    have I2 := hI.fr (E2 := ux_up E 238 (102, [], [.long (W.getD m 0).toInt64])) fun b b1 b2 => ux_up_ne _ _ (by omega)
    have n2 := hn.fr (E2 := ux_up E 238 (102, [], [.long (W.getD m 0).toInt64])) fun b b1 b2 => ux_up_ne _ _ (by omega)
    have hm2 : md (ux_up E 238 (102, [], [.long (W.getD m 0).toInt64])) g A (ux_up E 238 (102, [], [.long (W.getD m 0).toInt64])) := hm.mv fun b b1 b2 => by rw [ux_up_ne _ _ (by omega)]
    have ho2 : ux_up E 238 (102, [], [.long (W.getD m 0).toInt64]) 238 = some (102, [], [.long (W.getD m 0).toInt64]) := ux_up_at _ _ _
    have h92 : ux_up E 238 (102, [], [.long (W.getD m 0).toInt64]) 239 = none := by rw [ux_up_ne _ _ (by decide)]; exact h9
    refine ux_BN 6 rfl ?_
    refine ux_BsldN (i + 1) rfl (nI_add i 1) (by omega) (by omega) e1 ?_
    refine ux_Bv rfl rfl rfl hm2.1 rfl (by decide) rfl rfl ?_
    refine mo_word hm2 a1 L ht.2.1.2.2.2 hL (fun hb => absurd (not_in hb rfl (by omega) he hm8) id) (fun m' hm8' he' E2 w2 m2 => ?_)
    have : m' = m := (nI_eq (by omega) (by omega)).mp (he'.symm.trans he)
    subst this
    rw [ht.2.1.1]
    refine ux_BN 2 rfl ?_
    refine ux_Bv rfl rfl rfl m2.1 rfl (by decide) rfl rfl ?_
    refine mo_thrown m2 ?_
    refine ux_BN 2 rfl ?_
    refine ux_Byes rfl ?_
    refine ux_BN 2 rfl ?_
    refine ux_Bno (by decide) ?_
    refine ux_BN 2 rfl ?_
    refine ux_Blld rfl (by rw [m2.2.2 238 (by omega)]; exact ho2) (by decide) rfl ?_
    refine ux_BN 4 rfl ?_
    refine ux_Byes ((lg_cmp_eq _ _).mpr rfl) ?_
    refine ux_BN 1 rfl ?_
    exact hN 0 (by omega) _ _ _ _ (RL_of c2 I2 n2 hp m2 (hR.same (fU_ne _ _ (by decide)) (fun _ _ _ => rfl)) (by omega) (ht.same (fun _ _ => rfl) (fun j hj => fU_ne _ _ hj)) ho2 h92)
set_option maxRecDepth 100000 in
theorem lw_size (h : RL N E) (hN : lwK sc i N x z K) (v5 v6 : Value) : ux_B uxP sc 110 0 560 [.ref 0, .ref 1, .ref 210, .ref 238, .int (nI i), v5, v6] [] E x z w K := by
  obtain ⟨sl, tx, us, fk, fp, dn, ct, W, AD, PR, L, rs, sp, n, F, pc, S, B, R, g, A, y0, st, q, hc, hI, hn, hp, hm, hR, hst, ht, ho, h9⟩ := h
  refine ux_BN 1 rfl ?_
  refine ux_Bv rfl rfl rfl hc.1 rfl (by decide) rfl rfl ?_
  refine ko_size hc hI ?_
  refine ux_BN 1 rfl ?_
  refine ux_Bv rfl rfl rfl hm.1 rfl (by decide) rfl rfl ?_
  refine mo_size hm fun E2 m2 => ?_
  refine ux_BN 1 rfl ?_
  refine ux_Byes ht.2.1.2.2.2.symm ?_
  exact hN 0 (by omega) _ _ _ _ (RL_of hc hI hn hp m2 (hR.same (fU_ne _ _ (by decide)) (fun _ _ _ => rfl)) (by omega) (ht.same (fun _ _ => rfl) (fun j hj => fU_ne _ _ hj)) ho h9)
set_option maxRecDepth 100000 in
theorem lw_value (h : RL N E) (hN : lwK sc i N x z K) (v5 v6 : Value) : ux_B uxP sc 110 0 733 [.ref 0, .ref 1, .ref 210, .ref 238, .int (nI i), v5, v6] [] E x z w K := by
  obtain ⟨sl, tx, us, fk, fp, dn, ct, W, AD, PR, L, rs, sp, n, F, pc, S, B, R, g, A, y0, st, q, hc, hI, hn, hp, hm, hR, hst, ht, ho, h9⟩ := h
  refine ux_BN 1 rfl ?_
  refine ux_Bv rfl rfl rfl hc.1 rfl (by decide) rfl rfl ?_
  refine ko_value hc hn ?_
  refine ux_BN 1 rfl ?_
  refine ux_Bv rfl rfl rfl hm.1 rfl (by decide) rfl rfl ?_
  refine mo_value hm fun E2 m2 => ?_
  refine ux_BN 1 rfl ?_
  refine ux_Byes ht.2.2.1.1.symm ?_
  exact hN 0 (by omega) _ _ _ _ (RL_of hc hI hn hp m2 (hR.same (fU_ne _ _ (by decide)) (fun _ _ _ => rfl)) (by omega) (ht.same (fun _ _ => rfl) (fun j hj => fU_ne _ _ hj)) ho h9)
set_option maxRecDepth 100000 in
theorem lw_used (h : RL N E) (hN : lwK sc i N x z K) (v5 v6 : Value) : ux_B uxP sc 110 0 746 [.ref 0, .ref 1, .ref 210, .ref 238, .int (nI i), v5, v6] [] E x z w K := by
  obtain ⟨sl, tx, us, fk, fp, dn, ct, W, AD, PR, L, rs, sp, n, F, pc, S, B, R, g, A, y0, st, q, hc, hI, hn, hp, hm, hR, hst, ht, ho, h9⟩ := h
  refine ux_BN 1 rfl ?_
  refine ux_Bv rfl rfl rfl hc.1 rfl (by decide) rfl rfl ?_
  refine ko_used hc hn ?_
  refine ux_BN 1 rfl ?_
  refine ux_Bv rfl rfl rfl hm.1 rfl (by decide) rfl rfl ?_
  refine mo_used hm fun E2 m2 => ?_
  refine ux_BN 1 rfl ?_
  refine ux_Byes ht.2.2.1.2.symm ?_
  exact hN 0 (by omega) _ _ _ _ (RL_of hc hI hn hp m2 (hR.same (fU_ne _ _ (by decide)) (fun _ _ _ => rfl)) (by omega) (ht.same (fun _ _ => rfl) (fun j hj => fU_ne _ _ hj)) ho h9)
set_option maxRecDepth 100000 in
theorem lw_run (h : RL N E) (hi : i + 5 < sc.length) (hs : sc.length ≤ 3072) (hN : lwK sc i N x z K) (v5 v6 : Value) : ux_B uxP sc 110 0 629 [.ref 0, .ref 1, .ref 210, .ref 238, .int (nI i), v5, v6] [] E x z w K := by
  obtain ⟨sl, tx, us, fk, fp, dn, ct, W, AD, PR, L, rs, sp, n, F, pc, S, B, R, g, A, y0, st, q, hc, hI, hn, hp, hm, hR, hst, ht, ho, h9⟩ := h
  obtain ⟨a1, e1⟩ : ∃ y, sc.getD (i + 1) 0 = y := ⟨_, rfl⟩
  obtain ⟨a2, e2⟩ : ∃ y, sc.getD (i + 2) 0 = y := ⟨_, rfl⟩
  obtain ⟨a3, e3⟩ : ∃ y, sc.getD (i + 3) 0 = y := ⟨_, rfl⟩
  obtain ⟨a4, e4⟩ : ∃ y, sc.getD (i + 4) 0 = y := ⟨_, rfl⟩
  obtain ⟨a5, e5⟩ : ∃ y, sc.getD (i + 5) 0 = y := ⟨_, rfl⟩
  refine ux_BN 5 rfl ?_
  refine ux_BsldN (i + 1) rfl (nI_add i 1) (by omega) (by omega) e1 ?_
  refine ux_BN 4 rfl ?_
  refine ux_BsldN (i + 2) rfl (nI_add i 2) (by omega) (by omega) e2 ?_
  refine ux_BN 4 rfl ?_
  refine ux_BsldN (i + 3) rfl (nI_add i 3) (by omega) (by omega) e3 ?_
  refine ux_BN 4 rfl ?_
  refine ux_BsldN (i + 4) rfl (nI_add i 4) (by omega) (by omega) e4 ?_
  refine ux_BN 4 rfl ?_
  refine ux_BsldN (i + 5) rfl (nI_add i 5) (by omega) (by omega) e5 ?_
  refine ux_BN 1 rfl ?_
  refine ux_Bk (j := 66) rfl rfl ?_
  obtain ⟨pI1, pS, pB, pR, pR0⟩ := hp
  refine lh_run hc hI pI1 hn pS pB pR pR0 ho a1 a2 a3 a4 a5 (fun hbad => ?_) (fun f hf he ha => ?_)
  · refine ux_BN 6 rfl ?_
    refine ux_BsldN (i + 1) rfl (nI_add i 1) (by omega) (by omega) e1 ?_
    refine ux_BN 4 rfl ?_
    refine ux_BsldN (i + 2) rfl (nI_add i 2) (by omega) (by omega) e2 ?_
    refine ux_BN 4 rfl ?_
    refine ux_BsldN (i + 3) rfl (nI_add i 3) (by omega) (by omega) e3 ?_
    refine ux_BN 4 rfl ?_
    refine ux_BsldN (i + 4) rfl (nI_add i 4) (by omega) (by omega) e4 ?_
    refine ux_BN 4 rfl ?_
    refine ux_BsldN (i + 5) rfl (nI_add i 5) (by omega) (by omega) e5 ?_
    refine ux_Bv rfl rfl rfl hm.1 rfl (by decide) rfl rfl ?_
    refine mo_run hm ht.2.1.1 ht.2.1.2.1 ht.2.2.2.1 ht.2.2.2.2.1 ht.2.2.2.2.2 ht.2.1.2.2.1 pI1.2.2.2.1 a1 a2 a3 a4 a5 (fun _ E2 w2 m2 => ?_) (fun f hf he ha => ?_) pS
    · refine ux_BN 2 rfl ?_
      refine ux_Bv rfl rfl rfl m2.1 rfl (by decide) rfl rfl ?_
      refine mo_thrown m2 ?_
      refine ux_BN 2 rfl ?_
      refine ux_Byes rfl ?_
      refine ux_BN 2 rfl ?_
      refine ux_Byes (by decide) ?_
      refine ux_BN 1 rfl ?_
      exact hN 1 (by omega) _ _ _ _ (RL_of hc hI hn ⟨pI1, pS, pB, pR, pR0⟩ m2 (hR.same (fU_ne _ _ (by decide)) (fun _ _ _ => rfl)) (by omega) (ht.same (fun _ _ => rfl) (fun j hj => fU_ne _ _ hj)) ho h9)
    · rcases hbad with hb | ⟨f', hf', he', ha'⟩
      · exact absurd (not_in hb (m := 8) rfl (by decide) he hf) id
      · have : f' = f := (nI_eq (by omega) (by omega)).mp (he'.symm.trans he)
        subst this
        exact absurd ha' ha
  · obtain ⟨p, ad, o, sp', s', k1, k2, k3, k4, k5, k6, k7, k8, k9⟩ := run_ex (S := ((S.set 0 a2).set 1 a3).set 2 a4) pI1 (by rw [List.length_set, List.length_set, List.length_set]; exact pS) pB pR pR0 hf ha (fuC a5)
    refine ⟨p, ad, o, sp', s', k1, k2, k3, k4, k5, k6, k7, k8, k9, fun E1 w1 n1 F1 pc1 h1 f1 => ?_⟩
    have hc1 : cS E1 sl tx us fk fp dn ct := hc.fr fun b hb _ => f1 b (by omega)
    have hI1 := hI.fr (E2 := E1) fun b b1 b2 => f1 b (by omega)
    have c2 := hc1.fr (E2 := ux_up E1 238 (102, [], [.long o.toInt64])) fun b _ hb => ux_up_ne _ _ (by omega)
    have I2 := hI1.fr (E2 := ux_up E1 238 (102, [], [.long o.toInt64])) fun b b1 b2 => ux_up_ne _ _ (by omega)
    have n2 := h1.fr (E2 := ux_up E1 238 (102, [], [.long o.toInt64])) fun b b1 b2 => ux_up_ne _ _ (by omega)
    have hm2 : md (ux_up E1 238 (102, [], [.long o.toInt64])) g A (ux_up E1 238 (102, [], [.long o.toInt64])) := hm.mv fun b b1 b2 => by rw [ux_up_ne _ _ (by omega)]; exact f1 b (by omega)
    have ho2 : ux_up E1 238 (102, [], [.long o.toInt64]) 238 = some (102, [], [.long o.toInt64]) := ux_up_at _ _ _
    have h92 : ux_up E1 238 (102, [], [.long o.toInt64]) 239 = none := by rw [ux_up_ne _ _ (by decide)]; exact (f1 239 (by omega)).trans h9
    refine ux_BN 6 rfl ?_
    refine ux_BsldN (i + 1) rfl (nI_add i 1) (by omega) (by omega) e1 ?_
    refine ux_BN 4 rfl ?_
    refine ux_BsldN (i + 2) rfl (nI_add i 2) (by omega) (by omega) e2 ?_
    refine ux_BN 4 rfl ?_
    refine ux_BsldN (i + 3) rfl (nI_add i 3) (by omega) (by omega) e3 ?_
    refine ux_BN 4 rfl ?_
    refine ux_BsldN (i + 4) rfl (nI_add i 4) (by omega) (by omega) e4 ?_
    refine ux_BN 4 rfl ?_
    refine ux_BsldN (i + 5) rfl (nI_add i 5) (by omega) (by omega) e5 ?_
    refine ux_Bv rfl rfl rfl hm2.1 rfl (by decide) rfl rfl ?_
    refine mo_run hm2 ht.2.1.1 ht.2.1.2.1 ht.2.2.2.1 ht.2.2.2.2.1 ht.2.2.2.2.2 ht.2.1.2.2.1 pI1.2.2.2.1 a1 a2 a3 a4 a5 (fun hb => ?_) (fun f' hf' he' ha' => ?_) pS
    · rcases hb with hb | ⟨f', hf', he', ha'⟩
      · exact absurd (not_in hb (m := 8) rfl (by decide) he hf) id
      · have : f' = f := (nI_eq (by omega) (by omega)).mp (he'.symm.trans he)
        subst this
        exact absurd ha' ha
    · have : f' = f := (nI_eq (by omega) (by omega)).mp (he'.symm.trans he)
      subst this
      refine ⟨p, ad, o, sp', s', k1, k2, k3, k4, k5, k6, fun E2 w2 g2 A2 m2 hA2 g0 g31 g32 gj => ?_⟩
      refine ux_BN 2 rfl ?_
      refine ux_Bv rfl rfl rfl m2.1 rfl (by decide) rfl rfl ?_
      refine mo_thrown m2 ?_
      refine ux_BN 2 rfl ?_
      refine ux_Byes g0 ?_
      refine ux_BN 2 rfl ?_
      refine ux_Bno (by decide) ?_
      refine ux_BN 2 rfl ?_
      refine ux_Blld rfl (by rw [m2.2.2 238 (by omega)]; exact ho2) (by decide) rfl ?_
      refine ux_BN 4 rfl ?_
      refine ux_Byes ((lg_cmp_eq _ _).mpr rfl) ?_
      refine ux_BN 1 rfl ?_
      refine hN 0 (by omega) _ _ _ _ (RL_of (y0 := y0) c2 I2 n2 ⟨pI1, k6, k7, k8, k9⟩ m2 (hR.same (gj 11 (by decide) (by decide) (by decide)) (fun a h1 h2 => hA2.2.2.2 a (by omega))) (by omega) ?_ ho2 h92)
      have hr : ∀ a, a < 235 → A2 a = A a := fun a h => hA2.2.2.2 a (by omega)
      obtain ⟨⟨t1, t2, t3, t4⟩, ⟨t5, t6, t7, t8⟩, _, _⟩ := ht
      exact ⟨⟨by rw [hr 221 (by decide)]; exact t1, by rw [hr 222 (by decide)]; exact t2, by rw [hr 223 (by decide)]; exact t3, by rw [hr 225 (by decide)]; exact t4⟩, ⟨by rw [hr 226 (by decide)]; exact t5, by rw [hr 227 (by decide)]; exact t6, by rw [hr 228 (by decide)]; exact t7, by rw [gj 17 (by decide) (by decide) (by decide)]; exact t8⟩, ⟨g31, g32⟩, hA2.1, hA2.2.1, hA2.2.2.1⟩
end LW2
