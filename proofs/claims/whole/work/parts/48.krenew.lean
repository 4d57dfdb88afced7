/-! The class's desk: compileAnew and renew. -/
theorem cPa_k {rc : Nat → cR} (h : ∀ p k pl, rc p = .inl (k, pl) → ¬ k ≤ 0) {want : Int32} {p : Nat} {k pl : Int32} (hp : cPa rc want p = .inl (k, pl)) : ¬ k ≤ 0 := by
  unfold cPa cBi at hp
  split at hp
  · rename_i e he
    cases hp
    exact h _ _ _ he
  · dsimp only at hp
    split at hp
    · cases hp
    · cases hp; decide
theorem cBi_k {r : cR} {k2 : Int32 → Nat → List Int32 → cR} {k pl : Int32} (hp : cBi r k2 = .inl (k, pl)) : r = .inl (k, pl) ∨ ∃ t q c, r = .inr (t, q, c) ∧ k2 t q c = .inl (k, pl) := by
  unfold cBi at hp
  split at hp
  · cases hp; exact Or.inl rfl
  · exact Or.inr ⟨_, _, _, rfl, hp⟩
theorem cAr_k {rc : Nat → cR} (h : ∀ p k pl, rc p = .inl (k, pl) → ¬ k ≤ 0) (s : Int32) : ∀ n j p k pl, cAr rc s n j p = .inl (k, pl) → ¬ k ≤ 0 := by
  intro n
  induction n with
  | zero => intro j p k pl hp; cases hp
  | succ n ih =>
    intro j p k pl hp
    rcases cBi_k hp with hp | ⟨t, q, c, _, hp⟩
    · exact cPa_k h hp
    · rcases cBi_k hp with hp | ⟨t, q, c, _, hp⟩
      · exact ih _ _ _ _ hp
      · cases hp
theorem cx_k (tk : Nat → Int32) (L : Nat) (own : Int32) (sg : Nat → Int32) : ∀ n p k pl, cx tk L own sg n p = .inl (k, pl) → ¬ k ≤ 0 := by
  intro n
  induction n with
  | zero => intro p k pl hp; cases hp; decide
  | succ n ih =>
    intro p k pl hp
    unfold cx at hp
    split at hp
    · cases hp; decide
    unfold cStep at hp
    split at hp
    · cases hp; decide
    split at hp
    · split at hp
      · cases hp; decide
      · cases hp
    split at hp
    · rcases cBi_k hp with hp | ⟨t, q, c, _, hp⟩
      · exact cPa_k ih hp
      · rcases cBi_k hp with hp | ⟨t, q, c, _, hp⟩
        · exact cPa_k ih hp
        · cases hp
    split at hp
    · rcases cBi_k hp with hp | ⟨t, q, c, _, hp⟩
      · exact cPa_k ih hp
      · rcases cBi_k hp with hp | ⟨t, q, c, _, hp⟩
        · exact ih _ _ _ hp
        · rcases cBi_k hp with hp | ⟨t, q, c, _, hp⟩
          · exact cPa_k ih hp
          · cases hp
    split at hp
    · cases hp
    split at hp
    · split at hp
      · cases hp; decide
      · rcases cBi_k hp with hp | ⟨t, q, c, _, hp⟩
        · exact cAr_k ih _ _ _ _ _ _ hp
        · cases hp
    · cases hp
theorem cAll_k {tk : Nat → Int32} {L : Nat} {own : Int32} {sg : Nat → Int32} {k pl : Int32} (hp : cAll tk L own sg = .inl (k, pl)) : ¬ k ≤ 0 := by
  unfold cAll at hp
  rcases cBi_k hp with hp | ⟨t, q, c, _, hp⟩
  · exact cPa_k (cx_k tk L own sg 31) hp
  · split at hp
    · cases hp; decide
    · cases hp
theorem getD_ne {l : List Int32} {i j : Nat} {y : Int32} (h : j ≠ i) : (l.set i y).getD j 0 = l.getD j 0 := by
  rw [List.getD_eq_getElem?_getD, List.getD_eq_getElem?_getD, List.getElem?_set_ne (fun h2 => h h2.symm)]
section KR
variable {sc : List Int32} {d : Nat} {E : ux_Ev} {f : Nat} {sl fk fp dn ct : List Int32} {tx : Nat → List Int32} {us : Nat → List sU} {x z : Nat} {w : Bool} {K : ux_K1}
theorem cS.upd (h : cS E sl tx us fk fp dn ct) {E2 : ux_Ev} {fk2 fp2 dn2 ct2 : List Int32} (he : ∀ b, b < 5 ∨ 9 < b → E2 b = E b) (h5 : E2 5 = some (100, fk2, []) ∧ fk2.length = 8) (h6 : E2 6 = some (100, fp2, []) ∧ fp2.length = 8) (h7 : E2 7 = some (100, dn2, []) ∧ dn2.length = 8) (h8 : E2 8 = some (100, ct2, []) ∧ ct2.length = 5) (h9 : ∃ a b p, E2 9 = some (1, [], [.int a, .int b, .int (nI p)])) : cS E2 sl tx us fk2 fp2 dn2 ct2 := by
  obtain ⟨c1, c2, c3, c4, c5, _, _, _, _, _, c11⟩ := h
  refine ⟨by rw [he _ (by omega)]; exact c1, by rw [he _ (by omega)]; exact c2, c3, by rw [he _ (by omega)]; exact c4, by rw [he _ (by omega)]; exact c5, h5, h6, h7, h8, h9, fun f hf => ?_⟩
  obtain ⟨t1, n, vs, t2, t3⟩ := c11 f hf
  exact ⟨t1.frL fun b hb1 hb2 => he b (by omega), n, vs, t2.frL (fun b hb1 hb2 => he b (by omega)), t3⟩
theorem cS.s5 (h : cS E sl tx us fk fp dn ct) (n : Nat) (y : Int32) : cS (ux_up E 5 (100, fk.set n y, [])) sl tx us (fk.set n y) fp dn ct := by
  have h' := h
  obtain ⟨c1, c2, c3, c4, c5, c6, c7, c8, c9, c10, c11⟩ := h
  exact h'.upd (fun b hb => ux_up_ne _ _ (by omega)) ⟨ux_up_at _ _ _, by rw [List.length_set]; exact c6.2⟩ (by rw [ux_up_ne _ _ (by omega)]; exact c7) (by rw [ux_up_ne _ _ (by omega)]; exact c8) (by rw [ux_up_ne _ _ (by omega)]; exact c9) (by rw [ux_up_ne _ _ (by omega)]; exact c10)
theorem cS.s6 (h : cS E sl tx us fk fp dn ct) (n : Nat) (y : Int32) : cS (ux_up E 6 (100, fp.set n y, [])) sl tx us fk (fp.set n y) dn ct := by
  have h' := h
  obtain ⟨c1, c2, c3, c4, c5, c6, c7, c8, c9, c10, c11⟩ := h
  exact h'.upd (fun b hb => ux_up_ne _ _ (by omega)) (by rw [ux_up_ne _ _ (by omega)]; exact c6) ⟨ux_up_at _ _ _, by rw [List.length_set]; exact c7.2⟩ (by rw [ux_up_ne _ _ (by omega)]; exact c8) (by rw [ux_up_ne _ _ (by omega)]; exact c9) (by rw [ux_up_ne _ _ (by omega)]; exact c10)
theorem cS.s7 (h : cS E sl tx us fk fp dn ct) (n : Nat) (y : Int32) : cS (ux_up E 7 (100, dn.set n y, [])) sl tx us fk fp (dn.set n y) ct := by
  have h' := h
  obtain ⟨c1, c2, c3, c4, c5, c6, c7, c8, c9, c10, c11⟩ := h
  exact h'.upd (fun b hb => ux_up_ne _ _ (by omega)) (by rw [ux_up_ne _ _ (by omega)]; exact c6) (by rw [ux_up_ne _ _ (by omega)]; exact c7) ⟨ux_up_at _ _ _, by rw [List.length_set]; exact c8.2⟩ (by rw [ux_up_ne _ _ (by omega)]; exact c9) (by rw [ux_up_ne _ _ (by omega)]; exact c10)
theorem cS.s8 (h : cS E sl tx us fk fp dn ct) (n : Nat) (y : Int32) : cS (ux_up E 8 (100, ct.set n y, [])) sl tx us fk fp dn (ct.set n y) := by
  have h' := h
  obtain ⟨c1, c2, c3, c4, c5, c6, c7, c8, c9, c10, c11⟩ := h
  exact h'.upd (fun b hb => ux_up_ne _ _ (by omega)) (by rw [ux_up_ne _ _ (by omega)]; exact c6) (by rw [ux_up_ne _ _ (by omega)]; exact c7) (by rw [ux_up_ne _ _ (by omega)]; exact c8) ⟨ux_up_at _ _ _, by rw [List.length_set]; exact c9.2⟩ (by rw [ux_up_ne _ _ (by omega)]; exact c10)
theorem cS.dnc (h : cS E sl tx us fk fp dn ct) {dn2 : List Int32} (hd : dn = dn2) : cS E sl tx us fk fp dn2 ct := hd ▸ h
theorem cS.shelf (h : cS E sl tx us fk fp dn ct) (hf : f < 8) {E2 : ux_Ev} {n : Nat} {vs : List (Nat × sU)} (hs : sS E2 f n vs) (h9 : ∃ a b p, E2 9 = some (1, [], [.int a, .int b, .int (nI p)])) (he : ∀ b, b ≠ 9 → b < 20 + 24 * f ∨ 41 + 24 * f < b → E2 b = E b) {l : List sU} (hl : l = (vs.take n).map fun v => v.2) : cS E2 sl tx (fU us f l) fk fp dn ct := by
  obtain ⟨c1, c2, c3, c4, c5, c6, c7, c8, c9, c10, c11⟩ := h
  refine ⟨by rw [he _ (by omega) (by omega)]; exact c1, by rw [he _ (by omega) (by omega)]; exact c2, c3, by rw [he _ (by omega) (by omega)]; exact c4, by rw [he _ (by omega) (by omega)]; exact c5, by rw [he _ (by omega) (by omega)]; exact c6, by rw [he _ (by omega) (by omega)]; exact c7, by rw [he _ (by omega) (by omega)]; exact c8, by rw [he _ (by omega) (by omega)]; exact c9, h9, fun g hg => ?_⟩
  obtain ⟨t1, n2, vs2, t2, t3⟩ := c11 g hg
  refine ⟨t1.frL fun b hb1 hb2 => he b (by omega) (by omega), ?_⟩
  by_cases hgf : g = f
  · subst hgf
    exact ⟨n, vs, hs, by rw [fU_at]; exact hl⟩
  · exact ⟨n2, vs2, t2.frL (fun b hb1 hb2 => he b (by omega) (by omega)), by rw [fU_ne _ _ hgf]; exact t3⟩
theorem keep_list {vs : List (Nat × sU)} {n : Nat} (hl : vs.length = 4) (hn : n ≤ 3) (a : Nat) (U : sU) : (U :: (vs.take n).map fun v => v.2).take 3 = ((fron n (vs.set n (a, U))).take (if n < 3 then n + 1 else 3)).map fun v => v.2 := by
  match vs, hl with
  | [v0, v1, v2, v3], _ =>
    have : n = 0 ∨ n = 1 ∨ n = 2 ∨ n = 3 := by omega
    rcases this with rfl | rfl | rfl | rfl <;> rfl
theorem front_list {vs : List (Nat × sU)} {n i : Nat} {v : Nat × sU} (hl : vs.length = 4) (hn : n ≤ 3) (hi : i < n) (hv : vs[i]? = some v) : v.2 :: ((vs.take n).map fun v => v.2).eraseIdx i = ((fron i vs).take n).map fun v => v.2 := by
  match vs, hl with
  | [v0, v1, v2, v3], _ =>
    have h1 : n = 1 ∨ n = 2 ∨ n = 3 := by omega
    have h2 : i = 0 ∨ i = 1 ∨ i = 2 := by omega
    rcases h1 with rfl | rfl | rfl <;> rcases h2 with rfl | rfl | rfl <;> first | omega | (cases hv; rfl)
theorem ko_compileAnew (h : cS E sl tx us fk fp dn ct) (hf : f < 8)
    (hC : ∀ k pl, cOf f (tx f) sl = .inl (k, pl) → ∀ E' w', cS E' sl tx us (fk.set f k) (fp.set f pl) (dn.set f 2) (((ct.set 1 (ct.getD 1 0 + 1)).set 4 (ct.getD 4 0 + 1)).set 2 (ct.getD 2 0 + 1)) → (∀ b, b < 5 ∨ 9 < b → b < 20 + 24 * f ∨ 41 + 24 * f < b → E' b = E b) → K (.inr none) E' x z w')
    (hD : ∀ t q c, cOf f (tx f) sl = .inr (t, q, c) → (∀ g, g < 8 → nI (g + 11) ∈ tx f → ¬ sl.getD g 0 = -1) → ∀ E' w', cS E' sl tx (fU us f (((tx f, sl.getD f 0, calOf (tx f) sl, c) :: us f).take 3)) fk fp (dn.set f 2) ((ct.set 1 (ct.getD 1 0 + 1)).set 4 (ct.getD 4 0 + 1)) → (∀ b, b < 5 ∨ 9 < b → b < 20 + 24 * f ∨ 41 + 24 * f < b → E' b = E b) → K (.inr none) E' x z w') : ux_Bm uxP sc 99 13 [.ref 1, .int (nI f)] E x z K := by
  show ux_B uxP sc 99 13 0 [.ref 1, .int (nI f), .null] [] E x z false K
  have h' := h
  obtain ⟨c1, c2, c3, c4, c5, c6, c7, c8, c9, c10, c11⟩ := h
  obtain ⟨t1, n, vs, hs, hus⟩ := c11 f hf
  have hn3 := hs.2.2.2.1
  have hvl := hs.2.2.1
  obtain ⟨v, hv, hvm⟩ := hs.at (show n < 4 by omega)
  obtain ⟨hu, k, hk, hvk⟩ := hs.2.2.2.2.2 v hvm
  refine ux_BN 1 rfl ?_
  refine ux_Bget rfl rfl c1 rfl ?_
  refine ux_BN 1 rfl ?_
  refine ux_BaldN f rfl c5 (by decide) rfl (by omega) (rng_at hf) ?_
  refine ux_Bv rfl rfl rfl hs.1 rfl (by decide) rfl rfl ?_
  refine ko_spare hs hv ?_
  refine ux_BN 3 rfl ?_
  refine ux_Bget rfl rfl c1 rfl ?_
  refine ux_BN 1 rfl ?_
  refine ux_BaldN f rfl c4 (by decide) rfl (by omega) (rng_at hf) ?_
  refine ux_BN 1 rfl ?_
  refine ux_Bget rfl rfl c1 rfl ?_
  refine ux_BN 1 rfl ?_
  refine ux_BildN f rfl c2 rfl (by omega) (by rw [c3.1]; exact hf) ?_
  refine ux_Bv rfl rfl rfl hu.1 rfl (by decide) rfl rfl ?_
  refine ko_begin hu t1 (by omega) (sl.getD f 0) fun E1 w1 u1 f1 => ?_
  obtain ⟨a9, b9, p9, e9⟩ := c10
  obtain ⟨r, hr, m1⟩ := kq_of (L := (tx f).length) (show 18 ≤ v.1 by omega) u1 (by rw [f1 _ (by omega)]; exact e9) (by rw [f1 _ (by omega)]; exact c2) c3.1 rfl
  have hcg : cAll (fun i => (tx f ++ r).getD i 0) (tx f).length (sl.getD f 0) (fun h => sl.getD h 0) = cOf f (tx f) sl := cAll_congr fun i hi => getD_app hi
  have d1 : E1 1 = some (0, [], [.ref 2, .ref 3, .ref 4, .ref 5, .ref 6, .ref 7, .ref 8, .ref 9, .ref 10, .ref 14]) := by rw [f1 _ (by omega)]; exact c1
  refine ux_BN 1 rfl ?_
  refine ux_Bget rfl rfl d1 rfl ?_
  refine ux_BN 2 rfl ?_
  refine ux_Bget rfl rfl d1 rfl ?_
  refine ux_Bv rfl rfl rfl m1.o9 rfl (by decide) rfl rfl ?_
  -- what stands after compiling, before the rows are written
  have hmid : ∀ (E2 : ux_Ev) (fa fb : Int32) (p2 : Nat) (cal c : List Int32), kq E1 v.1 sl (tx f ++ r) (sl.getD f 0) (tx f).length p2 fa fb cal c E2 → cS E2 sl tx us fk fp dn ct ∧ sS E2 f n (vs.set n (v.1, (tx f, sl.getD f 0, cal, c))) ∧ ∀ b, b ≠ 9 → b < v.1 ∨ v.1 + 4 < b → E2 b = E b := by
    intro E2 fa fb p2 cal c m2
    have hfr : ∀ b, b ≠ 9 → b < v.1 ∨ v.1 + 4 < b → E2 b = E b := fun b hb9 hb => by
      rw [m2.2.2.2.2.2.2.2.2 b hb9 (by omega) (by omega) (by omega), f1 b hb]
    have hs2 : sS E2 f n (vs.set n (v.1, (tx f, sl.getD f 0, cal, c))) := hs.put hv _ (uS_of m2) fun b hb _ _ => hfr b (by omega) hb
    refine ⟨?_, hs2, hfr⟩
    have := h'.shelf hf hs2 ⟨_, _, _, m2.o9⟩ (fun b hb9 hb => hfr b hb9 (by omega)) (l := us f) (by
      rw [hus, List.take_set_of_le (Nat.le_refl n)])
    rwa [show fU us f (us f) = us from funext fun j => by unfold fU; split; rename_i hj; rw [hj]; rfl] at this
  -- deeds and counts
  have hrows : ∀ (E2 : ux_Ev) (fa fb : Int32) (p2 : Nat) (w : Bool), cS E2 sl tx us fk fp dn ct → E2 9 = some (1, [], [.int fa, .int fb, .int (nI p2)]) → (∀ E3 w3, cS E3 sl tx us fk fp (dn.set f 2) ((ct.set 1 (ct.getD 1 0 + 1)).set 4 (ct.getD 4 0 + 1)) → (∀ b, b ≠ 7 → b ≠ 8 → E3 b = E2 b) → ux_B uxP sc 99 13 65 [.ref 1, .int (nI f), .ref v.1] [] E3 x z w3 K) → ux_B uxP sc 99 13 38 [.ref 1, .int (nI f), .ref v.1] [] E2 x z w K := by
    intro E2 fa fb p2 w k1 o9 hK
    refine ux_BN 1 rfl ?_
    refine ux_Bget rfl rfl k1.1 rfl ?_
    refine ux_BN 2 rfl ?_
    refine ux_BistN f rfl k1.2.2.2.2.2.2.2.1.1 rfl (by omega) (by rw [k1.2.2.2.2.2.2.2.1.2]; exact hf) ?_
    have j1 := k1.s7 f 2
    refine ux_BN 1 rfl ?_
    refine ux_Bget rfl rfl j1.1 rfl ?_
    refine ux_BN 2 rfl ?_
    refine ux_BildN 1 rfl j1.2.2.2.2.2.2.2.2.1.1 rfl (by decide) (by rw [j1.2.2.2.2.2.2.2.2.1.2]; decide) ?_
    refine ux_BN 2 rfl ?_
    refine ux_BistN 1 rfl j1.2.2.2.2.2.2.2.2.1.1 rfl (by decide) (by rw [j1.2.2.2.2.2.2.2.2.1.2]; decide) ?_
    have j2 := j1.s8 1 (ct.getD 1 0 + 1)
    refine ux_BN 1 rfl ?_
    refine ux_Bget rfl rfl j2.1 rfl ?_
    refine ux_BN 2 rfl ?_
    refine ux_BildN 4 rfl j2.2.2.2.2.2.2.2.2.1.1 rfl (by decide) (by rw [j2.2.2.2.2.2.2.2.2.1.2]; decide) ?_
    refine ux_Btop (ct.getD 4 0) (getD_ne (by decide)) ?_
    refine ux_BN 2 rfl ?_
    refine ux_BistN 4 rfl j2.2.2.2.2.2.2.2.2.1.1 rfl (by decide) (by rw [j2.2.2.2.2.2.2.2.2.1.2]; decide) ?_
    have j3 := j2.s8 4 (ct.getD 4 0 + 1)
    exact hK _ _ j3 fun b b1 b2 => by rw [ux_up_ne _ _ b2, ux_up_ne _ _ b2, ux_up_ne _ _ b1]
  refine ko_compile t1.le c3.2 m1 (fun t q c hr2 E2 w2 cal p2 m2 hcal => ?_) (fun k2 pl hr2 E2 w2 p2 cal c m2 => ?_)
  · obtain ⟨k1, k2, k3⟩ := hmid E2 _ _ _ _ _ m2
    obtain ⟨e1, e2⟩ := cal_of hr m2.2.2.2.2.2.1.2 hcal
    rw [hcg] at hr2
    refine hrows E2 _ _ _ _ k1 m2.o9 fun E3 w3 j3 g3 => ?_
    refine ux_BN 1 rfl ?_
    refine ux_Bget rfl rfl j3.1 rfl ?_
    refine ux_Bget rfl rfl (show E3 9 = _ from by rw [g3 9 (by decide) (by decide)]; exact m2.o9) rfl ?_
    refine ux_BN 1 rfl ?_
    refine ux_Bno (by decide) ?_
    refine ux_BN 1 rfl ?_
    refine ux_Bget rfl rfl j3.1 rfl ?_
    refine ux_BN 1 rfl ?_
    refine ux_BaldN f rfl j3.2.2.2.2.1 (by decide) rfl (by omega) (rng_at hf) ?_
    have hs3 : sS E3 f n (vs.set n (v.1, (tx f, sl.getD f 0, cal, c))) := k2.frL fun b b1 b2 => g3 b (by omega) (by omega)
    refine ux_Bv rfl rfl rfl hs3.1 rfl (by decide) rfl rfl ?_
    refine ko_keepSpare hs3 fun E4 w4 hs4 g4 => ?_
    refine ux_BN 1 rfl ?_
    rw [e1] at hs4
    refine ux_Br rfl (hD t q c hr2 e2 _ _ (j3.shelf hf hs4 ?_ (fun b _ hb => g4 b (by omega) (by omega)) ?_) (fun b hb1 hb2 => ?_))
    · rw [g4 9 (by omega) (by omega), g3 9 (by decide) (by decide)]; exact ⟨_, _, _, m2.o9⟩
    · rw [hus]; exact keep_list hvl hn3 _ _
    · rw [g4 b (by omega) (by omega), g3 b (by omega) (by omega), k3 b (by omega) (by omega)]
  · obtain ⟨k1, k3, k4⟩ := hmid E2 _ _ _ _ _ m2
    rw [hcg] at hr2
    refine hrows E2 _ _ _ _ k1 m2.o9 fun E3 w3 j3 g3 => ?_
    have o9 : ∀ (E' : ux_Ev), (∀ b, b ≠ 5 → b ≠ 6 → E' b = E3 b) → E' 9 = some (1, [], [.int k2, .int pl, .int (nI p2)]) := fun E' he => by
      rw [he 9 (by decide) (by decide), g3 9 (by decide) (by decide)]; exact m2.o9
    refine ux_BN 1 rfl ?_
    refine ux_Bget rfl rfl j3.1 rfl ?_
    refine ux_Bget rfl rfl (o9 E3 fun _ _ _ => rfl) rfl ?_
    refine ux_BN 1 rfl ?_
    refine ux_Byes (fun h0 => cAll_k hr2 (by rw [h0]; decide)) ?_
    refine ux_BN 1 rfl ?_
    refine ux_Bget rfl rfl j3.1 rfl ?_
    refine ux_BN 2 rfl ?_
    refine ux_Bget rfl rfl j3.1 rfl ?_
    refine ux_Bget rfl rfl (o9 E3 fun _ _ _ => rfl) rfl ?_
    refine ux_BistN f rfl j3.2.2.2.2.2.1.1 rfl (by omega) (by rw [j3.2.2.2.2.2.1.2]; exact hf) ?_
    have j4 := j3.s5 f k2
    refine ux_BN 1 rfl ?_
    refine ux_Bget rfl rfl j4.1 rfl ?_
    refine ux_BN 2 rfl ?_
    refine ux_Bget rfl rfl j4.1 rfl ?_
    refine ux_Bget rfl rfl (o9 _ fun b b1 b2 => ux_up_ne _ _ b1) rfl ?_
    refine ux_BistN f rfl j4.2.2.2.2.2.2.1.1 rfl (by omega) (by rw [j4.2.2.2.2.2.2.1.2]; exact hf) ?_
    have j5 := j4.s6 f pl
    refine ux_BN 1 rfl ?_
    refine ux_Bget rfl rfl j5.1 rfl ?_
    refine ux_BN 2 rfl ?_
    refine ux_BildN 2 rfl j5.2.2.2.2.2.2.2.2.1.1 rfl (by decide) (by rw [j5.2.2.2.2.2.2.2.2.1.2]; decide) ?_
    refine ux_Btop (ct.getD 2 0) (by rw [getD_ne (by decide), getD_ne (by decide)]) ?_
    refine ux_BN 2 rfl ?_
    refine ux_BistN 2 rfl j5.2.2.2.2.2.2.2.2.1.1 rfl (by decide) (by rw [j5.2.2.2.2.2.2.2.2.1.2]; decide) ?_
    have j6 := j5.s8 2 (ct.getD 2 0 + 1)
    refine ux_Br rfl (hC k2 pl hr2 _ _ j6 (fun b hb1 hb2 => ?_))
    rw [ux_up_ne _ _ (by omega), ux_up_ne _ _ (by omega), ux_up_ne _ _ (by omega), g3 b (by omega) (by omega), k4 b (by omega) (by omega)]
theorem ko_renew (h : cS E sl tx us fk fp dn ct) (hf : f < 8)
    (hA : sl.getD f 0 = -1 → ∀ E' w', cS E' sl tx us (fk.set f 0) (fp.set f (-1)) (dn.set f 0) ct → (∀ b, b < 5 ∨ 9 < b → b < 20 + 24 * f ∨ 41 + 24 * f < b → E' b = E b) → K (.inr none) E' x z w')
    (hB : ¬ sl.getD f 0 = -1 → ∀ i U, (us f)[i]? = some U → uFit f sl (tx f) U = true → (∀ j U, j < i → (us f)[j]? = some U → ¬ uFit f sl (tx f) U = true) → ∀ E' w', cS E' sl tx (fU us f (U :: (us f).eraseIdx i)) (fk.set f 0) (fp.set f (-1)) (dn.set f 1) ((ct.set 0 (ct.getD 0 0 + 1)).set 3 (ct.getD 3 0 + 1)) → (∀ b, b < 5 ∨ 9 < b → b < 20 + 24 * f ∨ 41 + 24 * f < b → E' b = E b) → K (.inr none) E' x z w')
    (hC : ¬ sl.getD f 0 = -1 → (∀ U, U ∈ us f → ¬ uFit f sl (tx f) U = true) → ∀ k pl, cOf f (tx f) sl = .inl (k, pl) → ∀ E' w', cS E' sl tx us (fk.set f k) (fp.set f pl) (dn.set f 2) (((ct.set 1 (ct.getD 1 0 + 1)).set 4 (ct.getD 4 0 + 1)).set 2 (ct.getD 2 0 + 1)) → (∀ b, b < 5 ∨ 9 < b → b < 20 + 24 * f ∨ 41 + 24 * f < b → E' b = E b) → K (.inr none) E' x z w')
    (hD : ¬ sl.getD f 0 = -1 → (∀ U, U ∈ us f → ¬ uFit f sl (tx f) U = true) → ∀ t q c, cOf f (tx f) sl = .inr (t, q, c) → (∀ g, g < 8 → nI (g + 11) ∈ tx f → ¬ sl.getD g 0 = -1) → ∀ E' w', cS E' sl tx (fU us f (((tx f, sl.getD f 0, calOf (tx f) sl, c) :: us f).take 3)) (fk.set f 0) (fp.set f (-1)) (dn.set f 2) ((ct.set 1 (ct.getD 1 0 + 1)).set 4 (ct.getD 4 0 + 1)) → (∀ b, b < 5 ∨ 9 < b → b < 20 + 24 * f ∨ 41 + 24 * f < b → E' b = E b) → K (.inr none) E' x z w') : ux_Bm uxP sc 100 9 [.ref 1, .int (nI f)] E x z K := by
  show ux_B uxP sc 100 9 0 [.ref 1, .int (nI f), .null] [] E x z false K
  refine ux_BN 1 rfl ?_
  refine ux_Bget rfl rfl h.1 rfl ?_
  refine ux_BN 2 rfl ?_
  refine ux_BistN f rfl h.2.2.2.2.2.1.1 rfl (by omega) (by rw [h.2.2.2.2.2.1.2]; exact hf) ?_
  have j1 := h.s5 f 0
  refine ux_BN 1 rfl ?_
  refine ux_Bget rfl rfl j1.1 rfl ?_
  refine ux_BN 2 rfl ?_
  refine ux_BistN f rfl j1.2.2.2.2.2.2.1.1 rfl (by omega) (by rw [j1.2.2.2.2.2.2.1.2]; exact hf) ?_
  have j2 := j1.s6 f (-1)
  refine ux_BN 1 rfl ?_
  refine ux_Bget rfl rfl j2.1 rfl ?_
  refine ux_BN 2 rfl ?_
  refine ux_BistN f rfl j2.2.2.2.2.2.2.2.1.1 rfl (by omega) (by rw [j2.2.2.2.2.2.2.2.1.2]; exact hf) ?_
  have j3 := j2.s7 f 0
  have g3 : ∀ b, b < 5 ∨ 9 < b → (ux_up (ux_up (ux_up E 5 (100, fk.set f 0, [])) 6 (100, fp.set f (-1), [])) 7 (100, dn.set f 0, [])) b = E b := fun b hb => by
    rw [ux_up_ne _ _ (by omega), ux_up_ne _ _ (by omega), ux_up_ne _ _ (by omega)]
  generalize hE3 : (ux_up (ux_up (ux_up E 5 (100, fk.set f 0, [])) 6 (100, fp.set f (-1), [])) 7 (100, dn.set f 0, [])) = E3 at j3 g3
  refine ux_B.view ?_ (show _ = E3 from hE3)
  refine ux_BN 1 rfl ?_
  refine ux_Bget rfl rfl j3.1 rfl ?_
  refine ux_BN 1 rfl ?_
  refine ux_BildN f rfl j3.2.1 rfl (by omega) (by rw [j3.2.2.1.1]; exact hf) ?_
  refine ux_BN 2 rfl ?_
  refine ux_Bne (fun ha => ?_) (fun ha => ?_)
  · exact ux_Br rfl (hA ha _ _ j3 (fun b hb1 hb2 => g3 b hb1))
  · obtain ⟨t1, n, vs, hs, hus⟩ := j3.2.2.2.2.2.2.2.2.2.2 f hf
    have hn3 := hs.2.2.2.1
    have hvl := hs.2.2.1
    have hus' : ∀ i, i < n → (us f)[i]? = vs[i]?.map fun v => v.2 := fun i hi => by
      rw [hus, List.getElem?_map, List.getElem?_take_of_lt hi]
    refine ux_BN 1 rfl ?_
    refine ux_Bget rfl rfl j3.1 rfl ?_
    refine ux_BN 1 rfl ?_
    refine ux_BaldN f rfl j3.2.2.2.2.1 (by decide) rfl (by omega) (rng_at hf) ?_
    refine ux_BN 1 rfl ?_
    refine ux_Bget rfl rfl j3.1 rfl ?_
    refine ux_BN 1 rfl ?_
    refine ux_BaldN f rfl j3.2.2.2.1 (by decide) rfl (by omega) (rng_at hf) ?_
    refine ux_BN 2 rfl ?_
    refine ux_Bget rfl rfl j3.1 rfl ?_
    refine ux_Bv rfl rfl rfl hs.1 rfl (by decide) rfl rfl ?_
    refine ko_fitting hs t1 j3.2.1 j3.2.2.1.1 hf (fun i v hi hv hfit hno => ?_) (fun hno => ?_)
    · refine ux_BN 4 rfl ?_
      refine ux_Byes (fun hi2 => by have := nI_pos (show i < 2 ^ 31 by omega); rw [hi2] at this; exact this (by decide)) ?_
      refine ux_BN 1 rfl ?_
      refine ux_Bget rfl rfl j3.1 rfl ?_
      refine ux_BN 1 rfl ?_
      refine ux_BaldN f rfl j3.2.2.2.2.1 (by decide) rfl (by omega) (rng_at hf) ?_
      refine ux_BN 1 rfl ?_
      refine ux_Bv rfl rfl rfl hs.1 rfl (by decide) rfl rfl ?_
      refine ko_front hs i (by omega) fun E4 w4 e1 e2 => ?_
      have hs4 := hs.front (show i < 4 by omega) e1 e2
      have j4 : cS E4 sl tx (fU us f (v.2 :: (us f).eraseIdx i)) (fk.set f 0) (fp.set f (-1)) (dn.set f 0) ct := j3.shelf hf hs4 (by rw [e2 9 (by omega)]; exact j3.2.2.2.2.2.2.2.2.2.1) (fun b _ hb => e2 b (by omega)) (by rw [hus]; exact front_list hvl hn3 hi hv)
      refine ux_BN 1 rfl ?_
      refine ux_Bget rfl rfl j4.1 rfl ?_
      refine ux_BN 2 rfl ?_
      refine ux_BistN f rfl j4.2.2.2.2.2.2.2.1.1 rfl (by omega) (by rw [j4.2.2.2.2.2.2.2.1.2]; exact hf) ?_
      have j5 := j4.s7 f 1
      refine ux_BN 1 rfl ?_
      refine ux_Bget rfl rfl j5.1 rfl ?_
      refine ux_BN 2 rfl ?_
      refine ux_BildN 0 rfl j5.2.2.2.2.2.2.2.2.1.1 rfl (by decide) (by rw [j5.2.2.2.2.2.2.2.2.1.2]; decide) ?_
      refine ux_BN 2 rfl ?_
      refine ux_BistN 0 rfl j5.2.2.2.2.2.2.2.2.1.1 rfl (by decide) (by rw [j5.2.2.2.2.2.2.2.2.1.2]; decide) ?_
      have j6 := j5.s8 0 (ct.getD 0 0 + 1)
      refine ux_BN 1 rfl ?_
      refine ux_Bget rfl rfl j6.1 rfl ?_
      refine ux_BN 2 rfl ?_
      refine ux_BildN 3 rfl j6.2.2.2.2.2.2.2.2.1.1 rfl (by decide) (by rw [j6.2.2.2.2.2.2.2.2.1.2]; decide) ?_
      refine ux_Btop (ct.getD 3 0) (getD_ne (by decide)) ?_
      refine ux_BN 2 rfl ?_
      refine ux_BistN 3 rfl j6.2.2.2.2.2.2.2.2.1.1 rfl (by decide) (by rw [j6.2.2.2.2.2.2.2.2.1.2]; decide) ?_
      have j7 := j6.s8 3 (ct.getD 3 0 + 1)
      have j7 := j7.dnc (List.set_set ..)
      refine ux_Br rfl (hB ha i v.2 (by rw [hus' i hi, hv]; rfl) hfit (fun j U hj hU => ?_) _ _ j7 (fun b hb1 hb2 => ?_))
      · rw [hus' j (by omega)] at hU
        cases hv2 : vs[j]? with
        | none => rw [hv2] at hU; cases hU
        | some v2 =>
          rw [hv2] at hU
          cases hU
          exact hno j v2 hj hv2
      · rw [ux_up_ne _ _ (by omega), ux_up_ne _ _ (by omega), ux_up_ne _ _ (by omega), e2 b (by omega), g3 b hb1]
    · have hno2 : ∀ U, U ∈ us f → ¬ uFit f sl (tx f) U = true := by
        intro U hU
        rw [hus] at hU
        obtain ⟨v, hv, rfl⟩ := List.mem_map.mp hU
        obtain ⟨j, hj⟩ := List.getElem?_of_mem hv
        have hjn : j < n := by
          have := (List.getElem?_eq_some_iff.mp hj).1
          rw [List.length_take] at this
          omega
        rw [List.getElem?_take_of_lt hjn] at hj
        exact hno j v hjn hj
      refine ux_BN 4 rfl ?_
      refine ux_Bno (by decide) ?_
      refine ux_BN 2 rfl ?_
      refine ux_Bv rfl rfl rfl j3.1 rfl (by decide) rfl rfl ?_
      refine ko_compileAnew j3 hf (fun k pl hr E4 w4 j4 g4 => ?_) (fun t q c hr hca E4 w4 j4 g4 => ?_)
      · rw [List.set_set, List.set_set, List.set_set] at j4
        refine ux_BN 1 rfl ?_
        exact ux_Br rfl (hC ha hno2 k pl hr _ _ j4 (fun b hb1 hb2 => by rw [g4 b hb1 hb2, g3 b hb1]))
      · rw [List.set_set] at j4
        refine ux_BN 1 rfl ?_
        exact ux_Br rfl (hD ha hno2 t q c hr hca _ _ j4 (fun b hb1 hb2 => by rw [g4 b hb1 hb2, g3 b hb1]))
end KR
