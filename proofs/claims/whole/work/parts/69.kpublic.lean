/-! The class's public methods. -/
theorem sgM_6 : ∀ k, k < 4 → ∀ j, j < 8 → (∃ i, i < 64 ∧ ((nI k ||| (nI j <<< ((2 : Int32) &&& 31))) ||| 0) = nI i) ∧ ∃ i, i < 64 ∧ ((nI k ||| (nI j <<< ((2 : Int32) &&& 31))) ||| 32) = nI i := by decide +kernel
theorem sgM_64 {k : Nat} (hk : k < 4) (t b : Int32) : ∃ j, j < 64 ∧ sgM (nI k) t b = nI j := by
  have h8 : ∃ j, j < 8 ∧ (t &&& ((1 <<< (nI k &&& 31)) - 1)) = nI j := by
    have : k = 0 ∨ k = 1 ∨ k = 2 ∨ k = 3 := by omega
    rcases this with rfl | rfl | rfl | rfl
    · obtain ⟨j, hj, e⟩ := pk_andE t (m := (1 <<< (nI 0 &&& 31)) - 1) 0 (by decide)
      exact ⟨j, by omega, e⟩
    · obtain ⟨j, hj, e⟩ := pk_andE t (m := (1 <<< (nI 1 &&& 31)) - 1) 1 (by decide)
      exact ⟨j, by omega, e⟩
    · obtain ⟨j, hj, e⟩ := pk_andE t (m := (1 <<< (nI 2 &&& 31)) - 1) 2 (by decide)
      exact ⟨j, by omega, e⟩
    · obtain ⟨j, hj, e⟩ := pk_andE t (m := (1 <<< (nI 3 &&& 31)) - 1) 3 (by decide)
      exact ⟨j, by omega, e⟩
  obtain ⟨j, hj, e⟩ := h8
  unfold sgM
  rw [e]
  have := sgM_6 k hk j hj
  split
  · exact this.1
  · exact this.2
section KP
variable {sc : List Int32} {d : Nat} {E : ux_Ev} {sl fk fp dn ct : List Int32} {tx : Nat → List Int32} {us : Nat → List sU} {W AD PR : List Int32} {L : Nat} {rs sp : Int32} {s : rT} {x z : Nat} {w : Bool} {K : ux_K1}
theorem ko_require (v : Int32) (hK1 : ∀ n, n < 8 → v = nI n → K (.inr none) E x z false) (hK2 : v < 0 ∨ 8 ≤ v → K (.inl 0) E (x + 1) (z + 6) true) : ux_Bm uxP sc (d + 1) 49 [.int v] E x z K := by
  show ux_B uxP sc (d + 1) 49 0 [.int v] [] E x z false K
  refine ux_BN 1 rfl ?_
  refine ux_Bk (j := 42) rfl rfl ?_
  refine ko_isFn v (fun n hn he => ?_) (fun he => ?_)
  · refine ux_BN 1 rfl ?_
    refine ux_Byes (by decide) ?_
    exact ux_Br rfl (hK1 n hn he)
  · refine ux_BN 1 rfl ?_
    refine ux_Bno (by decide) ?_
    exact ux_Bt rfl ⟨_, rfl⟩ (hK2 he)
theorem ko_of (p t b : Int32) (hK : K (.inr (some (.int (sgM p t b)))) E x z false) : ux_Bm uxP sc d 50 [.int p, .int t, .int b] E x z K := by
  show ux_B uxP sc d 50 0 [.int p, .int t, .int b, .null, .null] [] E x z false K
  refine ux_BN 10 rfl ?_
  refine ux_Bif (fun h1 => ?_) (fun h1 => ?_)
  · refine ux_BN 11 rfl ?_
    refine ux_Bri rfl (Or.inl rfl) ?_
    unfold sgM at hK
    rw [if_pos h1] at hK
    exact hK
  · refine ux_BN 12 rfl ?_
    refine ux_Bri rfl (Or.inl rfl) ?_
    unfold sgM at hK
    rw [if_neg h1] at hK
    exact hK
theorem cS.s2 (h : cS E sl tx us fk fp dn ct) {f : Nat} (hf : f < 8) {y : Int32} (hy : y = -1 ∨ ∃ j, j < 64 ∧ y = nI j) : cS (ux_up E 2 (100, sl.set f y, [])) (sl.set f y) tx us fk fp dn ct := by
  obtain ⟨h1, h2, h3, h4, h5, h6, h7, h8, h9, h10, hf'⟩ := h
  refine ⟨by rw [ux_up_ne _ _ (by decide)]; exact h1, ux_up_at _ _ _, ⟨by rw [List.length_set]; exact h3.1, fun g hg => ?_⟩, by rw [ux_up_ne _ _ (by decide)]; exact h4, by rw [ux_up_ne _ _ (by decide)]; exact h5, by rw [ux_up_ne _ _ (by decide)]; exact h6, by rw [ux_up_ne _ _ (by decide)]; exact h7, by rw [ux_up_ne _ _ (by decide)]; exact h8, by rw [ux_up_ne _ _ (by decide)]; exact h9, by rw [ux_up_ne _ _ (by decide)]; exact h10, fun f2 hf2 => ?_⟩
  · rw [getD_set (by rw [h3.1]; exact hf)]
    split
    · exact hy
    · exact h3.2 g hg
  · obtain ⟨t1, n, vs, s1, s2⟩ := hf' f2 hf2
    exact ⟨t1.frL fun b b1 b2 => ux_up_ne _ _ (by omega), n, vs, s1.frL fun b b1 b2 => ux_up_ne _ _ (by omega), s2⟩
theorem cS.stx (h : cS E sl tx us fk fp dn ct) {f : Nat} {E2 : ux_Ev} {l : List Int32} (hf : f < 8) (ht : tS E2 (18 + 24 * f) l) (he : ∀ b, b ≠ 18 + 24 * f → b ≠ 18 + 24 * f + 1 → E2 b = E b) : cS E2 sl (fU tx f l) us fk fp dn ct := by
  obtain ⟨h1, h2, h3, h4, h5, h6, h7, h8, h9, h10, hf'⟩ := h
  refine ⟨by rw [he 1 (by omega) (by omega)]; exact h1, by rw [he 2 (by omega) (by omega)]; exact h2, h3, by rw [he 3 (by omega) (by omega)]; exact h4, by rw [he 4 (by omega) (by omega)]; exact h5, by rw [he 5 (by omega) (by omega)]; exact h6, by rw [he 6 (by omega) (by omega)]; exact h7, by rw [he 7 (by omega) (by omega)]; exact h8, by rw [he 8 (by omega) (by omega)]; exact h9, by rw [he 9 (by omega) (by omega)]; exact h10, fun f2 hf2 => ?_⟩
  obtain ⟨t1, n, vs, s1, s2⟩ := hf' f2 hf2
  refine ⟨?_, n, vs, s1.frL fun b b1 b2 => he b (by omega) (by omega), s2⟩
  by_cases hff : f2 = f
  · subst hff; rw [fU_at]; exact ht
  · rw [fU_ne _ _ hff]
    exact t1.frL fun b b1 b2 => he b (by omega) (by omega)
theorem ko_sign (h : cS E sl tx us fk fp dn ct) (v p t b : Int32) (hK1 : (v < 0 ∨ 8 ≤ v) ∨ (p < 0 ∨ 4 ≤ p) → K (.inl 0) E (x + 1) (z + 6) true) (hK2 : ∀ n k, n < 8 → k < 4 → v = nI n → p = nI k → ∀ E' w', cS E' (sl.set n (sgM p t b)) tx us fk fp dn ct → (∀ b, b ≠ 2 → E' b = E b) → K (.inr none) E' x z w') : ux_Bm uxP sc (d + 2) 48 [.ref 1, .int v, .int p, .int t, .int b] E x z K := by
  show ux_B uxP sc (d + 2) 48 0 [.ref 1, .int v, .int p, .int t, .int b] [] E x z false K
  refine ux_BN 1 rfl ?_
  refine ux_Bk (j := 49) rfl rfl ?_
  refine ko_require v (fun n hn he => ?_) (fun he => ⟨rfl, hK1 (Or.inl he)⟩)
  refine ux_BN 2 rfl ?_
  refine ux_Bif (fun (h1 : p < 0) => ?_) (fun (h1 : ¬ p < 0) => ?_)
  · exact ux_Bt rfl ⟨_, rfl⟩ (hK1 (Or.inr (Or.inl h1)))
  · refine ux_BN 3 rfl ?_
    refine ux_Bif (fun (h2 : p ≤ 3) => ?_) (fun (h2 : ¬ p ≤ 3) => ?_)
    · rcases pk_ix p (n := 4) (by decide) with h3 | h3 | ⟨k, hk, h3⟩
      · exact absurd h3 h1
      · exact absurd (Int32.le_trans h3 h2) (by decide)
      · refine ux_BN 1 rfl ?_
        refine ux_Bget rfl rfl h.1 rfl ?_
        refine ux_BN 4 rfl ?_
        refine ux_Bk (j := 50) rfl rfl ?_
        refine ko_of p t b ?_
        refine ux_BistN n rfl h.2.1 he (by omega) (by rw [h.2.2.1.1]; exact hn) ?_
        refine ux_Br rfl (hK2 n k hn hk he h3 _ _ (h.s2 hn (Or.inr ?_)) (fun b hb => ux_up_ne _ _ hb))
        rw [h3]; exact sgM_64 hk t b
    · refine ux_Bt rfl ⟨_, rfl⟩ (hK1 (Or.inr (Or.inr ?_)))
      rcases pk_ix p (n := 4) (by decide) with h3 | h3 | ⟨k, hk, h3⟩
      · exact absurd h3 h1
      · exact h3
      · exact absurd (by rw [h3]; exact nI_le (b := 3) (by omega) (by decide)) h2
theorem cS.t0 (h : cS E sl tx us fk fp dn ct) {f : Nat} (hf : f < 8) : cS (ux_up E (18 + 24 * f) (5, [], [.ref (18 + 24 * f + 1), .int 0])) sl (fU tx f []) us fk fp dn ct := by
  refine h.stx hf ?_ (fun b b1 b2 => ux_up_ne _ _ b1)
  obtain ⟨t1, r, t2, t3⟩ := (h.2.2.2.2.2.2.2.2.2.2 f hf).1
  exact ⟨ux_up_at _ _ _, tx f ++ r, by rw [ux_up_ne _ _ (by omega)]; exact t2, t3⟩
theorem ko_drop (h : cS E sl tx us fk fp dn ct) (v : Int32) (hK1 : v < 0 ∨ 8 ≤ v → K (.inl 0) E (x + 1) (z + 6) true) (hK2 : ∀ n, n < 8 → v = nI n → ∀ E' w', cS E' (sl.set n (-1)) (fU tx n []) us fk fp dn ct → (∀ b, b ≠ 2 → b < 18 ∨ 209 < b → E' b = E b) → K (.inr none) E' x z w') : ux_Bm uxP sc (d + 2) 52 [.ref 1, .int v] E x z K := by
  show ux_B uxP sc (d + 2) 52 0 [.ref 1, .int v] [] E x z false K
  refine ux_BN 1 rfl ?_
  refine ux_Bk (j := 49) rfl rfl ?_
  refine ko_require v (fun n hn he => ?_) (fun he => ⟨rfl, hK1 he⟩)
  refine ux_BN 1 rfl ?_
  refine ux_Bget rfl rfl h.1 rfl ?_
  refine ux_BN 2 rfl ?_
  refine ux_BistN n rfl h.2.1 he (by omega) (by rw [h.2.2.1.1]; exact hn) ?_
  have h2 := h.s2 (y := -1) hn (Or.inl rfl)
  refine ux_BN 1 rfl ?_
  refine ux_Bget rfl rfl h2.1 rfl ?_
  refine ux_BN 1 rfl ?_
  refine ux_BaldN n rfl h2.2.2.2.1 (by decide) he (by omega) (rng_at hn) ?_
  refine ux_BN 1 rfl ?_
  refine ux_Bput rfl rfl rfl (h2.2.2.2.2.2.2.2.2.2.2 n hn).1.1 rfl (Nat.le_of_ble_eq_true rfl) ?_
  exact ux_Br rfl (hK2 n hn he _ _ (h2.t0 hn) (fun b b1 b2 => by rw [ux_up_ne _ _ (by omega), ux_up_ne _ _ b1]))
theorem ko_token (h : cS E sl tx us fk fp dn ct) (v t : Int32) (hK1 : v < 0 ∨ 8 ≤ v → K (.inl 0) E (x + 1) (z + 6) true) (hK2 : ∀ n, n < 8 → v = nI n → sl.getD n 0 = -1 → K (.inl 1) E (x + 1) (z + 6) true) (hK3 : ∀ n, n < 8 → v = nI n → ¬ sl.getD n 0 = -1 → (tx n).length = 30 → ∀ w', K (.inr (some (.int 0))) E x z w') (hK4 : ∀ n, n < 8 → v = nI n → ¬ sl.getD n 0 = -1 → (tx n).length < 30 → ∀ E' w', cS E' sl (fU tx n (tx n ++ [t])) us fk fp dn ct → (∀ b, b < 18 ∨ 209 < b → E' b = E b) → K (.inr (some (.int 1))) E' x z w') : ux_Bm uxP sc (d + 2) 54 [.ref 1, .int v, .int t] E x z K := by
  show ux_B uxP sc (d + 2) 54 0 [.ref 1, .int v, .int t] [] E x z false K
  refine ux_BN 1 rfl ?_
  refine ux_Bk (j := 49) rfl rfl ?_
  refine ko_require v (fun n hn he => ?_) (fun he => ⟨rfl, hK1 he⟩)
  refine ux_BN 1 rfl ?_
  refine ux_Bget rfl rfl h.1 rfl ?_
  refine ux_BN 1 rfl ?_
  refine ux_BildN n rfl h.2.1 he (by omega) (by rw [h.2.2.1.1]; exact hn) ?_
  refine ux_BN 2 rfl ?_
  refine ux_Bne (fun (ha : sl.getD n 0 = -1) => ?_) (fun (ha : ¬ sl.getD n 0 = -1) => ?_)
  · exact ux_Bt rfl ⟨_, rfl⟩ (hK2 n hn he ha)
  · refine ux_BN 1 rfl ?_
    refine ux_Bget rfl rfl h.1 rfl ?_
    refine ux_BN 1 rfl ?_
    refine ux_BaldN n rfl h.2.2.2.1 (by decide) he (by omega) (rng_at hn) ?_
    refine ux_BN 1 rfl ?_
    have ht := (h.2.2.2.2.2.2.2.2.2.2 n hn).1
    refine ux_Bv rfl rfl rfl ht.1 rfl (by decide) rfl rfl ?_
    refine ko_append ht t (fun h30 => ?_) (fun h30 E2 w2 t2 f2 => ?_)
    · exact ux_Bri rfl (Or.inr ⟨rfl, Or.inl rfl⟩) (hK3 n hn he ha h30 _)
    · exact ux_Bri rfl (Or.inr ⟨rfl, Or.inr rfl⟩) (hK4 n hn he ha h30 _ _ (h.stx hn t2 f2) (fun b hb => f2 b (by omega) (by omega)))
theorem ko_edit (h : cS E sl tx us fk fp dn ct) (v j t : Int32) (hK1 : v < 0 ∨ 8 ≤ v → K (.inl 0) E (x + 1) (z + 6) true) (hK2 : ∀ n, n < 8 → v = nI n → j < 0 ∨ nI (tx n).length ≤ j → K (.inl 2) E (x + 1) (z + 6) true) (hK3 : ∀ n k, n < 8 → v = nI n → k < (tx n).length → j = nI k → ∀ E' w', cS E' sl (fU tx n ((tx n).set k t)) us fk fp dn ct → (∀ b, b < 18 ∨ 209 < b → E' b = E b) → K (.inr none) E' x z w') : ux_Bm uxP sc (d + 2) 57 [.ref 1, .int v, .int j, .int t] E x z K := by
  show ux_B uxP sc (d + 2) 57 0 [.ref 1, .int v, .int j, .int t] [] E x z false K
  refine ux_BN 1 rfl ?_
  refine ux_Bk (j := 49) rfl rfl ?_
  refine ko_require v (fun n hn he => ?_) (fun he => ⟨rfl, hK1 he⟩)
  have ht := (h.2.2.2.2.2.2.2.2.2.2 n hn).1
  refine ux_BN 1 rfl ?_
  refine ux_Bget rfl rfl h.1 rfl ?_
  refine ux_BN 1 rfl ?_
  refine ux_BaldN n rfl h.2.2.2.1 (by decide) he (by omega) (rng_at hn) ?_
  refine ux_BN 1 rfl ?_
  refine ux_Bv rfl rfl rfl ht.1 rfl (by decide) rfl rfl ?_
  refine ko_hasT ht j (fun k hk hj => ?_) (fun hj => ?_)
  · refine ux_BN 1 rfl ?_
    refine ux_Byes (by decide) ?_
    refine ux_BN 1 rfl ?_
    refine ux_Bget rfl rfl h.1 rfl ?_
    refine ux_BN 1 rfl ?_
    refine ux_BaldN n rfl h.2.2.2.1 (by decide) he (by omega) (rng_at hn) ?_
    refine ux_Bget rfl rfl ht.1 rfl ?_
    refine ux_BN 2 rfl ?_
    have hle := ht.le
    obtain ⟨t1, r, t2, t3⟩ := ht
    refine ux_BistN k rfl t2 hj (by omega) (by rw [List.length_append]; omega) ?_
    refine ux_Br rfl (hK3 n k hn he hk hj _ _ (h.stx hn ⟨by rw [ux_up_ne _ _ (by omega), List.length_set]; exact t1, r, by rw [ux_up_at, List.set_append_left _ _ hk], by rw [List.length_append, List.length_set, ← List.length_append]; exact t3⟩ (fun b b1 b2 => ux_up_ne _ _ b2)) (fun b hb => ux_up_ne _ _ (by omega)))
  · refine ux_BN 1 rfl ?_
    refine ux_Bno (by decide) ?_
    exact ux_Bt rfl ⟨_, rfl⟩ (hK2 n hn he hj)
theorem ko_wipe (h : cS E sl tx us fk fp dn ct) (v : Int32) (hK1 : v < 0 ∨ 8 ≤ v → K (.inl 0) E (x + 1) (z + 6) true) (hK2 : ∀ n, n < 8 → v = nI n → ∀ E' w', cS E' sl (fU tx n []) us fk fp dn ct → (∀ b, b < 18 ∨ 209 < b → E' b = E b) → K (.inr (some (.int (nI (tx n).length)))) E' x z w') : ux_Bm uxP sc (d + 2) 59 [.ref 1, .int v] E x z K := by
  show ux_B uxP sc (d + 2) 59 0 [.ref 1, .int v, .null] [] E x z false K
  refine ux_BN 1 rfl ?_
  refine ux_Bk (j := 49) rfl rfl ?_
  refine ko_require v (fun n hn he => ?_) (fun he => ⟨rfl, hK1 he⟩)
  have ht := (h.2.2.2.2.2.2.2.2.2.2 n hn).1
  refine ux_BN 1 rfl ?_
  refine ux_Bget rfl rfl h.1 rfl ?_
  refine ux_BN 1 rfl ?_
  refine ux_BaldN n rfl h.2.2.2.1 (by decide) he (by omega) (rng_at hn) ?_
  refine ux_Bget rfl rfl ht.1 rfl ?_
  refine ux_BN 2 rfl ?_
  refine ux_Bget rfl rfl h.1 rfl ?_
  refine ux_BN 1 rfl ?_
  refine ux_BaldN n rfl h.2.2.2.1 (by decide) he (by omega) (rng_at hn) ?_
  refine ux_BN 1 rfl ?_
  refine ux_Bput rfl rfl rfl ht.1 rfl (Nat.le_of_ble_eq_true rfl) ?_
  refine ux_BN 1 rfl ?_
  exact ux_Bri rfl (Or.inl rfl) (hK2 n hn he _ _ (h.t0 hn) (fun b hb => ux_up_ne _ _ (by omega)))
theorem ko_count (h : cS E sl tx us fk fp dn ct) (v : Int32) (hK1 : v < 0 ∨ 5 ≤ v → K (.inl 2) E (x + 1) (z + 6) true) (hK2 : ∀ n, n < 5 → v = nI n → K (.inr (some (.int (ct.getD n 0)))) E x z false) : ux_Bm uxP sc d 61 [.ref 1, .int v] E x z K := by
  show ux_B uxP sc d 61 0 [.ref 1, .int v] [] E x z false K
  have h8 := h.2.2.2.2.2.2.2.2.1
  refine ux_BN 2 rfl ?_
  refine ux_Bif (fun (h1 : v < 0) => ?_) (fun (h1 : ¬ v < 0) => ?_)
  · exact ux_Bt rfl ⟨_, rfl⟩ (hK1 (Or.inl h1))
  · refine ux_BN 3 rfl ?_
    refine ux_Bif (fun (h2 : v < 5) => ?_) (fun (h2 : ¬ v < 5) => ?_)
    · rcases pk_ix v (n := 5) (by decide) with h3 | h3 | ⟨n, hn, h3⟩
      · exact absurd h3 h1
      · exact absurd h2 (k2_nlt h3)
      · refine ux_BN 1 rfl ?_
        refine ux_Bget rfl rfl h.1 rfl ?_
        refine ux_BN 1 rfl ?_
        refine ux_BildN n rfl h8.1 h3 (by omega) (by omega) ?_
        exact ux_Bri rfl (Or.inl rfl) (hK2 n hn h3)
    · exact ux_Bt rfl ⟨_, rfl⟩ (hK1 (Or.inr (k2_le h2)))
theorem ko_size (h : cS E sl tx us fk fp dn ct) (hi : iS E W AD PR L) (hK : K (.inr (some (.int (nI L)))) E x z false) : ux_Bm uxP sc d 44 [.ref 1] E x z K := by
  show ux_B uxP sc d 44 0 [.ref 1] [] E x z false K
  refine ux_BN 1 rfl ?_
  refine ux_Bget rfl rfl h.1 rfl ?_
  refine ux_Bget rfl rfl hi.1 rfl ?_
  exact ux_Bri rfl (Or.inl rfl) hK
theorem ko_value (h : cS E sl tx us fk fp dn ct) (hn : nS E rs sp s) (hK : K (.inr (some (.int rs))) E x z false) : ux_Bm uxP sc d 45 [.ref 1] E x z K := by
  show ux_B uxP sc d 45 0 [.ref 1] [] E x z false K
  refine ux_BN 1 rfl ?_
  refine ux_Bget rfl rfl h.1 rfl ?_
  refine ux_Bget rfl rfl hn.1 rfl ?_
  exact ux_Bri rfl (Or.inl rfl) hK
theorem ko_used (h : cS E sl tx us fk fp dn ct) (hn : nS E rs sp s) (hK : K (.inr (some (.int sp))) E x z false) : ux_Bm uxP sc d 46 [.ref 1] E x z K := by
  show ux_B uxP sc d 46 0 [.ref 1] [] E x z false K
  refine ux_BN 1 rfl ?_
  refine ux_Bget rfl rfl h.1 rfl ?_
  refine ux_Bget rfl rfl hn.1 rfl ?_
  exact ux_Bri rfl (Or.inl rfl) hK
theorem ko_word (h : cS E sl tx us fk fp dn ct) (hi : iS E W AD PR L) (hL : L ≤ 300) (hW : W.length = 300) (v : Int32) (hK1 : v < 0 ∨ nI L ≤ v → K (.inl 2) E (x + 1) (z + 6) true) (hK2 : ∀ n, n < L → v = nI n → K (.inr (some (.int (W.getD n 0)))) E x z false) : ux_Bm uxP sc (d + 1) 65 [.ref 1, .int v] E x z K := by
  show ux_B uxP sc (d + 1) 65 0 [.ref 1, .int v] [] E x z false K
  refine ux_BN 1 rfl ?_
  refine ux_Bget rfl rfl h.1 rfl ?_
  refine ux_BN 1 rfl ?_
  refine ux_Bv rfl rfl rfl hi.1 rfl (by decide) rfl rfl ?_
  refine ko_hasI hi.1 (by omega) v (fun n hn he => ?_) (fun he => ?_)
  · refine ux_BN 1 rfl ?_
    refine ux_Byes (by decide) ?_
    refine ux_BN 1 rfl ?_
    refine ux_Bget rfl rfl h.1 rfl ?_
    refine ux_Bget rfl rfl hi.1 rfl ?_
    refine ux_BN 1 rfl ?_
    refine ux_BildN n rfl hi.2.1 he (by omega) (by omega) ?_
    exact ux_Bri rfl (Or.inl rfl) (hK2 n hn he)
  · refine ux_BN 1 rfl ?_
    refine ux_Bno (by decide) ?_
    exact ux_Bt rfl ⟨_, rfl⟩ (hK1 he)
theorem toInt_lt {v : Int32} (h : v < 0 ∨ 5 ≤ v) : v.toInt < 0 ∨ 4 < v.toInt := by
  rcases h with h | h
  · exact Or.inl (Int32.lt_iff_toInt_lt.mp h)
  · refine Or.inr ?_
    have : (5 : Int32).toInt ≤ v.toInt := Int32.le_iff_toInt_le.mp h
    have e : (5 : Int32).toInt = 5 := by decide
    omega
theorem ko_look (h : cS E sl tx us fk fp dn ct) (hi : iS E W AD PR L) (hAD : AD.length = 8) (v u : Int32) (hK1 : (v < 0 ∨ 8 ≤ v) ∨ (u < 0 ∨ 5 ≤ u) → K (.inl 0) E (x + 1) (z + 6) true) (hK2 : ∀ n k, n < 8 → k < 5 → v = nI n → u = nI k → K (.inr (some (.int (if k = 0 then fk.getD n 0 else if k = 1 then fp.getD n 0 else if k = 2 then dn.getD n 0 else if k = 3 then nI (us n).length else AD.getD n 0)))) E x z false) : ux_Bm uxP sc (d + 2) 63 [.ref 1, .int v, .int u] E x z K := by
  show ux_B uxP sc (d + 2) 63 0 [.ref 1, .int v, .int u] [] E x z false K
  refine ux_BN 1 rfl ?_
  refine ux_Bk (j := 49) rfl rfl ?_
  refine ko_require v (fun n hn he => ?_) (fun he => ⟨rfl, hK1 (Or.inl he)⟩)
  refine ux_BN 1 rfl ?_
  obtain ⟨h1, h2, h3, h4, h5, h6, h7, h8, h9, h10, hf'⟩ := h
  by_cases hu : u < 0 ∨ 5 ≤ u
  · refine ux_Bs (pc' := 81) (ls' := [.ref 1, .int v, .int u]) (st' := []) ?_ ?_
    · show ux_tsw 76 0 4 #[35, 42, 49, 56, 66] 5 [.ref 1, .int v, .int u] [.int u] = _
      unfold ux_tsw
      exact if_pos (toInt_lt hu)
    · exact ux_Bt rfl ⟨_, rfl⟩ (hK1 (Or.inr hu))
  · rcases pk_ix u (n := 5) (by decide) with h' | h' | ⟨k, hk, rfl⟩
    · exact absurd (Or.inl h') hu
    · exact absurd (Or.inr h') hu
    · have hK2' := hK2 n k hn hk he rfl
      have hk5 : k = 0 ∨ k = 1 ∨ k = 2 ∨ k = 3 ∨ k = 4 := by omega
      rcases hk5 with rfl | rfl | rfl | rfl | rfl
      · refine ux_BN 2 rfl ?_
        refine ux_Bget rfl rfl h1 rfl ?_
        refine ux_BN 1 rfl ?_
        refine ux_BildN n rfl h6.1 he (by omega) (by omega) ?_
        exact ux_Bri rfl (Or.inl rfl) hK2'
      · refine ux_BN 2 rfl ?_
        refine ux_Bget rfl rfl h1 rfl ?_
        refine ux_BN 1 rfl ?_
        refine ux_BildN n rfl h7.1 he (by omega) (by omega) ?_
        exact ux_Bri rfl (Or.inl rfl) hK2'
      · refine ux_BN 2 rfl ?_
        refine ux_Bget rfl rfl h1 rfl ?_
        refine ux_BN 1 rfl ?_
        refine ux_BildN n rfl h8.1 he (by omega) (by omega) ?_
        exact ux_Bri rfl (Or.inl rfl) hK2'
      · obtain ⟨t1, nn, vs, s1, s2⟩ := hf' n hn
        refine ux_BN 2 rfl ?_
        refine ux_Bget rfl rfl h1 rfl ?_
        refine ux_BN 1 rfl ?_
        refine ux_BaldN n rfl h5 (by decide) he (by omega) (rng_at hn) ?_
        refine ux_Bget rfl rfl s1.1 rfl ?_
        refine ux_Bri rfl (Or.inl rfl) ?_
        have e : (us n).length = nn := by
          rw [s2, List.length_map, List.length_take, s1.2.2.1]
          have := s1.2.2.2.1
          omega
        rw [← e]
        exact hK2'
      · refine ux_BN 2 rfl ?_
        refine ux_Bget rfl rfl h1 rfl ?_
        refine ux_Bget rfl rfl hi.1 rfl ?_
        refine ux_BN 1 rfl ?_
        refine ux_BildN n rfl hi.2.2.1 he (by omega) (by omega) ?_
        exact ux_Bri rfl (Or.inl rfl) hK2'
end KP
