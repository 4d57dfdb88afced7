/-! The class's compiler: every expression, the whole text. -/
section KG
variable {sc : List Int32} {d D : Nat} {E0 E : ux_Ev} {u L p dep : Nat} {sl tl cal c : List Int32} {own fk fp : Int32} {x z : Nat} {w : Bool} {K : ux_K1}
theorem calR_not {tl sl : List Int32} {p : Nat} {a : List Int32} (h : ∀ k, k < 8 → ¬ tl.getD p 0 = nI (k + 11)) : calR (fun i => tl.getD i 0) (fun h => sl.getD h 0) p (p + 1) a a := calR_one h
theorem kx (hL : L ≤ 30) (hsg : ∀ h, h < 8 → sl.getD h 0 = -1 ∨ ∃ j, j < 64 ∧ sl.getD h 0 = nI j) : ∀ n dep, n + dep = 31 → kIH sc (3 * n + 2) E0 u sl tl own L dep x z (cx (fun i => tl.getD i 0) L own (fun h => sl.getD h 0) n) := by
  intro n
  induction n with
  | zero =>
    intro dep hdep p cal c E K m hp hz hS hF
    have hdep : dep = 31 := by omega
    subst hdep
    show ux_B uxP sc 2 20 0 [.ref 9, .ref u, .ref 2, .int (nI 31), .null] [] E x z false K
    refine ux_BN 1 rfl ?_
    refine ux_Bget rfl rfl m.ou rfl ?_
    refine ux_BN 1 rfl ?_
    refine ux_Bget rfl rfl m.o9 rfl ?_
    refine ux_Bv rfl rfl rfl m.ot rfl (by decide) rfl rfl ?_
    refine ko_has m p (by omega) hL ?_
    have hend : ∀ w, ux_B uxP sc 2 20 20 [.ref 9, .ref u, .ref 2, .int (nI 31), .null] [] E x z w K := by
      intro w
      refine ux_BN 3 rfl ?_
      refine ux_Bget rfl rfl m.o9 rfl ?_
      refine ux_Bv rfl rfl rfl m.o9 rfl (by decide) rfl rfl ?_
      refine ko_fault m 2 (nI p) fun E1 w1 m1 => ?_
      exact ux_Bri rfl (Or.inl rfl) (hF 2 (nI p) rfl _ _ _ _ _ m1)
    refine ux_BN 1 rfl ?_
    refine ux_Bif (fun h => ?_) (fun h => ?_)
    · exact hend _
    · refine ux_BN 3 rfl ?_
      refine ux_Bno (by decide) ?_
      exact hend _
  | succ n ihn =>
    intro dep hdep p cal c E K m hp hz hS hF
    have ih := ihn (dep + 1) (by omega)
    have hg := cx_good (fun i => tl.getD i 0) L own (fun h => sl.getD h 0) n
    show ux_B uxP sc (3 * n + 5) 20 0 [.ref 9, .ref u, .ref 2, .int (nI dep), .null] [] E x z false K
    refine ux_BN 1 rfl ?_
    refine ux_Bget rfl rfl m.ou rfl ?_
    refine ux_BN 1 rfl ?_
    refine ux_Bget rfl rfl m.o9 rfl ?_
    refine ux_Bv rfl rfl rfl m.ot rfl (by decide) rfl rfl ?_
    refine ko_has m p (by omega) hL ?_
    refine ux_BN 1 rfl ?_
    by_cases hpL : p < L
    · rw [if_pos hpL]
      have hcx : cx (fun i => tl.getD i 0) L own (fun h => sl.getD h 0) (n + 1) p = cStep (cx (fun i => tl.getD i 0) L own (fun h => sl.getD h 0) n) own (fun h => sl.getD h 0) (tl.getD p 0) p := by
        show (if L ≤ p then _ else _) = _
        rw [if_neg (by omega)]
      rw [hcx] at hS hF
      obtain ⟨hz1, hz2, hz3⟩ := cz_tok hz
      have hc78 := hz3 (by omega)
      have htl : tl.length = 30 := m.2.2.2.2.1.2
      refine ux_Bno (by decide) ?_
      refine ux_BN 3 rfl ?_
      refine ux_Byes (nI_le (show dep ≤ 30 by omega) (by decide)) ?_
      refine ux_BN 1 rfl ?_
      refine ux_Bget rfl rfl m.ou rfl ?_
      refine ux_Bget rfl rfl m.ot rfl ?_
      refine ux_BN 1 rfl ?_
      refine ux_Bget rfl rfl m.o9 rfl ?_
      refine ux_BildN p rfl m.otk rfl (by omega) (by omega) ?_
      generalize htok : tl.getD p 0 = t at hS hF ⊢
      refine ux_BN 2 rfl ?_
      refine ux_Bk (j := 23) rfl rfl ?_
      refine ko_isNone t ?_
      refine ux_BN 1 rfl ?_
      have hnone : (t < 0 ∨ (19 ≤ t ∧ t < 100)) → cStep (cx (fun i => tl.getD i 0) L own (fun h => sl.getD h 0) n) own (fun h => sl.getD h 0) t p = .inl (1, nI p) → ∀ w, ux_B uxP sc (3 * n + 5) 20 (if decide ((if t < 0 ∨ (19 ≤ t ∧ t < 100) then (1 : Int32) else 0) = 0) = true then 62 else 52) [.ref 9, .ref u, .ref 2, .int (nI dep), .int t] [] E x z w K := by
        intro hn hcs w
        rw [if_pos hn]
        refine ux_Bno (by decide) ?_
        refine ux_BN 3 rfl ?_
        refine ux_Bget rfl rfl m.o9 rfl ?_
        refine ux_Bv rfl rfl rfl m.o9 rfl (by decide) rfl rfl ?_
        refine ko_fault m 1 (nI p) fun E1 w1 m1 => ?_
        exact ux_Bri rfl (Or.inl rfl) (hF 1 (nI p) hcs _ _ _ _ _ m1)
      rcases pk_ix t (n := 100) (by decide) with ht | ht | ⟨k, hk, ht⟩
      · exact hnone (Or.inl ht) (cS_none1 ht) _
      · have hge : ∀ n : Nat, n < 100 → nI n < t := by
          intro n hn
          rw [Int32.lt_iff_toInt_lt, nI_toInt (by omega)]
          rw [Int32.le_iff_toInt_le] at ht
          have : (nI 100).toInt = 100 := rfl
          omega
        refine ux_Byes (if_neg (by rintro (h1 | ⟨h1, h2⟩); exact k2_nlt (Int32.le_of_lt (hge 0 (by decide))) h1; exact k2_nlt ht h2)) ?_
        refine ux_BN 3 rfl ?_
        refine ux_Byes (Int32.le_of_lt (hge 3 (by decide))) ?_
        refine ux_BN 3 rfl ?_
        refine ux_Byes (Int32.le_of_lt (hge 8 (by decide))) ?_
        refine ux_BN 3 rfl ?_
        refine ux_Byes (fun h => by have := hge 8 (by decide); rw [h] at this; exact Int32.lt_irrefl this) ?_
        refine ux_BN 3 rfl ?_
        refine ux_Byes (hge 10 (by decide)) ?_
        refine ux_BN 3 rfl ?_
        refine ux_Byes ht ?_
        refine ux_BN 6 rfl ?_
        refine ux_Bv rfl rfl rfl m.o9 rfl (by decide) rfl rfl ?_
        refine ko_constant m (t - 100) 0 (by omega) fun E1 w1 m1 => ?_
        refine ux_Bri rfl (Or.inl rfl) (hS 0 (p + 1) _ (cS_num ht) _ _ _ m1 (calR_not fun k hk h => ?_))
        rw [htok] at h
        have := hge (k + 11) (by omega)
        rw [h] at this
        exact Int32.lt_irrefl this
      subst ht
      by_cases hk19 : 19 ≤ k
      · exact hnone (Or.inr ⟨nI_le (a := 19) hk19 (by omega), nI_lt (b := 100) hk (by decide)⟩) (cS_none2 ⟨hk19, hk⟩) _
      refine ux_Byes (if_neg (cS_n0 (by omega))) ?_
      have hnc : ∀ a, k < 11 → calR (fun i => tl.getD i 0) (fun h => sl.getD h 0) p (p + 1) a a := fun a hk11 => calR_not fun j hj h => by
        rw [htok] at h
        have := (nI_eq (by omega) (by omega)).mp h
        omega
      by_cases h3 : k < 3
      · refine ux_BN 3 rfl ?_
        refine ux_Bno (nI_ge (show k < 3 from h3) (by decide)) ?_
        refine ux_BN 3 rfl ?_
        refine ux_Bv rfl rfl rfl m.o9 rfl (by decide) rfl rfl ?_
        refine ko_parameter m (nI k) (by omega) (fun h E1 w1 m1 => ?_) (fun h E1 w1 m1 => ?_)
        · exact ux_Bri rfl (Or.inl rfl) (hF 3 (nI p) (by rw [cS_par h3, if_pos h]) _ _ _ _ _ m1)
        · exact ux_Bri rfl (Or.inl rfl) (hS _ (p + 1) _ (by rw [cS_par h3, if_neg h]) _ _ _ m1 (hnc _ (by omega)))
      refine ux_BN 3 rfl ?_
      refine ux_Byes (nI_le (show 3 ≤ k by omega) (by omega)) ?_
      by_cases h8 : k < 8
      · obtain ⟨k, rfl⟩ : ∃ j, k = j + 1 := ⟨k - 1, by omega⟩
        rw [cS_sign (by omega)] at hS hF
        refine ux_BN 3 rfl ?_
        refine ux_Bno (nI_ge h8 (by decide)) ?_
        refine ux_BN 5 rfl ?_
        refine ux_Bv rfl rfl rfl m.o9 rfl (by decide) rfl rfl ?_
        refine ko_calculation ih hg hL m hpL hz k (by omega) (fun t q c' hr hq E1 w1 cal1 m1 hcal => ?_) (fun k2 pl hr E1 w1 p1 cal1 c1 m1 => ?_)
        · exact ux_Bri rfl (Or.inl rfl) (hS t q c' hr _ _ _ m1 ((hnc _ (by omega)).trans hcal (by omega) hq))
        · exact ux_Bri rfl (Or.inl rfl) (hF k2 pl hr _ _ _ _ _ m1)
      refine ux_BN 3 rfl ?_
      refine ux_Byes (nI_le (show 8 ≤ k by omega) (by omega)) ?_
      by_cases h88 : k = 8
      · subst h88
        rw [show nI 8 = 8 from rfl, cS_if] at hS hF
        refine ux_BN 3 rfl ?_
        refine ux_Bno (by decide) ?_
        refine ux_BN 4 rfl ?_
        refine ux_Bv rfl rfl rfl m.o9 rfl (by decide) rfl rfl ?_
        refine ko_choice (D := 3 * n + 1) ih hg hL m hpL hz (fun t q c' hr hq E1 w1 cal1 m1 hcal => ?_) (fun k2 pl hr E1 w1 p1 cal1 c1 m1 => ?_)
        · exact ux_Bri rfl (Or.inl rfl) (hS t q c' hr _ _ _ m1 ((hnc _ (by omega)).trans hcal (by omega) hq))
        · exact ux_Bri rfl (Or.inl rfl) (hF k2 pl hr _ _ _ _ _ m1)
      refine ux_BN 3 rfl ?_
      refine ux_Byes (nI_neq (b := 8) h88 (by omega) (by decide)) ?_
      by_cases h10 : k ≤ 10
      · refine ux_BN 3 rfl ?_
        refine ux_Bno (nI_nlt (show k ≤ 10 from h10) (by decide)) ?_
        refine ux_BN 5 rfl ?_
        have h910 : k = 9 ∨ k = 10 := by omega
        rcases h910 with rfl | rfl
        · refine ux_Bno (by decide) ?_
          refine ux_BN 3 rfl ?_
          refine ux_Bv rfl rfl rfl m.o9 rfl (by decide) rfl rfl ?_
          refine ko_constant m 1 1 (by omega) fun E1 w1 m1 => ?_
          exact ux_Bri rfl (Or.inl rfl) (hS 1 (p + 1) _ cS_true _ _ _ m1 (hnc _ (by omega)))
        · refine ux_Byes (by decide) ?_
          refine ux_BN 2 rfl ?_
          refine ux_Bv rfl rfl rfl m.o9 rfl (by decide) rfl rfl ?_
          refine ko_constant m 0 1 (by omega) fun E1 w1 m1 => ?_
          exact ux_Bri rfl (Or.inl rfl) (hS 1 (p + 1) _ cS_false _ _ _ m1 (hnc _ (by omega)))
      obtain ⟨h, rfl⟩ : ∃ h, k = h + 11 := ⟨k - 11, by omega⟩
      rw [cS_call (show h < 8 by omega)] at hS hF
      refine ux_BN 3 rfl ?_
      refine ux_Byes (nI_lt (show 10 < h + 11 by omega) (by omega)) ?_
      refine ux_BN 3 rfl ?_
      refine ux_Bno (nI_ge (show h + 11 < 100 by omega) (by decide)) ?_
      refine ux_BN 6 rfl ?_
      refine ux_Btop (nI h) (pk_sub (show 11 ≤ h + 11 by omega)) ?_
      refine ux_BN 1 rfl ?_
      refine ux_Bv rfl rfl rfl m.o9 rfl (by decide) rfl rfl ?_
      refine ko_call (D := 3 * n + 1) ih hg hL m hpL hz h (by omega) htok (hsg h (by omega)) (fun t q c' hr E1 w1 cal1 m1 hcal => ?_) (fun k2 pl hr E1 w1 p1 cal1 c1 m1 => ?_)
      · exact ux_Bri rfl (Or.inl rfl) (hS t q c' hr _ _ _ m1 hcal)
      · exact ux_Bri rfl (Or.inl rfl) (hF k2 pl hr _ _ _ _ _ m1)
    · rw [if_neg hpL]
      refine ux_Byes rfl ?_
      refine ux_BN 3 rfl ?_
      refine ux_Bget rfl rfl m.o9 rfl ?_
      refine ux_Bv rfl rfl rfl m.o9 rfl (by decide) rfl rfl ?_
      refine ko_fault m 2 (nI p) fun E1 w1 m1 => ?_
      exact ux_Bri rfl (Or.inl rfl) (hF 2 (nI p) (by show (if L ≤ p then _ else _) = _; rw [if_pos (by omega)]) _ _ _ _ _ m1)
theorem ko_compile (hL : L ≤ 30) (hsg : ∀ h, h < 8 → sl.getD h 0 = -1 ∨ ∃ j, j < 64 ∧ sl.getD h 0 = nI j) (m : kq E0 u sl tl own L p fk fp cal [] E)
    (hS : ∀ t q c, cAll (fun i => tl.getD i 0) L own (fun h => sl.getD h 0) = .inr (t, q, c) → ∀ E' w' cal' p', kq E0 u sl tl own L p' 0 (-1) cal' c E' → calR (fun i => tl.getD i 0) (fun h => sl.getD h 0) 0 L cal cal' → K (.inr none) E' x z w')
    (hF : ∀ k pl, cAll (fun i => tl.getD i 0) L own (fun h => sl.getD h 0) = .inl (k, pl) → ∀ E' w' p' cal' c', kq E0 u sl tl own L p' k pl cal' c' E' → K (.inr none) E' x z w') : ux_Bm uxP sc 98 17 [.ref 9, .ref u, .ref 2] E x z K := by
  show ux_B uxP sc 98 17 0 [.ref 9, .ref u, .ref 2] [] E x z false K
  refine ux_BN 2 rfl ?_
  refine ux_Bput rfl rfl rfl m.o9 rfl (Nat.le_of_ble_eq_true rfl) ?_
  have m1 := kq_setC m 0 fp p
  refine ux_BN 2 rfl ?_
  refine ux_Bput rfl rfl rfl m1.o9 rfl (Nat.le_of_ble_eq_true rfl) ?_
  have m2 := kq_setC m1 0 (-1) p
  refine ux_BN 2 rfl ?_
  refine kq_setplace m2 0 rfl rfl rfl rfl fun E3 m3 => ?_
  refine ux_BN 4 rfl ?_
  refine ux_Bget rfl rfl m3.ou rfl ?_
  refine ux_Bk (j := 18) rfl rfl ?_
  refine ko_result own ?_
  refine ux_BN 1 rfl ?_
  refine ux_Btop (nI 0) rfl ?_
  refine ux_Bv rfl rfl rfl m3.o9 rfl (by decide) rfl rfl ?_
  have hg := cx_good (fun i => tl.getD i 0) L own (fun h => sl.getD h 0) 31
  refine ko_part (D := 96) ((kx hL hsg 31 0 rfl).up (by decide)) hg m3 (by omega) ⟨Nat.le_refl _, 0, Nat.zero_le _, Nat.le_refl _⟩ (sRes own) (fun t q c hr g4 g1 g2 E4 w4 cal4 m4 hcal => ?_) (fun k pl hr E4 w4 p4 cal4 c4 m4 => ?_)
  · rw [List.nil_append] at m4
    have hc := cz78 g4 (by omega)
    refine ux_BN 1 rfl ?_
    refine ux_Byes (by decide) ?_
    refine ux_BN 1 rfl ?_
    refine ux_Bget rfl rfl m4.ou rfl ?_
    refine ux_BN 1 rfl ?_
    refine ux_Bget rfl rfl m4.o9 rfl ?_
    refine ux_Bv rfl rfl rfl m4.ot rfl (by decide) rfl rfl ?_
    refine ko_has m4 q (by omega) hL ?_
    refine ux_BN 1 rfl ?_
    by_cases hq : q < L
    · rw [if_pos hq]
      refine ux_Bno (by decide) ?_
      refine ux_BN 3 rfl ?_
      refine ux_Bget rfl rfl m4.o9 rfl ?_
      refine ux_Bv rfl rfl rfl m4.o9 rfl (by decide) rfl rfl ?_
      refine ko_fault m4 6 (nI q) fun E5 w5 m5 => ?_
      refine ux_BN 1 rfl ?_
      exact ux_Br rfl (hF 6 (nI q) (by unfold cAll; rw [cBi_of hr, if_pos hq]) _ _ _ _ _ m5)
    · rw [if_neg hq]
      refine ux_Byes rfl ?_
      refine ux_BN 3 rfl ?_
      refine ux_Bget rfl rfl m4.ou rfl ?_
      refine ux_Bk (j := 25) rfl rfl ?_
      refine ko_params own ?_
      refine ux_Bv rfl rfl rfl m4.ou rfl (by decide) rfl rfl ?_
      refine ko_put2 m4 10 (sPar own) (by omega) fun E5 w5 m5 => ?_
      have hqL : q = L := by omega
      subst hqL
      exact ux_Br rfl (hS t q _ (by unfold cAll; rw [cBi_of hr, if_neg hq]) _ _ _ _ m5 hcal)
  · refine ux_BN 1 rfl ?_
    refine ux_Bno (by decide) ?_
    exact ux_Br rfl (hF k pl (by unfold cAll; rw [cBi_inl hr]) _ _ _ _ _ m4)
end KG
