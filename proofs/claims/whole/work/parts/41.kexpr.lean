/-! The class's compiler: its parts. -/
def calR (tk sg : Nat → Int32) (p q : Nat) (a b : List Int32) : Prop := ∀ g, g < 8 → ((∃ i, p ≤ i ∧ i < q ∧ tk i = nI (g + 11)) → b.getD g 0 = sg g ∧ ¬ sg g = -1) ∧ ((¬ ∃ i, p ≤ i ∧ i < q ∧ tk i = nI (g + 11)) → b.getD g 0 = a.getD g 0)
theorem calR.trans {tk sg : Nat → Int32} {p q r : Nat} {a b c : List Int32} (h : calR tk sg p q a b) (h2 : calR tk sg q r b c) (h3 : p ≤ q) (h4 : q ≤ r) : calR tk sg p r a c := by
  intro g hg
  by_cases e2 : ∃ i, q ≤ i ∧ i < r ∧ tk i = nI (g + 11)
  · obtain ⟨i, i1, i2, i3⟩ := e2
    exact ⟨fun _ => (h2 g hg).1 ⟨i, i1, i2, i3⟩, fun hn => absurd ⟨i, by omega, i2, i3⟩ hn⟩
  · have hc := (h2 g hg).2 e2
    by_cases e1 : ∃ i, p ≤ i ∧ i < q ∧ tk i = nI (g + 11)
    · obtain ⟨i, i1, i2, i3⟩ := e1
      exact ⟨fun _ => by rw [hc]; exact (h g hg).1 ⟨i, i1, i2, i3⟩, fun hn => absurd ⟨i, i1, by omega, i3⟩ hn⟩
    · refine ⟨fun ⟨i, i1, i2, i3⟩ => ?_, fun _ => by rw [hc]; exact (h g hg).2 e1⟩
      by_cases hi : i < q
      · exact absurd ⟨i, i1, hi, i3⟩ e1
      · exact absurd ⟨i, by omega, i2, i3⟩ e2
theorem calR_one {tk sg : Nat → Int32} {p : Nat} {a : List Int32} (h : ∀ g, g < 8 → ¬ tk p = nI (g + 11)) : calR tk sg p (p + 1) a a := by
  intro g hg
  refine ⟨fun ⟨i, i1, i2, i3⟩ => ?_, fun _ => rfl⟩
  have : i = p := by omega
  subst this
  exact absurd i3 (h g hg)
theorem calR_call {tk sg : Nat → Int32} {p h : Nat} {a : List Int32} (hh : h < 8) (ht : tk p = nI (h + 11)) (hs : ¬ sg h = -1) (ha : a.length = 8) : calR tk sg p (p + 1) a (a.set h (sg h)) := by
  intro g hg
  by_cases hgh : g = h
  · subst hgh
    refine ⟨fun _ => ⟨?_, hs⟩, fun hn => absurd ⟨p, Nat.le_refl _, by omega, ht⟩ hn⟩
    rw [List.getD_eq_getElem?_getD, List.getElem?_set_self (by omega)]; rfl
  · refine ⟨fun ⟨i, i1, i2, i3⟩ => ?_, fun _ => ?_⟩
    · have : i = p := by omega
      subst this
      rw [ht] at i3
      have := (nI_eq (by omega) (by omega)).mp i3
      omega
    · rw [List.getD_eq_getElem?_getD, List.getElem?_set_ne (fun h => hgh h.symm)]; rfl
theorem calR.refl (tk sg : Nat → Int32) (p : Nat) (a : List Int32) : calR tk sg p p a a := fun g _ => ⟨fun ⟨i, i1, i2, _⟩ => by omega, fun _ => rfl⟩
def kIH (sc : List Int32) (D : Nat) (E0 : ux_Ev) (u : Nat) (sl tl : List Int32) (own : Int32) (L dep x z : Nat) (rc : Nat → cR) : Prop :=
  ∀ p cal c E K, kq E0 u sl tl own L p 0 (-1) cal c E → p ≤ L → cz 0 0 p c.length →
    (∀ t q c', rc p = .inr (t, q, c') → ∀ E' w' cal', kq E0 u sl tl own L q 0 (-1) cal' (c ++ c') E' → calR (fun i => tl.getD i 0) (fun h => sl.getD h 0) p q cal cal' → K (.inr (some (.int t))) E' x z w') →
    (∀ k pl, rc p = .inl (k, pl) → ∀ E' w' p' cal' c', kq E0 u sl tl own L p' k pl cal' c' E' → K (.inr (some (.int (-1)))) E' x z w') →
    ux_Bm uxP sc D 20 [.ref 9, .ref u, .ref 2, .int (nI dep)] E x z K
section KE
variable {sc : List Int32} {d D : Nat} {E0 E : ux_Ev} {u L p dep : Nat} {sl tl cal c : List Int32} {own fk fp : Int32} {x z : Nat} {w : Bool} {K : ux_K1} {rc : Nat → cR}
theorem ko_constant (m : kq E0 u sl tl own L p fk fp cal c E) (y t : Int32) (hc : c.length + 1 < 122) (hK : ∀ E' w', kq E0 u sl tl own L (p + 1) fk fp cal (c ++ [0, y]) E' → K (.inr (some (.int t))) E' x z w') : ux_Bm uxP sc (d + 1) 33 [.ref 9, .ref u, .int y, .int t] E x z K := by
  show ux_B uxP sc (d + 1) 33 0 [.ref 9, .ref u, .int y, .int t] [] E x z false K
  refine ux_BN 2 rfl ?_
  refine ux_Bget rfl rfl m.o9 rfl ?_
  refine ux_BN 2 rfl ?_
  refine kq_setplace m (p + 1) rfl rfl rfl (nI_1 p) fun E1 m1 => ?_
  refine ux_BN 3 rfl ?_
  refine ux_Bv rfl rfl rfl m1.ou rfl (by decide) rfl rfl ?_
  refine ko_put2 m1 0 y hc fun E2 w2 m2 => ?_
  refine ux_BN 1 rfl ?_
  exact ux_Bri rfl (Or.inl rfl) (hK _ _ m2)
theorem ko_parameter (m : kq E0 u sl tl own L p fk fp cal c E) (k : Int32) (hc : c.length + 1 < 122) (hK1 : sPar own ≤ k → ∀ E' w', kq E0 u sl tl own L p 3 (nI p) cal c E' → K (.inr (some (.int (-1)))) E' x z w') (hK2 : ¬ sPar own ≤ k → ∀ E' w', kq E0 u sl tl own L (p + 1) fk fp cal (c ++ [1, k]) E' → K (.inr (some (.int (sTyp own k)))) E' x z w') : ux_Bm uxP sc (d + 1) 24 [.ref 9, .ref u, .int k] E x z K := by
  show ux_B uxP sc (d + 1) 24 0 [.ref 9, .ref u, .int k] [] E x z false K
  refine ux_BN 2 rfl ?_
  refine ux_Bget rfl rfl m.ou rfl ?_
  refine ux_Bk (j := 25) rfl rfl ?_
  refine ko_params own ?_
  refine ux_BN 1 rfl ?_
  refine ux_Bif (fun h1 => ?_) (fun h1 => ?_)
  · refine ux_BN 2 rfl ?_
    refine ux_Bget rfl rfl m.o9 rfl ?_
    refine ux_BN 2 rfl ?_
    refine kq_setplace m (p + 1) rfl rfl rfl (nI_1 p) fun E1 m1 => ?_
    refine ux_BN 3 rfl ?_
    refine ux_Bv rfl rfl rfl m1.ou rfl (by decide) rfl rfl ?_
    refine ko_put2 m1 1 k hc fun E2 w2 m2 => ?_
    refine ux_BN 1 rfl ?_
    refine ux_Bget rfl rfl m2.ou rfl ?_
    refine ux_BN 1 rfl ?_
    refine ux_Bk (j := 27) rfl rfl ?_
    refine ko_type own k ?_
    exact ux_Bri rfl (Or.inl rfl) (hK2 (k2_nle h1) _ _ m2)
  · refine ux_BN 3 rfl ?_
    refine ux_Bget rfl rfl m.o9 rfl ?_
    refine ux_Bv rfl rfl rfl m.o9 rfl (by decide) rfl rfl ?_
    refine ko_fault m 3 (nI p) fun E1 w1 m1 => ?_
    exact ux_Bri rfl (Or.inl rfl) (hK1 (k2_le h1) _ _ m1)
theorem t01m {t : Int32} (h : t = 0 ∨ t = 1) : ¬ t = -1 := by rcases h with rfl | rfl <;> decide
theorem ko_part (ih : kIH sc D E0 u sl tl own L dep x z rc) (hg : cGood L rc) (m : kq E0 u sl tl own L p 0 (-1) cal c E) (hp : p ≤ L) (hz : cz 0 0 p c.length) (want : Int32)
    (hS : ∀ t q c', cPa rc want p = .inr (t, q, c') → cz 1 p q c'.length → p < q → q ≤ L → ∀ E' w' cal', kq E0 u sl tl own L q 0 (-1) cal' (c ++ c') E' → calR (fun i => tl.getD i 0) (fun h => sl.getD h 0) p q cal cal' → K (.inr (some (.int 1))) E' x z w')
    (hF : ∀ k pl, cPa rc want p = .inl (k, pl) → ∀ E' w' p' cal' c', kq E0 u sl tl own L p' k pl cal' c' E' → K (.inr (some (.int 0))) E' x z w') : ux_Bm uxP sc (D + 1) 19 [.ref 9, .ref u, .ref 2, .int want, .int (nI dep)] E x z K := by
  show ux_B uxP sc (D + 1) 19 0 [.ref 9, .ref u, .ref 2, .int want, .int (nI dep), .null, .null] [] E x z false K
  refine ux_BN 1 rfl ?_
  refine ux_Bget rfl rfl m.o9 rfl ?_
  refine ux_BN 5 rfl ?_
  refine ux_Bv rfl rfl rfl m.o9 rfl (by decide) rfl rfl ?_
  refine ih p cal c E _ m hp hz (fun t q c' hr E' w' cal' m' hcal => ?_) (fun k pl hr E' w' p' cal' c' m' => ?_)
  · obtain ⟨g1, g2, g3, g4⟩ := hg _ _ _ _ hr
    refine ux_BN 4 rfl ?_
    refine ux_Byes (t01m g3) ?_
    refine ux_BN 3 rfl ?_
    refine ux_Bif (fun h1 => ?_) (fun h1 => ?_)
    · refine ux_BN 1 rfl ?_
      exact ux_Bri rfl (Or.inr ⟨rfl, Or.inr rfl⟩) (hS t q c' (cPa_ok hr h1) g4 g1 g2 _ _ _ m' hcal)
    · refine ux_BN 3 rfl ?_
      refine ux_Bv rfl rfl rfl m'.o9 rfl (by decide) rfl rfl ?_
      refine ko_fault m' 5 (nI p) fun E2 w2 m2 => ?_
      refine ux_BN 2 rfl ?_
      exact ux_Bri rfl (Or.inr ⟨rfl, Or.inl rfl⟩) (hF 5 (nI p) (cPa_bad hr h1) _ _ _ _ _ m2)
  · refine ux_BN 4 rfl ?_
    refine ux_Bno (by decide) ?_
    refine ux_BN 1 rfl ?_
    exact ux_Bri rfl (Or.inr ⟨rfl, Or.inl rfl⟩) (hF k pl (cPa_inl hr) _ _ _ _ _ m')
theorem ko_calculation (ih : kIH sc D E0 u sl tl own L (dep + 1) x z rc) (hg : cGood L rc) (hL : L ≤ 30) (m : kq E0 u sl tl own L p 0 (-1) cal c E) (hp : p < L) (hz : cz 0 0 p c.length) (k : Nat) (hk : 2 ≤ k ∧ k ≤ 6)
    (hS : ∀ t q c', (cBi (cPa rc 0 (p + 1)) fun _ q1 c1 => cBi (cPa rc 0 q1) fun _ q2 c2 => .inr (if nI (k + 1) < 6 then 0 else 1, q2, c1 ++ c2 ++ [nI k])) = .inr (t, q, c') → p + 1 ≤ q → ∀ E' w' cal', kq E0 u sl tl own L q 0 (-1) cal' (c ++ c') E' → calR (fun i => tl.getD i 0) (fun h => sl.getD h 0) (p + 1) q cal cal' → K (.inr (some (.int t))) E' x z w')
    (hF : ∀ k2 pl, (cBi (cPa rc 0 (p + 1)) fun _ q1 c1 => cBi (cPa rc 0 q1) fun _ q2 c2 => .inr (if nI (k + 1) < 6 then 0 else 1, q2, c1 ++ c2 ++ [nI k])) = .inl (k2, pl) → ∀ E' w' p' cal' c', kq E0 u sl tl own L p' k2 pl cal' c' E' → K (.inr (some (.int (-1)))) E' x z w') : ux_Bm uxP sc (D + 2) 28 [.ref 9, .ref u, .ref 2, .int (nI (k + 1)), .int (nI dep)] E x z K := by
  show ux_B uxP sc (D + 2) 28 0 [.ref 9, .ref u, .ref 2, .int (nI (k + 1)), .int (nI dep)] [] E x z false K
  obtain ⟨hz1, hz2, hz3⟩ := cz_tok hz
  refine ux_BN 2 rfl ?_
  refine ux_Bget rfl rfl m.o9 rfl ?_
  refine ux_BN 2 rfl ?_
  refine kq_setplace m (p + 1) rfl rfl rfl (nI_1 p) fun E1 m1 => ?_
  refine ux_BN 7 rfl ?_
  refine ux_Btop (nI (dep + 1)) (nI_1 _) ?_
  refine ux_Bv rfl rfl rfl m1.o9 rfl (by decide) rfl rfl ?_
  refine ko_part ih hg m1 (by omega) hz2 0 (fun t q1 c1 hr1 g4 g1 g2 E2 w2 cal2 m2 hcal2 => ?_) (fun k2 pl hr E2 w2 p2 cal2 c2 m2 => ?_)
  · have hza := cz_add hz1 g4
    have hzb : cz 0 0 q1 (c ++ c1).length := by
      obtain ⟨a1, a2, a3, a4⟩ := hza
      exact ⟨a1, a2, by rw [List.length_append]; omega, by omega⟩
    refine ux_BN 1 rfl ?_
    refine ux_Bno (by decide) ?_
    refine ux_BN 7 rfl ?_
    refine ux_Btop (nI (dep + 1)) (nI_1 _) ?_
    refine ux_Bv rfl rfl rfl m2.o9 rfl (by decide) rfl rfl ?_
    refine ko_part ih hg m2 g2 hzb 0 (fun t q2 c2 hr2 g4' g1' g2' E3 w3 cal3 m3 hcal3 => ?_) (fun k2 pl hr E3 w3 p3 cal3 c3 m3 => ?_)
    · have hzc := cz78 (cz_add hzb g4') (by omega)
      refine ux_BN 1 rfl ?_
      refine ux_Byes (by decide) ?_
      refine ux_BN 2 rfl ?_
      refine ux_Bk (j := 29) rfl rfl ?_
      refine ko_operationOf k hk ?_
      refine ux_Bv rfl rfl rfl m3.ou rfl (by decide) rfl rfl ?_
      refine ko_put1 m3 (nI k) (by rw [List.length_append]; omega) fun E4 w4 m4 => ?_
      have hfin := hS (if nI (k + 1) < 6 then 0 else 1) q2 (c1 ++ c2 ++ [nI k]) (by rw [cBi_of hr1, cBi_of hr2]) (by omega) E4
      have m4' : kq E0 u sl tl own L q2 0 (-1) cal3 (c ++ (c1 ++ c2 ++ [nI k])) E4 := by simpa [List.append_assoc] using m4
      have hcal := hcal2.trans hcal3 (by omega) (by omega)
      have hk5 : k = 2 ∨ k = 3 ∨ k = 4 ∨ k = 5 ∨ k = 6 := by omega
      rcases hk5 with rfl | rfl | rfl | rfl | rfl
      · refine ux_BN 3 rfl ?_
        refine ux_Bno (by decide) ?_
        refine ux_BN 3 rfl ?_
        refine ux_Byes (by decide) ?_
        refine ux_BN 1 rfl ?_
        exact ux_Bri rfl (Or.inl rfl) (hfin _ _ m4' hcal)
      · refine ux_BN 3 rfl ?_
        refine ux_Bno (by decide) ?_
        refine ux_BN 3 rfl ?_
        refine ux_Byes (by decide) ?_
        refine ux_BN 1 rfl ?_
        exact ux_Bri rfl (Or.inl rfl) (hfin _ _ m4' hcal)
      · refine ux_BN 3 rfl ?_
        refine ux_Bno (by decide) ?_
        refine ux_BN 3 rfl ?_
        refine ux_Byes (by decide) ?_
        refine ux_BN 1 rfl ?_
        exact ux_Bri rfl (Or.inl rfl) (hfin _ _ m4' hcal)
      · refine ux_BN 3 rfl ?_
        refine ux_Byes rfl ?_
        refine ux_BN 2 rfl ?_
        exact ux_Bri rfl (Or.inl rfl) (hfin _ _ m4' hcal)
      · refine ux_BN 3 rfl ?_
        refine ux_Bno (by decide) ?_
        refine ux_BN 3 rfl ?_
        refine ux_Bno (by decide) ?_
        refine ux_BN 2 rfl ?_
        exact ux_Bri rfl (Or.inl rfl) (hfin _ _ m4' hcal)
    · refine ux_BN 1 rfl ?_
      refine ux_Bno (by decide) ?_
      refine ux_BN 1 rfl ?_
      exact ux_Bri rfl (Or.inl rfl) (hF k2 pl (by rw [cBi_of hr1, cBi_inl hr]) _ _ _ _ _ m3)
  · refine ux_BN 1 rfl ?_
    refine ux_Byes rfl ?_
    refine ux_BN 1 rfl ?_
    exact ux_Bri rfl (Or.inl rfl) (hF k2 pl (by rw [cBi_inl hr]) _ _ _ _ _ m2)
end KE
