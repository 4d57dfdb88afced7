/-! The class's compiler: choice, call, expression, compile. -/
theorem ux_B.up {P : ux_P} {sc : List Int32} {d d2 i pc : Nat} {ls st : List Value} {E : ux_Ev} {x z : Nat} {w : Bool} {K : ux_K1} (hb : ux_B P sc d i pc ls st E x z w K) (hd : d ≤ d2) : ux_B P sc d2 i pc ls st E x z w K := by
  intro h hv h2
  obtain ⟨o, h', E', g1, g2⟩ := hb h hv h2
  exact ⟨o, h', E', g1.up hd, g2⟩
theorem ux_Bmu {P : ux_P} {sc : List Int32} {d d2 j : Nat} {as : List Value} {E : ux_Ev} {x z : Nat} {K : ux_K1} (hb : ux_Bm P sc d j as E x z K) (hd : d ≤ d2) : ux_Bm P sc d2 j as E x z K := ux_B.up hb hd
theorem kIH.up {sc : List Int32} {D D2 : Nat} {E0 : ux_Ev} {u : Nat} {sl tl : List Int32} {own : Int32} {L dep x z : Nat} {rc : Nat → cR} (ih : kIH sc D E0 u sl tl own L dep x z rc) (hd : D ≤ D2) : kIH sc D2 E0 u sl tl own L dep x z rc := fun p cal c E K a b c0 e f => ux_Bmu (ih p cal c E K a b c0 e f) hd
section KF
variable {sc : List Int32} {d D : Nat} {E0 E : ux_Ev} {u L p dep : Nat} {sl tl cal c : List Int32} {own fk fp : Int32} {x z : Nat} {w : Bool} {K : ux_K1} {rc : Nat → cR}
theorem kq_cast {c2 : List Int32} (m : kq E0 u sl tl own L p fk fp cal c E) (h : c = c2) : kq E0 u sl tl own L p fk fp cal c2 E := h ▸ m
theorem ko_choice (ih : kIH sc (D + 1) E0 u sl tl own L (dep + 1) x z rc) (hg : cGood L rc) (hL : L ≤ 30) (m : kq E0 u sl tl own L p 0 (-1) cal c E) (hp : p < L) (hz : cz 0 0 p c.length)
    (hS : ∀ t q c', (cBi (cPa rc 1 (p + 1)) fun _ q1 c1 => cBi (rc q1) fun t2 q2 c2 => cBi (cPa rc t2 q2) fun _ q3 c3 => .inr (t2, q3, c1 ++ [7, nI (c2.length + 2)] ++ c2 ++ [8, nI c3.length] ++ c3)) = .inr (t, q, c') → p + 1 ≤ q → ∀ E' w' cal', kq E0 u sl tl own L q 0 (-1) cal' (c ++ c') E' → calR (fun i => tl.getD i 0) (fun h => sl.getD h 0) (p + 1) q cal cal' → K (.inr (some (.int t))) E' x z w')
    (hF : ∀ k2 pl, (cBi (cPa rc 1 (p + 1)) fun _ q1 c1 => cBi (rc q1) fun t2 q2 c2 => cBi (cPa rc t2 q2) fun _ q3 c3 => .inr (t2, q3, c1 ++ [7, nI (c2.length + 2)] ++ c2 ++ [8, nI c3.length] ++ c3)) = .inl (k2, pl) → ∀ E' w' p' cal' c', kq E0 u sl tl own L p' k2 pl cal' c' E' → K (.inr (some (.int (-1)))) E' x z w') : ux_Bm uxP sc (D + 3) 31 [.ref 9, .ref u, .ref 2, .int (nI dep)] E x z K := by
  show ux_B uxP sc (D + 3) 31 0 [.ref 9, .ref u, .ref 2, .int (nI dep), .null, .null, .null, .null] [] E x z false K
  obtain ⟨hz1, hz2, hz3⟩ := cz_tok hz
  have ih2 : kIH sc (D + 2) E0 u sl tl own L (dep + 1) x z rc := ih.up (by omega)
  refine ux_BN 2 rfl ?_
  refine ux_Bget rfl rfl m.o9 rfl ?_
  refine ux_BN 2 rfl ?_
  refine kq_setplace m (p + 1) rfl rfl rfl (nI_1 p) fun E1 m1 => ?_
  refine ux_BN 7 rfl ?_
  refine ux_Btop (nI (dep + 1)) (nI_1 _) ?_
  refine ux_Bv rfl rfl rfl m1.o9 rfl (by decide) rfl rfl ?_
  refine ko_part ih hg m1 (by omega) hz2 1 (fun t q1 c1 hr1 g4 g1 g2 E2 w2 cal2 m2 hcal2 => ?_) (fun k2 pl hr E2 w2 p2 cal2 c2 m2 => ?_)
  · have hza := cz_add hz1 g4
    have hzb : cz 1 0 q1 (c ++ c1 ++ [7, 0]).length := by
      obtain ⟨a1, a2, a3, a4⟩ := hza
      exact ⟨a1, a2, by simp only [List.length_append, List.length_cons, List.length_nil]; omega, by omega⟩
    have hzb0 : cz 0 0 q1 (c ++ c1 ++ [7, 0]).length := by
      obtain ⟨a1, a2, a3, a4⟩ := hzb
      exact ⟨a1, a2, by omega, by omega⟩
    have hzb8 := cz78 hzb (by omega)
    refine ux_BN 1 rfl ?_
    refine ux_Byes (by decide) ?_
    refine ux_BN 1 rfl ?_
    refine ux_Bget rfl rfl m2.ou rfl ?_
    refine ux_BN 4 rfl ?_
    refine ux_Bv rfl rfl rfl m2.ou rfl (by decide) rfl rfl ?_
    refine ko_put2 m2 7 0 (by simp only [List.length_append, List.length_cons, List.length_nil] at hzb8 ⊢; omega) fun E3 w3 m3 => ?_
    refine ux_BN 6 rfl ?_
    refine ux_Btop (nI (dep + 1)) (nI_1 _) ?_
    refine ux_Bv rfl rfl rfl m3.o9 rfl (by decide) rfl rfl ?_
    refine ih2 q1 cal2 _ E3 _ m3 g2 hzb0 (fun t2 q2 c2 hr2 E4 w4 cal4 m4 hcal4 => ?_) (fun k2 pl hr E4 w4 p4 cal4 c4 m4 => ?_)
    · obtain ⟨g1', g2', ht2, g4'⟩ := hg _ _ _ _ hr2
      have hzc : cz 0 0 q2 ((c ++ c1 ++ [7, 0] ++ c2).length + 2) := by
        obtain ⟨a1, a2, a3, a4⟩ := hza
        obtain ⟨b1, b2, b3, b4⟩ := g4'
        obtain ⟨e1, e2, e3, e4⟩ := hz
        obtain ⟨i1, i2, i3, i4⟩ := g4
        refine ⟨by omega, e2 + i2 + b2 + 1, ?_, by omega⟩
        simp only [List.length_append, List.length_cons, List.length_nil]
        omega
      have hzd : cz 0 0 q2 (c ++ c1 ++ [7, 0] ++ c2 ++ [8, 0]).length := by
        obtain ⟨a1, a2, a3, a4⟩ := hzc
        refine ⟨a1, a2, ?_, a4⟩
        simp only [List.length_append, List.length_cons, List.length_nil] at a3 ⊢
        omega
      have hlen : (c ++ c1 ++ [7, 0] ++ c2).length + 2 ≤ 80 := by
        obtain ⟨a1, a2, a3, a4⟩ := hzc
        omega
      refine ux_BN 4 rfl ?_
      refine ux_Byes (t01m ht2) ?_
      refine ux_BN 1 rfl ?_
      refine ux_Bget rfl rfl m4.ou rfl ?_
      refine ux_BN 4 rfl ?_
      refine ux_Bv rfl rfl rfl m4.ou rfl (by decide) rfl rfl ?_
      refine ko_put2 m4 8 0 (by omega) fun E5 w5 m5 => ?_
      refine ux_BN 1 rfl ?_
      refine ux_Bget rfl rfl m5.ou rfl ?_
      refine ux_BN 8 rfl ?_
      refine ux_Btop (nI (dep + 1)) (nI_1 _) ?_
      refine ux_Bv rfl rfl rfl m5.o9 rfl (by decide) rfl rfl ?_
      refine ko_part ih hg m5 g2' hzd t2 (fun t3 q3 c3 hr3 g4'' g1'' g2'' E6 w6 cal6 m6 hcal6 => ?_) (fun k2 pl hr E6 w6 p6 cal6 c6 m6 => ?_)
      · have hze := cz78 (cz_add hzd g4'') (by omega)
        have hl6 : (c ++ c1 ++ [7, 0] ++ c2 ++ [8, 0] ++ c3).length ≤ 78 := by rw [List.length_append]; exact hze
        refine ux_BN 1 rfl ?_
        refine ux_Byes (by decide) ?_
        refine ux_BN 5 rfl ?_
        refine ux_Btop (nI (c2.length + 2)) ?_ ?_
        · refine (pk_sub (a := (c ++ c1 ++ [7, 0] ++ c2).length) (b := (c ++ c1).length) (by simp only [List.length_append, List.length_cons, List.length_nil]; omega)).trans (congrArg nI ?_)
          simp only [List.length_append, List.length_cons, List.length_nil]; omega
        refine ux_Bv rfl rfl rfl m6.ou rfl (by decide) rfl rfl ?_
        refine ko_setOperand m6 (c ++ c1).length (nI (c2.length + 2)) (by simp only [List.length_append, List.length_cons, List.length_nil]; omega) (by omega) fun E7 w7 m7 => ?_
        have e7 : (c ++ c1 ++ [7, 0] ++ c2 ++ [8, 0] ++ c3).set ((c ++ c1).length + 1) (nI (c2.length + 2)) = c ++ c1 ++ [7, nI (c2.length + 2)] ++ c2 ++ [8, 0] ++ c3 := by
          have := set_op (c ++ c1) (c2 ++ [8, 0] ++ c3) 7 0 (nI (c2.length + 2)) _ rfl
          simpa only [List.append_assoc] using this
        have m7' := kq_cast m7 e7
        refine ux_BN 3 rfl ?_
        refine ux_Bget rfl rfl m7'.ou rfl ?_
        refine ux_BN 2 rfl ?_
        refine ux_Btop (nI c3.length) ?_ ?_
        · refine (pk_sub (a := (c ++ c1 ++ [7, nI (c2.length + 2)] ++ c2 ++ [8, 0] ++ c3).length) (b := (c ++ c1 ++ [7, 0] ++ c2 ++ [8, 0]).length) (by simp only [List.length_append, List.length_cons, List.length_nil]; omega)).trans (congrArg nI ?_)
          simp only [List.length_append, List.length_cons, List.length_nil]; omega
        refine ux_Bv rfl rfl rfl m7'.ou rfl (by decide) rfl rfl ?_
        refine ko_setOperand m7' (c ++ c1 ++ [7, 0] ++ c2).length (nI c3.length) (by simp only [List.length_append, List.length_cons, List.length_nil]; omega) (by simp only [List.length_append, List.length_cons, List.length_nil] at hl6 ⊢; omega) fun E8 w8 m8 => ?_
        have e8 : (c ++ c1 ++ [7, nI (c2.length + 2)] ++ c2 ++ [8, 0] ++ c3).set ((c ++ c1 ++ [7, 0] ++ c2).length + 1) (nI c3.length) = c ++ (c1 ++ [7, nI (c2.length + 2)] ++ c2 ++ [8, nI c3.length] ++ c3) := by
          rw [set_op (c ++ c1 ++ [7, nI (c2.length + 2)] ++ c2) c3 8 0 _ _ (by simp only [List.length_append, List.length_cons, List.length_nil])]
          simp only [List.append_assoc]
        have m8' := kq_cast m8 e8
        refine ux_BN 1 rfl ?_
        exact ux_Bri rfl (Or.inl rfl) (hS t2 q3 _ (by rw [cBi_of hr1, cBi_of hr2, cBi_of hr3]) (by omega) _ _ _ m8' ((hcal2.trans hcal4 (by omega) (by omega)).trans hcal6 (by omega) (by omega)))
      · refine ux_BN 1 rfl ?_
        refine ux_Bno (by decide) ?_
        refine ux_BN 1 rfl ?_
        exact ux_Bri rfl (Or.inl rfl) (hF k2 pl (by rw [cBi_of hr1, cBi_of hr2, cBi_inl hr]) _ _ _ _ _ m6)
    · refine ux_BN 4 rfl ?_
      refine ux_Bno (by decide) ?_
      refine ux_BN 1 rfl ?_
      exact ux_Bri rfl (Or.inl rfl) (hF k2 pl (by rw [cBi_of hr1, cBi_inl hr]) _ _ _ _ _ m4)
  · refine ux_BN 1 rfl ?_
    refine ux_Bno (by decide) ?_
    refine ux_BN 1 rfl ?_
    exact ux_Bri rfl (Or.inl rfl) (hF k2 pl (by rw [cBi_inl hr]) _ _ _ _ _ m2)
theorem ko_args (ih : kIH sc (D + 1) E0 u sl tl own L (dep + 1) x z rc) (hg : cGood L rc) (h : Nat) (hh : h < 8) (s : Int32) (N : Nat) (hN : sPar s = nI N) (hN4 : N < 4) :
    ∀ n k p cal c E w, k + n = N → kq E0 u sl tl own L p 0 (-1) cal c E → p ≤ L → L ≤ 30 → cz 0 0 p (c.length + 2) →
    (∀ q c', cAr rc s n k p = .inr (0, q, c') → p ≤ q → ∀ E' w' cal', kq E0 u sl tl own L q 0 (-1) cal' (c ++ c' ++ [9, nI h]) E' → calR (fun i => tl.getD i 0) (fun h => sl.getD h 0) p q cal cal' → K (.inr (some (.int (sRes s)))) E' x z w') →
    (∀ k2 pl, cAr rc s n k p = .inl (k2, pl) → ∀ E' w' p' cal' c', kq E0 u sl tl own L p' k2 pl cal' c' E' → K (.inr (some (.int (-1)))) E' x z w') →
    ux_B uxP sc (D + 3) 34 42 [.ref 9, .ref u, .ref 2, .int (nI h), .int (nI dep), .int s, .int (nI k)] [] E x z w K := by
  intro n
  induction n with
  | zero =>
    intro k p cal c E w hk m hp hL hz hS hF
    refine ux_BN 2 rfl ?_
    refine ux_Bk (j := 25) rfl rfl ?_
    refine ko_params s ?_
    rw [hN]
    refine ux_BN 1 rfl ?_
    refine ux_Byes (nI_le (by omega) (by omega)) ?_
    refine ux_BN 3 rfl ?_
    refine ux_Bv rfl rfl rfl m.ou rfl (by decide) rfl rfl ?_
    refine ko_put2 m 9 (nI h) (by obtain ⟨a1, a2, a3, a4⟩ := hz; omega) fun E2 w2 m2 => ?_
    refine ux_BN 1 rfl ?_
    refine ux_Bk (j := 18) rfl rfl ?_
    refine ko_result s ?_
    exact ux_Bri rfl (Or.inl rfl) (hS p [] rfl (Nat.le_refl _) _ _ _ (by simpa using m2) (calR.refl _ _ _ _))
  | succ n ihn =>
    intro k p cal c E w hk m hp hL hz hS hF
    have hz0 : cz 0 0 p c.length := by obtain ⟨a1, a2, a3, a4⟩ := hz; exact ⟨a1, a2, by omega, a4⟩
    refine ux_BN 2 rfl ?_
    refine ux_Bk (j := 25) rfl rfl ?_
    refine ko_params s ?_
    rw [hN]
    refine ux_BN 1 rfl ?_
    refine ux_Bno (nI_ge (by omega) (by omega)) ?_
    refine ux_BN 5 rfl ?_
    refine ux_Bk (j := 27) rfl rfl ?_
    refine ko_type s (nI k) ?_
    refine ux_BN 3 rfl ?_
    refine ux_Btop (nI (dep + 1)) (nI_1 _) ?_
    refine ux_Bv rfl rfl rfl m.o9 rfl (by decide) rfl rfl ?_
    refine ko_part ih hg m hp hz0 (sTyp s (nI k)) (fun t q c' hr g4 g1 g2 E2 w2 cal2 m2 hcal2 => ?_) (fun k2 pl hr E2 w2 p2 cal2 c2 m2 => ?_)
    · have hz2 := cz_add hz g4
      have hc1 : ∀ r, cAr rc s n (k + 1) q = r → cAr rc s (n + 1) k p = cBi r fun _ q2 c2 => .inr (0, q2, c' ++ c2) := by
        intro r hr2
        show cBi (cPa rc (sTyp s (nI k)) p) _ = _
        rw [cBi_of hr, ← hr2]
      refine ux_BN 1 rfl ?_
      refine ux_Byes (by decide) ?_
      refine ux_BN 2 rfl ?_
      have hrec := fun w => ihn (k + 1) q cal2 (c ++ c') E2 w (by omega) m2 g2 hL (by
        obtain ⟨a1, a2, a3, a4⟩ := hz2
        exact ⟨a1, a2, by rw [List.length_append]; omega, by omega⟩) (fun q3 c3 hr3 hq3 E3 w3 cal3 m3 hcal3 => hS q3 (c' ++ c3) (by rw [hc1 _ hr3]; rfl) (by omega) E3 w3 cal3 (by rw [← List.append_assoc]; exact m3) (hcal2.trans hcal3 (by omega) hq3)) (fun k2 pl hr3 => hF k2 pl (by rw [hc1 _ hr3]; rfl))
      rw [← show nI k + Int32.ofInt 1 = nI (k + 1) from nI_1 k] at hrec
      exact hrec _
    · refine ux_BN 1 rfl ?_
      refine ux_Bno (by decide) ?_
      refine ux_BN 1 rfl ?_
      exact ux_Bri rfl (Or.inl rfl) (hF k2 pl (by show cBi (cPa rc (sTyp s (nI k)) p) _ = _; rw [cBi_inl hr]) _ _ _ _ _ m2)
theorem ko_call (ih : kIH sc (D + 1) E0 u sl tl own L (dep + 1) x z rc) (hg : cGood L rc) (hL : L ≤ 30) (m : kq E0 u sl tl own L p 0 (-1) cal c E) (hp : p < L) (hz : cz 0 0 p c.length) (h : Nat) (hh : h < 8) (htk : tl.getD p 0 = nI (h + 11)) (hsg : sl.getD h 0 = -1 ∨ ∃ j, j < 64 ∧ sl.getD h 0 = nI j)
    (hS : ∀ t q c', (if sl.getD h 0 = -1 then Sum.inl (4, nI p) else cBi (cAr rc (sl.getD h 0) (sPar (sl.getD h 0)).toNatClampNeg 0 (p + 1)) fun _ q c => .inr (sRes (sl.getD h 0), q, c ++ [9, nI h])) = (.inr (t, q, c') : cR) → ∀ E' w' cal', kq E0 u sl tl own L q 0 (-1) cal' (c ++ c') E' → calR (fun i => tl.getD i 0) (fun h => sl.getD h 0) p q cal cal' → K (.inr (some (.int t))) E' x z w')
    (hF : ∀ k2 pl, (if sl.getD h 0 = -1 then Sum.inl (4, nI p) else cBi (cAr rc (sl.getD h 0) (sPar (sl.getD h 0)).toNatClampNeg 0 (p + 1)) fun _ q c => .inr (sRes (sl.getD h 0), q, c ++ [9, nI h])) = (.inl (k2, pl) : cR) → ∀ E' w' p' cal' c', kq E0 u sl tl own L p' k2 pl cal' c' E' → K (.inr (some (.int (-1)))) E' x z w') : ux_Bm uxP sc (D + 3) 34 [.ref 9, .ref u, .ref 2, .int (nI h), .int (nI dep)] E x z K := by
  show ux_B uxP sc (D + 3) 34 0 [.ref 9, .ref u, .ref 2, .int (nI h), .int (nI dep), .null, .null] [] E x z false K
  obtain ⟨hz1, hz2, hz3⟩ := cz_tok hz
  have hsl : sl.length = 8 := m.2.2.2.2.2.2.2.1.2
  refine ux_BN 2 rfl ?_
  refine ux_BildN h rfl m.osg rfl (by omega) (by omega) ?_
  refine ux_BN 4 rfl ?_
  by_cases hs : sl.getD h 0 = -1
  · rw [if_pos hs] at hF
    refine ux_Bno (not_not_intro hs) ?_
    refine ux_BN 3 rfl ?_
    refine ux_Bget rfl rfl m.o9 rfl ?_
    refine ux_Bv rfl rfl rfl m.o9 rfl (by decide) rfl rfl ?_
    refine ko_fault m 4 (nI p) fun E1 w1 m1 => ?_
    exact ux_Bri rfl (Or.inl rfl) (hF 4 (nI p) rfl _ _ _ _ _ m1)
  · rw [if_neg hs] at hF hS
    obtain ⟨j, hj, hsg⟩ := hsg.resolve_left hs
    have hN : sPar (sl.getD h 0) = nI (j % 4) := by rw [hsg]; exact sPar_nI j hj
    have hN2 : (sPar (sl.getD h 0)).toNatClampNeg = j % 4 := by rw [hN, nI_clamp (by omega)]
    rw [hN2] at hF hS
    refine ux_Byes hs ?_
    refine ux_BN 2 rfl ?_
    refine ux_Bget rfl rfl m.o9 rfl ?_
    refine ux_BN 2 rfl ?_
    refine kq_setplace m (p + 1) rfl rfl rfl (nI_1 p) fun E1 m1 => ?_
    refine ux_BN 1 rfl ?_
    refine ux_Bget rfl rfl m1.ou rfl ?_
    refine ux_BN 2 rfl ?_
    refine kq_setcalled m1 h rfl hh rfl fun E2 m2 => ?_
    refine ux_BN 2 rfl ?_
    have hcal0 : calR (fun i => tl.getD i 0) (fun h => sl.getD h 0) p (p + 1) cal (cal.set h (sl.getD h 0)) := calR_call hh htk hs m.2.2.2.2.2.1.2
    exact ko_args ih hg h hh _ (j % 4) hN (by omega) (j % 4) 0 (p + 1) _ c E2 _ (by omega) m2 (by omega) hL hz1 (fun q c' hr hq E3 w3 cal3 m3 hcal3 => hS _ q (c' ++ [9, nI h]) (by rw [cBi_of hr]) E3 w3 cal3 (by rw [← List.append_assoc]; exact m3) (hcal0.trans hcal3 (by omega) hq)) (fun k2 pl hr => hF k2 pl (by rw [cBi_inl hr]))
end KF
