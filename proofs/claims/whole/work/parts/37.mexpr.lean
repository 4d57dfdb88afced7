/-! The reference's compile: an expression. -/
theorem ux_Bmm {P : ux_P} {sc : List Int32} {d j : Nat} {as : List Value} {E : ux_Ev} {x z : Nat} {K K2 : ux_K1} (hb : ux_Bm P sc d j as E x z K) (hk : ∀ o E x z w, K o E x z w → K2 o E x z w) : ux_Bm P sc d j as E x z K2 := ux_B.mono hb hk
section ME
variable {sc : List Int32} {d : Nat} {E0 E : ux_Ev} {g0 : Nat → Int32} {A0 : Nat → List Int32} {dd e f L p : Nat} {c : List Int32} {R : Nat → List Int32} {x z : Nat} {w : Bool} {K : ux_K1} {v4 v5 v6 : Value} {tk : Nat → Int32} {own : Int32} {sg : Nat → Int32}
def mK (sc : List Int32) (d f p : Nat) (v6 : Value) (K : ux_K1) (w : Bool) : ux_K1 := fun o E1 x1 z1 w1 => ∃ t, o = .inr (some (.int t)) ∧ ux_B uxP sc (d + 2) 92 77 [.ref 210, .int (nI f), .int (nI (p + 1)), .int 1, .int (nI p), .int t, v6] [] E1 x1 z1 (w || w1) K
theorem mc_24 (hs : mS A0 f L tk own sg) (m : mq E0 g0 A0 dd 0 (-1) c R E) (hp : p < L) (hT : ∀ w, ux_Bm uxP sc (d + 1) 94 [.ref 210, .int (nI f), .int (tk p), .int (nI p)] E x z (mK sc d f p v6 K w)) : ux_B uxP sc (d + 2) 92 24 [.ref 210, .int (nI f), .int (nI p), .int 1, v4, v5, v6] [] E x z w K := by
  obtain ⟨hf, hL, h213, htk, how, hsg⟩ := hs
  refine ux_BN 2 rfl ?_
  refine ux_Bno (by decide) ?_
  refine ux_BN 1 rfl ?_
  refine mq_Bfault m rfl rfl ?_
  refine ux_BN 1 rfl ?_
  refine ux_Bno (by decide) ?_
  refine ux_BN 2 rfl ?_
  refine mq_Bref m rfl rfl (fun _ => rfl) ?_
  refine ux_BN 1 rfl ?_
  refine mq_ildA m 213 f rfl (by decide) hf rfl ?_
  refine ux_BN 1 rfl ?_
  refine ux_Byes (by rw [h213]; exact nI_neq (by omega) (by omega) (by omega)) ?_
  refine ux_BN 5 rfl ?_
  refine mq_Bref m rfl rfl (fun _ => rfl) ?_
  refine ux_BN 5 rfl ?_
  refine mq_ildA m 214 (30 * f + p) rfl (by decide) (show 30 * f + p < 240 by omega) (nI_30 f p) ?_
  rw [htk p hp]
  refine ux_BN 1 rfl ?_
  refine mq_Bv m rfl rfl rfl rfl rfl ?_
  refine ux_Bmm (hT w) ?_
  rintro o E1 x1 z1 w1 ⟨t, rfl, h⟩
  refine ux_BN 2 rfl ?_
  rw [← show nI p + Int32.ofInt 1 = nI (p + 1) from nI_1 p] at h
  exact h
theorem mc_over (hs : mS A0 f L tk own sg) (m : mq E0 g0 A0 dd 0 (-1) c R E) (hp : p = L) (hK : ∀ E' w', mq E0 g0 A0 dd 2 (nI p) c R E' → K (.inr none) E' x z w') : ux_B uxP sc (d + 2) 92 24 [.ref 210, .int (nI f), .int (nI p), .int 1, v4, v5, v6] [] E x z w K := by
  obtain ⟨hf, hL, h213, htk, how, hsg⟩ := hs
  refine ux_BN 2 rfl ?_
  refine ux_Bno (by decide) ?_
  refine ux_BN 1 rfl ?_
  refine mq_Bfault m rfl rfl ?_
  refine ux_BN 1 rfl ?_
  refine ux_Bno (by decide) ?_
  refine ux_BN 2 rfl ?_
  refine mq_Bref m rfl rfl (fun _ => rfl) ?_
  refine ux_BN 1 rfl ?_
  refine mq_ildA m 213 f rfl (by decide) hf rfl ?_
  refine ux_BN 1 rfl ?_
  refine ux_Bno (by rw [h213, hp]; exact not_not_intro rfl) ?_
  refine ux_BN 3 rfl ?_
  refine mq_Bv m rfl rfl rfl rfl rfl ?_
  refine mq_wrong m 2 (nI p) fun E2 w2 m2 => ?_
  exact ux_Br rfl (hK _ _ m2)
/-- a call's arguments -/
theorem mc_args {lim : Nat} {rc : Nat → cR} (ih : mIH sc d E0 g0 A0 f L x z lim rc) (hg : cGood L rc) (hs : mS A0 f L tk own sg) (h : Nat) (hh : h < 8) (h0 : ¬ (A0 211).getD h 0 = 0) (p0 : Nat) :
    ∀ n k p c R E v4 v5 v6 w, k + n + 1 = (sPar (sg h)).toNatClampNeg → mq E0 g0 A0 (e + 1) 0 (-1) c R E → (∃ s2 hl, fr R e = (nI (h + 11), nI k, nI p0, s2, hl)) → e + 1 ≤ p → lim ≤ p → p ≤ L → cz 0 0 p (c.length + 2) →
    (∀ q c', cAr rc (sg h) (n + 1) k p = .inr (0, q, c') → ∀ E' R' v6' w', mq E0 g0 A0 e 0 (-1) (c ++ c' ++ [9, nI h]) R' E' → rk R R' e → ux_B uxP sc (d + 2) 92 77 [.ref 210, .int (nI f), .int (nI q), .int 1, .int (nI p0), .int (sRes (sg h)), v6'] [] E' x z w' K) →
    (∀ k2 pl, cAr rc (sg h) (n + 1) k p = .inl (k2, pl) → ∀ E' w' dd' c' R', mq E0 g0 A0 dd' k2 pl c' R' E' → K (.inr none) E' x z w') →
    ux_B uxP sc (d + 2) 92 24 [.ref 210, .int (nI f), .int (nI p), .int 1, v4, v5, v6] [] E x z w K := by
  have hs' := hs
  obtain ⟨hf, hL, h213, htk, how, hsg⟩ := hs
  obtain ⟨hsg1, j, hj, hsg2⟩ := (hsg h hh).2 h0
  have hN : (sPar (sg h)).toNatClampNeg = j % 4 := by rw [hsg2, sPar_nI j hj, nI_clamp (by omega)]
  have hP : (A0 212).getD h 0 &&& 3 = nI (j % 4) := by rw [← hsg1, hsg2]; exact sPar_nI j hj
  intro n
  induction n with
  | zero =>
    intro k p c R E v4 v5 v6 w hk m hfr he hlim hp hz hS hF
    obtain ⟨s2, hl, hfr⟩ := hfr
    have hz0 : cz 0 0 p c.length := by obtain ⟨a1, a2, a3, a4⟩ := hz; exact ⟨a1, a2, by omega, a4⟩
    refine mc_part (due := sTyp (sg h) (nI k)) ih hg hf hL m he hlim hp hz0 (t01 (bit01 _)) (fun E' c' R' m' hf' K' hK' => ?_) (fun t q c' hr g4 g1 g2 E' R' w' m' hk' => ?_) (fun k2 pl hr => ?_)
    · refine mw_call m' (by omega) f h k hh (hf'.trans hfr) ?_
      rw [← hsg1]; exact hK'
    · have hfr' := (hk' e (by omega)).trans hfr
      have hz2 := cz_add hz g4
      have hz3 : c.length + 2 + c'.length ≤ 78 := cz78 hz2 (by omega)
      rw [fr_f hfr']
      refine mq_Bv m' rfl rfl rfl rfl rfl ?_
      refine mp_call2 m' (by omega) t h k hh (by rw [hP]; exact nI_le (by omega) (by omega)) (by rw [List.length_append]; omega) hfr' fun E2 w2 R2 m2 hk2 => ?_
      refine ux_BN 2 rfl ?_
      have := fun w => hS q c' (by
        show cBi (cPa rc (sTyp (sg h) (nI k)) p) _ = _
        rw [cBi_of hr]
        show cBi (Sum.inr (0, q, [])) _ = _
        rw [cBi_of rfl, List.append_nil]) E2 R2 (.int (sTyp (sg h) (nI k))) w m2 ((hk'.mono (by omega)).trans hk2)
      rw [← hsg1, show sg h >>> ((5 : Int32) &&& 31) = sRes (sg h) from by rw [hsg2]; exact sRes_nI j hj]
      exact this _
    · exact hF k2 pl (by show cBi (cPa rc (sTyp (sg h) (nI k)) p) _ = _; rw [cBi_inl hr])
  | succ n ihn =>
    intro k p c R E v4 v5 v6 w hk m hfr he hlim hp hz hS hF
    obtain ⟨s2, hl, hfr⟩ := hfr
    have hz0 : cz 0 0 p c.length := by obtain ⟨a1, a2, a3, a4⟩ := hz; exact ⟨a1, a2, by omega, a4⟩
    refine mc_part (due := sTyp (sg h) (nI k)) ih hg hf hL m he hlim hp hz0 (t01 (bit01 _)) (fun E' c' R' m' hf' K' hK' => ?_) (fun t q c' hr g4 g1 g2 E' R' w' m' hk' => ?_) (fun k2 pl hr => ?_)
    · refine mw_call m' (by omega) f h k hh (hf'.trans hfr) ?_
      rw [← hsg1]; exact hK'
    · have hfr' := (hk' e (by omega)).trans hfr
      have hz2 := cz_add hz g4
      rw [fr_f hfr']
      refine mq_Bv m' rfl rfl rfl rfl rfl ?_
      refine mp_call1 m' (by omega) t h k hh (by rw [hP]; exact nI_ge (by omega) (by omega)) hfr' fun E2 w2 R2 m2 hk2 hfr2 => ?_
      refine ux_BN 2 rfl ?_
      refine mc_open ?_
      have hc1 : ∀ r, cAr rc (sg h) (n + 1) (k + 1) q = r → cAr rc (sg h) (n + 1 + 1) k p = cBi r fun _ q2 c2 => .inr (0, q2, c' ++ c2) := by
        intro r hr2
        show cBi (cPa rc (sTyp (sg h) (nI k)) p) _ = _
        rw [cBi_of hr, ← hr2]
      refine ihn (k + 1) q (c ++ c') R2 E2 _ _ _ _ (by omega) m2 ⟨_, _, hfr2⟩ (by omega) (by omega) g2 ?_ (fun q3 c3 hr3 E3 R3 v3 w3 m3 hk3 => ?_) (fun k2 pl hr3 => ?_)
      · obtain ⟨a1, a2, a3, a4⟩ := hz2
        exact ⟨a1, a2, by rw [List.length_append]; omega, by omega⟩
      · exact hS q3 (c' ++ c3) (by rw [hc1 _ hr3]; rfl) E3 R3 v3 w3 (by rw [← List.append_assoc]; exact m3) (((hk'.mono (by omega)).trans hk2).trans hk3)
      · exact hF k2 pl (by rw [hc1 _ hr3]; rfl)
    · exact hF k2 pl (by show cBi (cPa rc (sTyp (sg h) (nI k)) p) _ = _; rw [cBi_inl hr])
end ME
