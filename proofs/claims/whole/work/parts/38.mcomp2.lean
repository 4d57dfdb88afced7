/-! The reference's compile: every expression, then the whole text. -/
theorem set_op (a c : List Int32) (o y v : Int32) (n : Nat) (hn : n = a.length + 1) : (a ++ [o, y] ++ c).set n v = a ++ [o, v] ++ c := by
  subst hn
  rw [List.append_assoc a [o, y] c, List.set_append_right _ _ (by omega), show a.length + 1 - a.length = 1 by omega]
  simp
section MF
variable {sc : List Int32} {d : Nat} {E0 E : ux_Ev} {g0 : Nat → Int32} {A0 : Nat → List Int32} {f L : Nat} {x z : Nat} {K : ux_K1} {tk : Nat → Int32} {own : Int32} {sg : Nat → Int32}
theorem cz_tok {p n : Nat} (h : cz 0 0 p n) : cz 0 0 (p + 1) (n + 2) ∧ cz 0 0 (p + 1) n ∧ (p + 1 ≤ 30 → n + 2 ≤ 78) := by
  obtain ⟨_, m, h1, h2⟩ := h
  exact ⟨⟨by omega, m, by omega, by omega⟩, ⟨by omega, m, by omega, by omega⟩, fun h3 => by omega⟩
theorem mc_ex (hs : mS A0 f L tk own sg) : ∀ n, mIH sc d E0 g0 A0 f L x z (31 - n) (cx tk L own sg n) := by
  have hs' := hs
  obtain ⟨hf, hL, h213, htk, how, hsg⟩ := hs
  intro n
  induction n with
  | zero => intro p dd c R E v4 v5 v6 w K m hd hlim hp; omega
  | succ n ih =>
    have hg := cx_good tk L own sg n
    intro p dd c R E v4 v5 v6 w K m hd hlim hp hz hS hF
    by_cases hpL : p = L
    · exact mc_over hs' m hpL fun E' w' m' => hF 2 (nI p) (by show (if L ≤ p then _ else _) = _; rw [if_pos (by omega)]) E' w' _ _ _ m'
    have hcx : cx tk L own sg (n + 1) p = cStep (cx tk L own sg n) own sg (tk p) p := by
      show (if L ≤ p then _ else _) = _
      rw [if_neg (by omega)]
    rw [hcx] at hS hF
    obtain ⟨hz1, hz2, hz3⟩ := cz_tok hz
    have hc78 := hz3 (by omega)
    have hlR := m.lenR
    refine mc_24 hs' m (by omega) fun w => ?_
    rcases pk_ix (tk p) (n := 100) (by decide) with ht | ht | ⟨k, hk, ht⟩
    · refine mt_none1 m f (nI p) (tk p) ht fun E' w' m' => ⟨2, rfl, ?_⟩
      refine mc_77X m' hf (by decide) (by omega) fun E2 w2 c2 m2 => hF 1 (nI p) (cS_none1 ht) _ _ _ _ _ m2
    · refine mt_num m f (nI p) (tk p) ht (by omega) fun E' w' m' => ⟨0, rfl, ?_⟩
      exact hS 0 (p + 1) [0, tk p - 100] (cS_num ht) E' R _ _ m' (rk.refl _ _)
    rw [ht] at hS hF ⊢
    by_cases h3 : k < 3
    · have hP : (A0 212).getD f 0 &&& 3 = sPar own := by rw [how]; rfl
      by_cases hpar : nI k < (A0 212).getD f 0 &&& 3
      · refine mt_par m f (nI p) hf k h3 hpar (by omega) fun E' w' m' => ⟨_, rfl, ?_⟩
        rw [how]
        exact hS (sTyp own (nI k)) (p + 1) [1, nI k] (by rw [cS_par h3, if_neg (by rw [← hP]; exact k2_nle hpar)]) E' R _ _ m' (rk.refl _ _)
      · refine mt_parX m f (nI p) hf k h3 hpar (by omega) fun E' w' m' => ⟨0, rfl, ?_⟩
        exact mc_77X m' hf (by decide) (by simp; omega) fun E2 w2 c2 m2 => hF 3 (nI p) (by rw [cS_par h3, if_pos (by rw [← hP]; exact k2_le hpar)]) _ _ _ _ _ m2
    by_cases h8 : k < 8
    · -- a sign
      obtain ⟨k, rfl⟩ : ∃ j, k = j + 1 := ⟨k - 1, by omega⟩
      have hk6 : 2 ≤ k ∧ k ≤ 6 := by omega
      rw [cS_sign hk6] at hS hF
      refine mt_sign m f (nI p) (k + 1) (by omega) (by omega) fun E1 w1 m1 => ⟨2, rfl, ?_⟩
      obtain ⟨hfr1, hk1⟩ := begins_fr hlR (show dd < 32 by omega) (nI (k + 1)) (nI p)
      refine mc_open ?_
      refine mc_part (due := 0) ih hg hf hL m1 (by omega) (by omega) (by omega) hz2 (by decide) (fun E' c' R' m' hf' K' hK' => mw_sign m' (by omega) f (k + 1) (by omega) (hf'.trans hfr1) hK') (fun t q1 c1 hr1 g4 g1 g2 E2 R2 w2 m2 hk2 => ?_) (fun k2 pl hr => hF k2 pl (by rw [cBi_inl hr]))
      have hfr2 := (hk2 dd (by omega)).trans hfr1
      rw [fr_f hfr2]
      refine mq_Bv m2 rfl rfl rfl rfl rfl ?_
      refine mp_sign1 m2 (by omega) t (k + 1) (by omega) hfr2 fun E3 w3 R3 m3 hk3 hfr3 => ?_
      refine ux_BN 2 rfl ?_
      refine mc_open ?_
      have hza := cz_add hz1 g4
      have hzb : cz 0 0 q1 ((c ++ c1).length + 2) := by
        obtain ⟨a1, a2, a3, a4⟩ := hza
        exact ⟨a1, a2, by rw [List.length_append]; omega, by omega⟩
      have hzc : cz 0 0 q1 (c ++ c1).length := by
        obtain ⟨a1, a2, a3, a4⟩ := hzb
        exact ⟨a1, a2, by omega, a4⟩
      refine mc_part (due := 0) ih hg hf hL m3 (by omega) (by omega) (by omega) hzc (by decide) (fun E' c' R' m' hf' K' hK' => mw_sign m' (by omega) f (k + 1) (by omega) (hf'.trans hfr3) hK') (fun t q2 c2 hr2 g4 g1' g2' E4 R4 w4 m4 hk4 => ?_) (fun k2 pl hr => hF k2 pl (by rw [cBi_of hr1, cBi_inl hr]))
      have hfr4 := (hk4 dd (by omega)).trans hfr3
      rw [fr_f hfr4]
      have hzd := cz78 (cz_add hzb g4) (by omega)
      refine mq_Bv m4 rfl rfl rfl rfl rfl ?_
      refine mp_sign2 m4 (by omega) t k hk6 (by rw [List.length_append]; omega) hfr4 fun E5 w5 R5 m5 hk5 => ?_
      refine ux_BN 2 rfl ?_
      exact hS _ q2 (c1 ++ c2 ++ [nI k]) (by rw [cBi_of hr1, cBi_of hr2]) E5 R5 _ _ (by simpa [List.append_assoc] using m5) ((((hk1.trans (hk2.mono (by omega))).trans hk3).trans (hk4.mono (by omega))).trans hk5)
    by_cases h88 : k = 8
    · -- a choice
      subst h88
      rw [show nI 8 = 8 from rfl, cS_if] at hS hF
      refine mt_if m f (nI p) (by omega) fun E1 w1 m1 => ⟨2, rfl, ?_⟩
      obtain ⟨hfr1, hk1⟩ := begins_fr hlR (show dd < 32 by omega) 8 (nI p)
      refine mc_open ?_
      refine mc_part (due := 1) ih hg hf hL m1 (by omega) (by omega) (by omega) hz2 (by decide) (fun E' c' R' m' hf' K' hK' => mw_if0 m' (by omega) f (hf'.trans hfr1) hK') (fun t q1 c1 hr1 g4 g1 g2 E2 R2 w2 m2 hk2 => ?_) (fun k2 pl hr => hF k2 pl (by rw [cBi_inl hr]))
      have hfr2 := (hk2 dd (by omega)).trans hfr1
      rw [fr_f hfr2]
      have hza := cz_add hz1 g4
      have hzb : cz 1 0 q1 (c ++ c1 ++ [7, 0]).length := by
        obtain ⟨a1, a2, a3, a4⟩ := hza
        exact ⟨a1, a2, by simp only [List.length_append, List.length_cons, List.length_nil]; omega, by omega⟩
      have hzb0 : cz 0 0 q1 (c ++ c1 ++ [7, 0]).length := by
        obtain ⟨a1, a2, a3, a4⟩ := hzb
        exact ⟨a1, a2, by omega, by omega⟩
      have hzb8 := cz78 hzb (by omega)
      refine mq_Bv m2 rfl rfl rfl rfl rfl ?_
      refine mp_if1 m2 (by omega) t (by simp only [List.length_append, List.length_cons, List.length_nil] at hzb8 ⊢; omega) hfr2 fun E3 w3 R3 m3 hk3 hfr3 => ?_
      refine ux_BN 2 rfl ?_
      refine mc_open ?_
      refine mc_any ih hg hf hL m3 (by omega) (by omega) (by omega) hzb0 (fun E' c' R' m' hf' K' hK' => mw_if1 m' (by omega) f (hf'.trans hfr3) hK') (fun t2 q2 c2 hr2 g4' g1' g2' E4 R4 w4 m4 hk4 => ?_) (fun k2 pl hr => hF k2 pl (by rw [cBi_of hr1, cBi_inl hr]))
      have hfr4 := (hk4 dd (by omega)).trans hfr3
      rw [fr_f hfr4]
      have hzc : cz 0 0 q2 ((c ++ c1 ++ [7, 0] ++ c2).length + 2) := by
        obtain ⟨a1, a2, a3, a4⟩ := hza
        obtain ⟨b1, b2, b3, b4⟩ := g4'
        obtain ⟨e1, e2, e3, e4⟩ := hz
        obtain ⟨i1, i2, i3, i4⟩ := g4
        refine ⟨by omega, e2 + i2 + b2 + 1, ?_, by omega⟩
        simp only [List.length_append, List.length_cons, List.length_nil]
        omega
      refine mq_Bv m4 rfl rfl rfl rfl rfl ?_
      refine mp_if2 m4 (by omega) t2 ((c ++ c1).length + 1) (by simp; omega) ?_ hfr4 fun E5 w5 R5 m5 hk5 hfr5 => ?_
      · obtain ⟨a1, a2, a3, a4⟩ := hzc
        omega
      refine ux_BN 2 rfl ?_
      refine mc_open ?_
      have hset : (c ++ c1 ++ [7, 0] ++ c2).set ((c ++ c1).length + 1) (nI ((c ++ c1 ++ [7, 0] ++ c2).length + 1 - ((c ++ c1).length + 1))) ++ [8, 0] = c ++ c1 ++ [7, nI (c2.length + 2)] ++ c2 ++ [8, 0] := by
        have e1 : (c ++ c1 ++ [7, 0] ++ c2).length + 1 - ((c ++ c1).length + 1) = c2.length + 2 := by simp only [List.length_append, List.length_cons, List.length_nil]; omega
        rw [e1, set_op (c ++ c1) c2 7 0 _ _ rfl]
      have m5' := mp_cast m5 hset
      have hzd : cz 0 0 q2 (c ++ c1 ++ [7, nI (c2.length + 2)] ++ c2 ++ [8, 0]).length := by
        obtain ⟨a1, a2, a3, a4⟩ := hzc
        refine ⟨a1, a2, ?_, a4⟩
        simp only [List.length_append, List.length_cons, List.length_nil] at a3 ⊢
        omega
      have ht2 : t2 = 0 ∨ t2 = 1 := (hg _ _ _ _ hr2).2.2.1
      refine mc_part (due := t2) ih hg hf hL m5' (by omega) (by omega) (by omega) hzd (t01 ht2) (fun E' c' R' m' hf' K' hK' => mw_if2 m' (by omega) f (hf'.trans hfr5) hK') (fun t3 q3 c3 hr3 g4'' g1'' g2'' E6 R6 w6 m6 hk6 => ?_) (fun k2 pl hr => hF k2 pl (by rw [cBi_of hr1, cBi_of hr2, cBi_inl hr]))
      have hfr6 := (hk6 dd (by omega)).trans hfr5
      rw [fr_f hfr6]
      have hze := cz78 (cz_add hzd g4'') (by omega)
      refine mq_Bv m6 rfl rfl rfl rfl rfl ?_
      refine mp_if3 m6 (by omega) t3 ((c ++ c1 ++ [7, 0] ++ c2).length + 1) (by simp; omega) (by rw [List.length_append]; omega) hfr6 fun E7 w7 R7 m7 hk7 => ?_
      refine ux_BN 2 rfl ?_
      refine hS t2 q3 (c1 ++ [7, nI (c2.length + 2)] ++ c2 ++ [8, nI c3.length] ++ c3) (by rw [cBi_of hr1, cBi_of hr2, cBi_of hr3]) E7 R7 _ _ (mp_cast m7 ?_) ((((((hk1.trans (hk2.mono (by omega))).trans hk3).trans (hk4.mono (by omega))).trans hk5).trans (hk6.mono (by omega))).trans hk7)
      have e1 : (c ++ c1 ++ [7, nI (c2.length + 2)] ++ c2 ++ [8, 0] ++ c3).length - ((c ++ c1 ++ [7, 0] ++ c2).length + 1) - 1 = c3.length := by simp only [List.length_append, List.length_cons, List.length_nil]; omega
      rw [e1, set_op (c ++ c1 ++ [7, nI (c2.length + 2)] ++ c2) c3 8 0 _ _ (by simp only [List.length_append, List.length_cons, List.length_nil])]
      simp only [List.append_assoc]
    by_cases h9 : k = 9
    · subst h9
      rw [show nI 9 = 9 from rfl, cS_true] at hS
      refine mt_true m f (nI p) (by omega) fun E' w' m' => ⟨1, rfl, ?_⟩
      exact hS 1 (p + 1) [0, 1] rfl E' R _ _ m' (rk.refl _ _)
    by_cases h10 : k = 10
    · subst h10
      rw [show nI 10 = 10 from rfl, cS_false] at hS
      refine mt_false m f (nI p) (by omega) fun E' w' m' => ⟨1, rfl, ?_⟩
      exact hS 1 (p + 1) [0, 0] rfl E' R _ _ m' (rk.refl _ _)
    by_cases h19 : k < 19
    · -- a call
      obtain ⟨h, rfl⟩ : ∃ h, k = h + 11 := ⟨k - 11, by omega⟩
      have hh : h < 8 := by omega
      rw [cS_call hh] at hS hF
      by_cases h0 : (A0 211).getD h 0 = 0
      · have hsgh := (hsg h hh).1 h0
        refine mt_callX m f (nI p) h hh h0 fun E' w' m' => ⟨2, rfl, ?_⟩
        exact mc_77X m' hf (by decide) (by omega) fun E2 w2 c2 m2 => hF 4 (nI p) (by rw [if_pos hsgh]) _ _ _ _ _ m2
      · obtain ⟨hsg1, j, hj, hsg2⟩ := (hsg h hh).2 h0
        have hne : ¬ sg h = -1 := by rw [hsg2]; exact nI_m1 j hj
        have hN : (sPar (sg h)).toNatClampNeg = j % 4 := by rw [hsg2, sPar_nI j hj, nI_clamp (by omega)]
        have hP : (A0 212).getD h 0 &&& 3 = nI (j % 4) := by rw [← hsg1, hsg2]; exact sPar_nI j hj
        rw [if_neg hne, hN] at hS hF
        by_cases hj0 : j % 4 = 0
        · refine mt_call0 m f (nI p) h hh h0 (by rw [hP, hj0]; decide) (by omega) fun E' w' m' => ⟨_, rfl, ?_⟩
          rw [hj0] at hS
          rw [← hsg1, show sg h >>> ((5 : Int32) &&& 31) = sRes (sg h) from by rw [hsg2]; exact sRes_nI j hj]
          exact hS (sRes (sg h)) (p + 1) [9, nI h] rfl E' R _ _ m' (rk.refl _ _)
        · refine mt_call m f (nI p) h hh h0 (by rw [hP]; exact nI_nle (by omega) (by omega)) (by omega) fun E1 w1 m1 => ⟨2, rfl, ?_⟩
          obtain ⟨hfr1, hk1⟩ := begins_fr hlR (show dd < 32 by omega) (nI (h + 11)) (nI p)
          refine mc_open ?_
          obtain ⟨nn, hnn⟩ : ∃ nn, j % 4 = nn + 1 := ⟨j % 4 - 1, by omega⟩
          rw [hnn] at hS hF
          refine mc_args ih hg hs' h hh h0 p nn 0 (p + 1) c _ E1 _ _ _ _ (by rw [hN]; omega) m1 ⟨_, _, hfr1⟩ (by omega) (by omega) (by omega) hz1 (fun q c' hr E2 R2 v2 w2 m2 hk2 => ?_) (fun k2 pl hr => hF k2 pl (by rw [cBi_inl hr]))
          exact hS (sRes (sg h)) q (c' ++ [9, nI h]) (by rw [cBi_of hr]) E2 R2 v2 w2 (by rw [← List.append_assoc]; exact m2) (hk1.trans hk2)
    · refine mt_none2 m f (nI p) k (by omega) fun E' w' m' => ⟨2, rfl, ?_⟩
      exact mc_77X m' hf (by decide) (by omega) fun E2 w2 c2 m2 => hF 1 (nI p) (cS_none2 (by omega)) _ _ _ _ _ m2
end MF
