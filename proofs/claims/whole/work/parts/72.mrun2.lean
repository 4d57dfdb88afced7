/-! The reference's run, whole. -/
section MRn2
variable {sc : List Int32} {d : Nat} {E0 E : ux_Ev} {g : Nat → Int32} {A : Nat → List Int32} {x z : Nat} {w : Bool} {K : ux_K1} {W AD PR : List Int32} {L : Nat} {S B R : List Int32} {y0 : Int32}
theorem mr_loop {A0 : Nat → List Int32} (hW : A0 226 = W) (hAD : A0 227 = AD) (hPQ : ∀ f, f < 8 → ¬ AD.getD f 0 = -1 → (A0 228).getD f 0 = PR.getD f 0) (hL : L ≤ 300) {fu : Nat} (hfu : fu ≤ 1000) {o : Int32} {sp' : Nat} {s' : rT} (hs40 : s'.2.2.2.1.length = 40) (v1 v2 v3 v4 v5 : Value)
    (hK : ∀ E' w' g' A', md E0 g' A' E' → mW A' A0 y0 s'.2.2.2.1 s'.2.2.2.2.1 s'.2.2.2.2.2 → g' 0 = 0 → g' 31 = (if o = 0 then s'.2.2.2.1.getD 0 0 else 0) → g' 32 = nI sp' → (∀ j, j ≠ 0 → j ≠ 31 → j ≠ 32 → g' j = g j) → K (.inr (some (.int o))) E' x z w') :
    ∀ m k E1 w g1 A1 n F pc S B R v10 v11, k + m = fu → md E0 g1 A1 E1 → mW A1 A0 y0 S B R → g1 0 = 0 → g1 31 = 0 → g1 32 = nI k → (∀ j, j ≠ 0 → j ≠ 31 → j ≠ 32 → g1 j = g j) → F ≠ 0 → F ≤ 12 → rN W AD PR L m k (n, F, pc, S, B, R) o sp' s' → ux_B uxP sc (d + 1) 114 123 [.ref 210, v1, v2, v3, v4, v5, .int (nI fu), .int (nI n), .int (nI F), .int (nI pc), v10, v11] [] E1 x z w K := by
  intro m
  induction m with
  | zero =>
    intro k E1 w g1 A1 n F pc S B R v10 v11 hk m1 hA h0 h31 h32 hg hF hF12 hr
    obtain ⟨r1, r2, r3⟩ := hr
    refine ux_BN 2 rfl ?_
    refine ux_Bno (nI_nle (n := F) (by omega) (by omega)) ?_
    refine ux_BN 1 rfl ?_
    refine ux_Bget rfl rfl m1.1 rfl ?_
    refine ux_Btop (nI k) h32 ?_
    refine ux_BN 2 rfl ?_
    refine ux_Bno (fun e => e (by rw [show k = fu by omega])) ?_
    refine ux_BN 1 rfl ?_
    subst r1 r2 r3
    exact ux_Bri rfl (Or.inl rfl) (hK _ _ _ _ m1 hA h0 (by rw [if_neg (by decide)]; exact h31) h32 hg)
  | succ m ih =>
    intro k E1 w g1 A1 n F pc S B R v10 v11 hk m1 hA h0 h31 h32 hg hF hF12 hr
    obtain ⟨o1, s1, r1, r2⟩ := hr
    have q0 : fU g1 32 (nI (k + 1)) 0 = 0 := by rw [fU_ne _ _ (by decide)]; exact h0
    have q31 : fU g1 32 (nI (k + 1)) 31 = 0 := by rw [fU_ne _ _ (by decide)]; exact h31
    have q32 : fU g1 32 (nI (k + 1)) 32 = nI (k + 1) := fU_at _ _ _
    have qg : ∀ j, j ≠ 0 → j ≠ 31 → j ≠ 32 → fU g1 32 (nI (k + 1)) j = g j := fun j j0 j1 j2 => by rw [fU_ne _ _ j2]; exact hg j j0 j1 j2
    refine mo_step m1 hA hW hAD hPQ hL hF hF12 (show k < fu by omega) hfu h32 r1 v1 v2 v3 v4 v5 v10 v11 (fun ho1 hF1 hF2 E2 w2 A2 u10 u11 m2 hA2 => ?_) (fun ho1 ho2 E2 w2 A2 m2 hA2 => ?_) (fun ho1 E2 w2 A2 u7 u9 u10 u11 m2 hA2 => ?_)
    · rcases r2 with ⟨_, r2⟩ | ⟨hne, _⟩
      · exact ih (k + 1) E2 w2 _ A2 _ _ _ _ _ _ u10 u11 (by omega) m2 hA2 q0 q31 q32 qg hF1 hF2 r2
      · exact absurd ho1 hne
    · rcases r2 with ⟨e, _⟩ | ⟨_, r3, r4, r5⟩
      · exact absurd e ho1
      · subst r3 r4 r5
        exact hK _ _ _ _ m2 hA2 q0 (by rw [if_neg ho2]; exact q31) q32 qg
    · rcases r2 with ⟨e, _⟩ | ⟨_, r3, r4, r5⟩
      · rw [ho1] at e; exact absurd e (by decide)
      · subst r3 r4 r5
        refine ux_BN 2 rfl ?_
        refine ux_Byes (by decide) ?_
        refine ux_BN 2 rfl ?_
        refine ux_Bget rfl rfl m2.1 rfl ?_
        refine ux_BN 1 rfl ?_
        refine mr_ild m2 235 0 rfl (by decide) (show 0 < 41 by decide) rfl ?_
        rw [hA2.at (by omega)]
        refine mr_put m2 rfl rfl rfl (by decide) rfl fun E3 m3 => ?_
        refine ux_BN 1 rfl ?_
        have := hK _ true _ _ m3 hA2 (by rw [fU_ne _ _ (by decide)]; exact q0) (by rw [fU_at, if_pos ho1]) (by rw [fU_ne _ _ (by decide)]; exact q32) (fun j j0 j1 j2 => by rw [fU_ne _ _ j1]; exact qg j j0 j1 j2)
        rw [ho1] at this
        exact ux_Bri rfl (Or.inl rfl) this
theorem mo_run (hm : md E0 g A E) (hW : A 226 = W) (hAD : A 227 = AD) (hS : A 235 = S ++ [y0]) (hB : A 237 = B) (hR : A 236 = R) (hPQ : ∀ f, f < 8 → ¬ AD.getD f 0 = -1 → (A 228).getD f 0 = PR.getD f 0) (hL : L ≤ 300) (v a b c fu : Int32)
    (hK1 : (v < 0 ∨ 8 ≤ v) ∨ (∃ f, f < 8 ∧ v = nI f ∧ AD.getD f 0 = -1) → ∀ E' w', md E0 (fU g 0 1) A E' → K (.inr (some (.int 0))) E' x z w')
    (hK2 : ∀ f, f < 8 → v = nI f → ¬ AD.getD f 0 = -1 → ∃ p ad o sp' s', p ≤ 3 ∧ PR.getD f 0 = nI p ∧ AD.getD f 0 = nI ad ∧ ad < 300 ∧ rN W AD PR L (fuC fu) 0 (p, 1, ad, ((S.set 0 a).set 1 b).set 2 c, B.set 0 0, R) o sp' s' ∧ s'.2.2.2.1.length = 40 ∧ ∀ E' w' g' A', md E0 g' A' E' → mW A' A y0 s'.2.2.2.1 s'.2.2.2.2.1 s'.2.2.2.2.2 → g' 0 = 0 → g' 31 = (if o = 0 then s'.2.2.2.1.getD 0 0 else 0) → g' 32 = nI sp' → (∀ j, j ≠ 0 → j ≠ 31 → j ≠ 32 → g' j = g j) → K (.inr (some (.int o))) E' x z w') (hS40 : S.length = 40) : ux_Bm uxP sc (d + 1) 114 [.ref 210, .int v, .int a, .int b, .int c, .int fu] E x z K := by
  show ux_B uxP sc (d + 1) 114 0 [.ref 210, .int v, .int a, .int b, .int c, .int fu, .null, .null, .null, .null, .null, .null] [] E x z false K
  refine ux_BN 3 rfl ?_
  refine ux_Bk (j := 82) rfl rfl ?_
  refine mo_out v 8 ?_
  refine ux_BN 1 rfl ?_
  refine ux_Bv rfl rfl rfl hm.1 rfl (by decide) rfl rfl ?_
  refine mo_fails hm (oB v 8) 1 (oB01 v 8) fun E1 m1 => ?_
  refine ux_BN 1 rfl ?_
  refine ux_Bif (fun h1 => ?_) (fun h1 => ?_)
  · rw [if_neg h1] at m1
    refine ux_BN 1 rfl ?_
    exact ux_Bri rfl (Or.inl rfl) (hK1 (Or.inl (oB_n0 h1)) _ _ m1)
  · have h1' : oB v 8 = 0 := Decidable.not_not.mp h1
    rw [if_pos h1'] at m1
    obtain ⟨f, hf, rfl⟩ := oB_at (n := 8) rfl (by decide) h1'
    refine ux_BN 2 rfl ?_
    refine ux_Bget rfl rfl m1.1 rfl ?_
    refine ux_BN 1 rfl ?_
    refine mr_ild m1 227 f rfl (by decide) (show f < 8 from hf) rfl ?_
    rw [hAD]
    by_cases ha : AD.getD f 0 = -1
    · rw [ha]
      refine ux_BN 1 rfl ?_
      refine ux_Bno (by decide) ?_
      refine ux_BN 3 rfl ?_
      refine ux_Bv rfl rfl rfl m1.1 rfl (by decide) rfl rfl ?_
      refine mo_fails m1 1 1 (Or.inr rfl) fun E2 m2 => ?_
      rw [if_neg (by decide), fU_fU] at m2
      refine ux_BN 1 rfl ?_
      refine ux_Bno (by decide) ?_
      refine ux_BN 1 rfl ?_
      exact ux_Bri rfl (Or.inl rfl) (hK1 (Or.inr ⟨f, hf, rfl, ha⟩) _ _ m2)
    · obtain ⟨p, ad, o, sp', s', k1, k2, k3, k4, k5, k6, k7⟩ := hK2 f hf rfl ha
      rw [k3]
      refine ux_BN 1 rfl ?_
      refine ux_Byes (nI_pos' (by omega)) ?_
      refine ux_BN 2 rfl ?_
      refine ux_Bv rfl rfl rfl m1.1 rfl (by decide) rfl rfl ?_
      refine mo_fails m1 0 1 (Or.inl rfl) fun E2 m2 => ?_
      rw [if_pos rfl, fU_fU] at m2
      refine ux_BN 1 rfl ?_
      refine ux_Byes rfl ?_
      have hgo : ∀ q w, q = nI (fuC fu) → ux_B uxP sc (d + 1) 114 63 [.ref 210, .int (nI f), .int a, .int b, .int c, .int fu, .null, .null, .null, .null, .null, .null] [.int q] E2 x z w K := by
        intro q w hq
        subst hq
        refine ux_BN 3 rfl ?_
        refine mr_put m2 rfl rfl rfl (by decide) rfl fun E3 m3 => ?_
        refine ux_BN 2 rfl ?_
        refine mr_put m3 rfl rfl rfl (by decide) rfl fun E4 m4 => ?_
        refine ux_BN 1 rfl ?_
        refine ux_Bget rfl rfl m4.1 rfl ?_
        refine ux_BN 1 rfl ?_
        refine mr_ild m4 228 f rfl (by decide) (show f < 8 from hf) rfl ?_
        rw [hPQ f hf ha, k2]
        refine ux_BN 2 rfl ?_
        have hA : mW A A y0 S B R := ⟨hS, hB, hR, fun _ _ => rfl⟩
        refine ux_Bget rfl rfl m4.1 rfl ?_
        refine ux_BN 2 rfl ?_
        refine mr_ist m4 235 0 rfl (by decide) (show 0 < 41 by decide) rfl fun E5 m5 => ?_
        have hA5 := hA.s (i := 0) (by omega) a
        refine ux_BN 1 rfl ?_
        refine ux_Bget rfl rfl m5.1 rfl ?_
        refine ux_BN 2 rfl ?_
        refine mr_ist m5 235 1 rfl (by decide) (show 1 < 41 by decide) rfl fun E6 m6 => ?_
        have hA6 := hA5.s (i := 1) (by rw [List.length_set]; omega) b
        refine ux_BN 1 rfl ?_
        refine ux_Bget rfl rfl m6.1 rfl ?_
        refine ux_BN 2 rfl ?_
        refine mr_ist m6 235 2 rfl (by decide) (show 2 < 41 by decide) rfl fun E7 m7 => ?_
        have hA7 := hA6.s (i := 2) (by rw [List.length_set, List.length_set]; omega) c
        refine ux_BN 3 rfl ?_
        refine ux_Bget rfl rfl m7.1 rfl ?_
        refine ux_BN 2 rfl ?_
        refine mr_ist m7 237 0 rfl (by decide) (show 0 < 12 by decide) rfl fun E8 m8 => ?_
        have hA8 := hA7.b 0 0
        refine ux_BN 1 rfl ?_
        refine ux_Bget rfl rfl m8.1 rfl ?_
        refine ux_BN 1 rfl ?_
        refine mr_ild m8 227 f rfl (by decide) (show f < 8 from hf) rfl ?_
        refine ux_Btop (nI ad) ((congrArg (fun l : List Int32 => l.getD f 0) ((hA8.2.2.2 227 (by decide)).trans hAD)).trans k3) ?_
        refine ux_BN 1 rfl ?_
        exact mr_loop hW hAD hPQ hL (fuC_le fu) k6 _ _ _ _ _ k7 (fuC fu) 0 E8 _ _ _ p 1 ad _ _ _ _ _ (by omega) m8 hA8 (by rw [fU_ne _ _ (by decide), fU_ne _ _ (by decide), fU_at]) (by rw [fU_ne _ _ (by decide), fU_at]; rfl) (by rw [fU_at]; rfl) (fun j j0 j1 j2 => by rw [fU_ne _ _ j2, fU_ne _ _ j1, fU_ne _ _ j0]) (by decide) (by decide) k5
      have hfr := fuC_ref fu
      refine ux_BN 2 rfl ?_
      refine ux_Bif (fun (h2 : 0 ≤ fu) => ?_) (fun (h2 : ¬ 0 ≤ fu) => ?_)
      · rw [if_neg (k2_nlt h2)] at hfr
        refine ux_BN 3 rfl ?_
        refine ux_Bif (fun (h3 : fu ≤ 1000) => ?_) (fun (h3 : ¬ fu ≤ 1000) => ?_)
        · rw [if_neg (k2_nlt h3)] at hfr
          refine ux_BN 1 rfl ?_
          exact hgo _ _ hfr
        · rw [if_pos (k2_lt h3)] at hfr
          refine ux_BN 2 rfl ?_
          exact hgo _ _ hfr
      · rw [if_pos (k2_lt h2)] at hfr
        refine ux_BN 2 rfl ?_
        exact hgo _ _ hfr
end MRn2
