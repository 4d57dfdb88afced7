/-! The reference's link. -/
def chL (A : Nat → List Int32) (sl : List Int32) (us : Nat → List sU) : Prop := ∀ f, f < 8 → (sl.getD f 0 = -1 → (A 224).getD f 0 = -1) ∧ (¬ sl.getD f 0 = -1 → ∃ u U rs, (A 224).getD f 0 = nI u ∧ (3 * f ≤ u ∧ u < 3 * f + 3) ∧ us f = U :: rs ∧ mU A u f U)
theorem mU.same {A A2 : Nat → List Int32} {s f : Nat} {U : sU} (h : mU A s f U) (hs : ∀ a, 216 ≤ a → a ≤ 220 → A2 a = A a) : mU A2 s f U := by
  unfold mU at h ⊢
  rw [hs 216 (by decide) (by decide), hs 217 (by decide) (by decide), hs 218 (by decide) (by decide), hs 219 (by decide) (by decide), hs 220 (by decide) (by decide)]
  exact h
section ML
variable {sc : List Int32} {d : Nat} {E0 E : ux_Ev} {g : Nat → Int32} {A : Nat → List Int32} {x z : Nat} {w : Bool} {K : ux_K1} {sl : List Int32} {us : Nat → List sU}
theorem ml_copy {f u a : Nat} {U : sU} {AD : List Int32} (hf : f < 8) (hu : u < 24) (haf : AD.getD f 0 = nI a) (haL : a + U.2.2.2.length ≤ 300) (h80 : U.2.2.2.length ≤ 80) (W : List Int32) (A0 : Nat → List Int32) (h227 : A0 227 = AD) (hU : mU A0 u f U)
    (hK : ∀ E' w' A' v3 v4 v5, md E0 g A' E' → A' 226 = wrAt W a (lk (fun k => AD.getD k 0) U.2.2.2) → (∀ b, b ≠ 226 → A' b = A0 b) → ux_B uxP sc (d + 1) 108 214 [.ref 210, .int (nI f), .int (nI u), v3, v4, v5] [] E' x z w' K) :
    ∀ n k r v4 v5 E2 w A2, r.length ≤ n → cSh r → U.2.2.2.length = k + r.length → (∀ j, j < r.length → U.2.2.2.getD (k + j) 0 = r.getD j 0) → md E0 g A2 E2 → (∀ b, b ≠ 226 → A2 b = A0 b) → wrAt (A2 226) (a + k) (lk (fun k => AD.getD k 0) r) = wrAt W a (lk (fun k => AD.getD k 0) U.2.2.2) → ux_B uxP sc (d + 1) 108 103 [.ref 210, .int (nI f), .int (nI u), .int (nI k), v4, v5] [] E2 x z w K := by
  have hend : ∀ k v4 v5 E2 w A2, k = U.2.2.2.length → md E0 g A2 E2 → (∀ b, b ≠ 226 → A2 b = A0 b) → A2 226 = wrAt W a (lk (fun k => AD.getD k 0) U.2.2.2) → ux_B uxP sc (d + 1) 108 103 [.ref 210, .int (nI f), .int (nI u), .int (nI k), v4, v5] [] E2 x z w K := by
    intro k v4 v5 E2 w A2 hk m e2 e3
    refine ux_BN 2 rfl ?_
    refine ux_Bno (nI_pos (by omega)) ?_
    refine ux_BN 2 rfl ?_
    refine ux_Bget rfl rfl m.1 rfl ?_
    refine ux_BN 1 rfl ?_
    refine mr_ild m 219 u rfl (by decide) (show u < 24 from hu) rfl ?_
    rw [(hU.same fun a h1 h2 => e2 a (by omega)).2.2.2.1]
    refine ux_BN 1 rfl ?_
    refine ux_Byes (by subst hk; exact Int32.le_refl _) ?_
    exact hK _ _ _ _ _ _ m e3 e2
  intro n
  induction n with
  | zero =>
    intro k r v4 v5 E2 w A2 hn hr hl hg m e2 e3
    cases r with
    | nil => exact hend k _ _ _ _ A2 (by simp at hl; omega) m e2 e3
    | cons y r => simp at hn
  | succ n ih =>
    intro k r v4 v5 E2 w A2 hn hr hl hg m e2 e3
    cases r with
    | nil => exact hend k _ _ _ _ A2 (by simp at hl; omega) m e2 e3
    | cons y r =>
      rw [List.length_cons] at hn hl
      have hy : U.2.2.2.getD k 0 = y := hg 0 (by simp)
      have hU2 := hU.same fun a h1 h2 => e2 a (by omega)
      have h227' : A2 227 = AD := by rw [e2 227 (by decide)]; exact h227
      refine ux_BN 2 rfl ?_
      refine ux_Bno (nI_pos (by omega)) ?_
      refine ux_BN 2 rfl ?_
      refine ux_Bget rfl rfl m.1 rfl ?_
      refine ux_BN 1 rfl ?_
      refine mr_ild m 219 u rfl (by decide) (show u < 24 from hu) rfl ?_
      rw [hU2.2.2.2.1]
      refine ux_BN 1 rfl ?_
      refine ux_Bno (nI_ge (by omega) (by omega)) ?_
      refine ux_BN 1 rfl ?_
      refine ux_Bget rfl rfl m.1 rfl ?_
      refine ux_BN 5 rfl ?_
      refine mr_ild m 220 (80 * u + k) rfl (by decide) (show 80 * u + k < 1920 by omega) (nI_80 u k) ?_
      rw [hU2.2.2.2.2 k (by omega), hy]
      refine ux_BN 2 rfl ?_
      refine ux_Bget rfl rfl m.1 rfl ?_
      refine ux_BN 1 rfl ?_
      refine ux_Bget rfl rfl m.1 rfl ?_
      refine ux_BN 1 rfl ?_
      refine mr_ild m 227 f rfl (by decide) (show f < 8 from hf) rfl ?_
      rw [h227', haf]
      refine ux_BN 3 rfl ?_
      refine mr_ist m 226 (a + k) rfl (by decide) (show a + k < 300 by omega) (nI_add a k) fun E3 m3 => ?_
      have e23 : ∀ b, b ≠ 226 → fU A2 226 ((A2 226).set (a + k) y) b = A0 b := fun b hb => by rw [fU_ne _ _ hb]; exact e2 b hb
      have hU3 := hU.same fun a h1 h2 => e23 a (by omega)
      have h227'' : fU A2 226 ((A2 226).set (a + k) y) 227 = AD := by rw [e23 227 (by decide)]; exact h227
      refine ux_BN 1 rfl ?_
      refine ux_Bk (j := 109) rfl rfl ?_
      refine mo_wordsOf y ?_
      by_cases ho : 2 ≤ y ∧ y ≤ 6
      · rw [if_pos ho]
        refine ux_BN 2 rfl ?_
        refine ux_Byes (by decide) ?_
        refine ux_BN 2 rfl ?_
        refine ux_Bk (j := 109) rfl rfl ?_
        refine mo_wordsOf y ?_
        rw [if_pos ho]
        refine ux_BN 3 rfl ?_
        rw [lk_op ho] at e3
        have := fun w => ih (k + 1) r (.int y) v5 _ w _ (by omega) (cSh_1 hr ho) (by omega) (fun j hj => by rw [show k + 1 + j = k + (j + 1) by omega]; exact hg (j + 1) (by simp; omega)) m3 e23 (by rw [fU_at]; exact e3)
        rw [← nI_s] at this
        exact this _
      · obtain ⟨y2, r2, rfl, h9, hr2⟩ := cSh_2 hr ho
        rw [lk_two ho] at e3
        rw [List.length_cons] at hn hl
        have hy2 : U.2.2.2.getD (k + 1) 0 = y2 := hg 1 (by simp)
        rw [if_neg ho]
        refine ux_BN 2 rfl ?_
        refine ux_Bno (by decide) ?_
        refine ux_BN 1 rfl ?_
        refine ux_Bget rfl rfl m3.1 rfl ?_
        refine ux_BN 7 rfl ?_
        refine mr_ild m3 220 (80 * u + (k + 1)) rfl (by decide) (show 80 * u + (k + 1) < 1920 by omega) (show (80 : Int32) * nI u + nI k + 1 = _ by rw [nI_80]; exact nI_1 _) ?_
        rw [hU3.2.2.2.2 (k + 1) (by omega), hy2]
        refine ux_BN 2 rfl ?_
        refine ux_Bget rfl rfl m3.1 rfl ?_
        refine ux_BN 1 rfl ?_
        refine ux_Bget rfl rfl m3.1 rfl ?_
        refine ux_BN 1 rfl ?_
        refine mr_ild m3 227 f rfl (by decide) (show f < 8 from hf) rfl ?_
        rw [h227'', haf]
        refine ux_BN 7 rfl ?_
        have hw : ∀ v w, v = lkO (fun k => AD.getD k 0) y y2 → ux_B uxP sc (d + 1) 108 202 [.ref 210, .int (nI f), .int (nI u), .int (nI k), .int y, .int y2] [.int v, .int (nI a + nI k + 1), .ref 226] E3 x z w K := by
          intro v w hv
          subst hv
          refine mr_ist m3 226 (a + k + 1) rfl (by decide) (show a + k + 1 < 300 by omega) (by rw [nI_add]; exact nI_1 _) fun E4 m4 => ?_
          refine ux_BN 2 rfl ?_
          refine ux_Bk (j := 109) rfl rfl ?_
          refine mo_wordsOf y ?_
          rw [if_neg ho]
          refine ux_BN 1 rfl ?_
          refine ux_Btop (nI (k + 2)) (nI_add k 2) ?_
          refine ux_BN 2 rfl ?_
          exact ih (k + 2) r2 (.int y) (.int y2) _ _ _ (by omega) hr2 (by omega) (fun j hj => by rw [show k + 2 + j = k + (j + 2) by omega]; exact hg (j + 2) (by simp; omega)) m4 (fun b hb => by rw [fU_ne _ _ hb]; exact e23 b hb) (by rw [fU_at, fU_at]; exact e3)
        refine ux_Bne (fun (h9' : y = 9) => ?_) (fun (h9' : ¬ y = 9) => ?_)
        · obtain ⟨k2, hk2, rfl⟩ := h9 h9'
          refine ux_BN 1 rfl ?_
          refine ux_Bget rfl rfl m3.1 rfl ?_
          refine ux_BN 1 rfl ?_
          refine mr_ild m3 227 k2 rfl (by decide) (show k2 < 8 from hk2) rfl ?_
          rw [h227'']
          refine ux_BN 1 rfl ?_
          refine hw _ _ ?_
          unfold lkO
          rw [if_pos h9', nI_clamp (by omega)]
        · refine ux_BN 1 rfl ?_
          refine hw _ _ ?_
          unfold lkO
          rw [if_neg h9']
theorem mo_link (hm : md E0 g A E) (hl : lOk sl us) (hc : chL A sl us) (hL : zN (szL sl us) 8 ≤ 300)
    (hK : ∀ E' w' g' A', md E0 g' A' E' → A' 226 = wrL sl us (A 226) 8 → A' 227 = adL sl us → A' 228 = (List.range 8).map (fun f => (A 212).getD f 0 &&& 3) → (∀ b, b < 226 ∨ 228 < b → A' b = A b) → g' 17 = nI (zN (szL sl us) 8) → (∀ j, j ≠ 17 → g' j = g j) → K (.inr none) E' x z w') : ux_Bm uxP sc (d + 1) 108 [.ref 210] E x z K := by
  show ux_B uxP sc (d + 1) 108 0 [.ref 210, .null, .null, .null, .null, .null] [] E x z false K
  have hzl : ∀ f, f < 8 → zN (szL sl us) f ≤ 300 := fun f hf => by have := zN_mono (z := szL sl us) hf; omega
  refine ux_BN 2 rfl ?_
  refine mr_put hm rfl rfl rfl (by decide) rfl fun E1 m1 => ?_
  refine ux_BN 2 rfl ?_
  have hcopy : ∀ m n E2 w g2 A2 v2 v3 v4 v5, n + m = 8 → md E0 g2 A2 E2 → A2 226 = wrL sl us (A 226) n → A2 227 = adL sl us → A2 228 = (List.range 8).map (fun f => (A 212).getD f 0 &&& 3) → (∀ b, b < 226 ∨ 228 < b → A2 b = A b) → g2 17 = nI (zN (szL sl us) 8) → (∀ j, j ≠ 17 → g2 j = g j) → ux_B uxP sc (d + 1) 108 88 [.ref 210, .int (nI n), v2, v3, v4, v5] [] E2 x z w K := by
    intro m
    induction m with
    | zero =>
      intro n E2 w g2 A2 v2 v3 v4 v5 hn m2 e1 e2 e3 e4 e5 e6
      have : n = 8 := by omega
      subst this
      refine ux_BN 3 rfl ?_
      refine ux_Byes (by decide) ?_
      exact ux_Br rfl (hK _ _ _ _ m2 e1 e2 e3 e4 e5 e6)
    | succ m ih =>
      intro n E2 w g2 A2 v2 v3 v4 v5 hn m2 e1 e2 e3 e4 e5 e6
      have hn8 : n < 8 := by omega
      have hnx : ∀ E3 w A3 v2 v3 v4 v5, md E0 g2 A3 E3 → A3 226 = wrL sl us (A 226) (n + 1) → (∀ b, b ≠ 226 → A3 b = A2 b) → ux_B uxP sc (d + 1) 108 214 [.ref 210, .int (nI n), v2, v3, v4, v5] [] E3 x z w K := by
        intro E3 w A3 v2 v3 v4 v5 m3 f1 f2
        refine ux_BN 2 rfl ?_
        have := fun w => ih (n + 1) E3 w g2 A3 v2 v3 v4 v5 (by omega) m3 f1 (by rw [f2 227 (by decide)]; exact e2) (by rw [f2 228 (by decide)]; exact e3) (fun b hb => by rw [f2 b (by omega)]; exact e4 b hb) e5 e6
        rw [← nI_s] at this
        exact this _
      refine ux_BN 3 rfl ?_
      refine ux_Bno (nI_ge hn8 (by decide)) ?_
      refine ux_BN 1 rfl ?_
      refine ux_Bget rfl rfl m2.1 rfl ?_
      refine ux_BN 1 rfl ?_
      refine mr_ild m2 224 n rfl (by decide) (show n < 8 from hn8) rfl ?_
      rw [e4 224 (by decide)]
      by_cases ha : sl.getD n 0 = -1
      · rw [(hc n hn8).1 ha]
        refine ux_BN 5 rfl ?_
        refine ux_Byes (by decide) ?_
        exact hnx _ _ _ _ _ _ _ m2 (by show _ = if sl.getD n 0 = -1 then _ else _; rw [if_pos ha]; exact e1) (fun _ _ => rfl)
      · obtain ⟨u, U, rs, c1, c2, c3, c4⟩ := (hc n hn8).2 ha
        obtain ⟨U2, rs2, d1, dV, _⟩ := hl n hn8 ha
        have hUU : U2 = U := by rw [c3] at d1; injection d1 with d1 _; exact d1.symm
        subst hUU
        have hsh := hdC_sh hl hn8 ha
        rw [c3] at hsh
        have hsz : szL sl us n = U2.2.2.2.length := by unfold szL; rw [if_neg ha, c3]; rfl
        have hz := zN_mono (z := szL sl us) hn8
        rw [c1]
        refine ux_BN 3 rfl ?_
        refine ml_copy (a := zN (szL sl us) n) (U := U2) (AD := adL sl us) hn8 (by omega) (by rw [adL_at hn8, if_neg ha]) (by omega) hsh.2.2 (wrL sl us (A 226) n) A2 e2 (c4.same fun a h1 h2 => e4 a (by omega)) (fun E3 w3 A3 v3 v4 v5 m3 f1 f2 => ?_) U2.2.2.2.length 0 U2.2.2.2 _ _ _ _ A2 (Nat.le_refl _) hsh.1 (by omega) (fun j _ => by rw [Nat.zero_add]) m2 (fun _ _ => rfl) (by rw [e1]; rfl)
        exact hnx _ _ _ _ _ _ _ m3 (by show _ = if sl.getD n 0 = -1 then _ else _; rw [if_neg ha, c3]; exact f1) f2
  have hloop : ∀ m n E2 w g2 A2, n + m = 8 → md E0 g2 A2 E2 → A2 227 = rwN (fun f => if sl.getD f 0 = -1 then -1 else nI (zN (szL sl us) f)) n (A 227) → A2 228 = rwN (fun f => (A 212).getD f 0 &&& 3) n (A 228) → (∀ b, b < 227 ∨ 228 < b → A2 b = A b) → g2 17 = nI (zN (szL sl us) n) → (∀ j, j ≠ 17 → g2 j = g j) → ux_B uxP sc (d + 1) 108 7 [.ref 210, .int (nI n), .null, .null, .null, .null] [] E2 x z w K := by
    intro m
    induction m with
    | zero =>
      intro n E2 w g2 A2 hn m2 e1 e2 e3 e4 e5
      have : n = 8 := by omega
      subst this
      refine ux_BN 3 rfl ?_
      refine ux_Byes (by decide) ?_
      refine ux_BN 2 rfl ?_
      rw [rwN_full (hm.len 227 (by decide))] at e1
      rw [rwN_full (hm.len 228 (by decide))] at e2
      exact hcopy 8 0 _ _ g2 A2 _ _ _ _ (by omega) m2 (e3 226 (by decide)) e1 e2 (fun b hb => e3 b (by omega)) e4 e5
    | succ m ih =>
      intro n E2 w g2 A2 hn m2 e1 e2 e3 e4 e5
      have hn8 : n < 8 := by omega
      have hzb := hzl n hn8
      refine ux_BN 3 rfl ?_
      refine ux_Bno (nI_ge hn8 (by decide)) ?_
      refine ux_BN 1 rfl ?_
      refine ux_Bget rfl rfl m2.1 rfl ?_
      refine ux_BN 2 rfl ?_
      refine ux_Bget rfl rfl m2.1 rfl ?_
      refine ux_BN 1 rfl ?_
      refine mr_ild m2 224 n rfl (by decide) (show n < 8 from hn8) rfl ?_
      rw [e3 224 (by decide)]
      have hA : ∀ y w, y = (if sl.getD n 0 = -1 then -1 else nI (zN (szL sl us) n)) → ux_B uxP sc (d + 1) 108 35 [.ref 210, .int (nI n), .null, .null, .null, .null] [.int y, .int (nI n), .ref 227] E2 x z w K := by
        intro y w hy
        refine mr_ist m2 227 n rfl (by decide) (show n < 8 from hn8) rfl fun E3 m3 => ?_
        refine ux_BN 1 rfl ?_
        refine ux_Bget rfl rfl m3.1 rfl ?_
        refine ux_BN 3 rfl ?_
        refine ux_Bv rfl rfl rfl m3.1 rfl (by decide) rfl rfl ?_
        refine mo_parameters m3 n hn8 ?_
        rw [fU_ne _ _ (by decide), e3 212 (by decide)]
        refine mr_ist m3 228 n rfl (by decide) (show n < 8 from hn8) rfl fun E4 m4 => ?_
        have f1 : fU (fU A2 227 ((A2 227).set n y)) 228 ((fU A2 227 ((A2 227).set n y) 228).set n ((A 212).getD n 0 &&& 3)) 227 = rwN (fun f => if sl.getD f 0 = -1 then -1 else nI (zN (szL sl us) f)) (n + 1) (A 227) := by
          rw [fU_ne _ _ (by decide), fU_at, e1, hy]; rfl
        have f2 : fU (fU A2 227 ((A2 227).set n y)) 228 ((fU A2 227 ((A2 227).set n y) 228).set n ((A 212).getD n 0 &&& 3)) 228 = rwN (fun f => (A 212).getD f 0 &&& 3) (n + 1) (A 228) := by
          rw [fU_at, fU_ne _ _ (by decide), e2]; rfl
        have f3 : ∀ b, b < 227 ∨ 228 < b → fU (fU A2 227 ((A2 227).set n y)) 228 ((fU A2 227 ((A2 227).set n y) 228).set n ((A 212).getD n 0 &&& 3)) b = A b := fun b hb => by
          rw [fU_ne _ _ (by omega), fU_ne _ _ (by omega)]; exact e3 b hb
        generalize fU (fU A2 227 ((A2 227).set n y)) 228 ((fU A2 227 ((A2 227).set n y) 228).set n ((A 212).getD n 0 &&& 3)) = A4 at f1 f2 f3 m4
        refine ux_BN 2 rfl ?_
        refine ux_Bget rfl rfl m4.1 rfl ?_
        refine ux_BN 1 rfl ?_
        refine ux_Bget rfl rfl m4.1 rfl ?_
        refine ux_BN 1 rfl ?_
        refine mr_ild m4 224 n rfl (by decide) (show n < 8 from hn8) rfl ?_
        rw [f3 224 (by decide)]
        have hB : ∀ s w, s = szL sl us n → ux_B uxP sc (d + 1) 108 76 [.ref 210, .int (nI n), .null, .null, .null, .null] [.int (nI s), .int (g2 17), .ref 210] E4 x z w K := by
          intro s w hs
          refine ux_BN 1 rfl ?_
          refine ux_Btop (nI (zN (szL sl us) (n + 1))) (by
            show g2 17 + nI s = nI (zN (szL sl us) n + szL sl us n)
            rw [e4, nI_add, hs]) ?_
          refine mr_put m4 rfl rfl rfl (by decide) rfl fun E5 m5 => ?_
          refine ux_BN 2 rfl ?_
          have := fun w => ih (n + 1) E5 w _ A4 (by omega) m5 f1 f2 f3 (by rw [fU_at]) (fun j hj => by rw [fU_ne _ _ hj]; exact e5 j hj)
          rw [← nI_s n] at this
          exact this _
        by_cases ha : sl.getD n 0 = -1
        · rw [(hc n hn8).1 ha]
          refine ux_BN 1 rfl ?_
          refine ux_Bno (by decide) ?_
          refine ux_BN 2 rfl ?_
          exact hB 0 _ (by unfold szL; rw [if_pos ha])
        · obtain ⟨u, U, rs, c1, c2, c3, c4⟩ := (hc n hn8).2 ha
          rw [c1]
          refine ux_BN 1 rfl ?_
          refine ux_Byes (nI_pos' (by omega)) ?_
          refine ux_BN 1 rfl ?_
          refine ux_Bget rfl rfl m4.1 rfl ?_
          refine ux_BN 1 rfl ?_
          refine ux_Bget rfl rfl m4.1 rfl ?_
          refine ux_BN 1 rfl ?_
          refine mr_ild m4 224 n rfl (by decide) (show n < 8 from hn8) rfl ?_
          rw [f3 224 (by decide), c1]
          refine mr_ild m4 219 u rfl (by decide) (show u < 24 by omega) rfl ?_
          rw [f3 219 (by decide), c4.2.2.2.1]
          exact hB _ _ (by unfold szL; rw [if_neg ha, c3]; rfl)
      by_cases ha : sl.getD n 0 = -1
      · rw [(hc n hn8).1 ha]
        refine ux_BN 1 rfl ?_
        refine ux_Bno (by decide) ?_
        refine ux_BN 2 rfl ?_
        exact hA _ _ (by rw [if_pos ha]; rfl)
      · obtain ⟨u, U, rs, c1, c2, c3, c4⟩ := (hc n hn8).2 ha
        rw [c1]
        refine ux_BN 1 rfl ?_
        refine ux_Byes (nI_pos' (by omega)) ?_
        refine ux_BN 1 rfl ?_
        refine ux_Bget rfl rfl m2.1 rfl ?_
        exact hA _ _ (by rw [if_neg ha]; exact e4)
  exact hloop 8 0 _ _ _ A (by omega) m1 rfl rfl (fun _ _ => rfl) (by rw [fU_at]; rfl) (fun j hj => fU_ne _ _ hj)
end ML
