/-! The class's image: copying a code. -/
def iS (E : ux_Ev) (W AD PR : List Int32) (L : Nat) : Prop := E 10 = some (2, [], [.ref 11, .ref 12, .ref 13, .int (nI L)]) ∧ E 11 = some (100, W, []) ∧ E 12 = some (100, AD, []) ∧ E 13 = some (100, PR, [])
theorem iS.fr {E E2 : ux_Ev} {W AD PR : List Int32} {L : Nat} (h : iS E W AD PR L) (he : ∀ b, 10 ≤ b → b ≤ 13 → E2 b = E b) : iS E2 W AD PR L := by
  obtain ⟨h1, h2, h3, h4⟩ := h
  exact ⟨by rw [he _ (by omega) (by omega)]; exact h1, by rw [he _ (by omega) (by omega)]; exact h2, by rw [he _ (by omega) (by omega)]; exact h3, by rw [he _ (by omega) (by omega)]; exact h4⟩
section KI
variable {sc : List Int32} {d : Nat} {E : ux_Ev} {W AD PR : List Int32} {L u : Nat} {U : sU} {x z : Nat} {w : Bool} {K : ux_K1}
theorem ko_hasI (h : E 10 = some (2, [], [.ref 11, .ref 12, .ref 13, .int (nI L)])) (hL : L < 2 ^ 31) (v : Int32) (hK1 : ∀ n, n < L → v = nI n → K (.inr (some (.int 1))) E x z false) (hK2 : v < 0 ∨ nI L ≤ v → K (.inr (some (.int 0))) E x z false) : ux_Bm uxP sc d 41 [.ref 10, .int v] E x z K := by
  show ux_B uxP sc d 41 0 [.ref 10, .int v] [] E x z false K
  refine ux_BN 2 rfl ?_
  refine ux_Bif (fun h1 => ?_) (fun h1 => ?_)
  · refine ux_BN 1 rfl ?_
    exact ux_Bri rfl (Or.inr ⟨rfl, Or.inl rfl⟩) (hK2 (Or.inl h1))
  · refine ux_BN 2 rfl ?_
    refine ux_Bget rfl rfl h rfl ?_
    refine ux_BN 1 rfl ?_
    refine ux_Bif (fun h2 => ?_) (fun h2 => ?_)
    · refine ux_BN 1 rfl ?_
      exact ux_Bri rfl (Or.inr ⟨rfl, Or.inl rfl⟩) (hK2 (Or.inr h2))
    · refine ux_BN 2 rfl ?_
      rcases pk_ix v hL with h3 | h3 | ⟨n, hn, h3⟩
      · exact absurd h3 h1
      · exact absurd h3 h2
      · exact ux_Bri rfl (Or.inr ⟨rfl, Or.inr rfl⟩) (hK1 n hn h3)
theorem ko_isFn (v : Int32) (hK1 : ∀ n, n < 8 → v = nI n → K (.inr (some (.int 1))) E x z false) (hK2 : v < 0 ∨ 8 ≤ v → K (.inr (some (.int 0))) E x z false) : ux_Bm uxP sc d 42 [.int v] E x z K := by
  show ux_B uxP sc d 42 0 [.int v] [] E x z false K
  refine ux_BN 2 rfl ?_
  refine ux_Bif (fun h1 => ?_) (fun h1 => ?_)
  · refine ux_BN 1 rfl ?_
    exact ux_Bri rfl (Or.inr ⟨rfl, Or.inl rfl⟩) (hK2 (Or.inl h1))
  · refine ux_BN 3 rfl ?_
    refine ux_Bif (fun h2 => ?_) (fun h2 => ?_)
    · refine ux_BN 1 rfl ?_
      exact ux_Bri rfl (Or.inr ⟨rfl, Or.inl rfl⟩) (hK2 (Or.inr h2))
    · refine ux_BN 2 rfl ?_
      rcases pk_ix v (n := 8) (by decide) with h3 | h3 | ⟨n, hn, h3⟩
      · exact absurd h3 h1
      · exact absurd h3 h2
      · exact ux_Bri rfl (Or.inr ⟨rfl, Or.inr rfl⟩) (hK1 n hn h3)
theorem ko_hasOp (v : Int32) (hK1 : (2 ≤ v ∧ v ≤ 6) → K (.inr (some (.int 0))) E x z false) (hK2 : ¬ (2 ≤ v ∧ v ≤ 6) → K (.inr (some (.int 1))) E x z false) : ux_Bm uxP sc d 43 [.int v] E x z K := by
  show ux_B uxP sc d 43 0 [.int v] [] E x z false K
  refine ux_BN 3 rfl ?_
  refine ux_Bif (fun h1 => ?_) (fun h1 => ?_)
  · refine ux_BN 2 rfl ?_
    exact ux_Bri rfl (Or.inr ⟨rfl, Or.inr rfl⟩) (hK2 fun h => k2_nlt h.1 h1)
  · refine ux_BN 3 rfl ?_
    refine ux_Bif (fun h2 => ?_) (fun h2 => ?_)
    · refine ux_BN 1 rfl ?_
      exact ux_Bri rfl (Or.inr ⟨rfl, Or.inl rfl⟩) (hK1 ⟨k2_le h1, h2⟩)
    · refine ux_BN 2 rfl ?_
      exact ux_Bri rfl (Or.inr ⟨rfl, Or.inr rfl⟩) (hK2 fun h => h2 h.2)
theorem ko_copyCode {a : Nat} (hu : uS E u U) (hua : 18 ≤ u) (hi : iS E W AD PR L) (hW : W.length = 300) (hAD : AD.length = 8) (hsh : cSh U.2.2.2) (haL : a + U.2.2.2.length ≤ L) (hL : L ≤ 300)
    (hK : ∀ E' w', iS E' (wrAt W a (lk (fun k => AD.getD k 0) U.2.2.2)) AD PR L → (∀ b, b ≠ 11 → E' b = E b) → K (.inr none) E' x z w') : ux_Bm uxP sc (d + 1) 40 [.ref 10, .ref u, .int (nI a)] E x z K := by
  show ux_B uxP sc (d + 1) 40 0 [.ref 10, .ref u, .int (nI a), .null, .null, .null, .null] [] E x z false K
  obtain ⟨u1, u2, u3, rr, u5, u6⟩ := hu
  obtain ⟨i1, i2, i3, i4⟩ := hi
  refine ux_BN 6 rfl ?_
  have hend : ∀ i v3 v4 v6 E2 w W2, i = U.2.2.2.length → E2 11 = some (100, W2, []) → (∀ b, b ≠ 11 → E2 b = E b) → W2 = wrAt W a (lk (fun k => AD.getD k 0) U.2.2.2) → ux_B uxP sc (d + 1) 40 9 [.ref 10, .ref u, .int (nI a), v3, v4, .int (nI i), v6] [] E2 x z w K := by
    intro i v3 v4 v6 E2 w W2 hi' e1 e2 e3
    refine ux_BN 2 rfl ?_
    refine ux_Bget rfl rfl (by rw [e2 u (by omega)]; exact u1) rfl ?_
    refine ux_BN 1 rfl ?_
    refine ux_Byes (by subst hi'; exact Int32.le_refl _) ?_
    subst e3
    exact ux_Br rfl (hK _ _ ⟨by rw [e2 10 (by omega)]; exact i1, e1, by rw [e2 12 (by omega)]; exact i3, by rw [e2 13 (by omega)]; exact i4⟩ e2)
  have hstep : ∀ i v3 v4 v6 E2 w, i < U.2.2.2.length → (∀ b, b ≠ 11 → E2 b = E b) → (∀ w, ux_B uxP sc (d + 1) 40 38 [.ref 10, .ref u, .int (nI a), v3, v4, .int (nI i), .int (U.2.2.2.getD i 0)] [] E2 x z w K) → ux_B uxP sc (d + 1) 40 9 [.ref 10, .ref u, .int (nI a), v3, v4, .int (nI i), v6] [] E2 x z w K := by
    intro i v3 v4 v6 E2 w hi' e2 hk
    refine ux_BN 2 rfl ?_
    refine ux_Bget rfl rfl (by rw [e2 u (by omega)]; exact u1) rfl ?_
    refine ux_BN 1 rfl ?_
    refine ux_Bno (nI_ge hi' (by omega)) ?_
    refine ux_BN 4 rfl ?_
    refine ux_Bv rfl rfl rfl (by rw [e2 10 (by omega)]; exact i1) rfl (by decide) rfl rfl ?_
    refine ko_hasI (L := L) (by rw [e2 10 (by omega)]; exact i1) (by omega) (nI a + nI i) (fun n hn he => ?_) (fun he => ?_)
    · refine ux_BN 1 rfl ?_
      refine ux_Bno (by decide) ?_
      refine ux_BN 1 rfl ?_
      refine ux_Bget rfl rfl (by rw [e2 u (by omega)]; exact u1) rfl ?_
      refine ux_BN 1 rfl ?_
      refine ux_BildN i rfl (by rw [e2 (u + 4) (by omega)]; exact u5) rfl (by omega) (by rw [List.length_append]; omega) ?_
      rw [getD_app hi']
      refine ux_BN 1 rfl ?_
      exact hk _
    · rw [nI_add] at he
      rcases he with he | he
      · exact absurd he (nI_pos (by omega))
      · exact absurd he (nI_ge (by omega) (by omega))
  have hloop : ∀ n i r v4 v6 E2 w W2, r.length ≤ n → cSh r → U.2.2.2.length = i + r.length → (∀ j, j < r.length → U.2.2.2.getD (i + j) 0 = r.getD j 0) → E2 11 = some (100, W2, []) → W2.length = 300 → (∀ b, b ≠ 11 → E2 b = E b) → wrAt W2 (a + i) (lk (fun k => AD.getD k 0) r) = wrAt W a (lk (fun k => AD.getD k 0) U.2.2.2) → ux_B uxP sc (d + 1) 40 9 [.ref 10, .ref u, .int (nI a), .int 0, v4, .int (nI i), v6] [] E2 x z w K := by
    intro n
    induction n with
    | zero =>
      intro i r v4 v6 E2 w W2 hn hr hl hg e1 e1l e2 e3
      cases r with
      | nil => exact hend i _ _ _ _ _ W2 (by simp at hl; omega) e1 e2 e3
      | cons y r => simp at hn
    | succ n ih =>
      intro i r v4 v6 E2 w W2 hn hr hl hg e1 e1l e2 e3
      cases r with
      | nil => exact hend i _ _ _ _ _ W2 (by simp at hl; omega) e1 e2 e3
      | cons y r =>
        rw [List.length_cons] at hn hl
        have hy : U.2.2.2.getD i 0 = y := hg 0 (by simp)
        refine hstep i _ _ _ _ _ (by omega) e2 fun w => ?_
        rw [hy]
        refine ux_BN 2 rfl ?_
        refine ux_Byes rfl ?_
        refine ux_BN 1 rfl ?_
        refine ux_Bget rfl rfl (by rw [e2 10 (by omega)]; exact i1) rfl ?_
        refine ux_BN 4 rfl ?_
        refine ux_BistN (a + i) rfl e1 (nI_add a i) (by omega) (by omega) ?_
        refine ux_BN 3 rfl ?_
        refine ux_Bk (j := 43) rfl rfl ?_
        have e2' : ∀ b, b ≠ 11 → ux_up E2 11 (100, W2.set (a + i) y, []) b = E b := fun b hb => by rw [ux_up_ne _ _ hb]; exact e2 b hb
        refine ko_hasOp y (fun ho => ?_) (fun ho => ?_)
        · refine ux_BN 3 rfl ?_
          rw [lk_op ho] at e3
          have := fun w => ih (i + 1) r (.int y) (.int y) _ w _ (by omega) (cSh_1 hr ho) (by omega) (fun j hj => by rw [show i + 1 + j = i + (j + 1) by omega]; exact hg (j + 1) (by simp; omega)) (ux_up_at E2 11 (100, W2.set (a + i) y, [])) (by rw [List.length_set]; exact e1l) e2' e3
          rw [← nI_s] at this
          exact this _
        · refine ux_BN 3 rfl ?_
          obtain ⟨y2, r2, rfl, h9, hr2⟩ := cSh_2 hr ho
          rw [lk_two ho] at e3
          rw [List.length_cons] at hn hl
          have hy2 : U.2.2.2.getD (i + 1) 0 = y2 := hg 1 (by simp)
          have hnx : ∀ w, ux_B uxP sc (d + 1) 40 9 [.ref 10, .ref u, .int (nI a), .int 1, .int y, .int (nI (i + 1)), .int y] [] (ux_up E2 11 (100, W2.set (a + i) y, [])) x z w K := by
            intro w
            refine hstep (i + 1) _ _ _ _ _ (by omega) e2' fun w => ?_
            rw [hy2]
            refine ux_BN 2 rfl ?_
            refine ux_Bno (by decide) ?_
            refine ux_BN 1 rfl ?_
            refine ux_Bget rfl rfl (by rw [e2' 10 (by omega)]; exact i1) rfl ?_
            refine ux_BN 6 rfl ?_
            have hw : ∀ v w, v = lkO (fun k => AD.getD k 0) y y2 → ux_B uxP sc (d + 1) 40 77 [.ref 10, .ref u, .int (nI a), .int 1, .int y, .int (nI (i + 1)), .int y2] [.int v, .int (nI a + nI (i + 1)), .ref 11] (ux_up E2 11 (100, W2.set (a + i) y, [])) x z w K := by
              intro v w hv
              refine ux_BistN (a + i + 1) rfl (ux_up_at _ _ _) (nI_add a (i + 1)) (by omega) (by rw [List.length_set]; omega) ?_
              refine ux_BN 5 rfl ?_
              subst hv
              have := fun w => ih (i + 2) r2 (.int y) (.int y2) _ w _ (by omega) hr2 (by omega) (fun j hj => by rw [show i + 2 + j = i + (j + 2) by omega]; exact hg (j + 2) (by simp; omega)) (ux_up_at (ux_up E2 11 (100, W2.set (a + i) y, [])) 11 (100, (W2.set (a + i) y).set (a + i + 1) (lkO (fun k => AD.getD k 0) y y2), [])) (by rw [List.length_set, List.length_set]; exact e1l) (fun b hb => by rw [ux_up_ne _ _ hb]; exact e2' b hb) e3
              rw [← nI_s] at this
              exact this _
            refine ux_Bne (fun (h9' : y = 9) => ?_) (fun (h9' : ¬ y = 9) => ?_)
            · obtain ⟨k, hk, rfl⟩ := h9 h9'
              refine ux_BN 1 rfl ?_
              refine ux_Bk (j := 42) rfl rfl ?_
              refine ko_isFn (nI k) (fun k2 hk2 he => ?_) (fun he => ?_)
              · refine ux_BN 1 rfl ?_
                refine ux_Bno (by decide) ?_
                refine ux_BN 1 rfl ?_
                refine ux_Bget rfl rfl (by rw [e2' 10 (by omega)]; exact i1) rfl ?_
                refine ux_BN 1 rfl ?_
                refine ux_BildN k rfl (by rw [e2' 12 (by omega)]; exact i3) rfl (by omega) (by omega) ?_
                refine ux_BN 1 rfl ?_
                refine hw _ _ ?_
                unfold lkO
                rw [if_pos h9', nI_clamp (by omega)]
              · rcases he with he | he
                · exact absurd he (nI_pos (by omega))
                · exact absurd he (nI_ge (b := 8) hk (by decide))
            · refine ux_BN 1 rfl ?_
              refine hw _ _ ?_
              unfold lkO
              rw [if_neg h9']
          rw [← nI_s] at hnx
          exact hnx _
  refine hloop _ 0 U.2.2.2 _ _ E _ W (Nat.le_refl _) hsh (by omega) (fun j _ => by rw [Nat.zero_add]) i2 hW (fun _ _ => rfl) rfl
end KI
