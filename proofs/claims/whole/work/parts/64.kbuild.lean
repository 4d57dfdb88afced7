/-! The class's build. -/
theorem rnU_V {f : Nat} {sl t : List Int32} {us : List sU} (hok : sOk sl) (ht : t.length ≤ 30) (hV : ∀ U, U ∈ us → uV f U) (hp : ¬ sl.getD f 0 = -1) (h0 : (rnR f sl t us).2.2 = 0 ∨ (rnR f sl t us).2.2 = 1 ∨ (rnR f sl t us).1 = 0) : (rnR f sl t us).1 = 0 ∧ ¬ (rnR f sl t us).2.2 = 0 ∧ ∃ U rs, rnU f sl t us = U :: rs ∧ uV f U ∧ uFit f sl t U = true := by
  unfold rnR rnU at *
  rw [if_neg hp] at h0 ⊢
  rw [if_neg hp]
  cases hx : uIdx f sl t us with
  | some i =>
    obtain ⟨U, h1, h2⟩ := uIdx_spec hx
    simp only [h1]
    exact ⟨True.intro, by decide, U, _, rfl, hV U (List.mem_of_getElem? h1), h2⟩
  | none =>
    rw [hx] at h0
    cases hc : cOf f t sl with
    | inl e =>
      obtain ⟨k, pl⟩ := e
      simp only [hc] at h0
      have hk : ¬ k = 0 := fun e0 => cAll_k hc (by rw [e0]; decide)
      rcases h0 with h | h | h
      · exact absurd h (by decide)
      · exact absurd h (by decide)
      · exact absurd h hk
    | inr y =>
      obtain ⟨ty, q, c⟩ := y
      refine ⟨rfl, (by decide : ¬ (2 : Int32) = 0), _, _, rfl, ⟨sl, ty, q, hok, hp, cOf_here hc, rfl, rfl, hc, ht⟩, (uFit_iff _ _ _ _).mpr ⟨rfl, rfl, fun g hg => ?_⟩⟩
      show (calOf t sl).getD g 0 = -1 ∨ (calOf t sl).getD g 0 = sl.getD g 0
      rw [calOf_at _ _ hg]
      split
      · exact Or.inr rfl
      · exact Or.inl rfl
/-- what build leaves -/
abbrev rB (sl : List Int32) (tx : Nat → List Int32) (us : Nat → List sU) : Nat → Int32 × Int32 × Int32 := fun f => rnR f sl (tx f) (us f)
def ct0 (ct : List Int32) : List Int32 := ((ct.set 0 0).set 1 0).set 2 0
theorem lOk_of {sl : List Int32} {tx : Nat → List Int32} {us : Nat → List sU} (hok : sOk sl) (ht : ∀ f, f < 8 → (tx f).length ≤ 30) (hV : ∀ f, f < 8 → uO f (us f)) (hb : brk (rB sl tx us) 8 = 0) : lOk sl (usN sl tx us 8) := by
  intro f hf hp
  obtain ⟨h1, h2, U, rs, h3, h4, h5⟩ := rnU_V hok (ht f hf) (hV f hf).1 hp (brk_0 hb f hf)
  exact ⟨U, rs, by unfold usN; rw [if_pos hf]; exact h3, h4, _, h5⟩
theorem ct0_c {ct : List Int32} (h : ct.length = 5) : ∃ a b, ct0 ct = [0, 0, 0, a, b] := by
  obtain ⟨a, b, c, d, e, rfl⟩ := len5 h
  exact ⟨d, e, rfl⟩
theorem ct0_up {ct : List Int32} (h : ct.length = 5) : upC (ct0 ct) = ct0 ct := by
  obtain ⟨a, b, e⟩ := ct0_c h
  rw [e]; exact upC_0
theorem ctC_2 {ct : List Int32} {r : Nat → Int32 × Int32 × Int32} (h : ct.length = 5) : (ctN rnC r 8 (ct0 ct)).getD 2 0 = nI (brk r 8) := by
  obtain ⟨a, b, e⟩ := ct0_c h
  have hl : (ct0 ct).length = 5 := by rw [e]; rfl
  rw [← ct0_up h, ctN_tie hl]
  unfold upC
  rw [getD_ne (by decide), getD_ne (by decide)]
  exact ctN_2 hl (by rw [e]; rfl) 8
section KB
variable {sc : List Int32} {d : Nat} {E : ux_Ev} {sl fk fp dn ct : List Int32} {tx : Nat → List Int32} {us : Nat → List sU} {W AD PR : List Int32} {L : Nat} {x z : Nat} {w : Bool} {K : ux_K1}
theorem ko_build (h : cS E sl tx us fk fp dn ct) (hi : iS E W AD PR L) (hI : iOk W AD PR L) (hV : ∀ f, f < 8 → uO f (us f))
    (hK : ∀ E' w' W' AD' PR' L' y, cS E' sl tx (usN sl tx us 8) (rwN (fun f => (rB sl tx us f).1) 8 fk) (rwN (fun f => (rB sl tx us f).2.1) 8 fp) (rwN (fun f => (rB sl tx us f).2.2) 8 dn) (ctN rnC (rB sl tx us) 8 (ct0 ct)) → iS E' W' AD' PR' L' → (∀ b, (14 ≤ b ∧ b ≤ 17) ∨ 209 < b → E' b = E b) →
      ((¬ brk (rB sl tx us) 8 = 0 ∧ y = -1 ∧ W' = W ∧ AD' = AD ∧ PR' = PR ∧ L' = L) ∨ (brk (rB sl tx us) 8 = 0 ∧ 300 < zN (szL sl (usN sl tx us 8)) 8 ∧ y = -2 ∧ W' = W ∧ AD' = AD ∧ PR' = PR ∧ L' = L) ∨ (brk (rB sl tx us) 8 = 0 ∧ zN (szL sl (usN sl tx us 8)) 8 ≤ 300 ∧ y = nI L' ∧ W' = wrL sl (usN sl tx us 8) W 8 ∧ AD' = adL sl (usN sl tx us 8) ∧ PR' = prL sl ∧ L' = zN (szL sl (usN sl tx us 8)) 8)) →
      K (.inr (some (.int y))) E' x z w') : ux_Bm uxP sc 101 8 [.ref 1] E x z K := by
  show ux_B uxP sc 101 8 0 [.ref 1, .null] [] E x z false K
  have hct := h.2.2.2.2.2.2.2.2.1
  have htx : ∀ f, f < 8 → (tx f).length ≤ 30 := fun f hf => by
    have := (h.2.2.2.2.2.2.2.2.2.2 f hf).1
    exact this.le
  refine ux_BN 1 rfl ?_
  refine ux_Bget rfl rfl h.1 rfl ?_
  refine ux_BN 2 rfl ?_
  refine ux_BistN 0 rfl hct.1 rfl (by decide) (by omega) ?_
  have h1 := h.s8 0 0
  refine ux_BN 1 rfl ?_
  refine ux_Bget rfl rfl h1.1 rfl ?_
  refine ux_BN 2 rfl ?_
  refine ux_BistN 1 rfl h1.2.2.2.2.2.2.2.2.1.1 rfl (by decide) (by rw [List.length_set]; omega) ?_
  have h2 := h1.s8 1 0
  refine ux_BN 1 rfl ?_
  refine ux_Bget rfl rfl h2.1 rfl ?_
  refine ux_BN 2 rfl ?_
  refine ux_BistN 2 rfl h2.2.2.2.2.2.2.2.2.1.1 rfl (by decide) (by rw [List.length_set, List.length_set]; omega) ?_
  have h3 := h2.s8 2 0
  refine ux_BN 2 rfl ?_
  have g3 : ∀ b, b ≠ 8 → ux_up (ux_up (ux_up E 8 (100, ct.set 0 0, [])) 8 (100, (ct.set 0 0).set 1 0, [])) 8 (100, ((ct.set 0 0).set 1 0).set 2 0, []) b = E b := fun b hb => by
    rw [ux_up_ne _ _ hb, ux_up_ne _ _ hb, ux_up_ne _ _ hb]
  refine ko_loop h3 (fun E4 w4 h4 g4 => ?_) 8 0 _ _ (by omega) (by rw [usN_0]; exact h3) (fun _ _ _ => rfl)
  have g4 : ∀ b, (b < 5 ∨ 9 < b) → (b < 20 ∨ 209 < b) → E4 b = E b := fun b b1 b2 => (g4 b b1 b2).trans (g3 b (by omega))
  have i4 : iS E4 W AD PR L := hi.fr fun b b1 b2 => g4 b (by omega) (by omega)
  have hfr : ∀ b, (14 ≤ b ∧ b ≤ 17) ∨ 209 < b → E4 b = E b := fun b hb => g4 b (by omega) (by omega)
  refine ux_BN 1 rfl ?_
  refine ux_Bget rfl rfl h4.1 rfl ?_
  refine ux_BN 1 rfl ?_
  have hct4 := h4.2.2.2.2.2.2.2.2.1
  refine ux_BildN 2 rfl hct4.1 rfl (by decide) (by omega) ?_
  refine ux_Btop (nI (brk (rB sl tx us) 8)) (ctC_2 hct.2) ?_
  have hbr := brk_le (rB sl tx us) 8
  refine ux_BN 1 rfl ?_
  refine ux_BleN (brk (rB sl tx us) 8) 0 rfl rfl (by omega) (by decide) (fun hle => ?_) (fun hlt => ?_)
  · have hb0 : brk (rB sl tx us) 8 = 0 := by omega
    have hl := lOk_of h.2.2.1 htx hV hb0
    refine ux_BN 1 rfl ?_
    refine ux_Bget rfl rfl h4.1 rfl ?_
    refine ux_BN 1 rfl ?_
    refine ux_Bget rfl rfl h4.1 rfl ?_
    refine ux_BN 1 rfl ?_
    refine ux_Bget rfl rfl h4.1 rfl ?_
    refine ux_Bv rfl rfl rfl i4.1 rfl (by decide) rfl rfl ?_
    refine ko_link (d := 98) h4 i4 hI.1 hI.2.1 hI.2.2.1 hl (fun hbig w5 => ?_) (fun hle2 E5 w5 i5 g5 => ?_)
    · refine ux_BN 1 rfl ?_
      refine ux_Byes rfl ?_
      refine ux_BN 1 rfl ?_
      exact ux_Bri rfl (Or.inl rfl) (hK _ _ W AD PR L _ h4 i4 hfr (Or.inr (Or.inl ⟨hb0, hbig, rfl, rfl, rfl, rfl, rfl⟩)))
    · refine ux_BN 1 rfl ?_
      refine ux_Bno (by decide) ?_
      refine ux_BN 1 rfl ?_
      refine ux_Bget rfl rfl (by rw [g5 1 (by omega)]; exact h4.1) rfl ?_
      refine ux_Bget rfl rfl i5.1 rfl ?_
      refine ux_BN 1 rfl ?_
      exact ux_Bri rfl (Or.inl rfl) (hK _ _ _ _ _ _ _ (h4.fr fun b hb _ => g5 b (by omega)) i5 (fun b hb => by rw [g5 b (by omega)]; exact hfr b hb) (Or.inr (Or.inr ⟨hb0, hle2, rfl, rfl, rfl, rfl, rfl⟩)))
  · refine ux_BN 1 rfl ?_
    exact ux_Bri rfl (Or.inl rfl) (hK _ _ W AD PR L _ h4 i4 hfr (Or.inl ⟨by omega, rfl, rfl, rfl, rfl, rfl⟩))
end KB
