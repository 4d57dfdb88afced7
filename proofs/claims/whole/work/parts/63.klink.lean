/-! The class's link and the end of its build. -/
def prL (sl : List Int32) : List Int32 := (List.range 8).map fun f => if sl.getD f 0 = -1 then 0 else sPar (sl.getD f 0)
theorem prL_at {sl : List Int32} {f : Nat} (hf : f < 8) : (prL sl).getD f 0 = if sl.getD f 0 = -1 then 0 else sPar (sl.getD f 0) := by
  unfold prL
  rw [List.getD_eq_getElem?_getD, List.getElem?_map, List.getElem?_range hf]; rfl
theorem rwN_full {g : Nat → Int32} {l : List Int32} (h : l.length = 8) : rwN g 8 l = (List.range 8).map g := by
  match l, h with
  | [a, b, c, d, e, f, g2, h2], _ => rfl
theorem rwN_len (g : Nat → Int32) (l : List Int32) : ∀ n, (rwN g n l).length = l.length := by
  intro n
  induction n with
  | zero => rfl
  | succ n ih => exact List.length_set.trans ih
section KL
variable {sc : List Int32} {d : Nat} {E : ux_Ev} {sl fk fp dn ct : List Int32} {tx : Nat → List Int32} {us : Nat → List sU} {W AD PR : List Int32} {L : Nat} {x z : Nat} {w : Bool} {K : ux_K1}
theorem cS.fr (h : cS E sl tx us fk fp dn ct) {E2 : ux_Ev} (he : ∀ b, b < 10 ∨ 17 < b → b < 210 → E2 b = E b) : cS E2 sl tx us fk fp dn ct := by
  obtain ⟨h1, h2, h3, h4, h5, h6, h7, h8, h9, h10, hf⟩ := h
  refine ⟨by rw [he 1 (by omega) (by omega)]; exact h1, by rw [he 2 (by omega) (by omega)]; exact h2, h3, by rw [he 3 (by omega) (by omega)]; exact h4, by rw [he 4 (by omega) (by omega)]; exact h5, by rw [he 5 (by omega) (by omega)]; exact h6, by rw [he 6 (by omega) (by omega)]; exact h7, by rw [he 7 (by omega) (by omega)]; exact h8, by rw [he 8 (by omega) (by omega)]; exact h9, by rw [he 9 (by omega) (by omega)]; exact h10, fun f hf8 => ?_⟩
  obtain ⟨t1, n, vs, s1, s2⟩ := hf f hf8
  exact ⟨t1.frL fun b b1 b2 => he b (by omega) (by omega), n, vs, s1.frL fun b b1 b2 => he b (by omega) (by omega), s2⟩
theorem cS.lat (h : cS E sl tx us fk fp dn ct) {f : Nat} (hf : f < 8) {U : sU} {rs : List sU} (hu : us f = U :: rs) : ∃ n vs v, sS E f n vs ∧ vs[0]? = some v ∧ uS E v.1 U ∧ 18 ≤ v.1 ∧ v.1 < 210 := by
  obtain ⟨h1, h2, h3, h4, h5, h6, h7, h8, h9, h10, hf'⟩ := h
  obtain ⟨t1, n, vs, s1, s2⟩ := hf' f hf
  rw [hu] at s2
  cases vs with
  | nil => simp at s2
  | cons v vs =>
    cases n with
    | zero => simp at s2
    | succ n =>
      rw [List.take_succ_cons, List.map_cons] at s2
      injection s2 with e1 e2
      obtain ⟨c1, k, hk, c2⟩ := s1.2.2.2.2.2 v (by simp)
      exact ⟨_, _, v, s1, rfl, by rw [e1]; exact c1, by omega, by omega⟩
theorem ko_give (h : cS E sl tx us fk fp dn ct) (hi : iS E W AD PR L) (hAD : AD.length = 8) (hPR : PR.length = 8) (hl : lOk sl us)
    (hK : ∀ E' w', iS E' W (adL sl us) (prL sl) L → (∀ b, b ≠ 12 → b ≠ 13 → E' b = E b) → K (.inr none) E' x z w') : ux_Bm uxP sc (d + 1) 39 [.ref 10, .ref 2, .ref 4] E x z K := by
  show ux_B uxP sc (d + 1) 39 0 [.ref 10, .ref 2, .ref 4, .null, .null] [] E x z false K
  obtain ⟨i1, i2, i3, i4⟩ := hi
  refine ux_BN 4 rfl ?_
  have hloop : ∀ m n E2 w, n + m = 8 → E2 12 = some (100, rwN (fun f => if sl.getD f 0 = -1 then -1 else nI (zN (szL sl us) f)) n AD, []) → E2 13 = some (100, rwN (fun f => if sl.getD f 0 = -1 then 0 else sPar (sl.getD f 0)) n PR, []) → (∀ b, b ≠ 12 → b ≠ 13 → E2 b = E b) → ux_B uxP sc (d + 1) 39 5 [.ref 10, .ref 2, .ref 4, .int (nI (zN (szL sl us) n)), .int (nI n)] [] E2 x z w K := by
    intro m
    induction m with
    | zero =>
      intro n E2 w hn e1 e2 e3
      have : n = 8 := by omega
      subst this
      refine ux_BN 3 rfl ?_
      refine ux_Byes (by decide) ?_
      rw [rwN_full hAD] at e1
      rw [rwN_full hPR] at e2
      exact ux_Br rfl (hK _ _ ⟨by rw [e3 10 (by omega) (by omega)]; exact i1, by rw [e3 11 (by omega) (by omega)]; exact i2, e1, e2⟩ e3)
    | succ m ih =>
      intro n E2 w hn e1 e2 e3
      have hn8 : n < 8 := by omega
      have hE10 : E2 10 = some (2, [], [.ref 11, .ref 12, .ref 13, .int (nI L)]) := by rw [e3 10 (by omega) (by omega)]; exact i1
      have l1 := rwN_len (fun f => if sl.getD f 0 = -1 then -1 else nI (zN (szL sl us) f)) AD n
      have l2 := rwN_len (fun f => if sl.getD f 0 = -1 then 0 else sPar (sl.getD f 0)) PR n
      refine ux_BN 3 rfl ?_
      refine ux_Bno (nI_ge hn8 (by decide)) ?_
      refine ux_BN 1 rfl ?_
      refine ux_Bget rfl rfl hE10 rfl ?_
      refine ux_BN 2 rfl ?_
      refine ux_BistN n rfl e1 rfl (by omega) (by omega) ?_
      refine ux_BN 1 rfl ?_
      refine ux_Bget rfl rfl (by rw [ux_up_ne _ _ (by decide)]; exact hE10) rfl ?_
      refine ux_BN 2 rfl ?_
      refine ux_BistN n rfl (by rw [ux_up_ne _ _ (by decide)]; exact e2) rfl (by omega) (by omega) ?_
      refine ux_BN 2 rfl ?_
      refine ux_BildN n rfl (by rw [ux_up_ne _ _ (by decide), ux_up_ne _ _ (by decide), e3 2 (by decide) (by decide)]; exact h.2.1) rfl (by omega) (by have := h.2.2.1.1; omega) ?_
      refine ux_BN 2 rfl ?_
      refine ux_Bif (fun (ha : sl.getD n 0 = -1) => ?_) (fun (ha : ¬ sl.getD n 0 = -1) => ?_)
      · refine ux_BN 2 rfl ?_
        have := fun w => ih (n + 1) (ux_up (ux_up E2 12 (100, (rwN (fun f => if sl.getD f 0 = -1 then -1 else nI (zN (szL sl us) f)) n AD).set n (-1), [])) 13 (100, (rwN (fun f => if sl.getD f 0 = -1 then 0 else sPar (sl.getD f 0)) n PR).set n 0, [])) w (by omega) (by rw [ux_up_ne _ _ (by decide), ux_up_at]; show _ = some (100, (rwN _ n AD).set n (if sl.getD n 0 = -1 then -1 else _), []); rw [if_pos ha]) (by rw [ux_up_at]; show _ = some (100, (rwN _ n PR).set n (if sl.getD n 0 = -1 then 0 else _), []); rw [if_pos ha]) (fun b b1 b2 => by rw [ux_up_ne _ _ b2, ux_up_ne _ _ b1]; exact e3 b b1 b2)
        rw [← nI_s, show zN (szL sl us) (n + 1) = zN (szL sl us) n from by show zN _ n + szL sl us n = _; unfold szL; rw [if_pos ha]; rfl] at this
        exact this _
      · obtain ⟨U, rs, hu, hV, t, hF⟩ := hl n hn8 ha
        obtain ⟨nn, vs, v, s1, s2, s3, s4, s5⟩ := h.lat hn8 hu
        refine ux_BN 1 rfl ?_
        refine ux_Bget rfl rfl (by rw [ux_up_ne _ _ (by decide), ux_up_ne _ _ (by decide)]; exact hE10) rfl ?_
        refine ux_BN 2 rfl ?_
        refine ux_BistN n rfl (by rw [ux_up_ne _ _ (by decide)]; exact ux_up_at _ _ _) rfl (by omega) (by rw [List.length_set]; omega) ?_
        refine ux_BN 1 rfl ?_
        refine ux_Bget rfl rfl (by rw [ux_up_ne _ _ (by decide), ux_up_ne _ _ (by decide), ux_up_ne _ _ (by decide)]; exact hE10) rfl ?_
        refine ux_BN 3 rfl ?_
        refine ux_BildN n rfl (by rw [ux_up_ne _ _ (by decide), ux_up_ne _ _ (by decide), ux_up_ne _ _ (by decide), e3 2 (by decide) (by decide)]; exact h.2.1) rfl (by omega) (by have := h.2.2.1.1; omega) ?_
        refine ux_Bk (j := 25) rfl rfl ?_
        refine ko_params _ ?_
        refine ux_BistN n rfl (by rw [ux_up_ne _ _ (by decide)]; exact ux_up_at _ _ _) rfl (by omega) (by rw [List.length_set]; omega) ?_
        have hE : ∀ b, b ≠ 12 → b ≠ 13 → ux_up (ux_up (ux_up (ux_up E2 12 (100, (rwN (fun f => if sl.getD f 0 = -1 then -1 else nI (zN (szL sl us) f)) n AD).set n (Int32.ofInt (-1)), [])) 13 (100, (rwN (fun f => if sl.getD f 0 = -1 then 0 else sPar (sl.getD f 0)) n PR).set n (Int32.ofInt 0), [])) 12 (100, ((rwN (fun f => if sl.getD f 0 = -1 then -1 else nI (zN (szL sl us) f)) n AD).set n (Int32.ofInt (-1))).set n (nI (zN (szL sl us) n)), [])) 13 (100, ((rwN (fun f => if sl.getD f 0 = -1 then 0 else sPar (sl.getD f 0)) n PR).set n (Int32.ofInt 0)).set n (sPar (sl.getD n 0)), []) b = E b := fun b b1 b2 => by
          rw [ux_up_ne _ _ b2, ux_up_ne _ _ b1, ux_up_ne _ _ b2, ux_up_ne _ _ b1]; exact e3 b b1 b2
        refine ux_BN 3 rfl ?_
        refine ux_BaldN n rfl (by rw [hE 4 (by decide) (by decide)]; exact h.2.2.2.2.1) (by decide) rfl (by omega) (rng_at hn8) ?_
        have s1' := s1.frL fun b b1 b2 => hE b (by omega) (by omega)
        refine ux_Bv rfl rfl rfl s1'.1 rfl (by decide) rfl rfl ?_
        refine ko_latest s1' s2 ?_
        refine ux_Bget rfl rfl (by rw [hE _ (by omega) (by omega)]; exact s3.1) rfl ?_
        refine ux_BN 1 rfl ?_
        refine ux_Btop (nI (zN (szL sl us) (n + 1))) (by
          show nI _ + nI _ = nI (zN _ n + szL sl us n)
          rw [nI_add]; unfold szL; rw [if_neg ha, hu]; rfl) ?_
        refine ux_BN 3 rfl ?_
        have := fun w => ih (n + 1) _ w (by omega) (by rw [ux_up_ne _ _ (by decide), ux_up_at, List.set_set]; show _ = some (100, (rwN _ n AD).set n (if sl.getD n 0 = -1 then -1 else _), []); rw [if_neg ha]) (by rw [ux_up_at, List.set_set]; show _ = some (100, (rwN _ n PR).set n (if sl.getD n 0 = -1 then 0 else _), []); rw [if_neg ha]) hE
        rw [← nI_s] at this
        exact this _
  exact hloop 8 0 E _ (by omega) i3 i4 (fun _ _ _ => rfl)
theorem ko_link (h : cS E sl tx us fk fp dn ct) (hi : iS E W AD PR L) (hW : W.length = 300) (hAD : AD.length = 8) (hPR : PR.length = 8) (hl : lOk sl us)
    (hK1 : 300 < zN (szL sl us) 8 → ∀ w', K (.inr (some (.int 0))) E x z w')
    (hK2 : zN (szL sl us) 8 ≤ 300 → ∀ E' w', iS E' (wrL sl us W 8) (adL sl us) (prL sl) (zN (szL sl us) 8) → (∀ b, b < 10 ∨ 13 < b → E' b = E b) → K (.inr (some (.int 1))) E' x z w') : ux_Bm uxP sc (d + 2) 37 [.ref 10, .ref 2, .ref 4] E x z K := by
  show ux_B uxP sc (d + 2) 37 0 [.ref 10, .ref 2, .ref 4, .null, .null] [] E x z false K
  have hsz : ∀ f, f < 8 → szL sl us f ≤ 80 := by
    intro f hf
    unfold szL
    by_cases ha : sl.getD f 0 = -1
    · rw [if_pos ha]; omega
    · rw [if_neg ha]; exact (hdC_sh hl hf ha).2.2
  have hzb : ∀ n, n ≤ 8 → zN (szL sl us) n ≤ 80 * n := by
    intro n
    induction n with
    | zero => intro _; exact Nat.le_refl _
    | succ n ih =>
      intro hn
      have := hsz n (by omega)
      have := ih (by omega)
      show zN _ n + szL sl us n ≤ _
      omega
  have hadr : ∀ f, f < 8 → ¬ sl.getD f 0 = -1 → ¬ (adL sl us).getD f 0 = -1 := by
    intro f hf ha e
    rw [adL_at hf, if_neg ha] at e
    have := nI_pos (show zN (szL sl us) f < 2 ^ 31 by have := hzb f (by omega); omega)
    rw [e] at this
    exact this (by decide)
  refine ux_BN 4 rfl ?_
  have hcopy : ∀ m n E2 w, n + m = 8 → zN (szL sl us) 8 ≤ 300 → iS E2 (wrL sl us W n) (adL sl us) (prL sl) (zN (szL sl us) 8) → (∀ b, b < 10 ∨ 13 < b → E2 b = E b) → ∀ v3, ux_B uxP sc (d + 2) 37 66 [.ref 10, .ref 2, .ref 4, v3, .int (nI n)] [] E2 x z w K := by
    intro m
    induction m with
    | zero =>
      intro n E2 w hn hL h1 h2 v3
      have : n = 8 := by omega
      subst this
      refine ux_BN 3 rfl ?_
      refine ux_Byes (by decide) ?_
      refine ux_BN 1 rfl ?_
      exact ux_Bri rfl (Or.inr ⟨rfl, Or.inr rfl⟩) (hK2 hL _ _ h1 h2)
    | succ m ih =>
      intro n E2 w hn hL h1 h2 v3
      have hn8 : n < 8 := by omega
      have hal : (adL sl us).length = 8 := by simp [adL]
      have hnx : ∀ E3 w, iS E3 (wrL sl us W (n + 1)) (adL sl us) (prL sl) (zN (szL sl us) 8) → (∀ b, b < 10 ∨ 13 < b → E3 b = E b) → ux_B uxP sc (d + 2) 37 102 [.ref 10, .ref 2, .ref 4, v3, .int (nI n)] [] E3 x z w K := by
        intro E3 w g1 g2
        refine ux_BN 2 rfl ?_
        have := fun w => ih (n + 1) E3 w (by omega) hL g1 g2 v3
        rw [← nI_s] at this
        exact this _
      refine ux_BN 3 rfl ?_
      refine ux_Bno (nI_ge hn8 (by decide)) ?_
      refine ux_BN 1 rfl ?_
      refine ux_Bget rfl rfl h1.1 rfl ?_
      refine ux_BN 1 rfl ?_
      refine ux_BildN n rfl h1.2.2.1 rfl (by omega) (by omega) ?_
      refine ux_BN 2 rfl ?_
      by_cases ha : sl.getD n 0 = -1
      · refine ux_Byes (by rw [adL_at hn8, if_pos ha]; rfl) ?_
        exact hnx _ _ (by show iS _ (if sl.getD n 0 = -1 then _ else _) _ _ _; rw [if_pos ha]; exact h1) h2
      · refine ux_Bno (hadr n hn8 ha) ?_
        obtain ⟨U, rs, hu, hV, t, hF⟩ := hl n hn8 ha
        obtain ⟨nn, vs, v, s1, s2, s3, s4, s5⟩ := h.lat hn8 hu
        have s1' := s1.frL fun b b1 b2 => h2 b (by omega)
        refine ux_BN 3 rfl ?_
        refine ux_BaldN n rfl (by rw [h2 4 (by omega)]; exact h.2.2.2.2.1) (by decide) rfl (by omega) (rng_at hn8) ?_
        refine ux_Bv rfl rfl rfl s1'.1 rfl (by decide) rfl rfl ?_
        refine ko_latest s1' s2 ?_
        refine ux_BN 1 rfl ?_
        refine ux_Bget rfl rfl h1.1 rfl ?_
        refine ux_BN 1 rfl ?_
        refine ux_BildN n rfl h1.2.2.1 rfl (by omega) (by omega) ?_
        rw [adL_at hn8, if_neg ha]
        have hz := zN_mono (z := szL sl us) hn8
        have e : szL sl us n = U.2.2.2.length := by unfold szL; rw [if_neg ha, hu]; rfl
        have hsh := (hdC_sh hl hn8 ha).1
        rw [hu] at hsh
        refine ux_Bv rfl rfl rfl h1.1 rfl (by decide) rfl rfl ?_
        refine ko_copyCode (s3.fr fun b b1 b2 => h2 b (by omega)) s4 h1 (by rw [wrL_len]; exact hW) hal hsh (by omega) hL fun E3 w3 g1 g2 => ?_
        refine hnx _ _ ?_ (fun b hb => by rw [g2 b (by omega)]; exact h2 b hb)
        show iS _ (if sl.getD n 0 = -1 then _ else _) _ _ _
        rw [if_neg ha, hu]
        exact g1
  have hloop : ∀ m n w, n + m = 8 → ux_B uxP sc (d + 2) 37 5 [.ref 10, .ref 2, .ref 4, .int (nI (zN (szL sl us) n)), .int (nI n)] [] E x z w K := by
    intro m
    induction m with
    | zero =>
      intro n w hn
      have : n = 8 := by omega
      subst this
      have hb8 := hzb 8 (Nat.le_refl _)
      refine ux_BN 3 rfl ?_
      refine ux_Byes (by decide) ?_
      refine ux_BN 3 rfl ?_
      refine ux_BleN (zN (szL sl us) 8) 300 rfl rfl (by omega) (by decide) (fun hle => ?_) (fun hlt => ?_)
      · refine ux_BN 2 rfl ?_
        refine ux_Bput rfl rfl rfl hi.1 rfl (Nat.le_of_ble_eq_true rfl) ?_
        refine ux_BN 3 rfl ?_
        have hi2 : iS (ux_up E 10 (2, [], [.ref 11, .ref 12, .ref 13, .int (nI (zN (szL sl us) 8))])) W AD PR (zN (szL sl us) 8) := ⟨ux_up_at _ _ _, by rw [ux_up_ne _ _ (by decide)]; exact hi.2.1, by rw [ux_up_ne _ _ (by decide)]; exact hi.2.2.1, by rw [ux_up_ne _ _ (by decide)]; exact hi.2.2.2⟩
        have h2 : cS (ux_up E 10 (2, [], [.ref 11, .ref 12, .ref 13, .int (nI (zN (szL sl us) 8))])) sl tx us fk fp dn ct := h.fr fun b hb _ => ux_up_ne _ _ (by omega)
        refine ux_Bv rfl rfl rfl hi2.1 rfl (by decide) rfl rfl ?_
        refine ko_give h2 hi2 hAD hPR hl fun E3 w3 g1 g2 => ?_
        refine ux_BN 2 rfl ?_
        exact hcopy 8 0 E3 _ (by omega) hle g1 (fun b hb => by rw [g2 b (by omega) (by omega)]; exact ux_up_ne _ _ (by omega)) _
      · refine ux_BN 1 rfl ?_
        exact ux_Bri rfl (Or.inr ⟨rfl, Or.inl rfl⟩) (hK1 hlt _)
    | succ m ih =>
      intro n w hn
      have hn8 : n < 8 := by omega
      refine ux_BN 3 rfl ?_
      refine ux_Bno (nI_ge hn8 (by decide)) ?_
      refine ux_BN 3 rfl ?_
      refine ux_BildN n rfl h.2.1 rfl (by omega) (by have := h.2.2.1.1; omega) ?_
      refine ux_BN 2 rfl ?_
      have hnx : ∀ y w, y = szL sl us n → ux_B uxP sc (d + 2) 37 35 [.ref 10, .ref 2, .ref 4, .int (nI (zN (szL sl us) n)), .int (nI n)] [.int (nI y), .int (nI (zN (szL sl us) n))] E x z w K := by
        intro y w hy
        refine ux_BN 1 rfl ?_
        refine ux_Btop (nI (zN (szL sl us) (n + 1))) (by
          show nI _ + nI _ = nI (zN _ n + szL sl us n)
          rw [nI_add, hy]) ?_
        refine ux_BN 3 rfl ?_
        have := fun w => ih (n + 1) w (by omega)
        rw [← nI_s] at this
        exact this _
      refine ux_Bne (fun (ha : sl.getD n 0 = -1) => ?_) (fun (ha : ¬ sl.getD n 0 = -1) => ?_)
      · refine ux_BN 2 rfl ?_
        exact hnx 0 _ (by unfold szL; rw [if_pos ha])
      · obtain ⟨U, rs, hu, hV, t, hF⟩ := hl n hn8 ha
        obtain ⟨nn, vs, v, s1, s2, s3, s4, s5⟩ := h.lat hn8 hu
        refine ux_BN 2 rfl ?_
        refine ux_BaldN n rfl h.2.2.2.2.1 (by decide) rfl (by omega) (rng_at hn8) ?_
        refine ux_Bv rfl rfl rfl s1.1 rfl (by decide) rfl rfl ?_
        refine ko_latest s1 s2 ?_
        refine ux_Bget rfl rfl s3.1 rfl ?_
        exact hnx _ _ (by unfold szL; rw [if_neg ha, hu]; rfl)
  exact hloop 8 0 _ (by omega)
end KL
