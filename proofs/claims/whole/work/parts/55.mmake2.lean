/-! The reference's make as the pure function. -/
/-- the reference's counts -/
def rnM (r : Int32 × Int32 × Int32) (ct : List Int32) : List Int32 := if r.2.2 = 0 then ct else if r.2.2 = 1 then ct.set 0 (ct.getD 0 0 + 1) else if r.1 = 0 then ct.set 1 (ct.getD 1 0 + 1) else (ct.set 1 (ct.getD 1 0 + 1)).set 2 ((ct.set 1 (ct.getD 1 0 + 1)).getD 2 0 + 1)
/-- what make leaves: A2 of A -/
def mMade (A A2 : Nat → List Int32) (f : Nat) (r : Int32 × Int32 × Int32) (l : List sU) : Prop := A2 221 = (A 221).set f r.1 ∧ A2 222 = (A 222).set f r.2.1 ∧ A2 223 = (A 223).set f r.2.2 ∧ A2 225 = rnM r (A 225) ∧ (∃ v, A2 224 = (A 224).set f v ∧ ((r.2.2 = 0 ∨ ¬ r.1 = 0) → v = -1) ∧ (¬ (r.2.2 = 0 ∨ ¬ r.1 = 0) → ∃ u U rs, v = nI u ∧ (3 * f ≤ u ∧ u < 3 * f + 3) ∧ l = U :: rs ∧ mU A2 u f U)) ∧ (∀ a, a < 215 ∨ (226 ≤ a ∧ a ≤ 228) ∨ 234 < a → A2 a = A a) ∧ ∀ s, s < 3 * f ∨ 3 * f + 3 ≤ s → sSame A A2 s
theorem mT.congr {A A2 : Nat → List Int32} {sl : List Int32} {tx : Nat → List Int32} (h : mT A sl tx) (he : ∀ a, 211 ≤ a → a ≤ 214 → A2 a = A a) : mT A2 sl tx := by
  unfold mT at h ⊢
  rw [he 211 (by decide) (by decide), he 212 (by decide) (by decide), he 213 (by decide) (by decide), he 214 (by decide) (by decide)]
  exact h
theorem sSame_of {A A2 : Nat → List Int32} (h : ∀ a, 215 ≤ a → a ≤ 220 → A2 a = A a) (s : Nat) : sSame A A2 s := by
  unfold sSame
  rw [h 215 (by decide) (by decide), h 216 (by decide) (by decide), h 217 (by decide) (by decide), h 218 (by decide) (by decide), h 219 (by decide) (by decide), h 220 (by decide) (by decide)]
  exact ⟨rfl, rfl, fun _ _ => rfl, fun _ _ => rfl, rfl, fun _ _ => rfl⟩
theorem map_erase {α β : Type} (h : α → β) : ∀ (l : List α) (i : Nat), (l.map h).eraseIdx i = (l.eraseIdx i).map h := by
  intro l
  induction l with
  | nil => intro i; rfl
  | cons a l ih =>
    intro i
    cases i with
    | zero => rfl
    | succ i => simp only [List.map_cons, List.eraseIdx_cons_succ, ih]
theorem uO_front {f i : Nat} {us : List sU} {U : sU} (h : uO f us) (hU : us[i]? = some U) : uO f (U :: us.eraseIdx i) := by
  obtain ⟨h1, h2⟩ := h
  have hi : i < us.length := (List.getElem?_eq_some_iff.mp hU).1
  have e2 : us[i] = U := (List.getElem?_eq_some_iff.mp hU).2
  refine ⟨fun V hV => ?_, List.pairwise_cons.mpr ⟨fun V hV => ?_, h2.sublist (List.eraseIdx_sublist _ _)⟩⟩
  · rcases List.mem_cons.mp hV with rfl | hV
    · exact h1 V (List.mem_of_getElem? hU)
    · exact h1 V ((List.eraseIdx_sublist _ _).subset hV)
  · obtain ⟨j, hji, hj⟩ := List.mem_eraseIdx_iff_getElem?.mp hV
    have hjl : j < us.length := (List.getElem?_eq_some_iff.mp hj).1
    have e1 : us[j] = V := (List.getElem?_eq_some_iff.mp hj).2
    have h3 := List.pairwise_iff_getElem.mp h2
    rcases Nat.lt_or_gt_of_ne hji with hlt | hgt
    · have := h3 j i hjl hi hlt
      rw [e1, e2] at this
      exact fun h => this ⟨h.1.symm, h.2.1.symm, h.2.2.symm⟩
    · have := h3 i j hi hjl hgt
      rw [e1, e2] at this
      exact this
section MM2
variable {sc : List Int32} {d : Nat} {E0 E : ux_Ev} {g : Nat → Int32} {A : Nat → List Int32} {x z : Nat} {w : Bool} {K : ux_K1} {f st : Nat} {sl : List Int32} {tx : Nat → List Int32} {us : Nat → List sU}
/-- the other functions' slots stay -/
theorem mR_one {g2 : Nat → Int32} {A2 : Nat → List Int32} {st2 : Nat} {l : List sU} (h : mR g A sl tx us st) (hf : f < 8) (hA : ∀ a, 211 ≤ a → a ≤ 214 → A2 a = A a) (hg : g2 11 = nI st2) (hst : st ≤ st2) (hs : ∀ s, s < 3 * f ∨ 3 * f + 3 ≤ s → sSame A A2 s) (hl : uO f l ∧ ∃ qs, mSl A2 f st2 qs ∧ l = qs.map fun q => q.2.2) : mR g2 A2 sl tx (fU us f l) st2 := by
  obtain ⟨h1, h2, h3⟩ := h
  refine ⟨h1.congr hA, hg, fun k hk => ?_⟩
  by_cases hkf : k = f
  · subst hkf; rw [fU_at]; exact hl
  · rw [fU_ne _ _ hkf]
    obtain ⟨b1, qs, b2, b3⟩ := h3 k hk
    refine ⟨b1, qs, b2.congr (fun q hq => b1.1 _ (by rw [b3]; exact List.mem_map_of_mem hq)) (fun s h4 h5 => hs s (by omega)) hst, b3⟩
theorem mo_make2 (hm : md E0 g A E) (hR : mR g A sl tx us st) (hok : sOk sl) (hst : st < 100000) (hf : f < 8)
    (hK : ∀ E' w' g' A' st', md E0 g' A' E' → mR g' A' sl tx (fU us f (rnU f sl (tx f) (us f))) st' → st ≤ st' → st' ≤ st + 1 → mMade A A' f (rnR f sl (tx f) (us f)) (rnU f sl (tx f) (us f)) → (∀ j, j ≠ 11 → j ≠ 26 → j ≠ 28 → j ≠ 29 → j ≠ 30 → g' j = g j) → K (.inr none) E' x z w') : ux_Bm uxP sc (d + 3) 89 [.ref 210, .int (nI f)] E x z K := by
  have hR' := hR
  obtain ⟨hT, hg11, hF⟩ := hR
  obtain ⟨hO, qs, hsl, hus⟩ := hF f hf
  have hT1 := hT.1 f hf
  have hthere : ¬ (A 211).getD f 0 = 0 → sl.getD f 0 = (A 212).getD f 0 ∧ ¬ sl.getD f 0 = -1 := fun h0 => by
    obtain ⟨a, j, hj, b⟩ := hT1.2 h0
    exact ⟨a, by rw [b]; exact nI_m1 j hj⟩
  have hVq : ∀ q, q ∈ qs → uV f q.2.2 := fun q hq => hO.1 _ (by rw [hus]; exact List.mem_map_of_mem hq)
  -- a slot that fits holds a unit that fits
  have hslot : ∀ o, o < 3 → mFit A (3 * f + o) f (tx f).length → ∃ (i : Nat) (q : Nat × Nat × sU), qs[i]? = some q ∧ q.1 = 3 * f + o ∧ uFit f sl (tx f) q.2.2 = true := by
    intro o ho hfit
    have hin : ∃ q, q ∈ qs ∧ q.1 = 3 * f + o := by
      by_cases hq : ∃ q, q ∈ qs ∧ q.1 = 3 * f + o
      · exact hq
      · have := hsl.2.2.2 (3 * f + o) (by omega) (by omega) (fun q hq1 hq2 => hq ⟨q, hq1, hq2⟩)
        exact absurd (show (A 215).getD (3 * f + o) 0 ≤ 0 from by rw [this]; decide) hfit.1.1
    obtain ⟨q, hq1, hq2⟩ := hin
    obtain ⟨i, hi⟩ := List.getElem?_of_mem hq1
    obtain ⟨b1, b2, b3, b4⟩ := hsl.2.1 q hq1
    refine ⟨i, q, hi, hq2, (fit_iff hT hf (hVq q hq1) b4 (by rw [b2]; exact nI_nle b3.1 (by omega))).mp ?_⟩
    rw [hq2]; exact hfit
  have hnofit : (∀ o, o < 3 → ¬ mFit A (3 * f + o) f (tx f).length) → ∀ U, U ∈ us f → ¬ uFit f sl (tx f) U = true := by
    intro hno U hU hfit
    rw [hus] at hU
    obtain ⟨q, hq, rfl⟩ := List.mem_map.mp hU
    obtain ⟨b1, b2, b3, b4⟩ := hsl.2.1 q hq
    refine hno (q.1 - 3 * f) (by omega) ?_
    rw [show 3 * f + (q.1 - 3 * f) = q.1 by omega]
    exact (fit_iff hT hf (hVq q hq) b4 (by rw [b2]; exact nI_nle b3.1 (by omega))).mpr hfit
  refine mo_make hm (hT.s hf) (fun h0 => by obtain ⟨a, j, hj, b⟩ := hT1.2 h0; exact ⟨j, hj, by rw [← a, b]⟩) (fun h0 E' w' m' => ?_) (fun h0 o ho hfit E' w' m' => ?_) (fun h0 hno k pl hr E' w' g' A' m' hg' hA' => ?_) (fun h0 hno t q c hr o ho hmin E' w' g' A' A2 A3 m' hg' hA2 hc hkept hA' => ?_)
  · -- absent
    have ha : sl.getD f 0 = -1 := hT1.1 h0
    have e1 : rnU f sl (tx f) (us f) = us f := if_pos ha
    have e2 : rnR f sl (tx f) (us f) = (0, -1, 0) := if_pos ha
    refine hK E' w' g _ st m' ?_ (Nat.le_refl _) (Nat.le_succ _) ?_ (fun _ _ _ _ _ _ => rfl)
    · rw [e1]
      exact mR_one hR' hf (fun a h1 h2 => by unfold mA1; rw [fU_ne _ _ (by omega), fU_ne _ _ (by omega), fU_ne _ _ (by omega), fU_ne _ _ (by omega)]) hg11 (Nat.le_refl _) (fun s _ => sSame_of (fun a h1 h2 => by unfold mA1; rw [fU_ne _ _ (by omega), fU_ne _ _ (by omega), fU_ne _ _ (by omega), fU_ne _ _ (by omega)]) s) ⟨hO, qs, hsl.congr hVq (fun s _ _ => sSame_of (fun a h1 h2 => by unfold mA1; rw [fU_ne _ _ (by omega), fU_ne _ _ (by omega), fU_ne _ _ (by omega), fU_ne _ _ (by omega)]) s) (Nat.le_refl _), hus⟩
    · rw [e1, e2]
      refine ⟨rfl, rfl, rfl, rfl, ⟨-1, rfl, fun _ => rfl, fun h => absurd (Or.inl rfl) h⟩, fun a h1 => ?_, fun s _ => sSame_of (fun a h1 h2 => by unfold mA1; rw [fU_ne _ _ (by omega), fU_ne _ _ (by omega), fU_ne _ _ (by omega), fU_ne _ _ (by omega)]) s⟩
      unfold mA1; rw [fU_ne _ _ (by omega), fU_ne _ _ (by omega), fU_ne _ _ (by omega), fU_ne _ _ (by omega)]
  · -- a unit fits
    obtain ⟨i, q, hqi, hqo, hqf⟩ := hslot o ho hfit
    have hqm : q ∈ qs := List.mem_of_getElem? hqi
    have ha := (hthere h0).2
    have hUi : (us f)[i]? = some q.2.2 := by rw [hus, List.getElem?_map, hqi]; rfl
    have huniq : ∀ j V, j < i → (us f)[j]? = some V → ¬ uFit f sl (tx f) V = true := by
      intro j V hji hj hVf
      have k1 := fit_key (hO.1 V (List.mem_of_getElem? hj)) hVf
      have k2 := fit_key (hVq q hqm) hqf
      have h3 := List.pairwise_iff_getElem.mp hO.2
      have hjl : j < (us f).length := (List.getElem?_eq_some_iff.mp hj).1
      have hil : i < (us f).length := (List.getElem?_eq_some_iff.mp hUi).1
      have := h3 j i hjl hil hji
      rw [(List.getElem?_eq_some_iff.mp hj).2, (List.getElem?_eq_some_iff.mp hUi).2] at this
      exact this ⟨k1.1.trans k2.1.symm, k1.2.1.trans k2.2.1.symm, k1.2.2.trans k2.2.2.symm⟩
    have hi := uIdx_some hUi hqf huniq
    have e1 : rnU f sl (tx f) (us f) = q.2.2 :: (us f).eraseIdx i := by unfold rnU; rw [if_neg ha, hi]; simp only [hUi]
    have e2 : rnR f sl (tx f) (us f) = (0, -1, 1) := by unfold rnR; rw [if_neg ha, hi]
    have hg1 : g 11 + 1 = nI (st + 1) := by rw [hg11]; exact nI_1 st
    have hl215 : (A 215).length = 24 := hm.len 215 (by decide)
    generalize hA2 : fU (fU (fU (fU (mA1 A f) 223 ((mA1 A f 223).set f 1)) 225 ((A 225).set 0 ((A 225).getD 0 0 + 1))) 215 ((A 215).set (3 * f + o) (g 11 + 1))) 224 ((mA1 A f 224).set f (nI (3 * f + o))) = A2 at m'
    have r215 : A2 215 = (A 215).set (3 * f + o) (nI (st + 1)) := by rw [← hA2, ← hg1]; rfl
    have r224 : A2 224 = (A 224).set f (nI (3 * f + o)) := by rw [← hA2]; exact List.set_set ..
    have r223 : A2 223 = (A 223).set f 1 := by rw [← hA2]; exact List.set_set ..
    have rest : ∀ a, a ≠ 215 → a < 221 ∨ 225 < a → A2 a = A a := fun a h1 h2 => by
      rw [← hA2, fU_ne _ _ (by omega), fU_ne _ _ (by omega), fU_ne _ _ (by omega), fU_ne _ _ (by omega)]
      unfold mA1
      rw [fU_ne _ _ (by omega), fU_ne _ _ (by omega), fU_ne _ _ (by omega), fU_ne _ _ (by omega)]
    have h215 : ∀ s, (A2 215).getD s 0 = if s = q.1 then nI (st + 1) else (A 215).getD s 0 := fun s => by
      rw [r215, getD_set (by omega), hqo]
    have hsl2 := mSl_front hsl hqi h215 (fun a h1 h2 => rest a (by omega) (by omega))
    have hsame : ∀ s, s ≠ q.1 → sSame A A2 s := fun s hs => by
      unfold sSame
      rw [h215, if_neg hs, rest 216 (by decide) (by decide), rest 217 (by decide) (by decide), rest 218 (by decide) (by decide), rest 219 (by decide) (by decide), rest 220 (by decide) (by decide)]
      exact ⟨rfl, rfl, fun _ _ => rfl, fun _ _ => rfl, rfl, fun _ _ => rfl⟩
    have hO2 := uO_front hO hUi
    refine hK E' w' _ A2 (st + 1) m' ?_ (Nat.le_succ _) (Nat.le_refl _) ?_ (fun j h1 _ _ _ _ => fU_ne _ _ h1)
    · rw [e1]
      refine mR_one hR' hf (fun a h1 h2 => rest a (by omega) (by omega)) (by rw [fU_at]; exact hg1) (Nat.le_succ _) (fun s hs => hsame s (by omega)) ⟨hO2, _, hsl2, ?_⟩
      rw [hus, List.map_cons, map_erase]
    · rw [e1, e2]
      refine ⟨?_, ?_, r223, ?_, ⟨nI (3 * f + o), r224, fun h => absurd h (by decide), fun _ => ⟨3 * f + o, q.2.2, _, rfl, ⟨by omega, by omega⟩, rfl, ?_⟩⟩, fun a h1 => rest a (by omega) (by omega), fun s hs => hsame s (by omega)⟩
      · rw [← hA2]; rfl
      · rw [← hA2]; rfl
      · rw [← hA2]; rfl
      · have := (hsl2.2.1 (q.1, st + 1, q.2.2) (by simp)).2.2.2
        rw [← hqo]; exact this
  · -- a fault
    have ha := (hthere h0).2
    have hcof : cOf f (tx f) sl = .inl (k, pl) := by unfold cOf; rw [(hthere h0).1]; exact hr
    have hk : ¬ k = 0 := fun h => cAll_k hr (by rw [h]; decide)
    have hi := uIdx_none (hnofit hno)
    have e1 : rnU f sl (tx f) (us f) = us f := by unfold rnU; rw [if_neg ha, hi]; simp only [hcof]
    have e2 : rnR f sl (tx f) (us f) = (k, pl, 2) := by unfold rnR; rw [if_neg ha, hi]; simp only [hcof]
    have rest : ∀ a, a < 221 ∨ (226 ≤ a ∧ a ≤ 228) ∨ 234 < a → A' a = A a := fun a h1 => by
      rw [hA' a (by omega), fU_ne _ _ (by omega), fU_ne _ _ (by omega), fU_ne _ _ (by omega), fU_ne _ _ (by omega), fU_ne _ _ (by omega)]
      unfold mA1
      rw [fU_ne _ _ (by omega), fU_ne _ _ (by omega), fU_ne _ _ (by omega), fU_ne _ _ (by omega)]
    have hsame : ∀ s, sSame A A' s := sSame_of fun a h1 h2 => rest a (by omega)
    refine hK E' w' g' A' st m' ?_ (Nat.le_refl _) (Nat.le_succ _) ?_ (fun j _ h2 h3 h4 h5 => hg' j h2 h3 h4 h5)
    · rw [e1]
      exact mR_one hR' hf (fun a h1 h2 => rest a (by omega)) (by rw [hg' 11 (by decide) (by decide) (by decide) (by decide)]; exact hg11) (Nat.le_refl _) (fun s _ => hsame s) ⟨hO, qs, hsl.congr hVq (fun s _ _ => hsame s) (Nat.le_refl _), hus⟩
    · rw [e1, e2]
      refine ⟨?_, ?_, ?_, ?_, ⟨-1, ?_, fun _ => rfl, fun h => absurd (Or.inr hk) h⟩, fun a h1 => rest a (by omega), fun s _ => hsame s⟩
      · rw [hA' 221 (by decide)]; exact List.set_set ..
      · rw [hA' 222 (by decide)]; exact List.set_set ..
      · rw [hA' 223 (by decide)]; exact List.set_set ..
      · rw [hA' 225 (by decide)]
        unfold rnM
        rw [if_neg (show ¬ (2 : Int32) = 0 by decide), if_neg (show ¬ (2 : Int32) = 1 by decide), if_neg hk]
        rfl
      · rw [hA' 224 (by decide)]; rfl
  · -- a new unit
    have ha := (hthere h0).2
    have hcof : cOf f (tx f) sl = .inr (t, q, c) := by unfold cOf; rw [(hthere h0).1]; exact hr
    have hno2 := hnofit hno
    have hi := uIdx_none hno2
    have e1 : rnU f sl (tx f) (us f) = ((tx f, sl.getD f 0, calOf (tx f) sl, c) :: us f).take 3 := by unfold rnU; rw [if_neg ha, hi]; simp only [hcof]
    have e2 : rnR f sl (tx f) (us f) = (0, -1, 2) := by unfold rnR; rw [if_neg ha, hi]; simp only [hcof]
    have hhere := cOf_here hcof
    have hlen30 := (hT.2 f hf).1
    have hV : uV f (tx f, sl.getD f 0, calOf (tx f) sl, c) := ⟨sl, t, q, hok, ha, hhere, rfl, rfl, hcof, hlen30⟩
    have hlenc : c.length ≤ 80 := hV.len.2
    have restA2 : ∀ a, a < 221 ∨ (226 ≤ a ∧ a ≤ 228) ∨ 234 < a → A2 a = A a := fun a h1 => by
      rw [hA2 a (by omega), fU_ne _ _ (by omega), fU_ne _ _ (by omega), fU_ne _ _ (by omega), fU_ne _ _ (by omega)]
      unfold mA1
      rw [fU_ne _ _ (by omega), fU_ne _ _ (by omega), fU_ne _ _ (by omega), fU_ne _ _ (by omega)]
    obtain ⟨k1, k2, k3, k4, k5, k6, k7⟩ := hkept
    have hg1 : g' 11 + 1 = nI (st + 1) := by rw [hg' 11 (by decide) (by decide) (by decide) (by decide), hg11]; exact nI_1 st
    have rest : ∀ a, a < 215 ∨ (226 ≤ a ∧ a ≤ 228) ∨ 234 < a → A' a = A a := fun a h1 => by
      rw [hA', fU_ne _ _ (by omega), fU_ne _ _ (by omega), k1 a (by omega), restA2 a (by omega)]
    have r3 : ∀ a, 216 ≤ a → a ≤ 220 → A' a = A3 a := fun a h1 h2 => by rw [hA', fU_ne _ _ (by omega), fU_ne _ _ (by omega)]
    have r215 : A' 215 = (A 215).set (3 * f + o) (nI (st + 1)) := by
      rw [hA', fU_ne _ _ (by decide), fU_at, k1 215 (by decide), restA2 215 (by decide), hg1]
    have hl215 : (A 215).length = 24 := hm.len 215 (by decide)
    have h215 : ∀ s, (A' 215).getD s 0 = if s = 3 * f + o then nI (st + 1) else (A 215).getD s 0 := fun s => by
      rw [r215, getD_set (by omega)]
    have hsame : ∀ s, s ≠ 3 * f + o → sSame A A' s := fun s hs => by
      unfold sSame
      rw [h215, if_neg hs, r3 216 (by decide) (by decide), r3 217 (by decide) (by decide), r3 218 (by decide) (by decide), r3 219 (by decide) (by decide), r3 220 (by decide) (by decide)]
      refine ⟨rfl, ?_, fun k hk => ?_, fun h hh => ?_, ?_, fun k hk => ?_⟩
      · rw [k2, if_neg hs, restA2 216 (by decide)]
      · rw [k4, if_neg (by omega), restA2 217 (by decide)]
      · rw [k6 _ (by omega), restA2 218 (by decide)]
      · rw [k3, if_neg hs, restA2 219 (by decide)]
      · rw [k7, if_neg (by omega), restA2 220 (by decide)]
    have hmU : mU A' (3 * f + o) f (tx f, sl.getD f 0, calOf (tx f) sl, c) := by
      unfold mU
      rw [r3 216 (by decide) (by decide), r3 217 (by decide) (by decide), r3 218 (by decide) (by decide), r3 219 (by decide) (by decide), r3 220 (by decide) (by decide)]
      refine ⟨by rw [k2, if_pos rfl], fun k hk => ?_, fun h hh => ?_, by rw [k3, if_pos rfl], fun k hk => ?_⟩
      · have hk : k < (tx f).length := hk
        rw [k4, if_pos (by omega), restA2 214 (by decide), show 30 * (3 * f + o) + k - 30 * (3 * f + o) = k by omega]
        exact (hT.2 f hf).2.2 k hk
      · have hiff : (f = h ∨ ∃ k, k < (tx f).length ∧ (A2 214).getD (30 * f + k) 0 = nI (h + 11)) ↔ (f = h ∨ nI (h + 11) ∈ tx f) := by
          rw [restA2 214 (by decide)]
          constructor
          · rintro (h1 | ⟨k, hk, h2⟩)
            · exact Or.inl h1
            · right
              rw [(hT.2 f hf).2.2 k hk, List.getD_eq_getElem?_getD, List.getElem?_eq_getElem hk] at h2
              rw [← h2]
              exact List.getElem_mem hk
          · rintro (h1 | h1)
            · exact Or.inl h1
            · obtain ⟨k, hk, h2⟩ := List.getElem_of_mem h1
              refine Or.inr ⟨k, hk, ?_⟩
              rw [(hT.2 f hf).2.2 k hk, List.getD_eq_getElem?_getD, List.getElem?_eq_getElem hk]
              exact h2
        have hsig : ∀ j, j < 8 → ¬ sl.getD j 0 = -1 → (A2 212).getD j 0 = sl.getD j 0 := fun j hj hne => by
          rw [restA2 212 (by decide)]
          have hn0 : ¬ (A 211).getD j 0 = 0 := fun h9 => hne ((hT.1 j hj).1 h9)
          exact ((hT.1 j hj).2 hn0).1.symm
        by_cases hhf : h = f
        · subst hhf
          rw [if_pos rfl, (k5 h hh).1 (Or.inl rfl)]
          exact hsig h hh ha
        · rw [if_neg hhf]
          show _ = (calOf (tx f) sl).getD h 0
          rw [calOf_at _ _ hh]
          by_cases hmem : nI (h + 11) ∈ tx f
          · rw [if_pos hmem, (k5 h hh).1 (hiff.mpr (Or.inr hmem))]
            exact hsig h hh (hhere h hh hmem)
          · rw [if_neg hmem, (k5 h hh).2 (fun h9 => (hiff.mp h9).elim (fun e => hhf e.symm) hmem)]
      · have hk : k < c.length := hk
        rw [k7, if_pos (by omega), show 80 * (3 * f + o) + k - 80 * (3 * f + o) = k by omega]
        exact hc k hk
    have hsl2 := mSl_new hsl (by omega) ho hmin hVq hmU h215 hsame
    have hO2 : uO f (((tx f, sl.getD f 0, calOf (tx f) sl, c) :: us f).take 3) := by
      refine ⟨fun V hVm => ?_, ?_⟩
      · rcases List.mem_cons.mp (List.mem_of_mem_take hVm) with rfl | hVm
        · exact hV
        · exact hO.1 V hVm
      · refine List.Pairwise.sublist (List.take_sublist _ _) (List.pairwise_cons.mpr ⟨fun V hVm hkey => ?_, hO.2⟩)
        refine hno2 V hVm ((uFit_iff f sl (tx f) V).mpr ⟨hkey.2.1.symm, hkey.1.symm, fun j hj => ?_⟩)
        rw [← hkey.2.2]
        show (calOf (tx f) sl).getD j 0 = -1 ∨ (calOf (tx f) sl).getD j 0 = sl.getD j 0
        rw [calOf_at _ _ hj]
        split
        · exact Or.inr rfl
        · exact Or.inl rfl
    refine hK E' w' _ A' (st + 1) m' ?_ (Nat.le_succ _) (Nat.le_refl _) ?_ (fun j h1 h2 h3 h4 h5 => by rw [fU_ne _ _ h1]; exact hg' j h2 h3 h4 h5)
    · rw [e1]
      refine mR_one hR' hf (fun a h1 h2 => rest a (by omega)) (by rw [fU_at]; exact hg1) (Nat.le_succ _) (fun s hs => hsame s (by omega)) ⟨hO2, _, hsl2, ?_⟩
      rw [hus, List.map_take, List.map_cons]
    · rw [e1, e2]
      refine ⟨?_, ?_, ?_, ?_, ⟨nI (3 * f + o), ?_, fun h => absurd h (by decide), fun _ => ⟨3 * f + o, _, (us f).take 2, rfl, ⟨by omega, by omega⟩, rfl, hmU⟩⟩, rest, fun s hs => hsame s (by omega)⟩
      · rw [hA', fU_ne _ _ (by decide), fU_ne _ _ (by decide), k1 221 (by decide), hA2 221 (by decide)]; exact List.set_set ..
      · rw [hA', fU_ne _ _ (by decide), fU_ne _ _ (by decide), k1 222 (by decide), hA2 222 (by decide)]; exact List.set_set ..
      · rw [hA', fU_ne _ _ (by decide), fU_ne _ _ (by decide), k1 223 (by decide), hA2 223 (by decide)]; exact List.set_set ..
      · rw [hA', fU_ne _ _ (by decide), fU_ne _ _ (by decide), k1 225 (by decide), hA2 225 (by decide)]; rfl
      · rw [hA', fU_at, k1 224 (by decide), hA2 224 (by decide)]; exact List.set_set ..
end MM2
