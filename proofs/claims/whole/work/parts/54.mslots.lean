/-! The reference's slots: a unit comes to the front, a unit is new. -/
theorem mSl_front {A A2 : Nat → List Int32} {f st i : Nat} {qs : List (Nat × Nat × sU)} {q : Nat × Nat × sU} (h : mSl A f st qs) (hq : qs[i]? = some q) (h215 : ∀ s, (A2 215).getD s 0 = if s = q.1 then nI (st + 1) else (A 215).getD s 0) (hrest : ∀ a, 216 ≤ a → a ≤ 220 → A2 a = A a) : mSl A2 f (st + 1) ((q.1, st + 1, q.2.2) :: qs.eraseIdx i) := by
  obtain ⟨a1, a2, a3, a4⟩ := h
  have hi : i < qs.length := (List.getElem?_eq_some_iff.mp hq).1
  have hqm : q ∈ qs := List.mem_of_getElem? hq
  have hmU : ∀ s U, mU A s f U → mU A2 s f U := fun s U hU => by
    unfold mU at hU ⊢
    rw [hrest 216 (by decide) (by decide), hrest 217 (by decide) (by decide), hrest 218 (by decide) (by decide), hrest 219 (by decide) (by decide), hrest 220 (by decide) (by decide)]
    exact hU
  have hmem : ∀ p, p ∈ qs.eraseIdx i → p ∈ qs ∧ p.1 ≠ q.1 := by
    intro p hp
    obtain ⟨j, hji, hj⟩ := List.mem_eraseIdx_iff_getElem?.mp hp
    refine ⟨List.mem_of_getElem? hj, ?_⟩
    have hjl : j < qs.length := (List.getElem?_eq_some_iff.mp hj).1
    have e1 : qs[j] = p := (List.getElem?_eq_some_iff.mp hj).2
    have e2 : qs[i] = q := (List.getElem?_eq_some_iff.mp hq).2
    have h3 := List.pairwise_iff_getElem.mp a3
    rcases Nat.lt_or_gt_of_ne hji with hlt | hgt
    · have := (h3 j i hjl hi hlt).2
      rw [e1, e2] at this
      exact this
    · have := (h3 i j hi hjl hgt).2
      rw [e1, e2] at this
      exact fun h => this h.symm
  refine ⟨by rw [List.length_cons, List.length_eraseIdx, if_pos hi]; omega, fun p hp => ?_, ?_, fun s h1 h2 h3 => ?_⟩
  · rcases List.mem_cons.mp hp with rfl | hp
    · obtain ⟨b1, b2, b3, b4⟩ := a2 q hqm
      exact ⟨b1, by rw [h215, if_pos rfl], ⟨Nat.succ_pos _, Nat.le_refl _⟩, hmU _ _ b4⟩
    · obtain ⟨c1, c2⟩ := hmem p hp
      obtain ⟨b1, b2, b3, b4⟩ := a2 p c1
      exact ⟨b1, by rw [h215, if_neg c2]; exact b2, ⟨b3.1, by omega⟩, hmU _ _ b4⟩
  · refine List.pairwise_cons.mpr ⟨fun p hp => ?_, a3.sublist (List.eraseIdx_sublist _ _)⟩
    obtain ⟨c1, c2⟩ := hmem p hp
    have := (a2 p c1).2.2.1.2
    exact ⟨Nat.lt_succ_of_le this, fun h => c2 h.symm⟩
  · have hsq : s ≠ q.1 := fun h => h3 (q.1, st + 1, q.2.2) (by simp) h.symm
    rw [h215, if_neg hsq]
    refine a4 s h1 h2 fun p hp hps => ?_
    obtain ⟨j, hj⟩ := List.getElem?_of_mem hp
    by_cases hji : j = i
    · subst hji
      rw [hq] at hj
      cases hj
      exact hsq hps.symm
    · exact h3 p (List.mem_cons_of_mem _ (List.mem_eraseIdx_iff_getElem?.mpr ⟨j, hji, hj⟩)) hps
theorem mSl_new {A A2 : Nat → List Int32} {f st o : Nat} {qs : List (Nat × Nat × sU)} {U : sU} (h : mSl A f st qs) (hst : st < 2 ^ 30) (ho : o < 3) (hmin : ∀ j, j < 3 → (A 215).getD (3 * f + o) 0 ≤ (A 215).getD (3 * f + j) 0) (hV : ∀ q, q ∈ qs → uV f q.2.2) (hU : mU A2 (3 * f + o) f U) (h215 : ∀ s, (A2 215).getD s 0 = if s = 3 * f + o then nI (st + 1) else (A 215).getD s 0) (hs : ∀ s, s ≠ 3 * f + o → sSame A A2 s) : mSl A2 f (st + 1) (((3 * f + o, st + 1, U) :: qs).take 3) := by
  obtain ⟨a1, a2, a3, a4⟩ := h
  have hU2 : ∀ q, q ∈ qs → q.1 ≠ 3 * f + o → mU A2 q.1 f q.2.2 := fun q hq hne => (a2 q hq).2.2.2.congr (hs q.1 hne) (hV q hq)
  have hzero : ∀ s, 3 * f ≤ s → s < 3 * f + 3 → (∀ q, q ∈ qs → q.1 ≠ s) → ∀ q, q ∈ qs → q.1 ≠ 3 * f + o := by
    intro s h1 h2 h3 q hq hqo
    have hz := a4 s h1 h2 h3
    have hm := hmin (s - 3 * f) (by omega)
    rw [show 3 * f + (s - 3 * f) = s by omega, hz, ← hqo, (a2 q hq).2.1] at hm
    have hp := (a2 q hq).2.2.1
    exact nI_nle hp.1 (by omega) hm
  have hle : ∀ p q, p ∈ qs → q ∈ qs → p.1 = 3 * f + o → p.2.1 ≤ q.2.1 := by
    intro p q hp hq hpo
    have hr := (a2 q hq).1
    have hm := hmin (q.1 - 3 * f) (by omega)
    rw [show 3 * f + (q.1 - 3 * f) = q.1 by omega, ← hpo, (a2 p hp).2.1, (a2 q hq).2.1] at hm
    exact (nI_leI (by have := (a2 p hp).2.2.1.2; omega) (by have := (a2 q hq).2.2.1.2; omega)).mp hm
  -- the new list: those of qs that stay are not in slot 3f+o
  have hcore : ∀ rs : List (Nat × Nat × sU), rs.Sublist qs → rs.length ≤ 2 → (∀ q, q ∈ rs → q.1 ≠ 3 * f + o) → (∀ s, 3 * f ≤ s → s < 3 * f + 3 → s ≠ 3 * f + o → (∀ q, q ∈ rs → q.1 ≠ s) → (A 215).getD s 0 = 0) → mSl A2 f (st + 1) ((3 * f + o, st + 1, U) :: rs) := by
    intro rs hsub hlen hne hz
    refine ⟨by rw [List.length_cons]; omega, fun p hp => ?_, ?_, fun s h1 h2 h3 => ?_⟩
    · rcases List.mem_cons.mp hp with rfl | hp
      · exact ⟨⟨by omega, by omega⟩, by rw [h215, if_pos rfl], ⟨Nat.succ_pos _, Nat.le_refl _⟩, hU⟩
      · have hpm := hsub.subset hp
        obtain ⟨b1, b2, b3, b4⟩ := a2 p hpm
        exact ⟨b1, by rw [h215, if_neg (hne p hp)]; exact b2, ⟨b3.1, by omega⟩, hU2 p hpm (hne p hp)⟩
    · refine List.pairwise_cons.mpr ⟨fun p hp => ?_, a3.sublist hsub⟩
      exact ⟨Nat.lt_succ_of_le (a2 p (hsub.subset hp)).2.2.1.2, fun h => hne p hp h.symm⟩
    · have hso : s ≠ 3 * f + o := fun h => h3 (3 * f + o, st + 1, U) (by simp) h.symm
      rw [h215, if_neg hso]
      exact hz s h1 h2 hso fun q hq => h3 q (by simp [hq])
  match qs, a1 with
  | [], _ =>
    exact hcore [] (List.Sublist.refl _) (by simp) (fun q hq => by cases hq) (fun s h1 h2 h3 h4 => a4 s h1 h2 h4)
  | [q0], _ =>
    have hr0 := (a2 q0 (by simp)).1
    have hne : ∀ q, q ∈ [q0] → q.1 ≠ 3 * f + o := by
      by_cases h0 : q0.1 = 3 * f
      · exact hzero (3 * f + 1) (by omega) (by omega) (fun q hq => by simp at hq; subst hq; omega)
      · exact hzero (3 * f) (by omega) (by omega) (fun q hq => by simp at hq; subst hq; omega)
    exact hcore [q0] (List.Sublist.refl _) (by simp) hne (fun s h1 h2 h3 h4 => a4 s h1 h2 h4)
  | [q0, q1], _ =>
    have hr0 := (a2 q0 (by simp)).1
    have hr1 := (a2 q1 (by simp)).1
    have hne : ∀ q, q ∈ [q0, q1] → q.1 ≠ 3 * f + o := by
      have hfree : ∃ s, 3 * f ≤ s ∧ s < 3 * f + 3 ∧ s ≠ q0.1 ∧ s ≠ q1.1 := by
        by_cases h0 : 3 * f ≠ q0.1 ∧ 3 * f ≠ q1.1
        · exact ⟨3 * f, by omega, by omega, h0.1, h0.2⟩
        · by_cases h1 : 3 * f + 1 ≠ q0.1 ∧ 3 * f + 1 ≠ q1.1
          · exact ⟨3 * f + 1, by omega, by omega, h1.1, h1.2⟩
          · exact ⟨3 * f + 2, by omega, by omega, by omega, by omega⟩
      obtain ⟨s, s1, s2, s3, s4⟩ := hfree
      exact hzero s s1 s2 (fun q hq => by
        simp at hq
        rcases hq with rfl | rfl
        · exact fun h => s3 h.symm
        · exact fun h => s4 h.symm)
    exact hcore [q0, q1] (List.Sublist.refl _) (by simp) hne (fun s h1 h2 h3 h4 => a4 s h1 h2 h4)
  | [q0, q1, q2], _ =>
    have hr0 := (a2 q0 (by simp)).1
    have hr1 := (a2 q1 (by simp)).1
    have hr2 := (a2 q2 (by simp)).1
    obtain ⟨p0, p1⟩ := List.pairwise_cons.mp a3
    obtain ⟨p2, _⟩ := List.pairwise_cons.mp p1
    have d01 := p0 q1 (by simp)
    have d02 := p0 q2 (by simp)
    have d12 := p2 q2 (by simp)
    have n0 : q0.1 ≠ 3 * f + o := fun h => by
      have := hle q0 q2 (by simp) (by simp) h
      omega
    have n1 : q1.1 ≠ 3 * f + o := fun h => by
      have := hle q1 q2 (by simp) (by simp) h
      omega
    refine hcore [q0, q1] ((List.Sublist.refl [q0, q1]).append (List.nil_sublist [q2])) (by simp) (fun q hq => ?_) (fun s h1 h2 h3 h4 => ?_)
    · simp at hq
      rcases hq with rfl | rfl
      · exact n0
      · exact n1
    · exfalso
      have e0 := h4 q0 (by simp)
      have e1 := h4 q1 (by simp)
      have := d01.2
      omega
/-! A text that compiles calls only functions that are there. -/
def cHere (tk sg : Nat → Int32) (rc : Nat → cR) : Prop := ∀ p t q c, rc p = .inr (t, q, c) → ∀ i, p ≤ i → i < q → ∀ h, h < 8 → tk i = nI (h + 11) → ¬ sg h = -1
theorem cAr_here {tk sg : Nat → Int32} {rc : Nat → cR} (hc : cHere tk sg rc) (s : Int32) : ∀ n k p t q c, cAr rc s n k p = .inr (t, q, c) → ∀ i, p ≤ i → i < q → ∀ h, h < 8 → tk i = nI (h + 11) → ¬ sg h = -1 := by
  intro n
  induction n with
  | zero =>
    intro k p t q c hr i h1 h2
    cases hr
    omega
  | succ n ih =>
    intro k p t q c hr i h1 h2 h hh ht
    obtain ⟨t1, q1, c1, e1, e2⟩ := cBi_inr hr
    obtain ⟨t2, q2, c2, e3, e4⟩ := cBi_inr e2
    cases e4
    by_cases hi : i < q1
    · exact hc _ _ _ _ (cPa_inr e1).1 i h1 hi h hh ht
    · exact ih _ _ _ _ _ e3 i (by omega) h2 h hh ht
theorem cx_here (tk : Nat → Int32) (L : Nat) (own : Int32) (sg : Nat → Int32) : ∀ n, cHere tk sg (cx tk L own sg n) := by
  intro n
  induction n with
  | zero => intro p t q c h; cases h
  | succ n ih =>
    intro p t q c hr i h1 h2 h hh ht
    unfold cx at hr
    split at hr
    · cases hr
    by_cases hip : i = p
    · subst hip
      rw [ht, cS_call hh] at hr
      intro hs
      rw [if_pos hs] at hr
      cases hr
    unfold cStep at hr
    split at hr
    · cases hr
    split at hr
    · split at hr
      · cases hr
      · cases hr; omega
    split at hr
    · obtain ⟨t1, q1, c1, e1, e2⟩ := cBi_inr hr
      obtain ⟨t2, q2, c2, e3, e4⟩ := cBi_inr e2
      cases e4
      by_cases hi : i < q1
      · exact ih _ _ _ _ (cPa_inr e1).1 i (by omega) hi h hh ht
      · exact ih _ _ _ _ (cPa_inr e3).1 i (by omega) h2 h hh ht
    split at hr
    · obtain ⟨t1, q1, c1, e1, e2⟩ := cBi_inr hr
      obtain ⟨t2, q2, c2, e3, e4⟩ := cBi_inr e2
      obtain ⟨t3, q3, c3, e5, e6⟩ := cBi_inr e4
      cases e6
      by_cases hi : i < q1
      · exact ih _ _ _ _ (cPa_inr e1).1 i (by omega) hi h hh ht
      · by_cases hi2 : i < q2
        · exact ih _ _ _ _ e3 i (by omega) hi2 h hh ht
        · exact ih _ _ _ _ (cPa_inr e5).1 i (by omega) h2 h hh ht
    split at hr
    · cases hr; omega
    split at hr
    · split at hr
      · cases hr
      · obtain ⟨t1, q1, c1, e1, e2⟩ := cBi_inr hr
        cases e2
        exact cAr_here ih _ _ _ _ _ _ _ e1 i (by omega) h2 h hh ht
    · cases hr; omega
theorem cOf_here {f : Nat} {t sl : List Int32} {ty : Int32} {q : Nat} {c : List Int32} (hr : cOf f t sl = .inr (ty, q, c)) : ∀ h, h < 8 → nI (h + 11) ∈ t → ¬ sl.getD h 0 = -1 := by
  intro h hh hm
  unfold cOf cAll at hr
  obtain ⟨t1, q1, c1, e1, e2⟩ := cBi_inr hr
  obtain ⟨g1, g2, _, _⟩ := cx_good _ _ _ _ _ _ _ _ _ (cPa_inr e1).1
  split at e2
  · cases e2
  · obtain ⟨i, hi, hi2⟩ := List.getElem_of_mem hm
    exact cx_here _ _ _ _ _ _ _ _ _ (cPa_inr e1).1 i (Nat.zero_le _) (by omega) h hh (by
      show t.getD i 0 = _
      rw [List.getD_eq_getElem?_getD, List.getElem?_eq_getElem hi]
      exact hi2)
