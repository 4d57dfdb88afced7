/-! What renewing one function does, as a pure function. -/
def uIdx (f : Nat) (sl t : List Int32) : List sU → Option Nat
  | [] => none
  | U :: r => if uFit f sl t U = true then some 0 else (uIdx f sl t r).map (fun i => i + 1)
theorem uIdx_none {f : Nat} {sl t : List Int32} : ∀ {us : List sU}, (∀ U, U ∈ us → ¬ uFit f sl t U = true) → uIdx f sl t us = none := by
  intro us
  induction us with
  | nil => intro _; rfl
  | cons U r ih =>
    intro h
    unfold uIdx
    rw [if_neg (h U (by simp)), ih (fun V hV => h V (by simp [hV]))]
    rfl
theorem uIdx_some {f : Nat} {sl t : List Int32} : ∀ {us : List sU} {i : Nat} {U : sU}, us[i]? = some U → uFit f sl t U = true → (∀ j V, j < i → us[j]? = some V → ¬ uFit f sl t V = true) → uIdx f sl t us = some i := by
  intro us
  induction us with
  | nil => intro i U h; simp at h
  | cons V r ih =>
    intro i U h hf hno
    unfold uIdx
    cases i with
    | zero =>
      rw [List.getElem?_cons_zero] at h
      cases h
      rw [if_pos hf]
    | succ i =>
      rw [List.getElem?_cons_succ] at h
      rw [if_neg (hno 0 V (by omega) rfl), ih h hf (fun j W hj hW => hno (j + 1) W (by omega) (by rw [List.getElem?_cons_succ]; exact hW))]
      rfl
theorem uIdx_spec {f : Nat} {sl t : List Int32} : ∀ {us : List sU} {i : Nat}, uIdx f sl t us = some i → ∃ U, us[i]? = some U ∧ uFit f sl t U = true := by
  intro us
  induction us with
  | nil => intro i h; cases h
  | cons V r ih =>
    intro i h
    unfold uIdx at h
    by_cases hf : uFit f sl t V = true
    · rw [if_pos hf] at h
      cases h
      exact ⟨V, rfl, hf⟩
    · rw [if_neg hf] at h
      cases hr : uIdx f sl t r with
      | none => rw [hr] at h; cases h
      | some j =>
        rw [hr] at h
        cases h
        obtain ⟨U, h1, h2⟩ := ih hr
        exact ⟨U, by rw [List.getElem?_cons_succ]; exact h1, h2⟩
theorem uIdx_n {f : Nat} {sl t : List Int32} : ∀ {us : List sU}, uIdx f sl t us = none → ∀ U, U ∈ us → ¬ uFit f sl t U = true := by
  intro us
  induction us with
  | nil => intro _ U hU; cases hU
  | cons V r ih =>
    intro h U hU
    unfold uIdx at h
    by_cases hf : uFit f sl t V = true
    · rw [if_pos hf] at h; cases h
    · rw [if_neg hf] at h
      cases hr : uIdx f sl t r with
      | some j => rw [hr] at h; cases h
      | none =>
        rcases List.mem_cons.mp hU with rfl | hU
        · exact hf
        · exact ih hr U hU
def rnU (f : Nat) (sl t : List Int32) (us : List sU) : List sU := if sl.getD f 0 = -1 then us else match uIdx f sl t us with
  | some i => (match us[i]? with
    | some U => U :: us.eraseIdx i
    | none => us)
  | none => (match cOf f t sl with
    | .inl _ => us
    | .inr (_, _, c) => ((t, sl.getD f 0, calOf t sl, c) :: us).take 3)
/-- kind, place, deed -/
def rnR (f : Nat) (sl t : List Int32) (us : List sU) : Int32 × Int32 × Int32 := if sl.getD f 0 = -1 then (0, -1, 0) else match uIdx f sl t us with
  | some _ => (0, -1, 1)
  | none => (match cOf f t sl with
    | .inl (k, p) => (k, p, 2)
    | .inr _ => (0, -1, 2))
/-- the class's counts -/
def rnC (r : Int32 × Int32 × Int32) (ct : List Int32) : List Int32 := if r.2.2 = 0 then ct else if r.2.2 = 1 then (ct.set 0 (ct.getD 0 0 + 1)).set 3 (ct.getD 3 0 + 1) else if r.1 = 0 then (ct.set 1 (ct.getD 1 0 + 1)).set 4 (ct.getD 4 0 + 1) else ((ct.set 1 (ct.getD 1 0 + 1)).set 4 (ct.getD 4 0 + 1)).set 2 (ct.getD 2 0 + 1)
theorem fU_self {α : Type} (f : Nat → α) (k : Nat) : fU f k (f k) = f := funext fun j => by
  unfold fU
  split
  · rename_i hj; rw [hj]
  · rfl
section KR2
variable {sc : List Int32} {d : Nat} {E : ux_Ev} {f : Nat} {sl fk fp dn ct : List Int32} {tx : Nat → List Int32} {us : Nat → List sU} {x z : Nat} {w : Bool} {K : ux_K1}
theorem ko_renew2 (h : cS E sl tx us fk fp dn ct) (hf : f < 8) (hK : ∀ E' w', cS E' sl tx (fU us f (rnU f sl (tx f) (us f))) (fk.set f (rnR f sl (tx f) (us f)).1) (fp.set f (rnR f sl (tx f) (us f)).2.1) (dn.set f (rnR f sl (tx f) (us f)).2.2) (rnC (rnR f sl (tx f) (us f)) ct) → (∀ b, b < 5 ∨ 9 < b → b < 20 + 24 * f ∨ 41 + 24 * f < b → E' b = E b) → K (.inr none) E' x z w') : ux_Bm uxP sc 100 9 [.ref 1, .int (nI f)] E x z K := by
  refine ko_renew h hf (fun ha E' w' h' g' => hK E' w' ?_ g') (fun ha i U hU hfit hno E' w' h' g' => hK E' w' ?_ g') (fun ha hno k pl hr E' w' h' g' => hK E' w' ?_ g') (fun ha hno t q c hr hca E' w' h' g' => hK E' w' ?_ g')
  · have e1 : rnU f sl (tx f) (us f) = us f := if_pos ha
    have e2 : rnR f sl (tx f) (us f) = (0, -1, 0) := if_pos ha
    rw [e1, e2, fU_self]
    exact h'
  · have hi := uIdx_some hU hfit hno
    have e1 : rnU f sl (tx f) (us f) = U :: (us f).eraseIdx i := by unfold rnU; rw [if_neg ha, hi]; simp only [hU]
    have e2 : rnR f sl (tx f) (us f) = (0, -1, 1) := by unfold rnR; rw [if_neg ha, hi]
    rw [e1, e2]
    exact h'
  · have hi := uIdx_none hno
    have e1 : rnU f sl (tx f) (us f) = us f := by unfold rnU; rw [if_neg ha, hi]; simp only [hr]
    have e2 : rnR f sl (tx f) (us f) = (k, pl, 2) := by unfold rnR; rw [if_neg ha, hi]; simp only [hr]
    have hk : ¬ k = 0 := fun h0 => cAll_k hr (by rw [h0]; decide)
    rw [e1, e2, fU_self]
    have e3 : rnC (k, pl, 2) ct = ((ct.set 1 (ct.getD 1 0 + 1)).set 4 (ct.getD 4 0 + 1)).set 2 (ct.getD 2 0 + 1) := by unfold rnC; rw [if_neg (show ¬ (2 : Int32) = 0 by decide), if_neg (show ¬ (2 : Int32) = 1 by decide), if_neg hk]
    rw [e3]
    exact h'
  · have hi := uIdx_none hno
    have e1 : rnU f sl (tx f) (us f) = ((tx f, sl.getD f 0, calOf (tx f) sl, c) :: us f).take 3 := by unfold rnU; rw [if_neg ha, hi]; simp only [hr]
    have e2 : rnR f sl (tx f) (us f) = (0, -1, 2) := by unfold rnR; rw [if_neg ha, hi]; simp only [hr]
    rw [e1, e2]
    exact h'
end KR2
