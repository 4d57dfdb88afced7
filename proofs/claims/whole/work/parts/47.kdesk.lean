/-! The class's desk: what build does with one function. -/
def calOf (t sl : List Int32) : List Int32 := (List.range 8).map fun g => if nI (g + 11) ∈ t then sl.getD g 0 else -1
theorem calOf_len (t sl : List Int32) : (calOf t sl).length = 8 := by simp [calOf]
theorem calOf_at (t sl : List Int32) {g : Nat} (hg : g < 8) : (calOf t sl).getD g 0 = if nI (g + 11) ∈ t then sl.getD g 0 else -1 := by
  unfold calOf
  rw [List.getD_eq_getElem?_getD, List.getElem?_map, List.getElem?_range hg]
  rfl
theorem cx_congr {tk tk2 : Nat → Int32} {L : Nat} {own : Int32} {sg : Nat → Int32} (h : ∀ i, i < L → tk i = tk2 i) : ∀ n, cx tk L own sg n = cx tk2 L own sg n := by
  intro n
  induction n with
  | zero => rfl
  | succ n ih =>
    funext p
    show (if L ≤ p then _ else _) = (if L ≤ p then _ else _)
    by_cases hp : L ≤ p
    · rw [if_pos hp, if_pos hp]
    · rw [if_neg hp, if_neg hp, ih, h p (by omega)]
theorem cAll_congr {tk tk2 : Nat → Int32} {L : Nat} {own : Int32} {sg : Nat → Int32} (h : ∀ i, i < L → tk i = tk2 i) : cAll tk L own sg = cAll tk2 L own sg := by
  unfold cAll; rw [cx_congr h]
/-- what a text compiles to -/
def cOf (f : Nat) (t sl : List Int32) : cR := cAll (fun i => t.getD i 0) t.length (sl.getD f 0) (fun h => sl.getD h 0)
def sOk (sl : List Int32) : Prop := sl.length = 8 ∧ ∀ h, h < 8 → sl.getD h 0 = -1 ∨ ∃ j, j < 64 ∧ sl.getD h 0 = nI j
/-- the class's desk but for image and machine -/
def cS (E : ux_Ev) (sl : List Int32) (tx : Nat → List Int32) (us : Nat → List sU) (fk fp dn ct : List Int32) : Prop :=
  E 1 = some (0, [], [.ref 2, .ref 3, .ref 4, .ref 5, .ref 6, .ref 7, .ref 8, .ref 9, .ref 10, .ref 14]) ∧ E 2 = some (100, sl, []) ∧ sOk sl ∧ E 3 = some (103, [], (List.range 8).map fun f => .ref (18 + 24 * f)) ∧ E 4 = some (104, [], (List.range 8).map fun f => .ref (20 + 24 * f)) ∧ (E 5 = some (100, fk, []) ∧ fk.length = 8) ∧ (E 6 = some (100, fp, []) ∧ fp.length = 8) ∧ (E 7 = some (100, dn, []) ∧ dn.length = 8) ∧ (E 8 = some (100, ct, []) ∧ ct.length = 5) ∧ (∃ a b p, E 9 = some (1, [], [.int a, .int b, .int (nI p)])) ∧ ∀ f, f < 8 → tS E (18 + 24 * f) (tx f) ∧ ∃ n vs, sS E f n vs ∧ us f = (vs.take n).map fun v => v.2
theorem rng_at {g : Nat → Value} {f : Nat} (hf : f < 8) : ((List.range 8).map g)[f]? = some (g f) := by
  rw [List.getElem?_map, List.getElem?_range hf]; rfl
theorem tS.frL {E E2 : ux_Ev} {t : Nat} {l : List Int32} (h : tS E t l) (he : ∀ b, t ≤ b → b ≤ t + 1 → E2 b = E b) : tS E2 t l := h.fr (he _ (by omega) (by omega)) (he _ (by omega) (by omega))
theorem sS.frL {E E2 : ux_Ev} {f n : Nat} {vs : List (Nat × sU)} (h : sS E f n vs) (he : ∀ b, 20 + 24 * f ≤ b → b ≤ 41 + 24 * f → E2 b = E b) : sS E2 f n vs := by
  obtain ⟨a1, a2, a3, a4, a5, a6⟩ := h
  refine ⟨by rw [he _ (by omega) (by omega)]; exact a1, by rw [he _ (by omega) (by omega)]; exact a2, a3, a4, a5, fun v hv => ?_⟩
  obtain ⟨c1, k, hk, c2⟩ := a6 v hv
  exact ⟨c1.fr fun b hb1 hb2 => he b (by omega) (by omega), k, hk, c2⟩
/-- one content changes -/
theorem sS.put {E E2 : ux_Ev} {f n i : Nat} {vs : List (Nat × sU)} (h : sS E f n vs) {v : Nat × sU} (hv : vs[i]? = some v) (U : sU) (hU : uS E2 v.1 U) (he : ∀ b, b < v.1 ∨ v.1 + 4 < b → 20 + 24 * f ≤ b → b ≤ 41 + 24 * f → E2 b = E b) : sS E2 f n (vs.set i (v.1, U)) := by
  obtain ⟨a1, a2, a3, a4, a5, a6⟩ := h
  have hvm : v ∈ vs := List.mem_of_getElem? hv
  have hi : i < vs.length := (List.getElem?_eq_some_iff.mp hv).1
  obtain ⟨_, k, hk, hvk⟩ := a6 v hvm
  have hm : ((vs.set i (v.1, U)).map fun v => v.1) = vs.map fun v => v.1 := by
    rw [List.map_set]
    refine List.ext_getElem? fun j => ?_
    by_cases hji : j = i
    · subst hji
      rw [List.getElem?_set_self (by simpa using hi), List.getElem?_map, hv]; rfl
    · rw [List.getElem?_set_ne (fun h => hji h.symm)]
  have hm2 : ((vs.set i (v.1, U)).map fun v => Value.ref v.1) = vs.map fun v => Value.ref v.1 := by
    rw [show ((vs.set i (v.1, U)).map fun v => Value.ref v.1) = ((vs.set i (v.1, U)).map fun v => v.1).map Value.ref from by rw [List.map_map]; rfl, hm, List.map_map]; rfl
  refine ⟨by rw [he _ (by omega) (by omega) (by omega)]; exact a1, by rw [he _ (by omega) (by omega) (by omega), hm2]; exact a2, by rw [List.length_set]; exact a3, a4, by rw [hm]; exact a5, fun y hy => ?_⟩
  obtain ⟨j, hj⟩ := List.getElem?_of_mem hy
  by_cases hji : j = i
  · subst hji
    rw [List.getElem?_set_self hi] at hj
    cases hj
    exact ⟨hU, k, hk, hvk⟩
  · rw [List.getElem?_set_ne (fun h => hji h.symm)] at hj
    obtain ⟨c1, k2, hk2, c2⟩ := a6 y (List.mem_of_getElem? hj)
    refine ⟨c1.fr fun b hb1 hb2 => he b ?_ (by omega) (by omega), k2, hk2, c2⟩
    have hne : y.1 ≠ v.1 := by
      intro hyv
      have hjl : j < vs.length := (List.getElem?_eq_some_iff.mp hj).1
      have h1 : (vs.map fun v => v.1)[j]'(by simpa using hjl) = v.1 := by
        rw [List.getElem_map, (List.getElem?_eq_some_iff.mp hj).2, hyv]
      have h2 : (vs.map fun v => v.1)[i]'(by simpa using hi) = v.1 := by
        rw [List.getElem_map, (List.getElem?_eq_some_iff.mp hv).2]
      have h3 := List.pairwise_iff_getElem.mp a5
      rcases Nat.lt_or_gt_of_ne hji with hlt | hgt
      · exact h3 j i (by simpa using hjl) (by simpa using hi) hlt (h1.trans h2.symm)
      · exact h3 i j (by simpa using hi) (by simpa using hjl) hgt (h2.trans h1.symm)
    omega
section KD
variable {sc : List Int32} {d : Nat} {E : ux_Ev} {f : Nat} {sl fk fp dn ct : List Int32} {tx : Nat → List Int32} {us : Nat → List sU} {x z : Nat} {w : Bool} {K : ux_K1}
/-- from a unit just begun to the compiler's state -/
theorem kq_of {a L : Nat} {own fa fb : Int32} {p : Nat} {t : List Int32} (ha : 18 ≤ a) (hu : uS E a (t, own, List.replicate 8 (-1), [])) (h9 : E 9 = some (1, [], [.int fa, .int fb, .int (nI p)])) (h2 : E 2 = some (100, sl, [])) (hl : sl.length = 8) (hL : L = t.length) : ∃ r, (t ++ r).length = 30 ∧ kq E a sl (t ++ r) own L p fa fb (List.replicate 8 (-1)) [] E := by
  obtain ⟨h1, ⟨ht1, r, ht2, ht3⟩, ⟨h3, h4⟩, r4, h5, h6⟩ := hu
  subst hL
  exact ⟨r, ht3, ha, h9, h1, ht1, ⟨ht2, ht3⟩, ⟨h3, h4⟩, ⟨r4, h5, h6⟩, ⟨h2, hl⟩, fun _ _ _ _ _ => rfl⟩
theorem uS_of {E0 : ux_Ev} {a p : Nat} {own fa fb : Int32} {t r cal c : List Int32} (m : kq E0 a sl (t ++ r) own t.length p fa fb cal c E) : uS E a (t, own, cal, c) := by
  obtain ⟨hu, h9, hu0, hu1, hu2, hu3, ⟨t4, hu4, hl4⟩, h2, hE⟩ := m
  exact ⟨hu0, ⟨hu1, r, hu2.1, hu2.2⟩, hu3, t4, hu4, hl4⟩
theorem cal_of {t r cal : List Int32} (hr : (t ++ r).length = 30) (hc : cal.length = 8) (h : calR (fun i => (t ++ r).getD i 0) (fun h => sl.getD h 0) 0 t.length (List.replicate 8 (-1)) cal) : cal = calOf t sl ∧ ∀ g, g < 8 → nI (g + 11) ∈ t → ¬ sl.getD g 0 = -1 := by
  have hiff : ∀ g, (∃ i, 0 ≤ i ∧ i < t.length ∧ (t ++ r).getD i 0 = nI (g + 11)) ↔ nI (g + 11) ∈ t := by
    intro g
    constructor
    · rintro ⟨i, _, hi, h⟩
      rw [getD_app hi, List.getD_eq_getElem?_getD, List.getElem?_eq_getElem hi] at h
      rw [← h]
      exact List.getElem_mem hi
    · intro h
      obtain ⟨i, hi, h2⟩ := List.getElem_of_mem h
      refine ⟨i, Nat.zero_le _, hi, ?_⟩
      rw [getD_app hi, List.getD_eq_getElem?_getD, List.getElem?_eq_getElem hi]
      exact h2
  refine ⟨ext_getD (by rw [hc, calOf_len]) fun g hg => ?_, fun g hg hm => ((h g hg).1 ((hiff g).mpr hm)).2⟩
  have hg8 : g < 8 := by omega
  rw [calOf_at t sl hg8]
  by_cases hm : nI (g + 11) ∈ t
  · rw [if_pos hm]
    exact ((h g hg8).1 ((hiff g).mpr hm)).1
  · rw [if_neg hm, (h g hg8).2 (fun h2 => hm ((hiff g).mp h2))]
    have : g = 0 ∨ g = 1 ∨ g = 2 ∨ g = 3 ∨ g = 4 ∨ g = 5 ∨ g = 6 ∨ g = 7 := by omega
    rcases this with rfl | rfl | rfl | rfl | rfl | rfl | rfl | rfl <;> rfl
end KD
