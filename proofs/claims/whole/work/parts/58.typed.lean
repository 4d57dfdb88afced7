/-! Codes are well formed: a mark stands at each word: 0 at an operand, the height plus one at an operation. -/
def wI (par : Nat) (ar : Nat → Nat) (ok : Nat → Prop) (ad : Nat → Int32) (c : List Int32) (m : List Nat) (i h : Nat) : Prop :=
  (c.getD i 0 = 0 ∧ m.getD (i + 1) 0 = 0 ∧ m.getD (i + 2) 0 = h + 2 ∧ i + 2 ≤ c.length) ∨
  (c.getD i 0 = 1 ∧ m.getD (i + 1) 0 = 0 ∧ m.getD (i + 2) 0 = h + 2 ∧ i + 2 ≤ c.length ∧ ∃ k, (k < par ∧ par ≤ h) ∧ c.getD (i + 1) 0 = nI k) ∨
  ((∃ k, (2 ≤ k ∧ k ≤ 6) ∧ c.getD i 0 = nI k) ∧ par + 2 ≤ h ∧ m.getD (i + 1) 0 = h ∧ i + 1 ≤ c.length) ∨
  (c.getD i 0 = 7 ∧ m.getD (i + 1) 0 = 0 ∧ m.getD (i + 2) 0 = h ∧ par + 1 ≤ h ∧ ∃ d, c.getD (i + 1) 0 = nI d ∧ i + 2 + d ≤ c.length ∧ m.getD (i + 2 + d) 0 = h) ∨
  (c.getD i 0 = 8 ∧ m.getD (i + 1) 0 = 0 ∧ 0 < m.getD (i + 2) 0 ∧ ∃ d, c.getD (i + 1) 0 = nI d ∧ i + 2 + d ≤ c.length ∧ m.getD (i + 2 + d) 0 = h + 1) ∨
  (c.getD i 0 = 9 ∧ m.getD (i + 1) 0 = 0 ∧ i + 2 ≤ c.length ∧ ∃ k, (k < 8 ∧ ok k) ∧ c.getD (i + 1) 0 = ad k ∧ par + ar k ≤ h ∧ m.getD (i + 2) 0 = h - ar k + 2)
def wC (par : Nat) (ar : Nat → Nat) (ok : Nat → Prop) (ad : Nat → Int32) (c : List Int32) (m : List Nat) (h0 h1 : Nat) : Prop := m.length = c.length ∧ (m ++ [h1 + 1]).getD 0 0 = h0 + 1 ∧ ∀ i h, i < c.length → m.getD i 0 = h + 1 → wI par ar ok ad c (m ++ [h1 + 1]) i h
section WF
variable {par : Nat} {ar : Nat → Nat} {ok : Nat → Prop} {ad : Nat → Int32}
theorem wI.shift {c c2 : List Int32} {m m2 : List Nat} {i h s : Nat} (hw : wI par ar ok ad c m i h) (hi : i < c.length) (hc : ∀ j, i ≤ j → j < c.length → c2.getD (j + s) 0 = c.getD j 0) (hm : ∀ j, i ≤ j → j ≤ c.length → m2.getD (j + s) 0 = m.getD j 0) (hl : c.length + s ≤ c2.length) : wI par ar ok ad c2 m2 (i + s) h := by
  have e0 := hc i (Nat.le_refl _) hi
  have a1 : i + s + 1 = i + 1 + s := by omega
  have a2 : i + s + 2 = i + 2 + s := by omega
  have a3 : ∀ d, i + 2 + s + d = i + 2 + d + s := fun d => by omega
  unfold wI at hw ⊢
  rw [e0, a1, a2]
  simp only [a3]
  rcases hw with ⟨w1, w2, w3, w4⟩ | ⟨w1, w2, w3, w4, k, w5, w6⟩ | ⟨w1, w2, w3, w4⟩ | ⟨w1, w2, w3, w4, d, w5, w6, w7⟩ | ⟨w1, w2, w3, d, w5, w6, w7⟩ | ⟨w1, w2, w3, k, w4, w5, w6, w7⟩
  · exact Or.inl ⟨w1, by rw [hm _ (by omega) (by omega)]; exact w2, by rw [hm _ (by omega) (by omega)]; exact w3, by omega⟩
  · exact Or.inr (Or.inl ⟨w1, by rw [hm _ (by omega) (by omega)]; exact w2, by rw [hm _ (by omega) (by omega)]; exact w3, by omega, k, w5, by rw [hc _ (by omega) (by omega)]; exact w6⟩)
  · exact Or.inr (Or.inr (Or.inl ⟨w1, w2, by rw [hm _ (by omega) (by omega)]; exact w3, by omega⟩))
  · exact Or.inr (Or.inr (Or.inr (Or.inl ⟨w1, by rw [hm _ (by omega) (by omega)]; exact w2, by rw [hm _ (by omega) (by omega)]; exact w3, w4, d, by rw [hc _ (by omega) (by omega)]; exact w5, by omega, by rw [hm _ (by omega) (by omega)]; exact w7⟩)))
  · exact Or.inr (Or.inr (Or.inr (Or.inr (Or.inl ⟨w1, by rw [hm _ (by omega) (by omega)]; exact w2, by rw [hm _ (by omega) (by omega)]; exact w3, d, by rw [hc _ (by omega) (by omega)]; exact w5, by omega, by rw [hm _ (by omega) (by omega)]; exact w7⟩))))
  · exact Or.inr (Or.inr (Or.inr (Or.inr (Or.inr ⟨w1, by rw [hm _ (by omega) (by omega)]; exact w2, by omega, k, w4, by rw [hc _ (by omega) (by omega)]; exact w5, w6, by rw [hm _ (by omega) (by omega)]; exact w7⟩))))
theorem gN_l {l r : List Nat} {i : Nat} (h : i < l.length) : (l ++ r).getD i 0 = l.getD i 0 := by
  rw [List.getD_eq_getElem?_getD, List.getD_eq_getElem?_getD, List.getElem?_append_left h]
theorem gN_r {l r : List Nat} {i : Nat} (j : Nat) (h : i = l.length + j) : (l ++ r).getD i 0 = r.getD j 0 := by
  rw [List.getD_eq_getElem?_getD, List.getD_eq_getElem?_getD, List.getElem?_append_right (by omega), show i - l.length = j by omega]
theorem gI_r {l r : List Int32} {i : Nat} (j : Nat) (h : i = l.length + j) : (l ++ r).getD i 0 = r.getD j 0 := by
  rw [List.getD_eq_getElem?_getD, List.getD_eq_getElem?_getD, List.getElem?_append_right (by omega), show i - l.length = j by omega]
theorem wC.app {c1 c2 : List Int32} {m1 m2 : List Nat} {h0 h1 h2 : Nat} (a : wC par ar ok ad c1 m1 h0 h1) (b : wC par ar ok ad c2 m2 h1 h2) : wC par ar ok ad (c1 ++ c2) (m1 ++ m2) h0 h2 := by
  obtain ⟨a1, a2, a3⟩ := a
  obtain ⟨b1, b2, b3⟩ := b
  have hleft : ∀ j, j ≤ c1.length → (m1 ++ m2 ++ [h2 + 1]).getD j 0 = (m1 ++ [h1 + 1]).getD j 0 := by
    intro j hj
    by_cases hj2 : j < m1.length
    · rw [List.append_assoc, gN_l hj2, gN_l hj2]
    · rw [List.append_assoc, gN_r 0 (show j = m1.length + 0 by omega), b2, gN_r 0 (show j = m1.length + 0 by omega)]
      rfl
  refine ⟨by rw [List.length_append, List.length_append, a1, b1], ?_, fun i h hi hm => ?_⟩
  · rw [hleft 0 (Nat.zero_le _)]; exact a2
  · by_cases hi1 : i < c1.length
    · rw [gN_l (by omega)] at hm
      have := (a3 i h hi1 hm).shift (c2 := c1 ++ c2) (m2 := m1 ++ m2 ++ [h2 + 1]) (s := 0) hi1 (fun j _ hj2 => by rw [Nat.add_zero]; exact getD_app hj2) (fun j _ hj2 => by rw [Nat.add_zero]; exact hleft j hj2) (by rw [List.length_append]; omega)
      exact this
    · obtain ⟨k, rfl⟩ : ∃ k, i = k + c1.length := ⟨i - c1.length, by omega⟩
      rw [gN_r k (by omega)] at hm
      rw [List.length_append] at hi
      exact (b3 k h (by omega) hm).shift (by omega) (fun j _ _ => gI_r j (by omega)) (fun j _ _ => by rw [List.append_assoc, gN_r j (by omega)]) (by rw [List.length_append]; omega)
theorem wC_num (x : Int32) (h : Nat) : wC par ar ok ad [0, x] [h + 1, 0] h (h + 1) := by
  refine ⟨rfl, rfl, fun i h' hi hm => ?_⟩
  have : i = 0 ∨ i = 1 := by simp at hi; omega
  rcases this with rfl | rfl
  · cases hm
    exact Or.inl ⟨rfl, rfl, rfl, by simp⟩
  · cases hm
theorem wC_par {k : Nat} (hk : k < par) {h : Nat} (hh : par ≤ h) : wC par ar ok ad [1, nI k] [h + 1, 0] h (h + 1) := by
  refine ⟨rfl, rfl, fun i h' hi hm => ?_⟩
  have : i = 0 ∨ i = 1 := by simp at hi; omega
  rcases this with rfl | rfl
  · cases hm
    exact Or.inr (Or.inl ⟨rfl, rfl, rfl, by simp, k, ⟨hk, hh⟩, rfl⟩)
  · cases hm
theorem wC_op {k : Nat} (hk : 2 ≤ k ∧ k ≤ 6) {h : Nat} (hh : par ≤ h) : wC par ar ok ad [nI k] [h + 3] (h + 2) (h + 1) := by
  refine ⟨rfl, rfl, fun i h' hi hm => ?_⟩
  have : i = 0 := by simp at hi; omega
  subst this
  cases hm
  exact Or.inr (Or.inr (Or.inl ⟨⟨k, hk, rfl⟩, by omega, rfl, by simp⟩))
theorem wC_call {k : Nat} (hk : k < 8 ∧ ok k) {h : Nat} (hh : par ≤ h) : wC par ar ok ad [9, ad k] [h + ar k + 1, 0] (h + ar k) (h + 1) := by
  refine ⟨rfl, rfl, fun i h' hi hm => ?_⟩
  have : i = 0 ∨ i = 1 := by simp at hi; omega
  rcases this with rfl | rfl
  · have hm : h + ar k + 1 = h' + 1 := hm
    have : h' = h + ar k := by omega
    subst this
    refine Or.inr (Or.inr (Or.inr (Or.inr (Or.inr ⟨rfl, rfl, by simp, k, hk, rfl, by omega, ?_⟩))))
    show h + 1 + 1 = _
    omega
  · cases hm
end WF
