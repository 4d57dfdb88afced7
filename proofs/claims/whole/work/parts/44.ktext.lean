/-! The class's texts and units. -/
def tS (E : ux_Ev) (t : Nat) (l : List Int32) : Prop := E t = some (5, [], [.ref (t + 1), .int (nI l.length)]) ∧ ∃ r, E (t + 1) = some (100, l ++ r, []) ∧ (l ++ r).length = 30
theorem tS.le {E : ux_Ev} {t : Nat} {l : List Int32} (h : tS E t l) : l.length ≤ 30 := by
  obtain ⟨_, r, _, h2⟩ := h
  rw [List.length_append] at h2; omega
theorem tS.fr {E E2 : ux_Ev} {t : Nat} {l : List Int32} (h : tS E t l) (h1 : E2 t = E t) (h2 : E2 (t + 1) = E (t + 1)) : tS E2 t l := by
  obtain ⟨a, r, b, c⟩ := h
  exact ⟨by rw [h1]; exact a, r, by rw [h2]; exact b, c⟩
theorem getD_app {l r : List Int32} {i : Nat} (h : i < l.length) : (l ++ r).getD i 0 = l.getD i 0 := by
  rw [List.getD_eq_getElem?_getD, List.getD_eq_getElem?_getD, List.getElem?_append_left h]
theorem ext_getD {l l2 : List Int32} (hl : l.length = l2.length) (h : ∀ j, j < l.length → l.getD j 0 = l2.getD j 0) : l = l2 := by
  refine List.ext_getElem hl fun j h1 h2 => ?_
  have := h j h1
  rw [List.getD_eq_getElem?_getD, List.getD_eq_getElem?_getD, List.getElem?_eq_getElem h1, List.getElem?_eq_getElem h2] at this
  exact this
section KT
variable {sc : List Int32} {d : Nat} {E : ux_Ev} {t t2 : Nat} {l l2 : List Int32} {x z : Nat} {w : Bool} {K : ux_K1}
theorem ko_hasT (h : tS E t l) (v : Int32) (hK1 : ∀ n, n < l.length → v = nI n → K (.inr (some (.int 1))) E x z false) (hK2 : v < 0 ∨ nI l.length ≤ v → K (.inr (some (.int 0))) E x z false) : ux_Bm uxP sc d 21 [.ref t, .int v] E x z K := by
  show ux_B uxP sc d 21 0 [.ref t, .int v] [] E x z false K
  have hle := h.le
  refine ux_BN 2 rfl ?_
  refine ux_Bif (fun h1 => ?_) (fun h1 => ?_)
  · refine ux_BN 1 rfl ?_
    exact ux_Bri rfl (Or.inr ⟨rfl, Or.inl rfl⟩) (hK2 (Or.inl h1))
  · refine ux_BN 2 rfl ?_
    refine ux_Bget rfl rfl h.1 rfl ?_
    refine ux_BN 1 rfl ?_
    refine ux_Bif (fun h2 => ?_) (fun h2 => ?_)
    · refine ux_BN 1 rfl ?_
      exact ux_Bri rfl (Or.inr ⟨rfl, Or.inl rfl⟩) (hK2 (Or.inr h2))
    · refine ux_BN 2 rfl ?_
      rcases pk_ix v (n := l.length) (by omega) with h3 | h3 | ⟨n, hn, h3⟩
      · exact absurd h3 h1
      · exact absurd h3 h2
      · exact ux_Bri rfl (Or.inr ⟨rfl, Or.inr rfl⟩) (hK1 n hn h3)
theorem ko_append (h : tS E t l) (y : Int32) (hK1 : l.length = 30 → K (.inr (some (.int 0))) E x z false) (hK2 : l.length < 30 → ∀ E' w', tS E' t (l ++ [y]) → (∀ b, b ≠ t → b ≠ t + 1 → E' b = E b) → K (.inr (some (.int 1))) E' x z w') : ux_Bm uxP sc d 55 [.ref t, .int y] E x z K := by
  show ux_B uxP sc d 55 0 [.ref t, .int y] [] E x z false K
  have hle := h.le
  obtain ⟨h1, r, h2, h3⟩ := h
  refine ux_BN 1 rfl ?_
  refine ux_Bget rfl rfl h1 rfl ?_
  refine ux_BN 2 rfl ?_
  refine ux_BltN l.length 30 rfl rfl (by omega) (by decide) (fun h => ?_) (fun h => ?_)
  · refine ux_BN 1 rfl ?_
    refine ux_Bget rfl rfl h1 rfl ?_
    refine ux_BN 1 rfl ?_
    refine ux_Bget rfl rfl h1 rfl ?_
    refine ux_BN 1 rfl ?_
    refine ux_BistN l.length rfl h2 rfl (by omega) (by omega) ?_
    have h1' : ux_up E (t + 1) (100, (l ++ r).set l.length y, []) t = some (5, [], [.ref (t + 1), .int (nI l.length)]) := by rw [ux_up_ne _ _ (by omega)]; exact h1
    refine ux_BN 2 rfl ?_
    refine ux_Bget rfl rfl h1' rfl ?_
    refine ux_BN 2 rfl ?_
    refine ux_Btop (nI (l ++ [y]).length) (by rw [List.length_append]; exact nI_1 _) ?_
    refine ux_Bput rfl rfl rfl h1' rfl (Nat.le_of_ble_eq_true rfl) ?_
    refine ux_BN 1 rfl ?_
    refine ux_Bri rfl (Or.inr ⟨rfl, Or.inr rfl⟩) (hK2 h _ _ ⟨ux_up_at _ _ _, ?_⟩ (fun b b1 b2 => by rw [ux_up_ne _ _ b1, ux_up_ne _ _ b2]))
    cases r with
    | nil => rw [List.append_nil] at h3; omega
    | cons a r =>
      refine ⟨r, ?_, by simp at h3 ⊢; omega⟩
      rw [ux_up_ne _ _ (by omega), ux_up_at]
      simp
  · refine ux_BN 1 rfl ?_
    exact ux_Bri rfl (Or.inr ⟨rfl, Or.inl rfl⟩) (hK1 (by omega))
theorem ko_copy (h : tS E t l) (h2 : tS E t2 l2) (hn1 : t2 ≠ t) (hn2 : t2 ≠ t + 1) (hn3 : t2 + 1 ≠ t) (hK : ∀ E' w', tS E' t l2 → (∀ b, b ≠ t → b ≠ t + 1 → E' b = E b) → K (.inr none) E' x z w') : ux_Bm uxP sc d 16 [.ref t, .ref t2] E x z K := by
  show ux_B uxP sc d 16 0 [.ref t, .ref t2, .null] [] E x z false K
  have hle := h2.le
  obtain ⟨h1, r, h3, h4⟩ := h
  obtain ⟨k1, r2, k3, k4⟩ := h2
  have hloop : ∀ n i E1 w r1, i + n = l2.length → E1 t = some (5, [], [.ref (t + 1), .int (nI l2.length)]) → E1 (t + 1) = some (100, l2.take i ++ r1, []) → (l2.take i ++ r1).length = 30 → (∀ b, b ≠ t → b ≠ t + 1 → E1 b = E b) → ux_B uxP sc d 16 10 [.ref t, .ref t2, .int (nI i)] [] E1 x z w K := by
    intro n
    induction n with
    | zero =>
      intro i E1 w r1 hi e1 e2 e3 e4
      have hi' : i = l2.length := by omega
      subst hi'
      refine ux_BN 2 rfl ?_
      refine ux_Bget rfl rfl e1 rfl ?_
      refine ux_BN 1 rfl ?_
      refine ux_Byes (nI_le (Nat.le_refl _) (by omega)) ?_
      rw [List.take_length] at e2 e3
      exact ux_Br rfl (hK _ _ ⟨e1, r1, e2, e3⟩ e4)
    | succ n ih =>
      intro i E1 w r1 hi e1 e2 e3 e4
      refine ux_BN 2 rfl ?_
      refine ux_Bget rfl rfl e1 rfl ?_
      refine ux_BN 1 rfl ?_
      refine ux_Bno (nI_ge (show i < l2.length by omega) (by omega)) ?_
      refine ux_BN 1 rfl ?_
      refine ux_Bget rfl rfl e1 rfl ?_
      refine ux_BN 2 rfl ?_
      refine ux_Bget rfl rfl (show E1 t2 = some (5, [], [.ref (t2 + 1), .int (nI l2.length)]) from by rw [e4 t2 hn1 hn2]; exact k1) rfl ?_
      refine ux_BN 1 rfl ?_
      refine ux_BildN i rfl (show E1 (t2 + 1) = some (100, l2 ++ r2, []) from by rw [e4 (t2 + 1) hn3 (by omega)]; exact k3) rfl (by omega) (by omega) ?_
      rw [getD_app (show i < l2.length by omega)]
      refine ux_BistN i rfl e2 rfl (by omega) (by omega) ?_
      refine ux_BN 2 rfl ?_
      have htk : (l2.take i).length = i := by rw [List.length_take]; omega
      cases r1 with
      | nil => rw [List.append_nil, htk] at e3; omega
      | cons a r1 =>
        have hset : (l2.take i ++ a :: r1).set i (l2.getD i 0) = l2.take (i + 1) ++ r1 := by
          rw [List.set_append_right _ _ (by omega), htk, Nat.sub_self, List.set_cons_zero]
          have : l2.take (i + 1) = l2.take i ++ [l2.getD i 0] := by
            rw [List.take_add_one, List.getD_eq_getElem?_getD, List.getElem?_eq_getElem (show i < l2.length by omega)]
            rfl
          rw [this]; simp
        have := fun w => ih (i + 1) (ux_up E1 (t + 1) (100, (l2.take i ++ a :: r1).set i (l2.getD i 0), [])) w r1 (by omega) (by rw [ux_up_ne _ _ (by omega)]; exact e1) (by rw [ux_up_at, hset]) (by rw [← hset, List.length_set]; exact e3) (fun b b1 b2 => by rw [ux_up_ne _ _ b2]; exact e4 b b1 b2)
        rw [← show nI i + Int32.ofInt 1 = nI (i + 1) from nI_1 i] at this
        exact this _
  refine ux_BN 2 rfl ?_
  refine ux_Bget rfl rfl k1 rfl ?_
  refine ux_Bput rfl rfl rfl h1 rfl (Nat.le_of_ble_eq_true rfl) ?_
  refine ux_BN 2 rfl ?_
  exact hloop l2.length 0 _ _ (l ++ r) (by omega) (ux_up_at _ _ _) (by rw [ux_up_ne _ _ (by omega)]; exact h3) h4 (fun b b1 b2 => by rw [ux_up_ne _ _ b1])
theorem ko_matches (h : tS E t l) (h2 : tS E t2 l2) (hK : K (.inr (some (.int (if l = l2 then 1 else 0)))) E x z false) : ux_Bm uxP sc d 12 [.ref t, .ref t2] E x z K := by
  show ux_B uxP sc d 12 0 [.ref t, .ref t2, .null] [] E x z false K
  have hle := h.le
  have hle2 := h2.le
  obtain ⟨h1, r, h3, h4⟩ := h
  obtain ⟨k1, r2, k3, k4⟩ := h2
  refine ux_BN 1 rfl ?_
  refine ux_Bget rfl rfl h1 rfl ?_
  refine ux_BN 1 rfl ?_
  refine ux_Bget rfl rfl k1 rfl ?_
  refine ux_BN 1 rfl ?_
  refine ux_BeqN l.length l2.length rfl rfl (by omega) (by omega) (fun hl => ?_) (fun hl => ?_)
  · have hloop : ∀ n i w, i + n = l.length → (∀ j, j < i → l.getD j 0 = l2.getD j 0) → w = false → ux_B uxP sc d 12 15 [.ref t, .ref t2, .int (nI i)] [] E x z w K := by
      intro n
      induction n with
      | zero =>
        intro i w hi hj hw
        subst hw
        refine ux_BN 2 rfl ?_
        refine ux_Bget rfl rfl h1 rfl ?_
        refine ux_BN 1 rfl ?_
        refine ux_Byes (nI_le (show l.length ≤ i by omega) (by omega)) ?_
        refine ux_BN 1 rfl ?_
        rw [if_pos (ext_getD hl fun j hj2 => hj j (by omega))] at hK
        exact ux_Bri rfl (Or.inr ⟨rfl, Or.inr rfl⟩) hK
      | succ n ih =>
        intro i w hi hj hw
        subst hw
        refine ux_BN 2 rfl ?_
        refine ux_Bget rfl rfl h1 rfl ?_
        refine ux_BN 1 rfl ?_
        refine ux_Bno (nI_ge (show i < l.length by omega) (by omega)) ?_
        refine ux_BN 1 rfl ?_
        refine ux_Bget rfl rfl h1 rfl ?_
        refine ux_BN 1 rfl ?_
        refine ux_BildN i rfl h3 rfl (by omega) (by omega) ?_
        rw [getD_app (show i < l.length by omega)]
        refine ux_BN 1 rfl ?_
        refine ux_Bget rfl rfl k1 rfl ?_
        refine ux_BN 1 rfl ?_
        refine ux_BildN i rfl k3 rfl (by omega) (by omega) ?_
        rw [getD_app (show i < l2.length by omega)]
        refine ux_BN 1 rfl ?_
        refine ux_Bif (fun h5 => ?_) (fun h5 => ?_)
        · refine ux_BN 2 rfl ?_
          have := ih (i + 1) false (by omega) (fun j hj2 => by
            by_cases hji : j = i
            · rw [hji]; exact h5
            · exact hj j (by omega)) rfl
          rw [← show nI i + Int32.ofInt 1 = nI (i + 1) from nI_1 i] at this
          exact this
        · refine ux_BN 1 rfl ?_
          rw [if_neg (fun h6 => h5 (by rw [h6]))] at hK
          exact ux_Bri rfl (Or.inr ⟨rfl, Or.inl rfl⟩) hK
    refine ux_BN 2 rfl ?_
    exact hloop l.length 0 _ (by omega) (fun j hj => by omega) rfl
  · refine ux_BN 1 rfl ?_
    rw [if_neg (fun h6 => hl (by rw [h6]))] at hK
    exact ux_Bri rfl (Or.inr ⟨rfl, Or.inl rfl⟩) hK
end KT
