/-! The class's shelves. -/
def fron (i : Nat) (vs : List (Nat × sU)) : List (Nat × sU) := match vs[i]? with
  | some v => v :: vs.eraseIdx i
  | none => vs
section KS
variable {sc : List Int32} {d : Nat} {E : ux_Ev} {t2 f n : Nat} {l2 sl : List Int32} {vs : List (Nat × sU)} {x z : Nat} {w : Bool} {K : ux_K1}
theorem sS.at (h : sS E f n vs) {i : Nat} (hi : i < 4) : ∃ v, vs[i]? = some v ∧ v ∈ vs := by
  have hl := h.2.2.1
  exact ⟨vs[i], List.getElem?_eq_getElem (by omega), List.getElem_mem _⟩
theorem sS.ref (h : sS E f n vs) {i : Nat} {v : Nat × sU} (hv : vs[i]? = some v) : (vs.map fun v => Value.ref v.1)[i]? = some (.ref v.1) := by
  rw [List.getElem?_map, hv]; rfl
theorem ko_fitting (h : sS E f n vs) (h2 : tS E t2 l2) (hsl : E 2 = some (100, sl, [])) (hl : sl.length = 8) (hf : f < 8)
    (hK1 : ∀ i v, i < n → vs[i]? = some v → uFit f sl l2 v.2 = true → (∀ j v, j < i → vs[j]? = some v → ¬ uFit f sl l2 v.2 = true) → K (.inr (some (.int (nI i)))) E x z false)
    (hK2 : (∀ j v, j < n → vs[j]? = some v → ¬ uFit f sl l2 v.2 = true) → K (.inr (some (.int (-1)))) E x z false) : ux_Bm uxP sc (d + 2) 10 [.ref (20 + 24 * f), .ref t2, .int (nI f), .ref 2] E x z K := by
  show ux_B uxP sc (d + 2) 10 0 [.ref (20 + 24 * f), .ref t2, .int (nI f), .ref 2, .null] [] E x z false K
  have hn3 := h.2.2.2.1
  refine ux_BN 2 rfl ?_
  have hloop : ∀ m i w, i + m = n → (∀ j v, j < i → vs[j]? = some v → ¬ uFit f sl l2 v.2 = true) → w = false → ux_B uxP sc (d + 2) 10 3 [.ref (20 + 24 * f), .ref t2, .int (nI f), .ref 2, .int (nI i)] [] E x z w K := by
    intro m
    induction m with
    | zero =>
      intro i w hi hj hw
      subst hw
      refine ux_BN 2 rfl ?_
      refine ux_Bget rfl rfl h.1 rfl ?_
      refine ux_BN 1 rfl ?_
      refine ux_Byes (nI_le (show n ≤ i by omega) (by omega)) ?_
      refine ux_BN 1 rfl ?_
      exact ux_Bri rfl (Or.inl rfl) (hK2 fun j v hj2 => hj j v (by omega))
    | succ m ih =>
      intro i w hi hj hw
      subst hw
      obtain ⟨v, hv, hvm⟩ := h.at (show i < 4 by omega)
      refine ux_BN 2 rfl ?_
      refine ux_Bget rfl rfl h.1 rfl ?_
      refine ux_BN 1 rfl ?_
      refine ux_Bno (nI_ge (show i < n by omega) (by omega)) ?_
      refine ux_BN 1 rfl ?_
      refine ux_Bget rfl rfl h.1 rfl ?_
      refine ux_BN 1 rfl ?_
      refine ux_BaldN i rfl h.2.1 (by decide) rfl (by omega) (h.ref hv) ?_
      refine ux_BN 3 rfl ?_
      have hu := (h.2.2.2.2.2 v hvm).1
      refine ux_Bv rfl rfl rfl hu.1 rfl (by decide) rfl rfl ?_
      refine ko_ufits hu h2 hsl hl hf ?_
      refine ux_BN 1 rfl ?_
      by_cases hfit : uFit f sl l2 v.2 = true
      · rw [if_pos hfit]
        refine ux_Bno (by decide) ?_
        refine ux_BN 1 rfl ?_
        exact ux_Bri rfl (Or.inl rfl) (hK1 i v (by omega) hv hfit hj)
      · rw [if_neg hfit]
        refine ux_Byes rfl ?_
        refine ux_BN 2 rfl ?_
        have := ih (i + 1) false (by omega) (fun j v2 hj2 hv2 => by
          by_cases hji : j = i
          · subst hji
            rw [hv] at hv2; cases hv2
            exact hfit
          · exact hj j v2 (by omega) hv2) rfl
        rw [← show nI i + Int32.ofInt 1 = nI (i + 1) from nI_1 i] at this
        exact this
  exact hloop n 0 _ (by omega) (fun j v hj => by omega) rfl
theorem ko_spare (h : sS E f n vs) {v : Nat × sU} (hv : vs[n]? = some v) (hK : K (.inr (some (.ref v.1))) E x z false) : ux_Bm uxP sc d 14 [.ref (20 + 24 * f)] E x z K := by
  show ux_B uxP sc d 14 0 [.ref (20 + 24 * f)] [] E x z false K
  have hn3 := h.2.2.2.1
  refine ux_BN 1 rfl ?_
  refine ux_Bget rfl rfl h.1 rfl ?_
  refine ux_BN 1 rfl ?_
  refine ux_Bget rfl rfl h.1 rfl ?_
  refine ux_BaldN n rfl h.2.1 (by decide) rfl (by omega) (h.ref hv) ?_
  exact ux_Br rfl hK
theorem ko_latest (h : sS E f n vs) {v : Nat × sU} (hv : vs[0]? = some v) (hK : K (.inr (some (.ref v.1))) E x z false) : ux_Bm uxP sc d 38 [.ref (20 + 24 * f)] E x z K := by
  show ux_B uxP sc d 38 0 [.ref (20 + 24 * f)] [] E x z false K
  refine ux_BN 1 rfl ?_
  refine ux_Bget rfl rfl h.1 rfl ?_
  refine ux_BN 1 rfl ?_
  refine ux_BaldN 0 rfl h.2.1 (by decide) rfl (by decide) (h.ref hv) ?_
  exact ux_Br rfl hK
theorem kf_step {s : Nat} {n i : Int32} {rs : List Value} {a j b : Nat} {vs' : List Value} (h0 : E s = some (4, [], [.ref (s + 1), .int n])) (h1 : E (s + 1) = some (105, [], rs)) (hj : rs[j]? = some (.ref a)) (ha : E a = some (6, [], vs')) (hl : j + 1 < rs.length) (hb : j + 1 < 2 ^ 31)
    (hK : ∀ w, ux_B uxP sc d 36 9 [.ref s, .int i, .ref b, .int (nI j)] [] (ux_up E (s + 1) (105, [], rs.set (j + 1) (.ref a))) x z w K) : ux_B uxP sc d 36 9 [.ref s, .int i, .ref b, .int (nI (j + 1))] [] E x z w K := by
  refine ux_BN 2 rfl ?_
  refine ux_Bno (nI_nle (by omega) hb) ?_
  refine ux_BN 1 rfl ?_
  refine ux_Bget rfl rfl h0 rfl ?_
  refine ux_BN 2 rfl ?_
  refine ux_Bget rfl rfl h0 rfl ?_
  refine ux_BN 3 rfl ?_
  refine ux_BaldN j rfl h1 (by decide) (nI_pred j) (by omega) hj ?_
  refine ux_BastN (j + 1) rfl h1 ha (by decide) (by decide) rfl rfl hb hl ?_
  refine ux_BN 2 rfl ?_
  have := hK true
  rw [← show nI (j + 1) + Int32.ofInt (-1) = nI j from pk_m1 j] at this
  exact this
theorem kf_end {s : Nat} {n i : Int32} {rs : List Value} {b : Nat} {vs' : List Value} (h0 : E s = some (4, [], [.ref (s + 1), .int n])) (h1 : E (s + 1) = some (105, [], rs)) (hb : E b = some (6, [], vs')) (hl : 0 < rs.length)
    (hK : ∀ w, K (.inr none) (ux_up E (s + 1) (105, [], rs.set 0 (.ref b))) x z w) : ux_B uxP sc d 36 9 [.ref s, .int i, .ref b, .int (nI 0)] [] E x z w K := by
  refine ux_BN 2 rfl ?_
  refine ux_Byes (by decide) ?_
  refine ux_BN 1 rfl ?_
  refine ux_Bget rfl rfl h0 rfl ?_
  refine ux_BN 2 rfl ?_
  refine ux_BastN 0 rfl h1 hb (by decide) (by decide) rfl rfl (by decide) hl ?_
  exact ux_Br rfl (hK _)
theorem ko_front (h : sS E f n vs) (i : Nat) (hi : i < 4) (hK : ∀ E' w', E' (21 + 24 * f) = some (105, [], (fron i vs).map fun v => .ref v.1) → (∀ b, b ≠ 21 + 24 * f → E' b = E b) → K (.inr none) E' x z w') : ux_Bm uxP sc d 36 [.ref (20 + 24 * f), .int (nI i)] E x z K := by
  show ux_B uxP sc d 36 0 [.ref (20 + 24 * f), .int (nI i), .null, .null] [] E x z false K
  obtain ⟨v0, v1, v2, v3, rfl⟩ : ∃ v0 v1 v2 v3, vs = [v0, v1, v2, v3] := by
    have hl := h.2.2.1
    match vs, hl with
    | [v0, v1, v2, v3], _ => exact ⟨v0, v1, v2, v3, rfl⟩
  have h0 : E (20 + 24 * f) = some (4, [], [.ref (20 + 24 * f + 1), .int (nI n)]) := by rw [show 20 + 24 * f + 1 = 21 + 24 * f by omega]; exact h.1
  have h1 : E (20 + 24 * f + 1) = some (105, [], [.ref v0.1, .ref v1.1, .ref v2.1, .ref v3.1]) := by rw [show 20 + 24 * f + 1 = 21 + 24 * f by omega]; exact h.2.1
  have u0 := h.2.2.2.2.2 v0 (by simp)
  have u1 := h.2.2.2.2.2 v1 (by simp)
  have u2 := h.2.2.2.2.2 v2 (by simp)
  have u3 := h.2.2.2.2.2 v3 (by simp)
  have hup : ∀ (E : ux_Ev) (a : Nat) (c : ux_C), a < 21 + 24 * f ∨ 22 + 24 * f ≤ a → ux_up E (20 + 24 * f + 1) c a = E a := fun E a c ha => ux_up_ne _ _ (by omega)
  have hK' : ∀ E' w', E' (20 + 24 * f + 1) = some (105, [], (fron i [v0, v1, v2, v3]).map fun v => .ref v.1) → (∀ b, b ≠ 20 + 24 * f + 1 → E' b = E b) → K (.inr none) E' x z w' := by
    intro E' w' a b
    refine hK E' w' ?_ (fun b2 hb2 => b b2 (by omega))
    rw [show 20 + 24 * f + 1 = 21 + 24 * f by omega] at a
    exact a
  refine ux_BN 1 rfl ?_
  refine ux_Bget rfl rfl h0 rfl ?_
  refine ux_BN 1 rfl ?_
  have hi4 : i = 0 ∨ i = 1 ∨ i = 2 ∨ i = 3 := by omega
  rcases hi4 with rfl | rfl | rfl | rfl
  · refine ux_BaldN 0 rfl h1 (by decide) rfl (by decide) rfl ?_
    refine ux_BN 3 rfl ?_
    refine kf_end h0 h1 u0.1.1 (Nat.le_of_ble_eq_true rfl) fun w => hK' _ _ (ux_up_at _ _ _) (fun b hb => ux_up_ne _ _ hb)
  · refine ux_BaldN 1 rfl h1 (by decide) rfl (by decide) rfl ?_
    refine ux_BN 3 rfl ?_
    refine kf_step h0 h1 (j := 0) rfl u0.1.1 (Nat.le_of_ble_eq_true rfl) (by decide) fun w => ?_
    refine kf_end (by rw [hup _ _ _ (by omega)]; exact h0) (ux_up_at _ _ _) (by obtain ⟨k, hk, e⟩ := u1.2; rw [hup _ _ _ (by omega)]; exact u1.1.1) (Nat.le_of_ble_eq_true rfl) fun w => hK' _ _ (ux_up_at _ _ _) (fun b hb => by rw [ux_up_ne _ _ hb, ux_up_ne _ _ hb])
  · refine ux_BaldN 2 rfl h1 (by decide) rfl (by decide) rfl ?_
    refine ux_BN 3 rfl ?_
    refine kf_step h0 h1 (j := 1) rfl u1.1.1 (Nat.le_of_ble_eq_true rfl) (by decide) fun w => ?_
    refine kf_step (by rw [hup _ _ _ (by omega)]; exact h0) (ux_up_at _ _ _) (j := 0) rfl (by obtain ⟨k, hk, e⟩ := u0.2; rw [hup _ _ _ (by omega)]; exact u0.1.1) (Nat.le_of_ble_eq_true rfl) (by decide) fun w => ?_
    refine kf_end (by rw [hup _ _ _ (by omega), hup _ _ _ (by omega)]; exact h0) (ux_up_at _ _ _) (by obtain ⟨k, hk, e⟩ := u2.2; rw [hup _ _ _ (by omega), hup _ _ _ (by omega)]; exact u2.1.1) (Nat.le_of_ble_eq_true rfl) fun w => hK' _ _ (ux_up_at _ _ _) (fun b hb => by rw [ux_up_ne _ _ hb, ux_up_ne _ _ hb, ux_up_ne _ _ hb])
  · refine ux_BaldN 3 rfl h1 (by decide) rfl (by decide) rfl ?_
    refine ux_BN 3 rfl ?_
    refine kf_step h0 h1 (j := 2) rfl u2.1.1 (Nat.le_of_ble_eq_true rfl) (by decide) fun w => ?_
    refine kf_step (by rw [hup _ _ _ (by omega)]; exact h0) (ux_up_at _ _ _) (j := 1) rfl (by obtain ⟨k, hk, e⟩ := u1.2; rw [hup _ _ _ (by omega)]; exact u1.1.1) (Nat.le_of_ble_eq_true rfl) (by decide) fun w => ?_
    refine kf_step (by rw [hup _ _ _ (by omega), hup _ _ _ (by omega)]; exact h0) (ux_up_at _ _ _) (j := 0) rfl (by obtain ⟨k, hk, e⟩ := u0.2; rw [hup _ _ _ (by omega), hup _ _ _ (by omega)]; exact u0.1.1) (Nat.le_of_ble_eq_true rfl) (by decide) fun w => ?_
    refine kf_end (by rw [hup _ _ _ (by omega), hup _ _ _ (by omega), hup _ _ _ (by omega)]; exact h0) (ux_up_at _ _ _) (by obtain ⟨k, hk, e⟩ := u3.2; rw [hup _ _ _ (by omega), hup _ _ _ (by omega), hup _ _ _ (by omega)]; exact u3.1.1) (Nat.le_of_ble_eq_true rfl) fun w => hK' _ _ (ux_up_at _ _ _) (fun b hb => by rw [ux_up_ne _ _ hb, ux_up_ne _ _ hb, ux_up_ne _ _ hb, ux_up_ne _ _ hb])
theorem fron_map {vs : List (Nat × sU)} {i : Nat} (hl : vs.length = 4) (hi : i < 4) : (fron i vs).length = 4 ∧ (∀ v, v ∈ fron i vs ↔ v ∈ vs) ∧ ((vs.map fun v => v.1).Nodup → ((fron i vs).map fun v => v.1).Nodup) := by
  match vs, hl with
  | [v0, v1, v2, v3], _ =>
    have hi4 : i = 0 ∨ i = 1 ∨ i = 2 ∨ i = 3 := by omega
    rcases hi4 with rfl | rfl | rfl | rfl
    · refine ⟨rfl, fun v => ?_, fun h => ?_⟩
      · simp [fron]
      · simpa [fron] using h
    · refine ⟨rfl, fun v => ?_, fun h => ?_⟩
      · simp [fron]; grind
      · simp [fron] at h ⊢; grind
    · refine ⟨rfl, fun v => ?_, fun h => ?_⟩
      · simp [fron]; grind
      · simp [fron] at h ⊢; grind
    · refine ⟨rfl, fun v => ?_, fun h => ?_⟩
      · simp [fron]; grind
      · simp [fron] at h ⊢; grind
theorem sS.front (h : sS E f n vs) {i : Nat} (hi : i < 4) {E' : ux_Ev} (h1 : E' (21 + 24 * f) = some (105, [], (fron i vs).map fun v => .ref v.1)) (h2 : ∀ b, b ≠ 21 + 24 * f → E' b = E b) : sS E' f n (fron i vs) := by
  obtain ⟨a1, a2, a3, a4, a5, a6⟩ := h
  obtain ⟨b1, b2, b3⟩ := fron_map a3 hi
  refine ⟨by rw [h2 _ (by omega)]; exact a1, h1, b1, a4, b3 a5, fun v hv => ?_⟩
  obtain ⟨c1, k, hk, c2⟩ := a6 v ((b2 v).mp hv)
  exact ⟨c1.fr fun b hb1 hb2 => h2 b (by omega), k, hk, c2⟩
theorem ko_keepSpare (h : sS E f n vs) (hK : ∀ E' w', sS E' f (if n < 3 then n + 1 else 3) (fron n vs) → (∀ b, b ≠ 21 + 24 * f → b ≠ 20 + 24 * f → E' b = E b) → K (.inr none) E' x z w') : ux_Bm uxP sc (d + 1) 35 [.ref (20 + 24 * f)] E x z K := by
  show ux_B uxP sc (d + 1) 35 0 [.ref (20 + 24 * f)] [] E x z false K
  have hn3 := h.2.2.2.1
  refine ux_BN 2 rfl ?_
  refine ux_Bget rfl rfl h.1 rfl ?_
  refine ux_Bv rfl rfl rfl h.1 rfl (by decide) rfl rfl ?_
  refine ko_front h n (by omega) fun E1 w1 e1 e2 => ?_
  have h' := h.front (show n < 4 by omega) e1 e2
  refine ux_BN 2 rfl ?_
  refine ux_Bget rfl rfl h'.1 rfl ?_
  refine ux_BN 3 rfl ?_
  refine ux_Bmin rfl rfl rfl ?_
  refine ux_Btop (nI (if n < 3 then n + 1 else 3)) ?_ ?_
  · show (if nI 3 < nI n + 1 then nI 3 else nI n + 1) = _
    rw [nI_1]
    by_cases hn : n < 3
    · rw [if_pos hn, if_neg (show ¬ nI 3 < nI (n + 1) from nI_nlt (by omega) (by decide))]
    · rw [if_neg hn, if_pos (show nI 3 < nI (n + 1) from nI_lt (by omega) (by omega))]
  refine ux_Bput rfl rfl rfl h'.1 rfl (Nat.le_of_ble_eq_true rfl) ?_
  refine ux_Br rfl (hK _ _ ?_ (fun b b1 b2 => by rw [ux_up_ne _ _ b2]; exact e2 b b1))
  obtain ⟨a1, a2, a3, a4, a5, a6⟩ := h'
  refine ⟨ux_up_at _ _ _, by rw [ux_up_ne _ _ (by omega)]; exact a2, a3, by split <;> omega, a5, fun v hv => ?_⟩
  obtain ⟨c1, k, hk, c2⟩ := a6 v hv
  exact ⟨c1.fr fun b hb1 hb2 => ux_up_ne _ _ (by omega), k, hk, c2⟩
end KS
