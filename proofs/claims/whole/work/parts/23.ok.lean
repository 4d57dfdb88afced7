theorem ux_ok_N : ux_okN uxP uxM uxTw uxCl uxTy := by
  intro i k ci h hci
  have h1 := uxN_spec (show uxNf i k = some ci from h)
  unfold ux_nN at h1
  rw [if_pos hci] at h1
  simp only at h1
  split at h1
  · cases h1
  · rename_i r hr
    simp only [Bool.and_eq_true, decide_eq_true_eq] at h1
    obtain ⟨⟨⟨⟨a1, a2⟩, a3⟩, a4⟩, a5⟩ := h1
    exact ⟨r, hr, ux_in_of a1, ux_in_of a2, ux_in_of a3, a4, a5⟩
theorem ux_ac1 : ux_in (.arrayClass .int) = true := by decide +kernel
theorem ux_ac2 : ux_in (.arrayClass .boolean) = true := by decide +kernel
theorem ux_ac3 : ux_in (.arrayClass .long) = true := by decide +kernel
theorem ux_ok_A : ux_okA uxP uxM uxTw uxCl uxAty := by
  refine ⟨⟨rfl, rfl, rfl⟩, ⟨ux_in_of ux_ac1, ux_in_of ux_ac2, ux_in_of ux_ac3⟩, fun t y ht hy => ?_, fun i k t h h1 h2 => ?_⟩
  · unfold uxAty at hy
    rw [if_neg (by omega)] at hy
    match t, ht, hy with
    | 103, _, hy => cases hy; exact ⟨_, _, rfl, rfl, rfl⟩
    | 104, _, hy => cases hy; exact ⟨_, _, rfl, rfl, rfl⟩
    | 105, _, hy => cases hy; exact ⟨_, _, rfl, rfl, rfl⟩
    | n + 106, _, hy =>
      rw [show n + 106 - 100 = n + 6 by omega] at hy
      cases hy
  · have h3 := uxN_spec (show uxNf i (100000 + k) = some t from h)
    unfold ux_nN at h3
    simp only at h3
    rw [if_neg (by omega), if_pos h2, Bool.and_eq_true] at h3
    obtain ⟨-, h4⟩ := h3
    split at h4
    · rename_i C hC
      rw [Bool.and_eq_true] at h4
      have e : 100000 + k - 100000 = k := by omega
      rw [e] at h4
      exact ⟨C, hC, ux_in_of h4.1, ux_in_of h4.2⟩
    · cases h4
theorem ux_ok_L : ux_okL uxP uxM uxTw := by
  intro i k q j n h
  have h1 := uxG_spec (show uxGf i k = some (q, j, n) from h)
  unfold ux_gN at h1
  simp only at h1
  refine ⟨fun hq => ?_, fun hq => ?_, fun hq => ?_⟩
  · subst hq
    simp only [if_true, Bool.and_eq_true] at h1
    exact ⟨ux_in_of h1.1.1, ux_in_of h1.1.2, ux_in_of h1.2⟩
  · subst hq
    rw [if_neg (by decide), if_pos rfl] at h1
    simp only [Bool.and_eq_true] at h1
    exact ⟨ux_in_of h1.1.1.1, ux_in_of h1.1.1.2, ux_in_of h1.1.2, ux_in_of h1.2⟩
  · subst hq
    rw [if_neg (by decide), if_neg (by decide), if_pos rfl] at h1
    simp only [Bool.and_eq_true] at h1
    exact ⟨ux_in_of h1.1.1.1, ux_in_of h1.1.1.2, ux_in_of h1.1.2, ux_in_of h1.2⟩
theorem uxMf_none {i : Nat} (h : ux_nth uxJ i = none) : uxMf i = (0, 9, []) := by unfold uxMf; rw [h]
theorem uxMf_some {i : Nat} {q : ux_J} (h : ux_nth uxJ i = some q) : uxMf i = q.2.2 := by unfold uxMf; rw [h]
theorem ux_ok_R : ux_okR uxP uxM := by
  intro i
  show ((uxMf i).2.1 = 0 ∨ (uxMf i).2.1 = 4 → _) ∧ ((uxMf i).2.1 = 1 → _) ∧ ((uxMf i).2.1 = 2 → _) ∧ ((uxMf i).2.1 = 3 → _)
  cases hq : ux_nth uxJ i with
  | none =>
    rw [uxMf_none hq]
    exact ⟨(fun h => by rcases h with h | h <;> cases h), (fun h => by cases h), (fun h => by cases h), (fun h => by cases h)⟩
  | some q =>
    rw [uxMf_some hq]
    obtain ⟨-, h2⟩ := uxJ_spec hq
    unfold ux_chk2 at h2
    simp only [Bool.and_eq_true, decide_eq_true_eq] at h2
    obtain ⟨⟨⟨⟨⟨⟨-, a1⟩, a2⟩, a3⟩, a4⟩, -⟩, -⟩ := h2
    refine ⟨a1, a2, a3, fun h3 => ?_⟩
    rw [Bool.or_eq_true] at a4
    rcases a4 with a4 | a4
    · simp [h3] at a4
    · split at a4
      · rename_i C hC; exact ⟨C, hC⟩
      · cases a4
theorem ux_fit_ex : ∀ x, x < 3 → Bundle.fit (uxEx x).1 = true ∧ (∀ n ∈ (uxEx x).2, Bundle.fit n = true) ∧ (uxEx x).2.length ≤ 2 := by decide +kernel
theorem ux_isZ_spec {w : Cond} (h : ux_isZ w = true) : ∃ z ∈ uxZs, w = .isRef (.static z.1 z.2.1 z.2.2) ∨ w = .laysStatic z.1 z.2.1 z.2.2 := by
  unfold ux_isZ at h
  obtain ⟨z, hz, h1⟩ := List.any_eq_true.mp h
  rw [Bool.or_eq_true, decide_eq_true_eq, decide_eq_true_eq] at h1
  exact ⟨z, hz, h1⟩
theorem ux_ok_T : ux_okT uxP uxM uxTw uxZs uxEx := by
  intro i k k2 x h1 h2
  have g1 := uxN_spec (show uxNf i k = some (1000 + x) from h1)
  have g2 := uxG_spec (show uxGf i k2 = some (9, 1000 + x, 0) from h2)
  unfold ux_gN at g2
  simp only at g2
  rw [if_neg (by decide), if_neg (by decide), if_neg (by decide), if_pos trivial, Bool.and_eq_true, decide_eq_true_eq] at g2
  obtain ⟨g2, g3⟩ := g2
  have g2 : 1000 ≤ 1000 + x ∧ 1000 + x < 1003 := g2
  have hx : x < 3 := by omega
  have e : 1000 + x - 1000 = x := by omega
  rw [e] at g3
  unfold ux_nN at g1
  simp only at g1
  rw [if_neg (by omega), if_neg (by omega), if_pos (by omega), e, Bool.and_eq_true] at g1
  obtain ⟨f1, f2, f3⟩ := ux_fit_ex x hx
  refine ⟨hx, ux_in_of g1.1, ux_in_of g1.2, f1, f2, f3, fun w hw => ?_⟩
  have := List.all_eq_true.mp g3 w hw
  rw [Bool.or_eq_true] at this
  rcases this with h | h
  · exact Or.inr (ux_isZ_spec h)
  · exact Or.inl (ux_in_of h)
theorem ux_ok_G : ux_okG uxP uxM uxTw uxCl := by
  intro i k q j n h hq
  have h1 := uxG_spec (show uxGf i k = some (q, j, n) from h)
  unfold ux_gN at h1
  simp only at h1
  rw [if_neg (by omega), if_neg (by omega), if_neg (by omega), if_neg (by omega)] at h1
  split at h1
  · cases h1
  · rename_i m hm
    have hM : uxM j = m := by unfold uxM; rw [hm]; rfl
    rw [hM]
    simp only [Bool.and_eq_true, decide_eq_true_eq] at h1
    obtain ⟨⟨⟨a1, a2⟩, a3⟩, a4⟩ := h1
    have hW0 := uxWall j a3.1 a3.2
    have hW : ux_word uxP uxM uxTw j := hW0.elim Or.inl (fun z => Or.inr z.2)
    refine ⟨a1, ⟨a2.1, a2.2.1⟩, a2.2.2, hW, fun h0 => ?_, fun h0 => ?_, fun h0 => ?_, fun h0 => ?_, fun ci h0 => ?_⟩
    · rw [if_pos h0] at a4
      simp only [Bool.and_eq_true] at a4
      exact ⟨ux_in_of a4.1.1, ux_in_of a4.1.2, ux_in_of a4.2⟩
    · rw [if_neg (by omega), if_pos h0] at a4
      simp only [Bool.and_eq_true] at a4
      exact ⟨⟨_, ux_in_of a4.1.1⟩, ux_in_of a4.1.2, ux_in_of a4.2⟩
    · rw [if_neg (by omega), if_neg (by omega), if_pos h0] at a4
      simp only [Bool.and_eq_true, decide_eq_true_eq] at a4
      refine ⟨a4.1.1.1, ux_in_of a4.1.1.2, ux_in_of a4.1.2, ?_⟩
      rcases hW0 with ⟨-, hW⟩ | ⟨hW, -⟩
      · rw [hM, a4.2.1] at hW; exact hW
      · rw [hM] at hW; exact absurd a4.2.2 hW
    · rw [if_neg (by omega), if_neg (by omega), if_neg (by omega), if_pos h0] at a4
      simp only [Bool.and_eq_true, decide_eq_true_eq] at a4
      refine ⟨a4.1.1.1, ⟨_, ux_in_of a4.1.1.2⟩, ux_in_of a4.1.2, ?_⟩
      rcases hW0 with ⟨-, hW⟩ | ⟨hW, -⟩
      · rw [hM, a4.2.1] at hW; exact hW
      · rw [hM] at hW; exact absurd a4.2.2 hW
    · rw [if_neg (by omega), if_neg (by omega), if_neg (by omega), if_neg (by omega), Bool.and_eq_true] at a4
      have a5 := a4.2
      rw [h0, show 100 + ci - 100 = ci by omega] at a5
      split at a5
      · cases a5
      · rename_i r hr
        simp only [Bool.and_eq_true] at a5
        exact ⟨r, hr, ux_in_of a5.1.1, ux_in_of a5.1.2, ux_in_of a5.2⟩
