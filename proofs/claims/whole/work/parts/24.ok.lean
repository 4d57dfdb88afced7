theorem ux_all2_len {α β : Type} {f : α → β → Bool} : ∀ (l : List α) (r : List β), ux_all2 f l r = true → l.length = r.length := by
  intro l
  induction l with
  | nil => intro r h; cases r with
    | nil => rfl
    | cons y r => cases h
  | cons x l ih =>
    intro r h
    cases r with
    | nil => cases h
    | cons y r =>
      unfold ux_all2 at h
      rw [Bool.and_eq_true] at h
      rw [List.length_cons, List.length_cons, ih r h.2]
theorem ux_all2_get {α β : Type} {f : α → β → Bool} : ∀ (l : List α) (r : List β) (n : Nat) (a : α) (b : β), ux_all2 f l r = true → l[n]? = some a → r[n]? = some b → f a b = true := by
  intro l
  induction l with
  | nil => intro r n a b _ h; simp at h
  | cons x l ih =>
    intro r n a b hc h1 h2
    cases r with
    | nil => cases hc
    | cons y r =>
      unfold ux_all2 at hc
      rw [Bool.and_eq_true] at hc
      cases n with
      | zero =>
        have e1 : x = a := by simpa using h1
        have e2 : y = b := by simpa using h2
        rw [← e1, ← e2]
        exact hc.1
      | succ n => exact ih r n a b hc.2 (by simpa using h1) (by simpa using h2)
theorem uxMs_len : uxMs.length = uxJ.length := rfl
theorem uxM_far {i : Nat} (h : ux_nth uxJ i = none) : uxM i = uxM0 := by
  have hn : ∀ {α β : Type} (l : List α) (r : List β), r.length = l.length → ∀ i, ux_nth l i = none → ux_nth r i = none := by
    intro α β l
    induction l with
    | nil => intro r hr i _; rw [List.eq_nil_of_length_eq_zero hr]; rfl
    | cons x l ih =>
      intro r hr i h
      cases r with
      | nil => rfl
      | cons y r =>
        cases i with
        | zero => cases h
        | succ i => exact ih r (by simpa using hr) i h
  unfold uxM
  rw [hn uxJ uxMs uxMs_len i h]
  rfl
theorem ux_ok_X : ∀ i, ux_hs uxEx uxTw (uxM i).1.cls (uxP.2.2.2.2.2.2 i).2.2 (uxM i).2.2.2 := by
  intro i
  show ux_hs uxEx uxTw (uxM i).1.cls (uxMf i).2.2 (uxM i).2.2.2
  cases hq : ux_nth uxJ i with
  | none =>
    rw [uxMf_none hq, uxM_far hq]
    exact ⟨rfl, fun n q r h1 _ => by simp at h1⟩
  | some q =>
    rw [uxMf_some hq]
    obtain ⟨-, h2⟩ := uxJ_spec hq
    unfold ux_chk2 at h2
    simp only [Bool.and_eq_true, decide_eq_true_eq] at h2
    have h3 := h2.2
    refine ⟨ux_all2_len _ _ h3, fun n a b h4 h5 => ?_⟩
    have h6 := ux_all2_get _ _ n a b h3 h4 h5
    unfold ux_chkH at h6
    simp only [Bool.and_eq_true, decide_eq_true_eq] at h6
    obtain ⟨⟨g1, g2, g3, g4, g5⟩, g6⟩ := h6
    exact ⟨g1, g2, g3, g4, g5, ux_in_of g6⟩
theorem ux_ok_all : ux_ok uxP uxM uxTw uxCl uxTy uxAty uxZs uxEx := ⟨ux_ok_I, ux_ok_C, ux_ok_F, ux_ok_N, ux_ok_A, ux_ok_L, ux_ok_R, ux_ok_T, ux_ok_G, ux_okW_uxTw, ux_ok_X⟩
