/-! The tables meet what the evaluator's truth asks. -/
theorem uxG_chk : ux_all2 ux_chkG uxL uxOn = true := by
  show (ux_chkG uxL0 "UnitDesk" && (ux_chkG uxL1 "UnitDesk$Compiler" && (ux_chkG uxL2 "UnitDesk$Image" && (ux_chkG uxL3 "UnitDesk$Machine" && (ux_chkG uxL4 "UnitDesk$Shelf" && (ux_chkG uxL5 "UnitDesk$Text" && (ux_chkG uxL6 "UnitDesk$Unit" && (ux_chkG uxL7 "UnitDeskModel" && (ux_chkG uxL8 "UnitDesk$Signature" && (ux_chkG uxL9 "UnitDeskLaw" && true)))))))))) = true
  rw [uxG_0, uxG_1, uxG_2, uxG_3, uxG_4, uxG_5, uxG_6, uxG_7, uxG_8, uxG_9]
  rfl
theorem uxJ_spec {i : Nat} {q : ux_J} (h : ux_nth uxJ i = some q) : ux_nth uxMs i = some (uxM i) ∧ ux_chk2 q (uxM i) = true := by
  obtain ⟨m, h1, h2⟩ := ux_all2_at _ _ _ _ ux2_chk h
  have h3 : uxM i = m := by unfold uxM; rw [h1]; rfl
  rw [h3]
  exact ⟨h1, h2⟩
theorem uxPo_spec {i : Nat} {c : ux_Po} (h : uxPo i = some c) : ∃ q, ux_nth uxJ i = some q ∧ ux_chk2 q (uxM i) = true ∧ ux_nth uxL q.2.1 = some c ∧ ux_nth uxOn q.2.1 = some (uxM i).1.cls := by
  unfold uxPo at h
  split at h
  · rename_i q hq
    obtain ⟨-, h2⟩ := uxJ_spec hq
    refine ⟨q, hq, h2, h, ?_⟩
    unfold ux_chk2 at h2
    simp only [Bool.and_eq_true, decide_eq_true_eq] at h2
    exact h2.1.1.1.1.1.1
  · cases h
theorem uxPo_F {i : Nat} {c : ux_Po} (h : uxPo i = some c) : ux_chkF c (uxM i).1.cls = true ∧ ux_chkG c (uxM i).1.cls = true ∧ ux_chkN c (uxM i).1.cls = true := by
  obtain ⟨q, -, -, h3, h4⟩ := uxPo_spec h
  obtain ⟨n1, a1, b1⟩ := ux_all2_at _ _ _ _ uxF_chk h3
  obtain ⟨n2, a2, b2⟩ := ux_all2_at _ _ _ _ uxG_chk h3
  obtain ⟨n3, a3, b3⟩ := ux_all2_at _ _ _ _ uxN_chk h3
  cases h4.symm.trans a1
  cases h4.symm.trans a2
  cases h4.symm.trans a3
  exact ⟨b1, b2, b3⟩
theorem uxN_spec {i k v : Nat} (h : uxNf i k = some v) : ux_nN (uxM i).1.cls (k, v) = true := by
  unfold uxNf at h
  split at h
  · rename_i c hc
    exact List.all_eq_true.mp (uxPo_F hc).2.2 _ (ux_key_mem _ _ _ h)
  · cases h
theorem uxG_spec {i k q j n : Nat} (h : uxGf i k = some (q, j, n)) : ux_gN (uxM i).1.cls (k, q, j, n) = true := by
  unfold uxGf at h
  split at h
  · rename_i c hc
    exact List.all_eq_true.mp (uxPo_F hc).2.1 _ (ux_key_mem _ _ _ h)
  · cases h
theorem ux_ok_I : ux_okI uxP uxM := by
  intro i pc ins len h
  have h : uxIf i pc = some (ins, len) := h
  unfold uxIf at h
  split at h
  · rename_i q hq
    split at h
    · rename_i o ho
      subst h
      have := ux_chkI_at _ 0 pc _ (uxDall i q hq) ho
      rw [Nat.zero_add] at this
      exact this
    · cases h
  · cases h
theorem ux_chkC_at : ∀ (l : List vw_C) (c0 ci : Nat) (q : vw_C), ux_chkC c0 l = true → l[ci]? = some q → (∀ w ∈ u_ws q.1 q.2.1 q.2.2, w ∈ uxTw) ∧ (∀ k, k < q.2.2 → parseFieldDescriptor (q.2.1 k).2.2.1 = some (uxTy (c0 + ci) k)) ∧ ∀ a, a < q.2.2 → ∀ b, b < q.2.2 → a ≠ b → (q.2.1 a).2.1 ≠ (q.2.1 b).2.1 := by
  intro l
  induction l with
  | nil => intro c0 ci q _ h; simp at h
  | cons r l ih =>
    intro c0 ci q hc h
    unfold ux_chkC at hc
    simp only [Bool.and_eq_true, decide_eq_true_eq] at hc
    cases ci with
    | zero =>
      have h1 : r = q := by simpa using h
      subst h1
      exact ⟨fun w hw => ux_in_of (List.all_eq_true.mp hc.1.1.1 w hw), hc.1.1.2, hc.1.2⟩
    | succ ci =>
      have := ih (c0 + 1) ci q hc.2 (by simpa using h)
      rw [show c0 + 1 + ci = c0 + (ci + 1) by omega] at this
      exact this
theorem ux_ok_C : ux_okC uxTw uxCl uxTy := by
  intro ci q h
  have := ux_chkC_at uxCl 0 ci q uxC_chk h
  rw [Nat.zero_add] at this
  exact this
theorem ux_ok_F : ux_okF uxP uxM uxTw uxCl uxTy := by
  intro i k ci j q h
  have h : uxFf i k = some (ci, j, q) := h
  unfold uxFf at h
  split at h
  · rename_i c hc
    have h1 := List.all_eq_true.mp (uxPo_F hc).1 _ (ux_key_mem _ _ _ h)
    obtain ⟨z, hz, hz2, -, -⟩ := uxPo_spec hc
    unfold ux_fN at h1
    split at h1
    · cases h1
    · rename_i r hr
      simp only [Bool.and_eq_true, decide_eq_true_eq] at h1
      obtain ⟨⟨⟨⟨⟨⟨a1, a2⟩, a3⟩, a4⟩, a5⟩, a6⟩, a7⟩ := h1
      have hN : ∀ x, uxP.2.2.2.1 i x = ux_key c.2.2 x := fun x => by
        show uxNf i x = _
        unfold uxNf
        rw [hc]
      have hM : (uxP.2.2.2.2.2.2 i) = z.2.2 := by
        show uxMf i = _
        unfold uxMf
        rw [hz]
      refine ⟨r, hr, a1.1, a1.2, ux_in_of a2, a3, a4, fun hp => a5 (by rw [← hN]; exact hp), fun hp h4 => ⟨?_, a6 (by rw [← hN]; exact hp)⟩, a7⟩
      unfold ux_chk2 at hz2
      simp only [Bool.and_eq_true, decide_eq_true_eq] at hz2
      exact hz2.1.2 (by rw [hM] at h4; exact h4)
  · cases h
