theorem ux_chkI_cut {b : ByteArray} : ∀ (n pc : Nat) (l : List (Option (Instr × Nat))), ux_chkI b pc (l.take n) = true → ux_chkI b (pc + n) (l.drop n) = true → ux_chkI b pc l = true := by
  intro n
  induction n with
  | zero => intro pc l _ h; exact h
  | succ n ih =>
    intro pc l h1 h2
    cases l with
    | nil => rfl
    | cons o r =>
      rw [List.take_succ_cons] at h1
      rw [List.drop_succ_cons] at h2
      unfold ux_chkI at h1 ⊢
      rw [Bool.and_eq_true] at h1 ⊢
      exact ⟨h1.1, ih (pc + 1) r h1.2 (by rw [show pc + 1 + n = pc + (n + 1) by omega]; exact h2)⟩
theorem uxD_0_0 : ux_chkI (uxM 0).2.1 0 (uxJ0.1.take 64) = true := by decide +kernel
theorem uxD_0_1 : ux_chkI (uxM 0).2.1 64 ((uxJ0.1.drop 64).take 64) = true := by decide +kernel
theorem uxD_0_2 : ux_chkI (uxM 0).2.1 128 (((uxJ0.1.drop 64).drop 64).take 64) = true := by decide +kernel
theorem uxD_0_3 : ux_chkI (uxM 0).2.1 192 ((((uxJ0.1.drop 64).drop 64).drop 64).take 64) = true := by decide +kernel
theorem uxD_0_4 : ux_chkI (uxM 0).2.1 256 (((((uxJ0.1.drop 64).drop 64).drop 64).drop 64).take 64) = true := by decide +kernel
theorem uxD_0_5 : ux_chkI (uxM 0).2.1 320 ((((((uxJ0.1.drop 64).drop 64).drop 64).drop 64).drop 64).take 64) = true := by decide +kernel
theorem uxD_0_6 : ux_chkI (uxM 0).2.1 384 (((((((uxJ0.1.drop 64).drop 64).drop 64).drop 64).drop 64).drop 64).take 64) = true := by decide +kernel
theorem uxD_0_7 : ux_chkI (uxM 0).2.1 448 ((((((((uxJ0.1.drop 64).drop 64).drop 64).drop 64).drop 64).drop 64).drop 64).take 64) = true := by decide +kernel
theorem uxD_0_8 : ux_chkI (uxM 0).2.1 512 (((((((((uxJ0.1.drop 64).drop 64).drop 64).drop 64).drop 64).drop 64).drop 64).drop 64).take 64) = true := by decide +kernel
theorem uxD_0_9 : ux_chkI (uxM 0).2.1 576 ((((((((((uxJ0.1.drop 64).drop 64).drop 64).drop 64).drop 64).drop 64).drop 64).drop 64).drop 64).take 64) = true := by decide +kernel
theorem uxD_0_10 : ux_chkI (uxM 0).2.1 640 (((((((((((uxJ0.1.drop 64).drop 64).drop 64).drop 64).drop 64).drop 64).drop 64).drop 64).drop 64).drop 64).take 64) = true := by decide +kernel
theorem uxD_0_11 : ux_chkI (uxM 0).2.1 704 (((((((((((uxJ0.1.drop 64).drop 64).drop 64).drop 64).drop 64).drop 64).drop 64).drop 64).drop 64).drop 64).drop 64) = true := by decide +kernel
theorem uxD_0 : ux_chkI (uxM 0).2.1 0 uxJ0.1 = true := ux_chkI_cut 64 _ _ uxD_0_0 (ux_chkI_cut 64 _ _ uxD_0_1 (ux_chkI_cut 64 _ _ uxD_0_2 (ux_chkI_cut 64 _ _ uxD_0_3 (ux_chkI_cut 64 _ _ uxD_0_4 (ux_chkI_cut 64 _ _ uxD_0_5 (ux_chkI_cut 64 _ _ uxD_0_6 (ux_chkI_cut 64 _ _ uxD_0_7 (ux_chkI_cut 64 _ _ uxD_0_8 (ux_chkI_cut 64 _ _ uxD_0_9 (ux_chkI_cut 64 _ _ uxD_0_10 (uxD_0_11)))))))))))
theorem uxD_1_0 : ux_chkI (uxM 1).2.1 0 (uxJ1.1.take 64) = true := by decide +kernel
theorem uxD_1_1 : ux_chkI (uxM 1).2.1 64 ((uxJ1.1.drop 64).take 64) = true := by decide +kernel
theorem uxD_1_2 : ux_chkI (uxM 1).2.1 128 ((uxJ1.1.drop 64).drop 64) = true := by decide +kernel
theorem uxD_1 : ux_chkI (uxM 1).2.1 0 uxJ1.1 = true := ux_chkI_cut 64 _ _ uxD_1_0 (ux_chkI_cut 64 _ _ uxD_1_1 (uxD_1_2))
theorem uxD_2_0 : ux_chkI (uxM 2).2.1 0 uxJ2.1 = true := by decide +kernel
theorem uxD_2 : ux_chkI (uxM 2).2.1 0 uxJ2.1 = true := uxD_2_0
theorem uxD_3_0 : ux_chkI (uxM 3).2.1 0 uxJ3.1 = true := by decide +kernel
theorem uxD_3 : ux_chkI (uxM 3).2.1 0 uxJ3.1 = true := uxD_3_0
theorem uxD_4_0 : ux_chkI (uxM 4).2.1 0 uxJ4.1 = true := by decide +kernel
theorem uxD_4 : ux_chkI (uxM 4).2.1 0 uxJ4.1 = true := uxD_4_0
theorem uxD_5_0 : ux_chkI (uxM 5).2.1 0 uxJ5.1 = true := by decide +kernel
theorem uxD_5 : ux_chkI (uxM 5).2.1 0 uxJ5.1 = true := uxD_5_0
theorem uxD_6_0 : ux_chkI (uxM 6).2.1 0 uxJ6.1 = true := by decide +kernel
theorem uxD_6 : ux_chkI (uxM 6).2.1 0 uxJ6.1 = true := uxD_6_0
theorem uxD_7_0 : ux_chkI (uxM 7).2.1 0 uxJ7.1 = true := by decide +kernel
theorem uxD_7 : ux_chkI (uxM 7).2.1 0 uxJ7.1 = true := uxD_7_0
theorem uxD_8_0 : ux_chkI (uxM 8).2.1 0 (uxJ8.1.take 64) = true := by decide +kernel
theorem uxD_8_1 : ux_chkI (uxM 8).2.1 64 (uxJ8.1.drop 64) = true := by decide +kernel
theorem uxD_8 : ux_chkI (uxM 8).2.1 0 uxJ8.1 = true := ux_chkI_cut 64 _ _ uxD_8_0 (uxD_8_1)
theorem uxD_9_0 : ux_chkI (uxM 9).2.1 0 (uxJ9.1.take 64) = true := by decide +kernel
theorem uxD_9_1 : ux_chkI (uxM 9).2.1 64 (uxJ9.1.drop 64) = true := by decide +kernel
theorem uxD_9 : ux_chkI (uxM 9).2.1 0 uxJ9.1 = true := ux_chkI_cut 64 _ _ uxD_9_0 (uxD_9_1)
theorem uxD_10_0 : ux_chkI (uxM 10).2.1 0 uxJ10.1 = true := by decide +kernel
theorem uxD_10 : ux_chkI (uxM 10).2.1 0 uxJ10.1 = true := uxD_10_0
theorem uxD_11_0 : ux_chkI (uxM 11).2.1 0 (uxJ11.1.take 64) = true := by decide +kernel
theorem uxD_11_1 : ux_chkI (uxM 11).2.1 64 (uxJ11.1.drop 64) = true := by decide +kernel
theorem uxD_11 : ux_chkI (uxM 11).2.1 0 uxJ11.1 = true := ux_chkI_cut 64 _ _ uxD_11_0 (uxD_11_1)
theorem uxD_12_0 : ux_chkI (uxM 12).2.1 0 uxJ12.1 = true := by decide +kernel
theorem uxD_12 : ux_chkI (uxM 12).2.1 0 uxJ12.1 = true := uxD_12_0
theorem uxD_13_0 : ux_chkI (uxM 13).2.1 0 (uxJ13.1.take 64) = true := by decide +kernel
theorem uxD_13_1 : ux_chkI (uxM 13).2.1 64 (uxJ13.1.drop 64) = true := by decide +kernel
theorem uxD_13 : ux_chkI (uxM 13).2.1 0 uxJ13.1 = true := ux_chkI_cut 64 _ _ uxD_13_0 (uxD_13_1)
theorem uxD_14_0 : ux_chkI (uxM 14).2.1 0 uxJ14.1 = true := by decide +kernel
theorem uxD_14 : ux_chkI (uxM 14).2.1 0 uxJ14.1 = true := uxD_14_0
theorem uxD_15_0 : ux_chkI (uxM 15).2.1 0 uxJ15.1 = true := by decide +kernel
theorem uxD_15 : ux_chkI (uxM 15).2.1 0 uxJ15.1 = true := uxD_15_0
theorem uxD_16_0 : ux_chkI (uxM 16).2.1 0 uxJ16.1 = true := by decide +kernel
theorem uxD_16 : ux_chkI (uxM 16).2.1 0 uxJ16.1 = true := uxD_16_0
theorem uxD_17_0 : ux_chkI (uxM 17).2.1 0 (uxJ17.1.take 64) = true := by decide +kernel
theorem uxD_17_1 : ux_chkI (uxM 17).2.1 64 (uxJ17.1.drop 64) = true := by decide +kernel
theorem uxD_17 : ux_chkI (uxM 17).2.1 0 uxJ17.1 = true := ux_chkI_cut 64 _ _ uxD_17_0 (uxD_17_1)
theorem uxD_18_0 : ux_chkI (uxM 18).2.1 0 uxJ18.1 = true := by decide +kernel
theorem uxD_18 : ux_chkI (uxM 18).2.1 0 uxJ18.1 = true := uxD_18_0
