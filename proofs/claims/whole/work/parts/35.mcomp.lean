/-! The reference's compile: its loop gives what cx gives. -/
section CS
variable {rc : Nat → cR} {own : Int32} {sg : Nat → Int32} {p : Nat}
theorem cS_none1 {t : Int32} (h : t < 0) : cStep rc own sg t p = .inl (1, nI p) := by
  unfold cStep; rw [if_pos (Or.inl h)]
theorem cS_none2 {k : Nat} (h : 19 ≤ k ∧ k < 100) : cStep rc own sg (nI k) p = .inl (1, nI p) := by
  unfold cStep; rw [if_pos (Or.inr ⟨nI_le (a := 19) h.1 (by omega), nI_lt (b := 100) h.2 (by decide)⟩)]
theorem cS_n0 {k : Nat} (h : k < 19) : ¬ (nI k < 0 ∨ (19 ≤ nI k ∧ nI k < 100)) := by
  rintro (h1 | ⟨h1, h2⟩)
  · exact nI_pos (by omega) h1
  · exact nI_ge (b := 19) h (by decide) h1
theorem cS_par {k : Nat} (h : k < 3) : cStep rc own sg (nI k) p = if sPar own ≤ nI k then .inl (3, nI p) else .inr (sTyp own (nI k), p + 1, [1, nI k]) := by
  unfold cStep; rw [if_neg (cS_n0 (by omega)), if_pos (show nI k < (3 : Int32) from nI_lt (b := 3) h (by decide))]
theorem cS_sign {k : Nat} (h : 2 ≤ k ∧ k ≤ 6) : cStep rc own sg (nI (k + 1)) p = cBi (cPa rc 0 (p + 1)) fun _ q1 c1 => cBi (cPa rc 0 q1) fun _ q2 c2 => .inr (if nI (k + 1) < 6 then 0 else 1, q2, c1 ++ c2 ++ [nI k]) := by
  unfold cStep; rw [if_neg (cS_n0 (by omega)), if_neg (show ¬ nI (k + 1) < (3 : Int32) from nI_nlt (b := 3) (by omega) (by omega)), if_pos (show nI (k + 1) < (8 : Int32) from nI_lt (b := 8) (by omega) (by decide)), show nI (k + 1) - 1 = nI k from nI_pred k]
theorem cS_if : cStep rc own sg 8 p = cBi (cPa rc 1 (p + 1)) fun _ q1 c1 => cBi (rc q1) fun t2 q2 c2 => cBi (cPa rc t2 q2) fun _ q3 c3 => .inr (t2, q3, c1 ++ [7, nI (c2.length + 2)] ++ c2 ++ [8, nI c3.length] ++ c3) := by
  unfold cStep; rw [if_neg (by decide), if_neg (by decide), if_neg (by decide), if_pos rfl]
theorem cS_true : cStep rc own sg 9 p = .inr (1, p + 1, [0, 1]) := by
  unfold cStep; rw [if_neg (by decide), if_neg (by decide), if_neg (by decide), if_neg (by decide), if_pos (by decide), if_pos rfl]
theorem cS_false : cStep rc own sg 10 p = .inr (1, p + 1, [0, 0]) := by
  unfold cStep; rw [if_neg (by decide), if_neg (by decide), if_neg (by decide), if_neg (by decide), if_pos (by decide), if_neg (by decide)]
theorem cS_call {h : Nat} (hh : h < 8) : cStep rc own sg (nI (h + 11)) p = if sg h = -1 then .inl (4, nI p) else cBi (cAr rc (sg h) (sPar (sg h)).toNatClampNeg 0 (p + 1)) fun _ q c => .inr (sRes (sg h), q, c ++ [9, nI h]) := by
  unfold cStep
  rw [if_neg (cS_n0 (by omega)), if_neg (show ¬ nI (h + 11) < (3 : Int32) from nI_nlt (b := 3) (by omega) (by omega)), if_neg (show ¬ nI (h + 11) < (8 : Int32) from nI_nlt (b := 8) (by omega) (by omega)), if_neg (show ¬ nI (h + 11) = (8 : Int32) from nI_neq (b := 8) (by omega) (by omega) (by decide)), if_neg (show ¬ nI (h + 11) ≤ (10 : Int32) from nI_ge (a := 10) (by omega) (by omega)), if_pos (show nI (h + 11) < (100 : Int32) from nI_lt (b := 100) (by omega) (by decide)), show nI (h + 11) - 11 = nI h from pk_sub (show 11 ≤ h + 11 by omega), nI_clamp (by omega)]
theorem cS_num {t : Int32} (h : 100 ≤ t) : cStep rc own sg t p = .inr (0, p + 1, [0, t - 100]) := by
  have hge : ∀ n : Nat, n < 100 → ¬ t < nI n ∧ ¬ t = nI n ∧ ¬ t ≤ nI n := by
    intro n hn
    have h1 : nI n < t := by
      rw [Int32.lt_iff_toInt_lt, nI_toInt (by omega)]
      rw [Int32.le_iff_toInt_le] at h
      have : (100 : Int32).toInt = 100 := rfl
      omega
    exact ⟨fun h2 => k2_nlt (Int32.le_of_lt h1) h2, fun h2 => by rw [h2] at h1; exact Int32.lt_irrefl h1, fun h2 => k2_nlt h2 h1⟩
  unfold cStep
  rw [if_neg (by rintro (h1 | ⟨h1, h2⟩); exact (hge 0 (by decide)).1 h1; exact k2_nlt h h2), if_neg (show ¬ t < (3 : Int32) from (hge 3 (by decide)).1), if_neg (show ¬ t < (8 : Int32) from (hge 8 (by decide)).1), if_neg (show ¬ t = (8 : Int32) from (hge 8 (by decide)).2.1), if_neg (show ¬ t ≤ (10 : Int32) from (hge 10 (by decide)).2.2), if_neg (k2_nlt h)]
end CS
section MC
variable {sc : List Int32} {d : Nat} {E0 E : ux_Ev} {g0 : Nat → Int32} {A0 : Nat → List Int32} {dd e f : Nat} {fk fp a mo fi : Int32} {c : List Int32} {R : Nat → List Int32} {x z : Nat} {w : Bool} {K : ux_K1} {v4 v5 v6 : Value}
theorem mc_172 (m : mq E0 g0 A0 dd fk fp c R E) (hf : f < 8) (hk : ¬ fk = 0) (hc : c.length ≤ 78) (hK : ∀ E' w' c', mq E0 g0 A0 dd fk fp c' R E' → K (.inr none) E' x z w') : ux_B uxP sc (d + 2) 92 172 [.ref 210, .int (nI f), .int a, .int mo, v4, v5, v6] [] E x z w K := by
  refine ux_BN 1 rfl ?_
  refine mq_Bfault m rfl rfl ?_
  refine ux_BN 1 rfl ?_
  refine ux_Byes hk ?_
  refine ux_BN 2 rfl ?_
  refine mq_Bv m rfl rfl rfl rfl rfl ?_
  refine mq_emit m 10 (by omega) fun E1 m1 => ?_
  refine ux_BN 3 rfl ?_
  refine mq_Bv m1 rfl rfl rfl rfl rfl ?_
  refine mq_parameters m1 f hf ?_
  refine mq_Bv m1 rfl rfl rfl rfl rfl ?_
  refine mq_emit m1 _ (by simp; omega) fun E3 m3 => ?_
  exact ux_Br rfl (hK _ _ _ m3)
theorem mc_24X (m : mq E0 g0 A0 dd fk fp c R E) (hf : f < 8) (hk : ¬ fk = 0) (hc : c.length ≤ 78) (hK : ∀ E' w' c', mq E0 g0 A0 dd fk fp c' R E' → K (.inr none) E' x z w') : ux_B uxP sc (d + 2) 92 24 [.ref 210, .int (nI f), .int a, .int mo, v4, v5, v6] [] E x z w K := by
  refine ux_BN 2 rfl ?_
  refine ux_Bif (fun h => ?_) (fun h => ?_)
  · exact mc_172 m hf hk hc hK
  · refine ux_BN 1 rfl ?_
    refine mq_Bfault m rfl rfl ?_
    refine ux_BN 1 rfl ?_
    refine ux_Byes hk ?_
    exact mc_172 m hf hk hc hK
theorem mc_77X {ty : Int32} (m : mq E0 g0 A0 dd fk fp c R E) (hf : f < 8) (hk : ¬ fk = 0) (hc : c.length ≤ 78) (hK : ∀ E' w' c', mq E0 g0 A0 dd fk fp c' R E' → K (.inr none) E' x z w') : ux_B uxP sc (d + 2) 92 77 [.ref 210, .int (nI f), .int a, .int mo, v4, .int ty, v6] [] E x z w K := by
  refine ux_BN 3 rfl ?_
  refine ux_Bif (fun h => ?_) (fun h => ?_)
  · refine ux_BN 1 rfl ?_
    exact mc_24X m hf hk hc hK
  · refine ux_BN 2 rfl ?_
    refine ux_Bif (fun h => ?_) (fun h => ?_)
    · refine ux_BN 1 rfl ?_
      exact mc_24X m hf hk hc hK
    · refine ux_BN 1 rfl ?_
      refine mq_Bfault m rfl rfl ?_
      refine ux_BN 1 rfl ?_
      refine ux_Byes hk ?_
      refine ux_BN 1 rfl ?_
      exact mc_24X m hf hk hc hK
theorem mc_open (hB : ux_B uxP sc (d + 2) 92 24 [.ref 210, .int (nI f), .int a, .int mo, v4, .int 2, v6] [] E x z w K) : ux_B uxP sc (d + 2) 92 77 [.ref 210, .int (nI f), .int a, .int mo, v4, .int 2, v6] [] E x z w K := by
  refine ux_BN 3 rfl ?_
  refine ux_Byes rfl ?_
  refine ux_BN 1 rfl ?_
  exact hB
theorem mc_77 {t due : Int32} (m : mq E0 g0 A0 (e + 1) 0 (-1) c R E) (he : e < 32) (hf : f < 8) (ht : ¬ t = 2) (hc : c.length ≤ 78)
    (hw : ∀ K' : ux_K1, K' (.inr (some (.int due))) E x z false → ux_Bm uxP sc (d + 1) 102 [.ref 210, .int (nI f)] E x z K')
    (hok : due = 2 ∨ due = t → ∀ w, ux_B uxP sc (d + 2) 92 161 [.ref 210, .int (nI f), .int a, .int 1, .int ((R 231).getD e 0), .int t, .int due] [.int t, .ref 210] E x z w K)
    (hbad : ¬ (due = 2 ∨ due = t) → ∀ E' w' c', mq E0 g0 A0 (e + 1) 5 fi c' R E' → K (.inr none) E' x z w') : ux_B uxP sc (d + 2) 92 77 [.ref 210, .int (nI f), .int a, .int 1, .int fi, .int t, v6] [] E x z w K := by
  have h121 : (due = 2 ∨ due = t) → ∀ w, ux_B uxP sc (d + 2) 92 121 [.ref 210, .int (nI f), .int a, .int 1, .int fi, .int t, .int due] [] E x z w K := by
    intro hd w
    refine ux_BN 1 rfl ?_
    refine mq_Bdepth m rfl rfl ?_
    refine ux_BN 1 rfl ?_
    refine ux_Bsel 1 2 rfl rfl ?_
    refine ux_Btop 1 (if_neg (nI_nle (by omega) (by omega))) ?_
    refine ux_BN 3 rfl ?_
    refine ux_Bno (by decide) ?_
    refine ux_BN 1 rfl ?_
    refine mq_Bfault m rfl rfl ?_
    refine ux_BN 1 rfl ?_
    refine ux_Bno (by decide) ?_
    refine ux_BN 1 rfl ?_
    refine mq_Bref m rfl rfl (fun _ => rfl) ?_
    refine ux_BN 1 rfl ?_
    refine mq_Bdepth m rfl rfl ?_
    refine ux_BN 2 rfl ?_
    refine mq_ildR m 231 e rfl (by decide) he (nI_pred e) ?_
    refine ux_BN 3 rfl ?_
    exact hok hd _
  refine ux_BN 3 rfl ?_
  refine ux_Bno ht ?_
  refine ux_BN 2 rfl ?_
  refine ux_Bno (by decide) ?_
  refine ux_BN 1 rfl ?_
  refine mq_Bfault m rfl rfl ?_
  refine ux_BN 1 rfl ?_
  refine ux_Bno (by decide) ?_
  refine ux_BN 2 rfl ?_
  refine mq_Bv m rfl rfl rfl rfl rfl ?_
  refine hw _ ?_
  refine ux_BN 4 rfl ?_
  refine ux_Bif (fun h1 => ?_) (fun h1 => ?_)
  · exact h121 (Or.inl h1) _
  · refine ux_BN 3 rfl ?_
    refine ux_Bif (fun h2 => ?_) (fun h2 => ?_)
    · exact h121 (Or.inr h2) _
    · refine ux_BN 3 rfl ?_
      refine mq_Bv m rfl rfl rfl rfl rfl ?_
      refine mq_wrong m 5 fi fun E1 w1 m1 => ?_
      refine ux_BN 1 rfl ?_
      refine mq_Bdepth m1 rfl rfl ?_
      refine ux_BN 1 rfl ?_
      refine ux_Bsel 1 2 rfl rfl ?_
      refine ux_Btop 1 (if_neg (nI_nle (by omega) (by omega))) ?_
      refine ux_BN 3 rfl ?_
      refine ux_Bno (by decide) ?_
      refine ux_BN 1 rfl ?_
      refine mq_Bfault m1 rfl rfl ?_
      refine ux_BN 1 rfl ?_
      refine ux_Byes (by decide) ?_
      refine ux_BN 1 rfl ?_
      exact mc_77X m1 hf (by decide) hc (hbad (fun h3 => h3.elim h1 h2))
end MC
