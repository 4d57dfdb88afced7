/-! What the reference does with one token. -/
theorem nI_neq {a b : Nat} (h : a ≠ b) (ha : a < 2 ^ 31) (hb : b < 2 ^ 31) : ¬ nI a = nI b := fun h2 => h ((nI_eq ha hb).mp h2)
theorem i_neg {t : Int32} (h : t < 0) (n : Nat) (hn : n < 2 ^ 31) : t < nI n ∧ ¬ t = nI n ∧ ¬ nI n ≤ t := by
  have h1 : t < nI n := by
    rw [Int32.lt_iff_toInt_lt] at h ⊢
    rw [nI_toInt hn]
    have : (0 : Int32).toInt = 0 := rfl
    omega
  exact ⟨h1, fun h2 => by rw [h2] at h; exact nI_pos hn h, fun h2 => k2_nlt h2 h1⟩
section MT
variable {sc : List Int32} {d : Nat} {E0 E : ux_Ev} {g0 : Nat → Int32} {A0 : Nat → List Int32} {dd : Nat} {fp : Int32} {c : List Int32} {R : Nat → List Int32} {x z : Nat} {K : ux_K1}
theorem mt_isSign1 {t : Int32} (h : 3 ≤ t ∧ t ≤ 7) (hK : K (.inr (some (.int 1))) E x z false) : ux_Bm uxP sc d 98 [.int t] E x z K := by
  refine mo_isSign t ?_
  rw [if_pos h]; exact hK
theorem mt_isSign0 {t : Int32} (h : ¬ (3 ≤ t ∧ t ≤ 7)) (hK : K (.inr (some (.int 0))) E x z false) : ux_Bm uxP sc d 98 [.int t] E x z K := by
  refine mo_isSign t ?_
  rw [if_neg h]; exact hK
theorem mt_isCall1 {t : Int32} (h : 11 ≤ t ∧ t < 19) (hK : K (.inr (some (.int 1))) E x z false) : ux_Bm uxP sc d 100 [.int t] E x z K := by
  refine mo_isCall t ?_
  rw [if_pos h]; exact hK
theorem mt_isCall0 {t : Int32} (h : ¬ (11 ≤ t ∧ t < 19)) (hK : K (.inr (some (.int 0))) E x z false) : ux_Bm uxP sc d 100 [.int t] E x z K := by
  refine mo_isCall t ?_
  rw [if_neg h]; exact hK

theorem mt_num (m : mq E0 g0 A0 dd 0 fp c R E) (f : Nat) (q : Int32) (t : Int32) (ht : 100 ≤ t) (hc : c.length + 2 ≤ 80) (hK : ∀ E' w', mq E0 g0 A0 dd 0 fp (c ++ [0, t - 100]) R E' → K (.inr (some (.int 0))) E' x z w') : ux_Bm uxP sc (d + 1) 94 [.ref 210, .int (nI f), .int t, .int q] E x z K := by
  show ux_B uxP sc (d + 1) 94 0 [.ref 210, .int (nI f), .int t, .int q, .null] [] E x z false K
  refine ux_BN 3 rfl ?_
  refine ux_Bno (k2_nlt ht) ?_
  refine ux_BN 2 rfl ?_
  refine mq_Bv m rfl rfl rfl rfl rfl ?_
  refine mq_emit m 0 (by omega) fun E1 m1 => ?_
  refine ux_BN 4 rfl ?_
  refine mq_Bv m1 rfl rfl rfl rfl rfl ?_
  refine mq_emit m1 (t - 100) (by rw [List.length_append]; exact (show c.length + 1 < 80 by omega)) fun E2 m2 => ?_
  refine ux_BN 1 rfl ?_
  exact ux_Bri rfl (Or.inl rfl) (hK _ _ (by simpa using m2))

theorem mt_true (m : mq E0 g0 A0 dd 0 fp c R E) (f : Nat) (q : Int32) (hc : c.length + 2 ≤ 80) (hK : ∀ E' w', mq E0 g0 A0 dd 0 fp (c ++ [0, 1]) R E' → K (.inr (some (.int 1))) E' x z w') : ux_Bm uxP sc (d + 1) 94 [.ref 210, .int (nI f), .int 9, .int q] E x z K := by
  show ux_B uxP sc (d + 1) 94 0 [.ref 210, .int (nI f), .int 9, .int q, .null] [] E x z false K
  refine ux_BN 3 rfl ?_
  refine ux_Byes (by decide) ?_
  refine ux_BN 3 rfl ?_
  refine ux_Byes rfl ?_
  refine ux_BN 2 rfl ?_
  refine mq_Bv m rfl rfl rfl rfl rfl ?_
  refine mq_emit m 0 (by omega) fun E1 m1 => ?_
  refine ux_BN 4 rfl ?_
  refine ux_Bsel 1 2 rfl rfl ?_
  refine mq_Bv m1 rfl rfl rfl rfl rfl ?_
  refine mq_emit m1 1 (by rw [List.length_append]; exact (show c.length + 1 < 80 by omega)) fun E2 m2 => ?_
  refine ux_BN 1 rfl ?_
  exact ux_Bri rfl (Or.inl rfl) (hK _ _ (by simpa using m2))

theorem mt_false (m : mq E0 g0 A0 dd 0 fp c R E) (f : Nat) (q : Int32) (hc : c.length + 2 ≤ 80) (hK : ∀ E' w', mq E0 g0 A0 dd 0 fp (c ++ [0, 0]) R E' → K (.inr (some (.int 1))) E' x z w') : ux_Bm uxP sc (d + 1) 94 [.ref 210, .int (nI f), .int 10, .int q] E x z K := by
  show ux_B uxP sc (d + 1) 94 0 [.ref 210, .int (nI f), .int 10, .int q, .null] [] E x z false K
  refine ux_BN 3 rfl ?_
  refine ux_Byes (by decide) ?_
  refine ux_BN 3 rfl ?_
  refine ux_Bno (by decide) ?_
  refine ux_BN 3 rfl ?_
  refine ux_Bno (by decide) ?_
  refine ux_BN 2 rfl ?_
  refine mq_Bv m rfl rfl rfl rfl rfl ?_
  refine mq_emit m 0 (by omega) fun E1 m1 => ?_
  refine ux_BN 4 rfl ?_
  refine ux_Bsel 1 2 rfl rfl ?_
  refine mq_Bv m1 rfl rfl rfl rfl rfl ?_
  refine mq_emit m1 0 (by rw [List.length_append]; exact (show c.length + 1 < 80 by omega)) fun E2 m2 => ?_
  refine ux_BN 1 rfl ?_
  exact ux_Bri rfl (Or.inl rfl) (hK _ _ (by simpa using m2))

theorem mt_par (m : mq E0 g0 A0 dd 0 fp c R E) (f : Nat) (q : Int32) (hf : f < 8) (k : Nat) (hk : k < 3) (hp : nI k < (A0 212).getD f 0 &&& 3) (hc : c.length + 2 ≤ 80) (hK : ∀ E' w', mq E0 g0 A0 dd 0 fp (c ++ [1, nI k]) R E' → K (.inr (some (.int (((A0 212).getD f 0 >>> ((2 + nI k) &&& 31)) &&& 1)))) E' x z w') : ux_Bm uxP sc (d + 1) 94 [.ref 210, .int (nI f), .int (nI k), .int q] E x z K := by
  show ux_B uxP sc (d + 1) 94 0 [.ref 210, .int (nI f), .int (nI k), .int q, .null] [] E x z false K
  refine ux_BN 3 rfl ?_
  refine ux_Byes (nI_lt (show k < 100 by omega) (by decide)) ?_
  refine ux_BN 3 rfl ?_
  refine ux_Bno (nI_neq (b := 9) (by omega) (by omega) (by decide)) ?_
  refine ux_BN 3 rfl ?_
  refine ux_Byes (nI_neq (b := 10) (by omega) (by omega) (by decide)) ?_
  refine ux_BN 2 rfl ?_
  refine ux_Bno (nI_pos (by omega)) ?_
  refine ux_BN 3 rfl ?_
  refine ux_Bno (nI_ge (show k < 3 by omega) (by decide)) ?_
  refine ux_BN 3 rfl ?_
  refine mq_Bv m rfl rfl rfl rfl rfl ?_
  refine mq_parameters m f hf ?_
  refine ux_BN 1 rfl ?_
  refine ux_Byes hp ?_
  refine ux_BN 2 rfl ?_
  refine mq_Bv m rfl rfl rfl rfl rfl ?_
  refine mq_emit m 1 (by omega) fun E2 m2 => ?_
  refine ux_BN 2 rfl ?_
  refine mq_Bv m2 rfl rfl rfl rfl rfl ?_
  refine mq_emit m2 (nI k) (by rw [List.length_append]; exact (show c.length + 1 < 80 by omega)) fun E3 m3 => ?_
  refine ux_BN 3 rfl ?_
  refine mq_Bv m3 rfl rfl rfl rfl rfl ?_
  refine mq_parameters m3 f hf ?_
  refine ux_BN 1 rfl ?_
  refine ux_Bno (k2_nle hp) ?_
  refine ux_BN 3 rfl ?_
  refine mq_Bv m3 rfl rfl rfl rfl rfl ?_
  refine mq_typeOf m3 f hf (nI k) ?_
  refine ux_BN 1 rfl ?_
  exact ux_Bri rfl (Or.inl rfl) (hK _ _ (by simpa using m3))

theorem mt_parX (m : mq E0 g0 A0 dd 0 fp c R E) (f : Nat) (q : Int32) (hf : f < 8) (k : Nat) (hk : k < 3) (hp : ¬ nI k < (A0 212).getD f 0 &&& 3) (hc : c.length + 2 ≤ 80) (hK : ∀ E' w', mq E0 g0 A0 dd 3 q (c ++ [1, nI k]) R E' → K (.inr (some (.int 0))) E' x z w') : ux_Bm uxP sc (d + 1) 94 [.ref 210, .int (nI f), .int (nI k), .int q] E x z K := by
  show ux_B uxP sc (d + 1) 94 0 [.ref 210, .int (nI f), .int (nI k), .int q, .null] [] E x z false K
  refine ux_BN 3 rfl ?_
  refine ux_Byes (nI_lt (show k < 100 by omega) (by decide)) ?_
  refine ux_BN 3 rfl ?_
  refine ux_Bno (nI_neq (b := 9) (by omega) (by omega) (by decide)) ?_
  refine ux_BN 3 rfl ?_
  refine ux_Byes (nI_neq (b := 10) (by omega) (by omega) (by decide)) ?_
  refine ux_BN 2 rfl ?_
  refine ux_Bno (nI_pos (by omega)) ?_
  refine ux_BN 3 rfl ?_
  refine ux_Bno (nI_ge (show k < 3 by omega) (by decide)) ?_
  refine ux_BN 3 rfl ?_
  refine mq_Bv m rfl rfl rfl rfl rfl ?_
  refine mq_parameters m f hf ?_
  refine ux_BN 1 rfl ?_
  refine ux_Bno hp ?_
  refine ux_BN 3 rfl ?_
  refine mq_Bv m rfl rfl rfl rfl rfl ?_
  refine mq_wrong m 3 q fun E2 w2 m2 => ?_
  refine ux_BN 2 rfl ?_
  refine mq_Bv m2 rfl rfl rfl rfl rfl ?_
  refine mq_emit m2 1 (by omega) fun E3 m3 => ?_
  refine ux_BN 2 rfl ?_
  refine mq_Bv m3 rfl rfl rfl rfl rfl ?_
  refine mq_emit m3 (nI k) (by rw [List.length_append]; exact (show c.length + 1 < 80 by omega)) fun E4 m4 => ?_
  refine ux_BN 3 rfl ?_
  refine mq_Bv m4 rfl rfl rfl rfl rfl ?_
  refine mq_parameters m4 f hf ?_
  refine ux_BN 1 rfl ?_
  refine ux_Byes (k2_le hp) ?_
  refine ux_BN 1 rfl ?_
  exact ux_Bri rfl (Or.inl rfl) (hK _ _ (by simpa using m4))

theorem mt_sign (m : mq E0 g0 A0 dd 0 fp c R E) (f : Nat) (q : Int32) (k : Nat) (hk : 3 ≤ k ∧ k ≤ 7) (hd : dd < 32) (hK : ∀ E' w', mq E0 g0 A0 (dd + 1) 0 fp c (fU (fU (fU R 229 ((R 229).set dd (nI k))) 230 ((R 230).set dd 0)) 231 ((R 231).set dd q)) E' → K (.inr (some (.int 2))) E' x z w') : ux_Bm uxP sc (d + 1) 94 [.ref 210, .int (nI f), .int (nI k), .int q] E x z K := by
  show ux_B uxP sc (d + 1) 94 0 [.ref 210, .int (nI f), .int (nI k), .int q, .null] [] E x z false K
  refine ux_BN 3 rfl ?_
  refine ux_Byes (nI_lt (show k < 100 by omega) (by decide)) ?_
  refine ux_BN 3 rfl ?_
  refine ux_Bno (nI_neq (b := 9) (by omega) (by omega) (by decide)) ?_
  refine ux_BN 3 rfl ?_
  refine ux_Byes (nI_neq (b := 10) (by omega) (by omega) (by decide)) ?_
  refine ux_BN 2 rfl ?_
  refine ux_Bno (nI_pos (by omega)) ?_
  refine ux_BN 3 rfl ?_
  refine ux_Byes (nI_le (show 3 ≤ k by omega) (by omega)) ?_
  refine ux_BN 1 rfl ?_
  refine ux_Bk (j := 98) rfl rfl ?_
  refine mt_isSign1 ⟨nI_le (show 3 ≤ k by omega) (by omega), nI_le (show k ≤ 7 by omega) (by decide)⟩ ?_
  refine ux_BN 1 rfl ?_
  refine ux_Byes (by decide) ?_
  refine ux_BN 3 rfl ?_
  refine mq_Bv m rfl rfl rfl rfl rfl ?_
  refine mq_begins m (nI k) q hd fun E2 m2 => ?_
  refine ux_BN 1 rfl ?_
  exact ux_Bri rfl (Or.inl rfl) (hK _ _ m2)

theorem mt_if (m : mq E0 g0 A0 dd 0 fp c R E) (f : Nat) (q : Int32) (hd : dd < 32) (hK : ∀ E' w', mq E0 g0 A0 (dd + 1) 0 fp c (fU (fU (fU R 229 ((R 229).set dd 8)) 230 ((R 230).set dd 0)) 231 ((R 231).set dd q)) E' → K (.inr (some (.int 2))) E' x z w') : ux_Bm uxP sc (d + 1) 94 [.ref 210, .int (nI f), .int 8, .int q] E x z K := by
  show ux_B uxP sc (d + 1) 94 0 [.ref 210, .int (nI f), .int 8, .int q, .null] [] E x z false K
  refine ux_BN 3 rfl ?_
  refine ux_Byes (by decide) ?_
  refine ux_BN 3 rfl ?_
  refine ux_Bno (by decide) ?_
  refine ux_BN 3 rfl ?_
  refine ux_Byes (by decide) ?_
  refine ux_BN 2 rfl ?_
  refine ux_Bno (by decide) ?_
  refine ux_BN 3 rfl ?_
  refine ux_Byes (by decide) ?_
  refine ux_BN 1 rfl ?_
  refine ux_Bk (j := 98) rfl rfl ?_
  refine mt_isSign0 (by decide) ?_
  refine ux_BN 1 rfl ?_
  refine ux_Bno (by decide) ?_
  refine ux_BN 3 rfl ?_
  refine ux_Bno (by decide) ?_
  refine ux_BN 3 rfl ?_
  refine mq_Bv m rfl rfl rfl rfl rfl ?_
  refine mq_begins m (8 : Int32) q hd fun E2 m2 => ?_
  refine ux_BN 1 rfl ?_
  exact ux_Bri rfl (Or.inl rfl) (hK _ _ m2)

theorem mt_none1 (m : mq E0 g0 A0 dd 0 fp c R E) (f : Nat) (q : Int32) (t : Int32) (ht : t < 0) (hK : ∀ E' w', mq E0 g0 A0 dd 1 q c R E' → K (.inr (some (.int 2))) E' x z w') : ux_Bm uxP sc (d + 1) 94 [.ref 210, .int (nI f), .int t, .int q] E x z K := by
  show ux_B uxP sc (d + 1) 94 0 [.ref 210, .int (nI f), .int t, .int q, .null] [] E x z false K
  refine ux_BN 3 rfl ?_
  refine ux_Byes (i_neg ht 100 (by decide)).1 ?_
  refine ux_BN 3 rfl ?_
  refine ux_Bno (i_neg ht 9 (by decide)).2.1 ?_
  refine ux_BN 3 rfl ?_
  refine ux_Byes (i_neg ht 10 (by decide)).2.1 ?_
  refine ux_BN 2 rfl ?_
  refine ux_Byes ht ?_
  refine ux_BN 1 rfl ?_
  refine ux_Bk (j := 98) rfl rfl ?_
  refine mt_isSign0 (fun h => (i_neg ht 3 (by decide)).2.2 h.1) ?_
  refine ux_BN 1 rfl ?_
  refine ux_Bno (by decide) ?_
  refine ux_BN 3 rfl ?_
  refine ux_Byes (i_neg ht 8 (by decide)).2.1 ?_
  refine ux_BN 1 rfl ?_
  refine ux_Bk (j := 100) rfl rfl ?_
  refine mt_isCall0 (fun h => (i_neg ht 11 (by decide)).2.2 h.1) ?_
  refine ux_BN 1 rfl ?_
  refine ux_Bno (by decide) ?_
  refine ux_BN 3 rfl ?_
  refine mq_Bv m rfl rfl rfl rfl rfl ?_
  refine mq_wrong m 1 q fun E3 w3 m3 => ?_
  refine ux_BN 1 rfl ?_
  exact ux_Bri rfl (Or.inl rfl) (hK _ _ m3)

theorem mt_none2 (m : mq E0 g0 A0 dd 0 fp c R E) (f : Nat) (q : Int32) (k : Nat) (hk : 19 ≤ k ∧ k < 100) (hK : ∀ E' w', mq E0 g0 A0 dd 1 q c R E' → K (.inr (some (.int 2))) E' x z w') : ux_Bm uxP sc (d + 1) 94 [.ref 210, .int (nI f), .int (nI k), .int q] E x z K := by
  show ux_B uxP sc (d + 1) 94 0 [.ref 210, .int (nI f), .int (nI k), .int q, .null] [] E x z false K
  refine ux_BN 3 rfl ?_
  refine ux_Byes (nI_lt (show k < 100 by omega) (by decide)) ?_
  refine ux_BN 3 rfl ?_
  refine ux_Bno (nI_neq (b := 9) (by omega) (by omega) (by decide)) ?_
  refine ux_BN 3 rfl ?_
  refine ux_Byes (nI_neq (b := 10) (by omega) (by omega) (by decide)) ?_
  refine ux_BN 2 rfl ?_
  refine ux_Bno (nI_pos (by omega)) ?_
  refine ux_BN 3 rfl ?_
  refine ux_Byes (nI_le (show 3 ≤ k by omega) (by omega)) ?_
  refine ux_BN 1 rfl ?_
  refine ux_Bk (j := 98) rfl rfl ?_
  refine mt_isSign0 (fun h => absurd h.2 (nI_ge (show 7 < k by omega) (by omega))) ?_
  refine ux_BN 1 rfl ?_
  refine ux_Bno (by decide) ?_
  refine ux_BN 3 rfl ?_
  refine ux_Byes (nI_neq (b := 8) (by omega) (by omega) (by decide)) ?_
  refine ux_BN 1 rfl ?_
  refine ux_Bk (j := 100) rfl rfl ?_
  refine mt_isCall0 (fun h => (nI_nlt (show 19 ≤ k by omega) (by omega)) h.2) ?_
  refine ux_BN 1 rfl ?_
  refine ux_Bno (by decide) ?_
  refine ux_BN 3 rfl ?_
  refine mq_Bv m rfl rfl rfl rfl rfl ?_
  refine mq_wrong m 1 q fun E3 w3 m3 => ?_
  refine ux_BN 1 rfl ?_
  exact ux_Bri rfl (Or.inl rfl) (hK _ _ m3)

theorem mt_callX (m : mq E0 g0 A0 dd 0 fp c R E) (f : Nat) (q : Int32) (h : Nat) (hh : h < 8) (h0 : (A0 211).getD h 0 = 0) (hK : ∀ E' w', mq E0 g0 A0 dd 4 q c R E' → K (.inr (some (.int 2))) E' x z w') : ux_Bm uxP sc (d + 1) 94 [.ref 210, .int (nI f), .int (nI (h + 11)), .int q] E x z K := by
  show ux_B uxP sc (d + 1) 94 0 [.ref 210, .int (nI f), .int (nI (h + 11)), .int q, .null] [] E x z false K
  refine ux_BN 3 rfl ?_
  refine ux_Byes (nI_lt (show h + 11 < 100 by omega) (by decide)) ?_
  refine ux_BN 3 rfl ?_
  refine ux_Bno (nI_neq (b := 9) (by omega) (by omega) (by decide)) ?_
  refine ux_BN 3 rfl ?_
  refine ux_Byes (nI_neq (b := 10) (by omega) (by omega) (by decide)) ?_
  refine ux_BN 2 rfl ?_
  refine ux_Bno (nI_pos (by omega)) ?_
  refine ux_BN 3 rfl ?_
  refine ux_Byes (nI_le (show 3 ≤ h + 11 by omega) (by omega)) ?_
  refine ux_BN 1 rfl ?_
  refine ux_Bk (j := 98) rfl rfl ?_
  refine mt_isSign0 (fun h0 => absurd h0.2 (nI_ge (show 7 < h + 11 by omega) (by omega))) ?_
  refine ux_BN 1 rfl ?_
  refine ux_Bno (by decide) ?_
  refine ux_BN 3 rfl ?_
  refine ux_Byes (nI_neq (b := 8) (by omega) (by omega) (by decide)) ?_
  refine ux_BN 1 rfl ?_
  refine ux_Bk (j := 100) rfl rfl ?_
  refine mt_isCall1 ⟨nI_le (show 11 ≤ h + 11 by omega) (by omega), nI_lt (show h + 11 < 19 by omega) (by decide)⟩ ?_
  refine ux_BN 1 rfl ?_
  refine ux_Byes (by decide) ?_
  refine ux_BN 3 rfl ?_
  refine ux_Btop (nI h) (pk_sub (show 11 ≤ h + 11 by omega)) ?_
  refine ux_BN 2 rfl ?_
  refine mq_Bref m rfl rfl (fun _ => rfl) ?_
  refine ux_BN 1 rfl ?_
  refine mq_zld m h rfl hh rfl ?_
  refine ux_BN 1 rfl ?_
  refine ux_Bno (not_not_intro h0) ?_
  refine ux_BN 3 rfl ?_
  refine mq_Bv m rfl rfl rfl rfl rfl ?_
  refine mq_wrong m 4 q fun E3 w3 m3 => ?_
  refine ux_BN 1 rfl ?_
  refine mq_Bfault m3 rfl rfl ?_
  refine ux_BN 1 rfl ?_
  refine ux_Bno (by decide) ?_
  refine ux_BN 1 rfl ?_
  exact ux_Bri rfl (Or.inl rfl) (hK _ _ m3)

theorem mt_call0 (m : mq E0 g0 A0 dd 0 fp c R E) (f : Nat) (q : Int32) (h : Nat) (hh : h < 8) (h0 : ¬ (A0 211).getD h 0 = 0) (hp : (A0 212).getD h 0 &&& 3 ≤ 0) (hc : c.length + 2 ≤ 80) (hK : ∀ E' w', mq E0 g0 A0 dd 0 fp (c ++ [9, nI h]) R E' → K (.inr (some (.int ((A0 212).getD h 0 >>> ((5 : Int32) &&& 31))))) E' x z w') : ux_Bm uxP sc (d + 1) 94 [.ref 210, .int (nI f), .int (nI (h + 11)), .int q] E x z K := by
  show ux_B uxP sc (d + 1) 94 0 [.ref 210, .int (nI f), .int (nI (h + 11)), .int q, .null] [] E x z false K
  refine ux_BN 3 rfl ?_
  refine ux_Byes (nI_lt (show h + 11 < 100 by omega) (by decide)) ?_
  refine ux_BN 3 rfl ?_
  refine ux_Bno (nI_neq (b := 9) (by omega) (by omega) (by decide)) ?_
  refine ux_BN 3 rfl ?_
  refine ux_Byes (nI_neq (b := 10) (by omega) (by omega) (by decide)) ?_
  refine ux_BN 2 rfl ?_
  refine ux_Bno (nI_pos (by omega)) ?_
  refine ux_BN 3 rfl ?_
  refine ux_Byes (nI_le (show 3 ≤ h + 11 by omega) (by omega)) ?_
  refine ux_BN 1 rfl ?_
  refine ux_Bk (j := 98) rfl rfl ?_
  refine mt_isSign0 (fun h0 => absurd h0.2 (nI_ge (show 7 < h + 11 by omega) (by omega))) ?_
  refine ux_BN 1 rfl ?_
  refine ux_Bno (by decide) ?_
  refine ux_BN 3 rfl ?_
  refine ux_Byes (nI_neq (b := 8) (by omega) (by omega) (by decide)) ?_
  refine ux_BN 1 rfl ?_
  refine ux_Bk (j := 100) rfl rfl ?_
  refine mt_isCall1 ⟨nI_le (show 11 ≤ h + 11 by omega) (by omega), nI_lt (show h + 11 < 19 by omega) (by decide)⟩ ?_
  refine ux_BN 1 rfl ?_
  refine ux_Byes (by decide) ?_
  refine ux_BN 3 rfl ?_
  refine ux_Btop (nI h) (pk_sub (show 11 ≤ h + 11 by omega)) ?_
  refine ux_BN 2 rfl ?_
  refine mq_Bref m rfl rfl (fun _ => rfl) ?_
  refine ux_BN 1 rfl ?_
  refine mq_zld m h rfl hh rfl ?_
  refine ux_BN 1 rfl ?_
  refine ux_Byes h0 ?_
  refine ux_BN 1 rfl ?_
  refine mq_Bfault m rfl rfl ?_
  refine ux_BN 1 rfl ?_
  refine ux_Byes (by decide) ?_
  refine ux_BN 2 rfl ?_
  refine mq_Bv m rfl rfl rfl rfl rfl ?_
  refine mq_parameters m h hh ?_
  refine ux_BN 1 rfl ?_
  refine ux_Byes hp ?_
  refine ux_BN 2 rfl ?_
  refine mq_Bv m rfl rfl rfl rfl rfl ?_
  refine mq_emit m 9 (by omega) fun E4 m4 => ?_
  refine ux_BN 2 rfl ?_
  refine mq_Bv m4 rfl rfl rfl rfl rfl ?_
  refine mq_emit m4 (nI h) (by rw [List.length_append]; exact (show c.length + 1 < 80 by omega)) fun E5 m5 => ?_
  refine ux_BN 2 rfl ?_
  refine mq_Bv m5 rfl rfl rfl rfl rfl ?_
  refine mq_resultOf m5 h hh ?_
  exact ux_Bri rfl (Or.inl rfl) (hK _ _ (by simpa using m5))

theorem mt_call (m : mq E0 g0 A0 dd 0 fp c R E) (f : Nat) (q : Int32) (h : Nat) (hh : h < 8) (h0 : ¬ (A0 211).getD h 0 = 0) (hp : ¬ (A0 212).getD h 0 &&& 3 ≤ 0) (hd : dd < 32) (hK : ∀ E' w', mq E0 g0 A0 (dd + 1) 0 fp c (fU (fU (fU R 229 ((R 229).set dd (nI (h + 11)))) 230 ((R 230).set dd 0)) 231 ((R 231).set dd q)) E' → K (.inr (some (.int 2))) E' x z w') : ux_Bm uxP sc (d + 1) 94 [.ref 210, .int (nI f), .int (nI (h + 11)), .int q] E x z K := by
  show ux_B uxP sc (d + 1) 94 0 [.ref 210, .int (nI f), .int (nI (h + 11)), .int q, .null] [] E x z false K
  refine ux_BN 3 rfl ?_
  refine ux_Byes (nI_lt (show h + 11 < 100 by omega) (by decide)) ?_
  refine ux_BN 3 rfl ?_
  refine ux_Bno (nI_neq (b := 9) (by omega) (by omega) (by decide)) ?_
  refine ux_BN 3 rfl ?_
  refine ux_Byes (nI_neq (b := 10) (by omega) (by omega) (by decide)) ?_
  refine ux_BN 2 rfl ?_
  refine ux_Bno (nI_pos (by omega)) ?_
  refine ux_BN 3 rfl ?_
  refine ux_Byes (nI_le (show 3 ≤ h + 11 by omega) (by omega)) ?_
  refine ux_BN 1 rfl ?_
  refine ux_Bk (j := 98) rfl rfl ?_
  refine mt_isSign0 (fun h0 => absurd h0.2 (nI_ge (show 7 < h + 11 by omega) (by omega))) ?_
  refine ux_BN 1 rfl ?_
  refine ux_Bno (by decide) ?_
  refine ux_BN 3 rfl ?_
  refine ux_Byes (nI_neq (b := 8) (by omega) (by omega) (by decide)) ?_
  refine ux_BN 1 rfl ?_
  refine ux_Bk (j := 100) rfl rfl ?_
  refine mt_isCall1 ⟨nI_le (show 11 ≤ h + 11 by omega) (by omega), nI_lt (show h + 11 < 19 by omega) (by decide)⟩ ?_
  refine ux_BN 1 rfl ?_
  refine ux_Byes (by decide) ?_
  refine ux_BN 3 rfl ?_
  refine ux_Btop (nI h) (pk_sub (show 11 ≤ h + 11 by omega)) ?_
  refine ux_BN 2 rfl ?_
  refine mq_Bref m rfl rfl (fun _ => rfl) ?_
  refine ux_BN 1 rfl ?_
  refine mq_zld m h rfl hh rfl ?_
  refine ux_BN 1 rfl ?_
  refine ux_Byes h0 ?_
  refine ux_BN 1 rfl ?_
  refine mq_Bfault m rfl rfl ?_
  refine ux_BN 1 rfl ?_
  refine ux_Byes (by decide) ?_
  refine ux_BN 2 rfl ?_
  refine mq_Bv m rfl rfl rfl rfl rfl ?_
  refine mq_parameters m h hh ?_
  refine ux_BN 1 rfl ?_
  refine ux_Bno hp ?_
  refine ux_BN 3 rfl ?_
  refine mq_Bv m rfl rfl rfl rfl rfl ?_
  refine mq_begins m (nI (h + 11)) q hd fun E4 m4 => ?_
  refine ux_BN 1 rfl ?_
  exact ux_Bri rfl (Or.inl rfl) (hK _ _ m4)

end MT
