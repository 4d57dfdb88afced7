/-! The reference's calls on texts, and its look. -/
theorem ux_Bsel {P : ux_P} {sc : List Int32} {d i : Nat} {ls st : List Value} {E : ux_Ev} {x z : Nat} {w : Bool} {K : ux_K1} {c : Prop} {_ : Decidable c} {p1 p2 q : Nat} {y1 y2 : Int32} (n1 n2 : Nat) (h1 : ux_sN P i n1 p1 ls st = some (q, ls, .int y1 :: st)) (h2 : ux_sN P i n2 p2 ls st = some (q, ls, .int y2 :: st)) (k : ux_B P sc d i q ls (.int (if c then y1 else y2) :: st) E x z w K) : ux_B P sc d i (if decide c = true then p1 else p2) ls st E x z w K := by
  by_cases hc : c
  · rw [if_pos hc] at k
    rw [if_pos (decide_eq_true hc)]; exact ux_BN n1 h1 k
  · rw [if_neg hc] at k
    rw [if_neg (by simpa using hc)]; exact ux_BN n2 h2 k
section BIF
variable {P : ux_P} {sc : List Int32} {d i : Nat} {ls st : List Value} {E : ux_Ev} {x z : Nat} {w : Bool} {K : ux_K1} {p q : Nat} {u v : Int32}
theorem ux_BleN (a b : Nat) (hu : u = nI a) (hv : v = nI b) (ha : a < 2 ^ 31) (hb : b < 2 ^ 31) (k1 : a ≤ b → ux_B P sc d i p ls st E x z w K) (k2 : b < a → ux_B P sc d i q ls st E x z w K) : ux_B P sc d i (if decide (u ≤ v) = true then p else q) ls st E x z w K := by
  subst hu hv
  exact ux_Bif (fun h => k1 ((nI_leI ha hb).mp h)) (fun h => k2 (Nat.lt_of_not_le fun h2 => h ((nI_leI ha hb).mpr h2)))
theorem ux_BltN (a b : Nat) (hu : u = nI a) (hv : v = nI b) (ha : a < 2 ^ 31) (hb : b < 2 ^ 31) (k1 : a < b → ux_B P sc d i p ls st E x z w K) (k2 : b ≤ a → ux_B P sc d i q ls st E x z w K) : ux_B P sc d i (if decide (u < v) = true then p else q) ls st E x z w K := by
  subst hu hv
  exact ux_Bif (fun h => k1 ((nI_ltI ha hb).mp h)) (fun h => k2 (Nat.le_of_not_lt fun h2 => h ((nI_ltI ha hb).mpr h2)))
theorem ux_BeqN (a b : Nat) (hu : u = nI a) (hv : v = nI b) (ha : a < 2 ^ 31) (hb : b < 2 ^ 31) (k1 : a = b → ux_B P sc d i p ls st E x z w K) (k2 : a ≠ b → ux_B P sc d i q ls st E x z w K) : ux_B P sc d i (if decide (u = v) = true then p else q) ls st E x z w K := by
  subst hu hv
  exact ux_Bif (fun h => k1 ((nI_eq ha hb).mp h)) (fun h => k2 (fun h2 => h ((nI_eq ha hb).mpr h2)))
theorem ux_BneN (a b : Nat) (hu : u = nI a) (hv : v = nI b) (ha : a < 2 ^ 31) (hb : b < 2 ^ 31) (k1 : a ≠ b → ux_B P sc d i p ls st E x z w K) (k2 : a = b → ux_B P sc d i q ls st E x z w K) : ux_B P sc d i (if decide (¬ u = v) = true then p else q) ls st E x z w K := by
  subst hu hv
  exact ux_Bif (fun h => k1 (fun h2 => h ((nI_eq ha hb).mpr h2))) (fun h => k2 ((nI_eq ha hb).mp (Decidable.not_not.mp h)))
theorem ux_BifC {c c' : Prop} {_ : Decidable c} (hc : c ↔ c') (ka : c' → ux_B P sc d i p ls st E x z w K) (kb : ¬ c' → ux_B P sc d i q ls st E x z w K) : ux_B P sc d i (if decide c = true then p else q) ls st E x z w K :=
  ux_Bif (fun h => ka (hc.mp h)) (fun h => kb (fun h2 => h (hc.mpr h2)))
theorem ux_Bne {a b : Int32} (ka : a = b → ux_B P sc d i q ls st E x z w K) (kb : ¬ a = b → ux_B P sc d i p ls st E x z w K) : ux_B P sc d i (if decide (¬ a = b) = true then p else q) ls st E x z w K :=
  ux_Bif kb (fun h => ka (Decidable.not_not.mp h))
end BIF
theorem nI_3 (f k : Nat) : (3 : Int32) * nI f + nI k = nI (3 * f + k) := by
  rw [show (3 : Int32) = nI 3 from rfl, pk_mul, nI_add]
/-- a signature's number -/
def sgM (p t b : Int32) : Int32 := (p ||| ((t &&& ((1 <<< (p &&& 31)) - 1)) <<< ((2 : Int32) &&& 31))) ||| (if b = 0 then 0 else 32)
theorem fU_fU {α : Type} (f : Nat → α) (k : Nat) (v w : α) : fU (fU f k v) k w = fU f k w := by
  funext j
  unfold fU
  by_cases h : j = k
  · rw [if_pos h, if_pos h]
  · rw [if_neg h, if_neg h, if_neg h]
theorem ite01 {c : Prop} {_ : Decidable c} : (if c then (0 : Int32) else 1) = 0 ∨ (if c then (0 : Int32) else 1) = 1 := by split; exact Or.inl rfl; exact Or.inr rfl
theorem ite0 {c : Prop} {_ : Decidable c} (h : (if c then (0 : Int32) else 1) = 0) : c := by
  by_cases hc : c
  · exact hc
  · rw [if_neg hc] at h; exact absurd h (by decide)
theorem ite1 {c : Prop} {_ : Decidable c} (h : ¬ (if c then (0 : Int32) else 1) = 0) : ¬ c := fun hc => h (if_pos hc)
theorem nI_30 (f k : Nat) : (30 : Int32) * nI f + nI k = nI (30 * f + k) := by
  rw [show (30 : Int32) = nI 30 from rfl, pk_mul, nI_add]
section MO3
variable {sc : List Int32} {d : Nat} {E0 E : ux_Ev} {g : Nat → Int32} {A : Nat → List Int32} {x z : Nat} {K : ux_K1}
theorem mo_sign (hm : md E0 g A E) (v p t b : Int32) (hK1 : (v < 0 ∨ 8 ≤ v) ∨ (p < 0 ∨ 4 ≤ p) → ∀ E' w', md E0 (fU g 0 1) A E' → K (.inr none) E' x z w') (hK2 : ∀ n k, n < 8 → k < 4 → v = nI n → p = nI k → ∀ E' w', md E0 (fU g 0 0) (fU (fU A 211 ((A 211).set n 1)) 212 ((A 212).set n (sgM p t b))) E' → K (.inr none) E' x z w') : ux_Bm uxP sc (d + 1) 81 [.ref 210, .int v, .int p, .int t, .int b] E x z K := by
  show ux_B uxP sc (d + 1) 81 0 [.ref 210, .int v, .int p, .int t, .int b] [] E x z false K
  refine ux_BN 3 rfl ?_
  refine ux_Bk (j := 82) rfl rfl ?_
  refine mo_out v 8 ?_
  refine ux_BN 1 rfl ?_
  refine ux_Bif (fun h7 => ?_) (fun h7 => ?_)
  · refine ux_BN 3 rfl ?_
    refine ux_Bv rfl rfl rfl hm.1 rfl (by decide) rfl rfl ?_
    refine mo_fails hm 1 1 (Or.inr rfl) fun E2 m2 => ?_
    refine ux_BN 1 rfl ?_
    refine ux_Bif (fun h27 => ?_) (fun h27 => ?_)
    · exact absurd h27 (by decide)
    · exact ux_Br rfl (hK1 (Or.inl (oB_n0 h7)) _ _ m2)
  · refine ux_BN 2 rfl ?_
    refine ux_Bk (j := 82) rfl rfl ?_
    refine mo_out p 4 ?_
    refine ux_BN 1 rfl ?_
    refine ux_Bsel 1 2 rfl rfl ?_
    refine ux_BN 1 rfl ?_
    refine ux_Bv rfl rfl rfl hm.1 rfl (by decide) rfl rfl ?_
    have h7' : oB v 8 = 0 := Decidable.not_not.mp h7
    refine mo_fails hm (if oB p 4 = 0 then 0 else 1) 1 ite01 fun E6 m6 => ?_
    refine ux_BN 1 rfl ?_
    refine ux_Bif (fun h27 => ?_) (fun h27 => ?_)
    · rw [if_pos h27] at m6
      obtain ⟨n, hn, rfl⟩ := oB_at (n := 8) rfl (by decide) h7'
      obtain ⟨k, hk, rfl⟩ := oB_at (n := 4) rfl (by decide) (ite0 h27)
      refine ux_BN 1 rfl ?_
      refine ux_Bget rfl rfl m6.1 rfl ?_
      refine ux_BN 2 rfl ?_
      refine mr_zst m6 n rfl hn rfl (Or.inr rfl) fun E7 m7 => ?_
      refine ux_BN 1 rfl ?_
      refine ux_Bget rfl rfl m7.1 rfl ?_
      refine ux_BN 14 rfl ?_
      refine ux_Bsel 1 2 rfl rfl ?_
      refine ux_BN 1 rfl ?_
      refine mr_ist m7 212 n rfl (by decide) hn rfl fun E8 m8 => ?_
      exact ux_Br rfl (hK2 n k hn hk rfl rfl _ _ m8)
    · rw [if_neg h27] at m6
      exact ux_Br rfl (hK1 (Or.inr (oB_n0 (ite1 h27))) _ _ m6)
theorem mo_token (hm : md E0 g A E) (v t : Int32) (ln : Nat → Nat) (hl : ∀ n, n < 8 → (A 213).getD n 0 = nI (ln n) ∧ ln n ≤ 30)
    (hK1 : v < 0 ∨ 8 ≤ v → ∀ E' w', md E0 (fU g 0 1) A E' → K (.inr (some (.int 0))) E' x z w')
    (hK2 : ∀ n, n < 8 → v = nI n → (A 211).getD n 0 = 0 → ∀ E' w', md E0 (fU g 0 2) A E' → K (.inr (some (.int 0))) E' x z w')
    (hK3 : ∀ n, n < 8 → v = nI n → ¬ (A 211).getD n 0 = 0 → ln n = 30 → ∀ E' w', md E0 (fU g 0 0) A E' → K (.inr (some (.int 0))) E' x z w')
    (hK4 : ∀ n, n < 8 → v = nI n → ¬ (A 211).getD n 0 = 0 → ln n < 30 → ∀ E' w', md E0 (fU g 0 0) (fU (fU A 214 ((A 214).set (30 * n + ln n) t)) 213 ((A 213).set n (nI (ln n + 1)))) E' → K (.inr (some (.int 1))) E' x z w') : ux_Bm uxP sc (d + 1) 85 [.ref 210, .int v, .int t] E x z K := by
  show ux_B uxP sc (d + 1) 85 0 [.ref 210, .int v, .int t] [] E x z false K
  refine ux_BN 3 rfl ?_
  refine ux_Bk (j := 82) rfl rfl ?_
  refine mo_out v 8 ?_
  refine ux_BN 1 rfl ?_
  refine ux_Bv rfl rfl rfl hm.1 rfl (by decide) rfl rfl ?_
  refine mo_fails hm (oB v 8) 1 (oB01 v 8) fun E2 m2 => ?_
  refine ux_BN 1 rfl ?_
  refine ux_Bif (fun h11 => ?_) (fun h11 => ?_)
  · rw [if_neg h11] at m2
    refine ux_BN 1 rfl ?_
    exact ux_Bri rfl (Or.inr ⟨rfl, Or.inl rfl⟩) (hK1 (oB_n0 h11) _ _ m2)
  · have h11' : oB v 8 = 0 := Decidable.not_not.mp h11
    rw [if_pos h11'] at m2
    obtain ⟨n, hn, rfl⟩ := oB_at (n := 8) rfl (by decide) h11'
    obtain ⟨hl1, hl2⟩ := hl n hn
    refine ux_BN 2 rfl ?_
    refine ux_Bget rfl rfl m2.1 rfl ?_
    refine ux_BN 1 rfl ?_
    refine mr_zld m2 n rfl hn rfl ?_
    refine ux_BN 1 rfl ?_
    refine ux_Bsel 1 2 rfl rfl ?_
    refine ux_BN 1 rfl ?_
    refine ux_Bv rfl rfl rfl m2.1 rfl (by decide) rfl rfl ?_
    refine mo_fails m2 (if ¬ (A 211).getD n 0 = 0 then 0 else 1) 2 ite01 fun E3 m3 => ?_
    refine ux_BN 1 rfl ?_
    refine ux_Bif (fun h33 => ?_) (fun h33 => ?_)
    · refine ux_BN 1 rfl ?_
      have h9 : (A 211).getD n 0 = 0 := Decidable.not_not.mp (ite1 h33)
      rw [if_neg h33, fU_fU] at m3
      exact ux_Bri rfl (Or.inr ⟨rfl, Or.inl rfl⟩) (hK2 n hn rfl h9 _ _ m3)
    · have h33' := Decidable.not_not.mp h33
      rw [if_pos h33', fU_fU] at m3
      have h9 : ¬ (A 211).getD n 0 = 0 := ite0 h33'
      refine ux_BN 1 rfl ?_
      refine ux_Bget rfl rfl m3.1 rfl ?_
      refine ux_BN 1 rfl ?_
      refine mr_ild m3 213 n rfl (by decide) hn rfl ?_
      rw [hl1]
      refine ux_BN 2 rfl ?_
      refine ux_Bif (fun h44 => ?_) (fun h44 => ?_)
      · have h44' : ln n < 30 := by
          by_cases h : ln n = 30
          · exact absurd (by rw [h]; rfl) h44
          · omega
        refine ux_BN 1 rfl ?_
        refine ux_Bget rfl rfl m3.1 rfl ?_
        refine ux_BN 4 rfl ?_
        refine ux_Bget rfl rfl m3.1 rfl ?_
        refine ux_BN 1 rfl ?_
        refine mr_ild m3 213 n rfl (by decide) hn rfl ?_
        rw [hl1]
        refine ux_BN 2 rfl ?_
        refine mr_ist m3 214 (30 * n + ln n) rfl (by decide) (show 30 * n + ln n < 240 by omega) (nI_30 n (ln n)) fun E4 m4 => ?_
        refine ux_BN 1 rfl ?_
        refine ux_Bget rfl rfl m4.1 rfl ?_
        refine ux_BN 2 rfl ?_
        refine mr_ild m4 213 n rfl (by decide) hn rfl ?_
        rw [show (fU A 214 ((A 214).set (30 * n + ln n) t) 213).getD n 0 = nI (ln n) from hl1]
        refine ux_BN 2 rfl ?_
        refine ux_Btop (nI (ln n + 1)) (nI_1 _) ?_
        refine mr_ist m4 213 n rfl (by decide) hn rfl fun E5 m5 => ?_
        refine ux_BN 1 rfl ?_
        exact ux_Bri rfl (Or.inr ⟨rfl, Or.inr rfl⟩) (hK4 n hn rfl h9 h44' _ _ m5)
      · have h44' : ln n = 30 := by
          have h5 := Decidable.not_not.mp h44
          exact (nI_eq (by omega) (by decide)).mp (h5.trans (show _ = nI 30 from rfl))
        refine ux_BN 1 rfl ?_
        exact ux_Bri rfl (Or.inr ⟨rfl, Or.inl rfl⟩) (hK3 n hn rfl h9 h44' _ _ m3)
theorem mo_edit (hm : md E0 g A E) (v j t : Int32) (ln : Nat → Nat) (hl : ∀ n, n < 8 → (A 213).getD n 0 = nI (ln n) ∧ ln n ≤ 30)
    (hK1 : v < 0 ∨ 8 ≤ v → ∀ E' w', md E0 (fU g 0 1) A E' → K (.inr none) E' x z w')
    (hK2 : ∀ n, n < 8 → v = nI n → j < 0 ∨ nI (ln n) ≤ j → ∀ E' w', md E0 (fU g 0 2) A E' → K (.inr none) E' x z w')
    (hK3 : ∀ n k, n < 8 → v = nI n → k < ln n → j = nI k → ∀ E' w', md E0 (fU g 0 0) (fU A 214 ((A 214).set (30 * n + k) t)) E' → K (.inr none) E' x z w') : ux_Bm uxP sc (d + 1) 86 [.ref 210, .int v, .int j, .int t] E x z K := by
  show ux_B uxP sc (d + 1) 86 0 [.ref 210, .int v, .int j, .int t] [] E x z false K
  refine ux_BN 3 rfl ?_
  refine ux_Bk (j := 82) rfl rfl ?_
  refine mo_out v 8 ?_
  refine ux_BN 1 rfl ?_
  refine ux_Bv rfl rfl rfl hm.1 rfl (by decide) rfl rfl ?_
  refine mo_fails hm (oB v 8) 1 (oB01 v 8) fun E2 m2 => ?_
  refine ux_BN 1 rfl ?_
  refine ux_Bif (fun h11 => ?_) (fun h11 => ?_)
  · rw [if_neg h11] at m2
    exact ux_Br rfl (hK1 (oB_n0 h11) _ _ m2)
  · have h11' : oB v 8 = 0 := Decidable.not_not.mp h11
    rw [if_pos h11'] at m2
    obtain ⟨n, hn, rfl⟩ := oB_at (n := 8) rfl (by decide) h11'
    obtain ⟨hl1, hl2⟩ := hl n hn
    refine ux_BN 3 rfl ?_
    refine ux_Bget rfl rfl m2.1 rfl ?_
    refine ux_BN 1 rfl ?_
    refine mr_ild m2 213 n rfl (by decide) hn rfl ?_
    rw [hl1]
    refine ux_Bk (j := 82) rfl rfl ?_
    refine mo_out j (nI (ln n)) ?_
    refine ux_BN 1 rfl ?_
    refine ux_Bv rfl rfl rfl m2.1 rfl (by decide) rfl rfl ?_
    refine mo_fails m2 (oB j (nI (ln n))) 2 (oB01 _ _) fun E4 m4 => ?_
    rw [fU_fU] at m4
    refine ux_BN 1 rfl ?_
    refine ux_Bif (fun h29 => ?_) (fun h29 => ?_)
    · rw [if_pos h29] at m4
      obtain ⟨k, hk, rfl⟩ := oB_at (n := ln n) rfl (by omega) h29
      refine ux_BN 1 rfl ?_
      refine ux_Bget rfl rfl m4.1 rfl ?_
      refine ux_BN 6 rfl ?_
      refine mr_ist m4 214 (30 * n + k) rfl (by decide) (show 30 * n + k < 240 by omega) (nI_30 n k) fun E5 m5 => ?_
      exact ux_Br rfl (hK3 n k hn rfl hk rfl _ _ m5)
    · rw [if_neg h29] at m4
      exact ux_Br rfl (hK2 n hn rfl (oB_n0 h29) _ _ m4)
/-- how many units are used -/
def mo_cnt (A : Nat → List Int32) (f : Nat) : Nat → Nat
  | 0 => 0
  | n + 1 => mo_cnt A f n + (if (A 215).getD (3 * f + n) 0 ≤ 0 then 0 else 1)
theorem mo_cnt_le (A : Nat → List Int32) (f n : Nat) : mo_cnt A f n ≤ n := by
  induction n with
  | zero => exact Nat.le_refl 0
  | succ n ih => unfold mo_cnt; split <;> omega
theorem mo_look_loop (hm : md E0 g A E) (f : Nat) (hf : f < 8) (u : Int32) (w : Bool) (hK : ux_B uxP sc d 111 73 [.ref 210, .int (nI f), .int u, .int (nI (mo_cnt A f 3)), .int (nI (3 * f + 3))] [] E x z w K) : ∀ k n, n + k = 3 → ux_B uxP sc d 111 39 [.ref 210, .int (nI f), .int u, .int (nI (mo_cnt A f n)), .int (nI (3 * f + n))] [] E x z w K := by
  intro k
  induction k with
  | zero =>
    intro n hn
    refine ux_BN 7 rfl ?_
    refine ux_BleN (3 * f + 3) (3 * f + n) (nI_3 f 3) rfl (by omega) (by omega) (fun h46 => ?_) (fun h46 => ?_)
    · have : n = 3 := by omega
      subst this
      exact hK
    · omega
  | succ k ih =>
    intro n hn
    refine ux_BN 7 rfl ?_
    refine ux_BleN (3 * f + 3) (3 * f + n) (nI_3 f 3) rfl (by omega) (by omega) (fun h46 => ?_) (fun h46 => ?_)
    · omega
    · refine ux_BN 2 rfl ?_
      refine ux_Bget rfl rfl hm.1 rfl ?_
      refine ux_BN 1 rfl ?_
      refine mr_ild hm 215 (3 * f + n) rfl (by decide) (show 3 * f + n < 24 by omega) rfl ?_
      refine ux_BN 1 rfl ?_
      refine ux_Bsel 1 2 rfl rfl ?_
      refine ux_BN 4 rfl ?_
      have h1 : nI (mo_cnt A f n) + (if (A 215).getD (3 * f + n) 0 ≤ 0 then Int32.ofInt 0 else Int32.ofInt 1) = nI (mo_cnt A f (n + 1)) := by
        show _ = nI (mo_cnt A f n + (if (A 215).getD (3 * f + n) 0 ≤ 0 then 0 else 1))
        rw [← nI_add]
        split <;> rfl
      have h2 : nI (3 * f + n) + Int32.ofInt 1 = nI (3 * f + (n + 1)) := nI_1 _
      have := ih (n + 1) (by omega)
      rw [← h1, ← h2] at this
      exact this
theorem mo_look (hm : md E0 g A E) (v u : Int32)
    (hK1 : (v < 0 ∨ 8 ≤ v) ∨ (u < 0 ∨ 5 ≤ u) → ∀ E' w', md E0 (fU g 0 1) A E' → K (.inr (some (.int 0))) E' x z w')
    (hK2 : ∀ n k, n < 8 → k < 5 → v = nI n → u = nI k → ∀ E' w', md E0 (fU g 0 0) A E' → K (.inr (some (.int (if k = 0 then (A 221).getD n 0 else if k = 1 then (A 222).getD n 0 else if k = 2 then (A 223).getD n 0 else if k = 3 then nI (mo_cnt A n 3) else (A 227).getD n 0)))) E' x z w') : ux_Bm uxP sc (d + 1) 111 [.ref 210, .int v, .int u] E x z K := by
  show ux_B uxP sc (d + 1) 111 0 [.ref 210, .int v, .int u, .null, .null] [] E x z false K
  refine ux_BN 3 rfl ?_
  refine ux_Bk (j := 82) rfl rfl ?_
  refine mo_out v 8 ?_
  refine ux_BN 1 rfl ?_
  refine ux_Bif (fun h7 => ?_) (fun h7 => ?_)
  · refine ux_BN 3 rfl ?_
    refine ux_Bv rfl rfl rfl hm.1 rfl (by decide) rfl rfl ?_
    refine mo_fails hm 1 1 (Or.inr rfl) fun E2 m2 => ?_
    refine ux_BN 1 rfl ?_
    refine ux_Bif (fun h27 => ?_) (fun h27 => ?_)
    · exact absurd h27 (by decide)
    · refine ux_BN 1 rfl ?_
      exact ux_Bri rfl (Or.inl rfl) (hK1 (Or.inl (oB_n0 h7)) _ _ m2)
  · refine ux_BN 2 rfl ?_
    refine ux_Bk (j := 82) rfl rfl ?_
    refine mo_out u 5 ?_
    refine ux_BN 1 rfl ?_
    refine ux_Bsel 1 2 rfl rfl ?_
    refine ux_BN 1 rfl ?_
    refine ux_Bv rfl rfl rfl hm.1 rfl (by decide) rfl rfl ?_
    have h7' : oB v 8 = 0 := Decidable.not_not.mp h7
    refine mo_fails hm (if oB u 5 = 0 then 0 else 1) 1 ite01 fun E4 m4 => ?_
    refine ux_BN 1 rfl ?_
    refine ux_Bif (fun h27 => ?_) (fun h27 => ?_)
    · rw [if_pos h27] at m4
      obtain ⟨n, hn, rfl⟩ := oB_at (n := 8) rfl (by decide) h7'
      obtain ⟨k, hk, rfl⟩ := oB_at (n := 5) rfl (by decide) (ite0 h27)
      refine ux_BN 6 rfl ?_
      have hloop := fun hK => mo_look_loop (sc := sc) (d := d + 1) (K := K) (x := x) (z := z) m4 n hn (nI k) true hK 3 0 rfl
      rw [show nI (3 * n + 0) = Int32.ofInt 3 * nI n from by rw [show (Int32.ofInt 3) = nI 3 from rfl, pk_mul]; rfl] at hloop
      refine hloop ?_
      have hk2 := hK2 n k hn hk rfl rfl E4 true m4
      have hk5 : k = 0 ∨ k = 1 ∨ k = 2 ∨ k = 3 ∨ k = 4 := by omega
      rcases hk5 with rfl | rfl | rfl | rfl | rfl
      · refine ux_BN 3 rfl ?_
        refine ux_Bget rfl rfl m4.1 rfl ?_
        refine ux_BN 1 rfl ?_
        refine mr_ild m4 221 n rfl (by decide) hn rfl ?_
        exact ux_Bri rfl (Or.inl rfl) hk2
      · refine ux_BN 3 rfl ?_
        refine ux_Bget rfl rfl m4.1 rfl ?_
        refine ux_BN 1 rfl ?_
        refine mr_ild m4 222 n rfl (by decide) hn rfl ?_
        exact ux_Bri rfl (Or.inl rfl) hk2
      · refine ux_BN 3 rfl ?_
        refine ux_Bget rfl rfl m4.1 rfl ?_
        refine ux_BN 1 rfl ?_
        refine mr_ild m4 223 n rfl (by decide) hn rfl ?_
        exact ux_Bri rfl (Or.inl rfl) hk2
      · refine ux_BN 3 rfl ?_
        exact ux_Bri rfl (Or.inl rfl) hk2
      · refine ux_BN 3 rfl ?_
        refine ux_Bget rfl rfl m4.1 rfl ?_
        refine ux_BN 1 rfl ?_
        refine mr_ild m4 227 n rfl (by decide) hn rfl ?_
        exact ux_Bri rfl (Or.inl rfl) hk2
    · rw [if_neg h27] at m4
      refine ux_BN 1 rfl ?_
      exact ux_Bri rfl (Or.inl rfl) (hK1 (Or.inr (oB_n0 (ite1 h27))) _ _ m4)
def reck (w a b : Int32) : Int32 := if w = 2 then a + b else if w = 3 then a - b else if w = 4 then a * b else if w = 5 then (if a < b then 1 else 0) else (if a = b then 1 else 0)
theorem mo_reckon (k : Nat) (hk : 2 ≤ k ∧ k ≤ 6) (a b : Int32) (hK : K (.inr (some (.int (reck (nI k) a b)))) E x z false) : ux_Bm uxP sc d 115 [.int (nI k), .int a, .int b] E x z K := by
  have hk5 : k = 2 ∨ k = 3 ∨ k = 4 ∨ k = 5 ∨ k = 6 := by omega
  rcases hk5 with rfl | rfl | rfl | rfl | rfl
  · show ux_B uxP sc d 115 0 [.int (nI 2), .int a, .int b] [] E x z false K
    refine ux_BN 5 rfl ?_
    exact ux_Bri rfl (Or.inl rfl) hK
  · show ux_B uxP sc d 115 0 [.int (nI 3), .int a, .int b] [] E x z false K
    refine ux_BN 5 rfl ?_
    exact ux_Bri rfl (Or.inl rfl) hK
  · show ux_B uxP sc d 115 0 [.int (nI 4), .int a, .int b] [] E x z false K
    refine ux_BN 5 rfl ?_
    exact ux_Bri rfl (Or.inl rfl) hK
  · show ux_B uxP sc d 115 0 [.int (nI 5), .int a, .int b] [] E x z false K
    refine ux_BN 5 rfl ?_
    refine ux_Bif (fun h1 => ?_) (fun h1 => ?_)
    · refine ux_BN 1 rfl ?_
      refine ux_Bri rfl (Or.inl rfl) ?_
      rw [show reck (nI 5) a b = (if a < b then 1 else 0) from rfl, if_neg (k2_nlt h1)] at hK
      exact hK
    · refine ux_BN 2 rfl ?_
      refine ux_Bri rfl (Or.inl rfl) ?_
      rw [show reck (nI 5) a b = (if a < b then 1 else 0) from rfl, if_pos (k2_lt h1)] at hK
      exact hK
  · show ux_B uxP sc d 115 0 [.int (nI 6), .int a, .int b] [] E x z false K
    refine ux_BN 5 rfl ?_
    refine ux_Bif (fun h1 => ?_) (fun h1 => ?_)
    · refine ux_BN 1 rfl ?_
      refine ux_Bri rfl (Or.inl rfl) ?_
      rw [show reck (nI 6) a b = (if a = b then 1 else 0) from rfl, if_neg h1] at hK
      exact hK
    · refine ux_BN 2 rfl ?_
      refine ux_Bri rfl (Or.inl rfl) ?_
      rw [show reck (nI 6) a b = (if a = b then 1 else 0) from rfl, if_pos (Decidable.not_not.mp h1)] at hK
      exact hK
theorem mo_functionAt (hm : md E0 g A E) (a : Int32) (f : Nat) (hf : f < 8) (ha : (A 227).getD f 0 = a) (hl : ∀ j, j < f → ¬ (A 227).getD j 0 = a) (hK : K (.inr (some (.int (nI f)))) E x z false) : ux_Bm uxP sc d 116 [.ref 210, .int a] E x z K := by
  show ux_B uxP sc d 116 0 [.ref 210, .int a, .null] [] E x z false K
  refine ux_BN 2 rfl ?_
  have hloop : ∀ k n, n + k = f → ux_B uxP sc d 116 2 [.ref 210, .int a, .int (nI n)] [] E x z false K := by
    intro k
    induction k with
    | zero =>
      intro n hn
      have : n = f := by omega
      subst this
      refine ux_BN 1 rfl ?_
      refine ux_Bget rfl rfl hm.1 rfl ?_
      refine ux_BN 1 rfl ?_
      refine mr_ild hm 227 n rfl (by decide) hf rfl ?_
      refine ux_BN 2 rfl ?_
      refine ux_Bif (fun h1 => ?_) (fun h1 => ?_)
      · refine ux_BN 1 rfl ?_
        exact ux_Bri rfl (Or.inl rfl) hK
      · exact absurd ha h1
    | succ k ih =>
      intro n hn
      refine ux_BN 1 rfl ?_
      refine ux_Bget rfl rfl hm.1 rfl ?_
      refine ux_BN 1 rfl ?_
      refine mr_ild hm 227 n rfl (by decide) (show n < 8 by omega) rfl ?_
      refine ux_BN 2 rfl ?_
      refine ux_Bif (fun h1 => ?_) (fun h1 => ?_)
      · exact absurd h1 (hl n (by omega))
      · refine ux_BN 2 rfl ?_
        have := ih (n + 1) (by omega)
        rw [← show nI n + Int32.ofInt 1 = nI (n + 1) from nI_1 n] at this
        exact this
  exact hloop f 0 (by omega)
end MO3
