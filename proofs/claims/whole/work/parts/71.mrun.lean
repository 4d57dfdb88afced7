/-! The reference's run. -/
theorem ux_Bl {P : ux_P} {sc : List Int32} {d i pc : Nat} {ls st : List Value} {E : ux_Ev} {x z : Nat} {w : Bool} {K : ux_K1} (ls' : List Value) (he : ls = ls') (kk : ux_B P sc d i pc ls' st E x z w K) : ux_B P sc d i pc ls st E x z w K := by rw [he]; exact kk
section MRn
variable {sc : List Int32} {d : Nat} {E0 E : ux_Ev} {g : Nat → Int32} {A : Nat → List Int32} {x z : Nat} {w : Bool} {K : ux_K1} {W AD PR : List Int32} {L : Nat} {n F pc fu k : Nat} {S B R : List Int32} {y0 : Int32}
theorem mr_pre (hm : md E0 g A E) (hW : A 226 = W) (hL : L ≤ 300) (hpc : pc + 1 < L) (hF : F ≠ 0) (hF12 : F ≤ 12) (hk : k < fu) (hfu : fu ≤ 1000) (h32 : g 32 = nI k) (v1 v2 v3 v4 v5 v10 v11 : Value)
    (hK : ∀ E' w' (y : Int32), md E0 (fU g 32 (nI (k + 1))) A E' → (¬ (2 ≤ W.getD pc 0 ∧ W.getD pc 0 ≤ 6) → y = W.getD (pc + 1) 0) → ux_B uxP sc (d + 1) 114 192 [.ref 210, v1, v2, v3, v4, v5, .int (nI fu), .int (nI n), .int (nI F), .int (nI (if 2 ≤ W.getD pc 0 ∧ W.getD pc 0 ≤ 6 then pc + 1 else pc + 2)), .int (W.getD pc 0), .int y] [] E' x z w' K) : ux_B uxP sc (d + 1) 114 123 [.ref 210, v1, v2, v3, v4, v5, .int (nI fu), .int (nI n), .int (nI F), .int (nI pc), v10, v11] [] E x z w K := by
  refine ux_BN 2 rfl ?_
  refine ux_Bno (nI_nle (n := F) (by omega) (by omega)) ?_
  refine ux_BN 1 rfl ?_
  refine ux_Bget rfl rfl hm.1 rfl ?_
  refine ux_Btop (nI k) h32 ?_
  refine ux_BN 2 rfl ?_
  refine ux_Byes (nI_neq (by omega) (by omega) (by omega)) ?_
  refine ux_BN 2 rfl ?_
  refine ux_Bget rfl rfl hm.1 rfl ?_
  refine ux_Btop (nI k) h32 ?_
  refine ux_BN 2 rfl ?_
  refine ux_Btop (nI (k + 1)) (nI_1 k) ?_
  refine mr_put hm rfl rfl rfl (by decide) rfl fun E1 m1 => ?_
  refine ux_BN 1 rfl ?_
  refine ux_Bget rfl rfl m1.1 rfl ?_
  refine ux_BN 1 rfl ?_
  refine mr_ild m1 226 pc rfl (by decide) (show pc < 300 by omega) rfl ?_
  rw [hW]
  refine ux_BN 2 rfl ?_
  refine ux_Bk (j := 109) rfl rfl ?_
  refine mo_wordsOf _ ?_
  by_cases ho : 2 ≤ W.getD pc 0 ∧ W.getD pc 0 ≤ 6
  · rw [if_pos ho]
    rw [if_pos ho] at hK
    refine ux_BN 2 rfl ?_
    refine ux_Byes (by decide) ?_
    refine ux_BN 4 rfl ?_
    refine ux_Bk (j := 109) rfl rfl ?_
    refine mo_wordsOf _ ?_
    rw [if_pos ho]
    refine ux_BN 1 rfl ?_
    refine ux_Btop (nI (pc + 1)) (nI_1 pc) ?_
    refine ux_BN 1 rfl ?_
    exact hK _ _ 0 m1 (fun h => absurd ho h)
  · rw [if_neg ho]
    rw [if_neg ho] at hK
    refine ux_BN 2 rfl ?_
    refine ux_Bno (by decide) ?_
    refine ux_BN 1 rfl ?_
    refine ux_Bget rfl rfl m1.1 rfl ?_
    refine ux_BN 3 rfl ?_
    refine mr_ild m1 226 (pc + 1) rfl (by decide) (show pc + 1 < 300 by omega) (nI_1 pc) ?_
    rw [hW]
    refine ux_BN 4 rfl ?_
    refine ux_Bk (j := 109) rfl rfl ?_
    refine mo_wordsOf _ ?_
    rw [if_neg ho]
    refine ux_BN 1 rfl ?_
    refine ux_Btop (nI (pc + 2)) (nI_add pc 2) ?_
    refine ux_BN 1 rfl ?_
    exact hK _ _ _ m1 (fun _ => rfl)
/-- the reference's stack, bases and returns -/
def mW (A : Nat → List Int32) (A0 : Nat → List Int32) (y0 : Int32) (S B R : List Int32) : Prop := A 235 = S ++ [y0] ∧ A 237 = B ∧ A 236 = R ∧ ∀ a, a < 235 ∨ 237 < a → A a = A0 a
theorem mW.s {A A0 : Nat → List Int32} (h : mW A A0 y0 S B R) {i : Nat} (hi : i < S.length) (v : Int32) : mW (fU A 235 ((A 235).set i v)) A0 y0 (S.set i v) B R := by
  obtain ⟨h1, h2, h3, h4⟩ := h
  refine ⟨by rw [fU_at, h1, List.set_append_left _ _ hi], by rw [fU_ne _ _ (by decide)]; exact h2, by rw [fU_ne _ _ (by decide)]; exact h3, fun a ha => by rw [fU_ne _ _ (by omega)]; exact h4 a ha⟩
theorem mW.b {A A0 : Nat → List Int32} (h : mW A A0 y0 S B R) (i : Nat) (v : Int32) : mW (fU A 237 ((A 237).set i v)) A0 y0 S (B.set i v) R := by
  obtain ⟨h1, h2, h3, h4⟩ := h
  refine ⟨by rw [fU_ne _ _ (by decide)]; exact h1, by rw [fU_at, h2], by rw [fU_ne _ _ (by decide)]; exact h3, fun a ha => by rw [fU_ne _ _ (by omega)]; exact h4 a ha⟩
theorem mW.r {A A0 : Nat → List Int32} (h : mW A A0 y0 S B R) (i : Nat) (v : Int32) : mW (fU A 236 ((A 236).set i v)) A0 y0 S B (R.set i v) := by
  obtain ⟨h1, h2, h3, h4⟩ := h
  refine ⟨by rw [fU_ne _ _ (by decide)]; exact h1, by rw [fU_ne _ _ (by decide)]; exact h2, by rw [fU_at, h3], fun a ha => by rw [fU_ne _ _ (by omega)]; exact h4 a ha⟩
theorem mW.at {A A0 : Nat → List Int32} (h : mW A A0 y0 S B R) {i : Nat} (hi : i < S.length) : (A 235).getD i 0 = S.getD i 0 := by rw [h.1]; exact getD_app hi
/-- one step -/
theorem mo_step {A0 : Nat → List Int32} (hm : md E0 g A E) (hA : mW A A0 y0 S B R) (hW : A0 226 = W) (hAD : A0 227 = AD) (hPQ : ∀ f, f < 8 → ¬ AD.getD f 0 = -1 → (A0 228).getD f 0 = PR.getD f 0) (hL : L ≤ 300) (hF : F ≠ 0) (hF12 : F ≤ 12) (hk : k < fu) (hfu : fu ≤ 1000) (h32 : g 32 = nI k) {o : Int32} {s' : rT} (hc : rC W AD PR L (n, F, pc, S, B, R) o s') (v1 v2 v3 v4 v5 v10 v11 : Value)
    (hK1 : o = -1 → s'.2.1 ≠ 0 → s'.2.1 ≤ 12 → ∀ E' w' A' v10 v11, md E0 (fU g 32 (nI (k + 1))) A' E' → mW A' A0 y0 s'.2.2.2.1 s'.2.2.2.2.1 s'.2.2.2.2.2 → ux_B uxP sc (d + 1) 114 123 [.ref 210, v1, v2, v3, v4, v5, .int (nI fu), .int (nI s'.1), .int (nI s'.2.1), .int (nI s'.2.2.1), v10, v11] [] E' x z w' K)
    (hK2 : ¬ o = -1 → ¬ o = 0 → ∀ E' w' A', md E0 (fU g 32 (nI (k + 1))) A' E' → mW A' A0 y0 s'.2.2.2.1 s'.2.2.2.2.1 s'.2.2.2.2.2 → K (.inr (some (.int o))) E' x z w')
    (hK3 : o = 0 → ∀ E' w' A' v7 v9 v10 v11, md E0 (fU g 32 (nI (k + 1))) A' E' → mW A' A0 y0 s'.2.2.2.1 s'.2.2.2.2.1 s'.2.2.2.2.2 → ux_B uxP sc (d + 1) 114 123 [.ref 210, v1, v2, v3, v4, v5, .int (nI fu), v7, .int (nI 0), v9, v10, v11] [] E' x z w' K) : ux_B uxP sc (d + 1) 114 123 [.ref 210, v1, v2, v3, v4, v5, .int (nI fu), .int (nI n), .int (nI F), .int (nI pc), v10, v11] [] E x z w K := by
  obtain ⟨⟨c1, c2, c3, c4, c5⟩, hc⟩ := hc
  refine mr_pre hm (show A 226 = W by rw [hA.2.2.2 226 (by decide)]; exact hW) hL c1 hF hF12 hk hfu h32 v1 v2 v3 v4 v5 v10 v11 fun E1 w1 y m1 hy => ?_
  have l235 : md_sz 235 = 41 := rfl
  rcases hc with ⟨hw, hc⟩ | ⟨hw, b, kk, F0, rfl, _, hb, hkk, hbk, hc⟩ | ⟨kk, hkk, hw, hn, rfl, rfl⟩ | ⟨hw, hn, rfl, dd, hd, hdl, rfl⟩ | ⟨hw, rfl, dd, hd, hdl, rfl⟩ | ⟨hw, _, a, q, p, ha, haL, ⟨hq, hq2, hq3⟩, hp, hpn, hc⟩ | ⟨hw, b, F0, pc', rfl, _, hb, hbn, ho, ⟨hp1, hp2⟩, rfl⟩
  · rw [hw] at hy ⊢
    rw [if_neg (by decide)]
    refine ux_BN 3 rfl ?_
    refine ux_Bno (by decide) ?_
    refine ux_BN 3 rfl ?_
    rcases hc with ⟨h40, rfl, rfl⟩ | ⟨h40, rfl, rfl⟩
    · subst h40
      refine ux_Bno (by decide) ?_
      refine ux_BN 1 rfl ?_
      exact ux_Bri rfl (Or.inl rfl) (hK2 (by decide) (by decide) _ _ _ m1 hA)
    · refine ux_Byes (nI_neq (b := 40) (by omega) (by omega) (by decide)) ?_
      refine ux_BN 1 rfl ?_
      refine ux_Bget rfl rfl m1.1 rfl ?_
      refine ux_BN 3 rfl ?_
      refine ux_Bno (by decide) ?_
      refine ux_BN 2 rfl ?_
      refine mr_ist m1 235 n rfl (by decide) (show n < 41 by omega) rfl fun E2 m2 => ?_
      refine ux_BN 3 rfl ?_
      refine ux_Bl _ (congrArg (fun q => [Value.ref 210, v1, v2, v3, v4, v5, .int (nI fu), .int q, .int (nI F), .int (nI (pc + 2)), .int 0, .int y]) (nI_1 n)) ?_
      refine hK1 rfl hF hF12 _ _ _ _ _ m2 ?_
      rw [hy (by decide)]
      exact hA.s (by omega) _
  · rw [hw] at hy ⊢
    rw [if_neg (by decide)]
    rw [hkk] at hy
    refine ux_BN 3 rfl ?_
    refine ux_Bno (by decide) ?_
    refine ux_BN 3 rfl ?_
    rcases hc with ⟨h40, rfl, rfl⟩ | ⟨h40, rfl, rfl⟩
    · subst h40
      refine ux_Bno (by decide) ?_
      refine ux_BN 1 rfl ?_
      exact ux_Bri rfl (Or.inl rfl) (hK2 (by decide) (by decide) _ _ _ m1 hA)
    · refine ux_Byes (nI_neq (b := 40) (by omega) (by omega) (by decide)) ?_
      refine ux_BN 1 rfl ?_
      refine ux_Bget rfl rfl m1.1 rfl ?_
      refine ux_BN 3 rfl ?_
      refine ux_Byes (by decide) ?_
      refine ux_BN 1 rfl ?_
      refine ux_Bget rfl rfl m1.1 rfl ?_
      refine ux_BN 1 rfl ?_
      refine ux_Bget rfl rfl m1.1 rfl ?_
      refine ux_BN 3 rfl ?_
      refine mr_ild m1 237 F0 rfl (by decide) (show F0 < 12 by omega) (nI_pred F0) ?_
      rw [hA.2.1, hb]
      refine ux_BN 2 rfl ?_
      refine mr_ild m1 235 (b + kk) rfl (by decide) (show b + kk < 41 by omega) (show nI b + y = _ by rw [hy (by decide)]; exact nI_add b kk) ?_
      rw [hA.at (by omega)]
      refine mr_ist m1 235 n rfl (by decide) (show n < 41 by omega) rfl fun E2 m2 => ?_
      refine ux_BN 3 rfl ?_
      refine ux_Bl _ (congrArg (fun q => [Value.ref 210, v1, v2, v3, v4, v5, .int (nI fu), .int q, .int (nI (F0 + 1)), .int (nI (pc + 2)), .int 1, .int y]) (nI_1 n)) ?_
      exact hK1 rfl hF hF12 _ _ _ _ _ m2 (hA.s (by omega) _)
  · obtain ⟨n, rfl⟩ : ∃ m, n = m + 2 := ⟨n - 2, by omega⟩
    have hop : (2 : Int32) ≤ nI kk ∧ nI kk ≤ 6 := ⟨nI_le (a := 2) (by omega) (by omega), nI_le (b := 6) (by omega) (by decide)⟩
    rw [hw]
    rw [if_pos hop]
    refine ux_BN 3 rfl ?_
    refine ux_Byes hop.1 ?_
    refine ux_BN 3 rfl ?_
    refine ux_Bno (nI_ge (b := 7) (by omega) (by decide)) ?_
    refine ux_BN 2 rfl ?_
    refine ux_Bl _ (congrArg (fun q => [Value.ref 210, v1, v2, v3, v4, v5, .int (nI fu), .int q, .int (nI F), .int (nI (pc + 1)), .int (nI kk), .int y]) (pk_m1 (n + 1))) ?_
    refine ux_Bget rfl rfl m1.1 rfl ?_
    refine ux_BN 5 rfl ?_
    refine ux_Bget rfl rfl m1.1 rfl ?_
    refine ux_BN 3 rfl ?_
    refine mr_ild m1 235 n rfl (by decide) (show n < 41 by omega) (nI_pred n) ?_
    rw [hA.at (by omega)]
    refine ux_BN 1 rfl ?_
    refine ux_Bget rfl rfl m1.1 rfl ?_
    refine ux_BN 1 rfl ?_
    refine mr_ild m1 235 (n + 1) rfl (by decide) (show n + 1 < 41 by omega) rfl ?_
    rw [hA.at (by omega)]
    refine ux_Bk (j := 115) rfl rfl ?_
    refine mo_reckon kk hkk _ _ ?_
    refine mr_ist m1 235 n rfl (by decide) (show n < 41 by omega) (nI_pred n) fun E2 m2 => ?_
    refine ux_BN 2 rfl ?_
    exact hK1 rfl hF hF12 _ _ _ _ _ m2 (hA.s (by omega) _)
  · obtain ⟨n, rfl⟩ : ∃ m, n = m + 1 := ⟨n - 1, by omega⟩
    rw [hw] at hy ⊢
    rw [if_neg (by decide)]
    rw [hd] at hy
    refine ux_BN 3 rfl ?_
    refine ux_Byes (by decide) ?_
    refine ux_BN 3 rfl ?_
    refine ux_Byes (by decide) ?_
    refine ux_BN 3 rfl ?_
    refine ux_Bno (by decide) ?_
    refine ux_BN 3 rfl ?_
    refine ux_Bl _ (congrArg (fun q => [Value.ref 210, v1, v2, v3, v4, v5, .int (nI fu), .int q, .int (nI F), .int (nI (pc + 2)), .int 7, .int y]) (pk_m1 n)) ?_
    refine ux_Bget rfl rfl m1.1 rfl ?_
    refine ux_BN 1 rfl ?_
    refine mr_ild m1 235 n rfl (by decide) (show n < 41 by omega) rfl ?_
    rw [hA.at (by omega)]
    refine ux_BN 1 rfl ?_
    refine ux_Bne (fun (h0 : S.getD n 0 = 0) => ?_) (fun (h0 : ¬ S.getD n 0 = 0) => ?_)
    · refine ux_BN 3 rfl ?_
      refine ux_Btop (nI (pc + 2 + dd)) (show nI (pc + 2) + y = _ by rw [hy (by decide)]; exact nI_add (pc + 2) dd) ?_
      refine ux_BN 3 rfl ?_
      have := hK1 rfl hF hF12 _ w1 _ (.int 7) (.int y) m1 hA
      rw [show (n + 1 - 1, F, (if S.getD (n + 1 - 1) 0 = 0 then pc + 2 + dd else pc + 2), S, B, R).2.2.1 = pc + 2 + dd from if_pos h0] at this
      exact this
    · refine ux_BN 2 rfl ?_
      refine ux_Btop (nI (pc + 2)) (Int32.add_zero _) ?_
      refine ux_BN 3 rfl ?_
      have := hK1 rfl hF hF12 _ w1 _ (.int 7) (.int y) m1 hA
      rw [show (n + 1 - 1, F, (if S.getD (n + 1 - 1) 0 = 0 then pc + 2 + dd else pc + 2), S, B, R).2.2.1 = pc + 2 from if_neg h0] at this
      exact this
  · rw [hw] at hy ⊢
    rw [if_neg (by decide)]
    rw [hd] at hy
    refine ux_BN 3 rfl ?_
    refine ux_Byes (by decide) ?_
    refine ux_BN 3 rfl ?_
    refine ux_Byes (by decide) ?_
    refine ux_BN 3 rfl ?_
    refine ux_Byes (by decide) ?_
    refine ux_BN 3 rfl ?_
    refine ux_Bno (by decide) ?_
    refine ux_BN 3 rfl ?_
    refine ux_Btop (nI (pc + 2 + dd)) (show nI (pc + 2) + y = _ by rw [hy (by decide)]; exact nI_add (pc + 2) dd) ?_
    refine ux_BN 3 rfl ?_
    exact hK1 rfl hF hF12 _ _ _ _ _ m1 hA
  · rw [hw] at hy ⊢
    rw [if_neg (by decide)]
    rw [ha] at hy
    have hy := hy (by decide)
    subst hy
    refine ux_BN 3 rfl ?_
    refine ux_Byes (by decide) ?_
    refine ux_BN 3 rfl ?_
    refine ux_Byes (by decide) ?_
    refine ux_BN 3 rfl ?_
    refine ux_Byes (by decide) ?_
    refine ux_BN 3 rfl ?_
    refine ux_Byes (by decide) ?_
    refine ux_BN 3 rfl ?_
    refine ux_Bno (by decide) ?_
    refine ux_BN 3 rfl ?_
    rcases hc with ⟨h12, rfl, rfl⟩ | ⟨h12, rfl, rfl⟩
    · subst h12
      refine ux_Bno (by decide) ?_
      refine ux_BN 1 rfl ?_
      exact ux_Bri rfl (Or.inl rfl) (hK2 (by decide) (by decide) _ _ _ m1 hA)
    · refine ux_Byes (nI_neq (b := 12) (by omega) (by omega) (by decide)) ?_
      refine ux_BN 1 rfl ?_
      refine ux_Bget rfl rfl m1.1 rfl ?_
      refine ux_BN 2 rfl ?_
      refine mr_ist m1 236 F rfl (by decide) (show F < 12 by omega) rfl fun E2 m2 => ?_
      have hA2 := hA.r F (nI (pc + 2))
      refine ux_BN 1 rfl ?_
      refine ux_Bget rfl rfl m2.1 rfl ?_
      refine ux_BN 3 rfl ?_
      refine ux_Bget rfl rfl m2.1 rfl ?_
      refine ux_BN 2 rfl ?_
      refine ux_Bv rfl rfl rfl m2.1 rfl (by decide) rfl rfl ?_
      have e227 : fU A 236 ((A 236).set F (nI (pc + 2))) 227 = AD := by rw [hA2.2.2.2 227 (by decide)]; exact hAD
      refine mo_functionAt m2 (nI a) q hq (by rw [e227]; exact hq2) (fun j hj => by rw [e227]; exact hq3 j hj) ?_
      refine mr_ild m2 228 q rfl (by decide) (show q < 8 from hq) rfl ?_
      have hne : ¬ AD.getD q 0 = -1 := by
        rw [hq2]
        intro e
        have := nI_pos (show a < 2 ^ 31 by omega)
        rw [e] at this
        exact this (by decide)
      rw [hA2.2.2.2 228 (by decide), hPQ q hq hne, hp]
      refine ux_BN 1 rfl ?_
      refine ux_Btop (nI (n - p)) (pk_sub hpn) ?_
      refine mr_ist m2 237 F rfl (by decide) (show F < 12 by omega) rfl fun E3 m3 => ?_
      refine ux_BN 5 rfl ?_
      refine ux_Bl _ (congrArg (fun q => [Value.ref 210, v1, v2, v3, v4, v5, .int (nI fu), .int (nI n), .int q, .int (nI a), .int 9, .int (nI a)]) (nI_1 F)) ?_
      exact hK1 rfl (Nat.succ_ne_zero _) h12 _ _ _ _ _ m3 (hA2.b F _)
  · obtain ⟨n, rfl⟩ : ∃ m, n = m + 1 := ⟨n - 1, by omega⟩
    rw [hw]
    rw [if_neg (by decide)]
    refine ux_BN 3 rfl ?_
    refine ux_Byes (by decide) ?_
    refine ux_BN 3 rfl ?_
    refine ux_Byes (by decide) ?_
    refine ux_BN 3 rfl ?_
    refine ux_Byes (by decide) ?_
    refine ux_BN 3 rfl ?_
    refine ux_Byes (by decide) ?_
    refine ux_BN 3 rfl ?_
    refine ux_Byes (by decide) ?_
    refine ux_BN 2 rfl ?_
    refine ux_Bl _ (congrArg (fun q => [Value.ref 210, v1, v2, v3, v4, v5, .int (nI fu), .int (nI (n + 1)), .int q, .int (nI (pc + 2)), .int 10, .int y]) (pk_m1 F0)) ?_
    refine ux_Bget rfl rfl m1.1 rfl ?_
    refine ux_BN 1 rfl ?_
    refine ux_Bget rfl rfl m1.1 rfl ?_
    refine ux_BN 1 rfl ?_
    refine mr_ild m1 237 F0 rfl (by decide) (show F0 < 12 by omega) rfl ?_
    rw [hA.2.1, hb]
    refine ux_BN 1 rfl ?_
    refine ux_Bget rfl rfl m1.1 rfl ?_
    refine ux_BN 3 rfl ?_
    refine mr_ild m1 235 n rfl (by decide) (show n < 41 by omega) (nI_pred n) ?_
    rw [hA.at (by omega)]
    refine mr_ist m1 235 b rfl (by decide) (show b < 41 by omega) rfl fun E2 m2 => ?_
    have hA2 := hA.s (show b < S.length by omega) (S.getD n 0)
    refine ux_BN 1 rfl ?_
    refine ux_Bget rfl rfl m2.1 rfl ?_
    refine ux_BN 1 rfl ?_
    refine mr_ild m2 237 F0 rfl (by decide) (show F0 < 12 by omega) rfl ?_
    rw [hA2.2.1, hb]
    refine ux_BN 2 rfl ?_
    refine ux_Btop (nI (b + 1)) (nI_1 b) ?_
    refine ux_BN 2 rfl ?_
    refine ux_Bget rfl rfl m2.1 rfl ?_
    refine ux_BN 1 rfl ?_
    refine mr_ild m2 236 F0 rfl (by decide) (show F0 < 12 by omega) rfl ?_
    rw [hA2.2.2.1, hp2]
    refine ux_BN 2 rfl ?_
    rcases ho with ⟨rfl, rfl⟩ | ⟨hF0, rfl⟩
    · exact hK3 rfl _ _ _ _ _ _ _ m2 hA2
    · exact hK1 rfl hF0 (show F0 ≤ 12 by omega) _ _ _ _ _ m2 hA2
end MRn
