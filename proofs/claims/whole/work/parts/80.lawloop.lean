/-! The law's loop. -/
theorem len_lt {len i : Nat} (h1 : len ≤ 3072) (h2 : i ≤ 4000) : (nI len - 6 < nI i) ↔ len < i + 6 := by
  rw [Int32.lt_iff_toInt_lt, show nI len - 6 = nI len - nI 6 from rfl, pk_sub_toInt (by omega) (by decide), nI_toInt (by omega)]
  omega
section LWL
variable {sc : List Int32} {K : ux_K1}
set_option maxRecDepth 100000 in
theorem lw_loop (hs : sc.length ≤ 3072) : ∀ m i N x z E w v5 v6, RL N E → sc.length < i + 6 * (m + 1) → i ≤ 3072 → N + 8 * m ≤ 40000 → (∀ e E' w' N', e ≤ m → RL N' E' → K (.inr (some (.int 1))) E' (x + e) (z + 6 * e) w') → ux_B uxP sc 110 0 23 [.ref 0, .ref 1, .ref 210, .ref 238, .int (nI i), v5, v6] [] E x z w K := by
  intro m
  have hexit : ∀ i N x z E w v5 v6, RL N E → sc.length < i + 6 → i ≤ 3072 → K (.inr (some (.int 1))) E x z w → ux_B uxP sc 110 0 23 [.ref 0, .ref 1, .ref 210, .ref 238, .int (nI i), v5, v6] [] E x z w K := by
    intro i N x z E w v5 v6 hR hl hi hK
    refine ux_BN 2 rfl ?_
    refine ux_Bslen rfl ?_
    refine ux_BN 3 rfl ?_
    refine ux_Byes ((len_lt hs (by omega)).mpr hl) ?_
    refine ux_BN 1 rfl ?_
    exact ux_Bri rfl (Or.inr ⟨rfl, Or.inr rfl⟩) hK
  induction m with
  | zero =>
    intro i N x z E w v5 v6 hR hl hi hN hK
    exact hexit i N x z E w v5 v6 hR (by omega) hi (hK 0 E w N (by omega) hR)
  | succ m ih =>
    intro i N x z E w v5 v6 hR hl hi hN hK
    by_cases hlt : sc.length < i + 6
    · exact hexit i N x z E w v5 v6 hR hlt hi (hK 0 E w N (by omega) hR)
    · have h5 : i + 5 < sc.length := by omega
      have hnx : lwK sc i N x z K := by
        intro e he E' w' u5 u6 hR'
        refine ux_BN 2 rfl ?_
        refine ux_Bl _ (congrArg (fun y => [Value.ref 0, .ref 1, .ref 210, .ref 238, .int y, u5, u6]) (nI_add i 6)) ?_
        refine ih (i + 6) (N + 8) (x + e) (z + 6 * e) E' w' u5 u6 hR' (by omega) (by omega) (by omega) (fun e2 E2 w2 N2 he2 hR2 => ?_)
        have := hK (e + e2) E2 w2 N2 (by omega) hR2
        rw [show x + e + e2 = x + (e + e2) by omega, show z + 6 * e + 6 * e2 = z + 6 * (e + e2) by omega]
        exact this
      refine ux_BN 2 rfl ?_
      refine ux_Bslen rfl ?_
      refine ux_BN 3 rfl ?_
      refine ux_Bno (fun h => hlt ((len_lt hs (by omega)).mp h)) ?_
      refine ux_BN 2 rfl ?_
      refine ux_BsldN i rfl rfl (by omega) (by omega) rfl ?_
      refine ux_BN 2 rfl ?_
      obtain ⟨j, hj, e⟩ := pk_andE (sc.getD i 0) (m := 15) 4 rfl
      refine ux_Btop (nI j) e ?_
      have hdef : ∀ E w, RL N E → ux_B uxP sc 110 0 759 [.ref 0, .ref 1, .ref 210, .ref 238, .int (nI i), v5, v6] [] E x z w K := by
        intro E w hR
        have hR8 : RL (N + 8) E := by
          obtain ⟨sl, tx, us, fk, fp, dn, ct, W, AD, PR, L, rs, sp, n, F, pc, S, B, R, g, A, y0, st, q, hc, hI, hn, hp, hm, hR, hst, ht, ho⟩ := hR
          exact ⟨sl, tx, us, fk, fp, dn, ct, W, AD, PR, L, rs, sp, n, F, pc, S, B, R, g, A, y0, st, q, hc, hI, hn, hp, hm, hR, by omega, ht, ho⟩
        exact hnx 0 (by omega) E w v5 v6 hR8
      have hj16 : j = 0 ∨ j = 1 ∨ j = 2 ∨ j = 3 ∨ j = 4 ∨ j = 5 ∨ j = 6 ∨ j = 7 ∨ j = 8 ∨ j = 9 ∨ j = 10 ∨ j = 11 ∨ j = 12 ∨ j = 13 ∨ j = 14 ∨ j = 15 := by omega
      clear e
      rcases hj16 with rfl | rfl | rfl | rfl | rfl | rfl | rfl | rfl | rfl | rfl | rfl | rfl | rfl | rfl | rfl | rfl
      · exact ux_BN 1 rfl (lw_sign hR h5 hs hnx v5 v6)
      · exact ux_BN 1 rfl (lw_drop hR h5 hs hnx v5 v6)
      · exact ux_BN 1 rfl (lw_token hR h5 hs hnx v5 v6)
      · exact ux_BN 1 rfl (lw_edit hR h5 hs hnx v5 v6)
      · exact ux_BN 1 rfl (lw_wipe hR h5 hs hnx v5 v6)
      · exact ux_BN 1 rfl (lw_build hR (by omega) hnx v5 v6)
      · exact ux_BN 1 rfl (lw_count hR h5 hs hnx v5 v6)
      · exact ux_BN 1 rfl (lw_look hR h5 hs (by omega) hnx v5 v6)
      · exact ux_BN 1 rfl (lw_size hR hnx v5 v6)
      · exact ux_BN 1 rfl (lw_word hR h5 hs hnx v5 v6)
      · exact ux_BN 1 rfl (lw_run hR h5 hs hnx v5 v6)
      · exact ux_BN 1 rfl (lw_value hR hnx v5 v6)
      · exact ux_BN 1 rfl (lw_used hR hnx v5 v6)
      · exact ux_BN 1 rfl (hdef E w hR)
      · exact ux_BN 1 rfl (hdef E w hR)
      · exact ux_BN 1 rfl (hdef E w hR)
end LWL
