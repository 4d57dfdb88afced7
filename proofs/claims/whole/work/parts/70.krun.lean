/-! The class's run. -/
def fuC (v : Int32) : Nat := if v < 0 then 0 else if 1000 < v then 1000 else v.toNatClampNeg
theorem fuC_le (v : Int32) : fuC v ≤ 1000 := by
  unfold fuC
  split
  · omega
  · split
    · exact Nat.le_refl _
    · rename_i h1 h2
      rcases pk_ix v (n := 1001) (by decide) with h3 | h3 | ⟨j, hj, rfl⟩
      · exact absurd h3 h1
      · exact absurd (Int32.lt_of_lt_of_le (by decide) h3) h2
      · rw [nI_clamp (by omega)]; omega
theorem fuC_max (v : Int32) : (if 0 < (if 1000 < v then 1000 else v) then (if 1000 < v then 1000 else v) else 0) = nI (fuC v) := by
  unfold fuC
  by_cases h1 : v < 0
  · have h2 : ¬ 1000 < v := fun h => absurd (Int32.lt_trans h h1) (by decide)
    rw [if_pos h1, if_neg h2, if_neg (fun h => Int32.lt_irrefl (Int32.lt_trans h h1))]; rfl
  · rw [if_neg h1]
    by_cases h2 : 1000 < v
    · rw [if_pos h2, if_pos h2, if_pos (by decide)]; rfl
    · rw [if_neg h2, if_neg h2]
      obtain ⟨j, hj, rfl⟩ := nI_of h1
      rw [nI_clamp hj]
      by_cases h3 : j = 0
      · subst h3; rfl
      · exact if_pos (nI_lt (a := 0) (by omega) hj)
theorem fuC_ref (v : Int32) : (if v < 0 then 0 else if 1000 < v then 1000 else v) = nI (fuC v) := by
  unfold fuC
  by_cases h1 : v < 0
  · rw [if_pos h1, if_pos h1]; rfl
  · rw [if_neg h1, if_neg h1]
    by_cases h2 : 1000 < v
    · rw [if_pos h2, if_pos h2]; rfl
    · rw [if_neg h2, if_neg h2]
      obtain ⟨j, hj, rfl⟩ := nI_of h1
      rw [nI_clamp hj]
section KRn
variable {sc : List Int32} {d : Nat} {E : ux_Ev} {sl fk fp dn ct : List Int32} {tx : Nat → List Int32} {us : Nat → List sU} {W AD PR : List Int32} {L : Nat} {rs sp : Int32} {n F pc : Nat} {S B R : List Int32} {x z : Nat} {w : Bool} {K : ux_K1}
theorem set0 {R : List Int32} (h : R.getD 0 0 = 0) : R.set 0 0 = R := by
  cases R with
  | nil => rfl
  | cons y r =>
    have : y = 0 := h
    rw [this]; rfl
theorem ko_begin2 (hi : iS E W AD PR L) (hAD : AD.length = 8) (hPR : PR.length = 8) (h : nS E rs sp (n, F, pc, S, B, R)) (hS : S.length = 40) (hB : B.length = 12) (hR : R.length = 12) (R0 : R.getD 0 0 = 0) {f ad p : Nat} (hf : f < 8) (ha : AD.getD f 0 = nI ad) (hp : PR.getD f 0 = nI p) (a b c : Int32)
    (hK : ∀ E' w', nS E' rs sp (p, 1, ad, ((S.set 0 a).set 1 b).set 2 c, B.set 0 0, R) → nF E E' → K (.inr none) E' x z w') : ux_Bm uxP sc (d + 1) 68 [.ref 14, .ref 10, .int (nI f), .int a, .int b, .int c] E x z K := by
  show ux_B uxP sc (d + 1) 68 0 [.ref 14, .ref 10, .int (nI f), .int a, .int b, .int c, .null] [] E x z false K
  refine ux_BN 1 rfl ?_
  refine ux_Bget rfl rfl hi.1 rfl ?_
  refine ux_BN 1 rfl ?_
  refine ux_BildN f rfl hi.2.2.2 rfl (by omega) (by omega) ?_
  rw [hp]
  refine ux_BN 2 rfl ?_
  refine ux_Bget rfl rfl h.1 rfl ?_
  refine ux_BN 2 rfl ?_
  refine ux_BistN 0 rfl h.2.1 rfl (by decide) (by show 0 < S.length; omega) ?_
  have h1 := h.f15 (S.set 0 a)
  refine ux_BN 1 rfl ?_
  refine ux_Bget rfl rfl h1.1 rfl ?_
  refine ux_BN 2 rfl ?_
  refine ux_BistN 1 rfl h1.2.1 rfl (by decide) (by show 1 < (S.set 0 a).length; rw [List.length_set]; omega) ?_
  have h2 := h1.f15 ((S.set 0 a).set 1 b)
  refine ux_BN 1 rfl ?_
  refine ux_Bget rfl rfl h2.1 rfl ?_
  refine ux_BN 2 rfl ?_
  refine ux_BistN 2 rfl h2.2.1 rfl (by decide) (by show 2 < ((S.set 0 a).set 1 b).length; rw [List.length_set, List.length_set]; omega) ?_
  have h3 := h2.f15 (((S.set 0 a).set 1 b).set 2 c)
  refine ux_BN 2 rfl ?_
  refine ux_Bput rfl rfl rfl h3.1 rfl (Nat.le_of_ble_eq_true rfl) ?_
  have h4 := h3.f14 rs sp p F pc
  refine ux_BN 2 rfl ?_
  refine ux_Bput rfl rfl rfl h4.1 rfl (Nat.le_of_ble_eq_true rfl) ?_
  have h5 := h4.f14 rs sp p 0 pc
  have f5 := ((((nF_up (E := E) (a := 15) (c := (100, S.set 0 a, [])) (by decide)).tr (nF_up (a := 15) (c := (100, (S.set 0 a).set 1 b, [])) (by decide))).tr (nF_up (a := 15) (c := (100, ((S.set 0 a).set 1 b).set 2 c, [])) (by decide))).tr (nF_up (a := 14) (c := (3, [], [.int rs, .int sp, .ref 15, .ref 16, .ref 17, .int (nI p), .int (nI F), .int (nI pc)])) (by decide))).tr (nF_up (a := 14) (c := (3, [], [.int rs, .int sp, .ref 15, .ref 16, .ref 17, .int (nI p), .int (nI 0), .int (nI pc)])) (by decide))
  have hi5 := hi.fr fun b b1 b2 => f5 b (by omega)
  refine ux_BN 2 rfl ?_
  refine ux_Bget rfl rfl hi5.1 rfl ?_
  refine ux_BN 1 rfl ?_
  refine ux_BildN f rfl hi5.2.2.1 rfl (by omega) (by omega) ?_
  rw [ha]
  refine ux_BN 2 rfl ?_
  refine ux_Bv rfl rfl rfl h5.1 rfl (by decide) rfl rfl ?_
  refine ko_open (p := p) (r := 0) h5 hB hR (by omega) (Nat.le_refl _) (fun e => by omega) fun _ E6 w6 h6 f6 => ?_
  refine ux_BN 1 rfl ?_
  rw [Nat.sub_self, show nI 0 = 0 from nI_0, set0 R0] at h6
  exact ux_Br rfl (hK _ _ h6 (f5.tr f6))
theorem ko_run (h : cS E sl tx us fk fp dn ct) (hi : iS E W AD PR L) (hI : iOk W AD PR L) (hn : nS E rs sp (n, F, pc, S, B, R)) (hS : S.length = 40) (hB : B.length = 12) (hR : R.length = 12) (R0 : R.getD 0 0 = 0) (v a b c fu : Int32)
    (hK1 : (v < 0 ∨ 8 ≤ v) ∨ (∃ f, f < 8 ∧ v = nI f ∧ AD.getD f 0 = -1) → K (.inl 2) E (x + 1) (z + 6) true)
    (hK2 : ∀ f, f < 8 → v = nI f → ¬ AD.getD f 0 = -1 → ∃ p ad o sp' s', p ≤ 3 ∧ PR.getD f 0 = nI p ∧ AD.getD f 0 = nI ad ∧ ad < 300 ∧ rN W AD PR L (fuC fu) 0 (p, 1, ad, ((S.set 0 a).set 1 b).set 2 c, B.set 0 0, R) o sp' s' ∧ s'.2.2.2.1.length = 40 ∧ s'.2.2.2.2.1.length = 12 ∧ s'.2.2.2.2.2.length = 12 ∧ s'.2.2.2.2.2.getD 0 0 = 0 ∧ ∀ E' w' n F pc, nS E' (if o = 0 then s'.2.2.2.1.getD 0 0 else 0) (nI sp') (n, F, pc, s'.2.2.2.1, s'.2.2.2.2.1, s'.2.2.2.2.2) → nF E E' → K (.inr (some (.int o))) E' x z w') : ux_Bm uxP sc (d + 4) 67 [.ref 1, .int v, .int a, .int b, .int c, .int fu] E x z K := by
  show ux_B uxP sc (d + 4) 67 0 [.ref 1, .int v, .int a, .int b, .int c, .int fu] [] E x z false K
  refine ux_BN 1 rfl ?_
  refine ux_Bk (j := 42) rfl rfl ?_
  refine ko_isFn v (fun f hf he => ?_) (fun he => ?_)
  · refine ux_BN 1 rfl ?_
    refine ux_Bno (by decide) ?_
    refine ux_BN 1 rfl ?_
    refine ux_Bget rfl rfl h.1 rfl ?_
    refine ux_Bget rfl rfl hi.1 rfl ?_
    refine ux_BN 1 rfl ?_
    refine ux_BildN f rfl hi.2.2.1 he (by omega) (by rw [hI.2.1]; exact hf) ?_
    refine ux_BN 2 rfl ?_
    refine ux_Bne (fun (ha : AD.getD f 0 = -1) => ?_) (fun (ha : ¬ AD.getD f 0 = -1) => ?_)
    · exact ux_Bt rfl ⟨_, rfl⟩ (hK1 (Or.inr ⟨f, hf, he, ha⟩))
    · obtain ⟨p, ad, o, sp', s', k1, k2, k3, k4, k5, k6, k7, k8, k9, k10⟩ := hK2 f hf he ha
      refine ux_BN 1 rfl ?_
      refine ux_Bget rfl rfl h.1 rfl ?_
      refine ux_BN 1 rfl ?_
      refine ux_Bget rfl rfl h.1 rfl ?_
      refine ux_BN 4 rfl ?_
      rw [he]
      refine ux_Bv rfl rfl rfl hn.1 rfl (by decide) rfl rfl ?_
      refine ko_begin2 hi hI.2.1 hI.2.2.1 hn hS hB hR R0 hf k3 k2 a b c fun E1 w1 h1 f1 => ?_
      have hE1 : E1 1 = some (0, [], [.ref 2, .ref 3, .ref 4, .ref 5, .ref 6, .ref 7, .ref 8, .ref 9, .ref 10, .ref 14]) := by rw [f1 1 (by omega)]; exact h.1
      refine ux_BN 1 rfl ?_
      refine ux_Bget rfl rfl hE1 rfl ?_
      refine ux_BN 1 rfl ?_
      refine ux_Bget rfl rfl hE1 rfl ?_
      refine ux_BN 3 rfl ?_
      refine ux_Bmin rfl rfl rfl ?_
      refine ux_Bmax rfl rfl rfl ?_
      refine ux_Btop (nI (fuC fu)) (fuC_max fu) ?_
      refine ux_Bv rfl rfl rfl h1.1 rfl (by decide) rfl rfl ?_
      refine ko_work (hi.fr fun b b1 b2 => f1 b (by omega)) hI.2.2.2.1 hI.1 hI.2.1 hI.2.2.1 (fuC_le fu) h1 k6 k5 fun E2 w2 n2 F2 pc2 h2 f2 => ?_
      exact ux_Bri rfl (Or.inl rfl) (k10 _ _ _ _ _ h2 (f1.tr f2))
  · refine ux_BN 1 rfl ?_
    refine ux_Byes rfl ?_
    exact ux_Bt rfl ⟨_, rfl⟩ (hK1 (Or.inl he))
/-- such a run there is -/
theorem run_ex (hI : iOk W AD PR L) (hS : S.length = 40) (hB : B.length = 12) (hR : R.length = 12) (R0 : R.getD 0 0 = 0) {f : Nat} (hf : f < 8) (ha : ¬ AD.getD f 0 = -1) (fu : Nat) : ∃ p ad o sp' s', p ≤ 3 ∧ PR.getD f 0 = nI p ∧ AD.getD f 0 = nI ad ∧ ad < 300 ∧ rN W AD PR L fu 0 (p, 1, ad, S, B.set 0 0, R) o sp' s' ∧ s'.2.2.2.1.length = 40 ∧ s'.2.2.2.2.1.length = 12 ∧ s'.2.2.2.2.2.length = 12 ∧ s'.2.2.2.2.2.getD 0 0 = 0 := by
  obtain ⟨_, _, _, hL, a, D, m, p, hG⟩ := hI
  have hb := iv_begin (S := S) (B := B) (R := R) hG hf ha hS hB hR R0
  obtain ⟨o, sp', s', h1, h2, h3, h4, h5⟩ := rN_ex hL hG fu 0 _ hb
  obtain ⟨⟨q1, q2, q3⟩, q4, _⟩ := hG f hf ha
  exact ⟨p f, a f, o, sp', s', by omega, q2, q1, by omega, h1, h2, h3, h4, h5⟩
end KRn
