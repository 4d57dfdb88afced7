/-! The reference's compile of a whole text. -/
def cAll (tk : Nat → Int32) (L : Nat) (own : Int32) (sg : Nat → Int32) : cR := cBi (cPa (cx tk L own sg 31) (sRes own) 0) fun t q c => if q < L then .inl (6, nI q) else .inr (t, q, c ++ [10, sPar own])
theorem cAll_len {tk : Nat → Int32} {L : Nat} {own : Int32} {sg : Nat → Int32} {t : Int32} {q : Nat} {c : List Int32} (h : cAll tk L own sg = .inr (t, q, c)) (hL : L ≤ 30) : c.length ≤ 80 ∧ 3 ≤ c.length + 1 := by
  obtain ⟨t1, q1, c1, h1, h2⟩ := cBi_inr h
  obtain ⟨a1, a2, a3, a4⟩ := cx_good tk L own sg 31 _ _ _ _ (cPa_inr h1).1
  split at h2
  · cases h2
  · cases h2
    have := cz78 a4 (by omega)
    rw [List.length_append]
    exact ⟨by simp; omega, by simp⟩
section MG
variable {sc : List Int32} {d : Nat} {E0 E : ux_Ev} {g0 : Nat → Int32} {A0 : Nat → List Int32} {f L : Nat} {x z : Nat} {w : Bool} {K : ux_K1} {tk : Nat → Int32} {own : Int32} {sg : Nat → Int32} {c : List Int32} {R : Nat → List Int32} {v6 : Value}
theorem mc_77e {t fi a : Int32} (m : mq E0 g0 A0 0 0 (-1) c R E) (hf : f < 8) (ht : ¬ t = 2) (hc : c.length ≤ 78) (due : Int32) (hdue : (A0 212).getD f 0 >>> ((5 : Int32) &&& 31) = due) (hd2 : ¬ due = 2)
    (hok : due = t → ∀ w, ux_B uxP sc (d + 2) 92 172 [.ref 210, .int (nI f), .int a, .int 0, .int fi, .int t, .int due] [] E x z w K)
    (hbad : ¬ due = t → ∀ E' w' c', mq E0 g0 A0 0 5 fi c' R E' → K (.inr none) E' x z w') : ux_B uxP sc (d + 2) 92 77 [.ref 210, .int (nI f), .int a, .int 1, .int fi, .int t, v6] [] E x z w K := by
  refine ux_BN 3 rfl ?_
  refine ux_Bno ht ?_
  refine ux_BN 2 rfl ?_
  refine ux_Bno (by decide) ?_
  refine ux_BN 1 rfl ?_
  refine mq_Bfault m rfl rfl ?_
  refine ux_BN 1 rfl ?_
  refine ux_Bno (by decide) ?_
  refine ux_BN 2 rfl ?_
  refine mq_Bv m rfl rfl rfl rfl rfl ?_
  refine mw_0 m f hf ?_
  rw [hdue]
  refine ux_BN 4 rfl ?_
  refine ux_Bno hd2 ?_
  refine ux_BN 3 rfl ?_
  refine ux_Bif (fun h2 => ?_) (fun h2 => ?_)
  · refine ux_BN 1 rfl ?_
    refine mq_Bdepth m rfl rfl ?_
    refine ux_BN 1 rfl ?_
    refine ux_Bsel 1 2 rfl rfl ?_
    refine ux_Btop 0 rfl ?_
    refine ux_BN 3 rfl ?_
    refine ux_Byes rfl ?_
    refine ux_BN 4 rfl ?_
    refine ux_Bno ht ?_
    refine ux_BN 2 rfl ?_
    refine ux_Byes rfl ?_
    refine ux_BN 3 rfl ?_
    refine ux_Byes rfl ?_
    exact hok h2 _
  · refine ux_BN 3 rfl ?_
    refine mq_Bv m rfl rfl rfl rfl rfl ?_
    refine mq_wrong m 5 fi fun E1 w1 m1 => ?_
    refine ux_BN 1 rfl ?_
    refine mq_Bdepth m1 rfl rfl ?_
    refine ux_BN 1 rfl ?_
    refine ux_Bsel 1 2 rfl rfl ?_
    refine ux_Btop 0 rfl ?_
    refine ux_BN 3 rfl ?_
    refine ux_Byes rfl ?_
    refine ux_BN 1 rfl ?_
    exact mc_77X m1 hf (by decide) hc (hbad h2)
theorem mo_compile {g : Nat → Int32} (hm : md E0 g A0 E) (hs : mS A0 f L tk own sg) (hown : ∃ j, j < 64 ∧ own = nI j)
    (hS : ∀ t q c, cAll tk L own sg = .inr (t, q, c) → ∀ E' w' dd R', mq E0 g A0 dd 0 (-1) c R' E' → K (.inr none) E' x z w')
    (hF : ∀ k pl, cAll tk L own sg = .inl (k, pl) → ∀ E' w' dd c R', mq E0 g A0 dd k pl c R' E' → K (.inr none) E' x z w') : ux_Bm uxP sc (d + 2) 92 [.ref 210, .int (nI f)] E x z K := by
  have hs' := hs
  obtain ⟨hf, hL, h213, htk, how, hsg⟩ := hs
  obtain ⟨j, hj, hown⟩ := hown
  show ux_B uxP sc (d + 2) 92 0 [.ref 210, .int (nI f), .null, .null, .null, .null, .null] [] E x z false K
  refine ux_BN 2 rfl ?_
  refine mr_put hm rfl rfl rfl (by decide) rfl fun E1 m1 => ?_
  refine ux_BN 2 rfl ?_
  refine mr_put m1 rfl rfl rfl (by decide) rfl fun E2 m2 => ?_
  refine ux_BN 2 rfl ?_
  refine mr_put m2 rfl rfl rfl (by decide) rfl fun E3 m3 => ?_
  refine ux_BN 2 rfl ?_
  refine mr_put m3 rfl rfl rfl (by decide) rfl fun E4 m4 => ?_
  refine ux_BN 4 rfl ?_
  have m5 : mq E0 g A0 0 0 (-1) [] A0 E4 := by
    refine ⟨_, A0, m4, fun j a b e f => ?_, fun _ _ => rfl, rfl, rfl, rfl, rfl, ⟨A0 234, rfl⟩, fun _ _ _ => rfl⟩
    rw [fU_ne _ _ b, fU_ne _ _ a, fU_ne _ _ f, fU_ne _ _ e]
  have hg := cx_good tk L own sg 31
  refine mc_ex hs' 31 0 0 [] A0 E4 _ _ _ _ _ m5 (Nat.le_refl _) (Nat.le_refl _) (Nat.zero_le _) ⟨Nat.le_refl _, 0, Nat.zero_le _, Nat.le_refl _⟩ (fun t q c hr E' R' v6 w' m' hk => ?_) (fun k pl hr E' w' dd' c' R' m' => ?_)
  · obtain ⟨g1, g2, g3, g4⟩ := hg _ _ _ _ hr
    have hc := cz78 g4 (by omega)
    rw [List.nil_append] at m'
    refine mc_77e m' hf (t01 g3) hc (sRes own) (by rw [how, hown]; exact sRes_nI j hj) (t01 (bit01 _)) (fun hd w => ?_) (fun hd E2 w2 c2 m2 => ?_)
    · have hpa := cPa_ok hr hd.symm
      refine ux_BN 1 rfl ?_
      refine mq_Bfault m' rfl rfl ?_
      refine ux_BN 1 rfl ?_
      refine ux_Bno (by decide) ?_
      refine ux_BN 2 rfl ?_
      refine mq_Bref m' rfl rfl (fun _ => rfl) ?_
      refine ux_BN 1 rfl ?_
      refine mq_ildA m' 213 f rfl (by decide) hf rfl ?_
      rw [h213]
      refine ux_BN 1 rfl ?_
      have hend : ∀ fk fp w E5, mq E0 g A0 0 fk fp c R' E5 → (∀ E6 w6, mq E0 g A0 0 fk fp (c ++ [10, sPar own]) R' E6 → K (.inr none) E6 x z w6) → ux_B uxP sc (d + 2) 92 196 [.ref 210, .int (nI f), .int (nI q), .int 0, .int (nI 0), .int t, .int (sRes own)] [] E5 x z w K := by
        intro fk fp w E5 m5 hK
        refine ux_BN 2 rfl ?_
        refine mq_Bv m5 rfl rfl rfl rfl rfl ?_
        refine mq_emit m5 10 (by omega) fun E6 m6 => ?_
        refine ux_BN 3 rfl ?_
        refine mq_Bv m6 rfl rfl rfl rfl rfl ?_
        refine mq_parameters m6 f hf ?_
        refine mq_Bv m6 rfl rfl rfl rfl rfl ?_
        refine mq_emit m6 ((A0 212).getD f 0 &&& 3) (by simp; omega) fun E7 m7 => ?_
        refine ux_Br rfl (hK _ _ (mp_cast m7 ?_))
        rw [how]; simp; rfl
      refine ux_BleN L q rfl rfl (by omega) (by omega) (fun h => ?_) (fun h => ?_)
      · exact hend 0 (-1) _ _ m' fun E6 w6 m6 => hS t q _ (by unfold cAll; rw [cBi_of hpa, if_neg (by omega)]) _ _ _ _ m6
      · refine ux_BN 3 rfl ?_
        refine mq_Bv m' rfl rfl rfl rfl rfl ?_
        refine mq_wrong m' 6 (nI q) fun E5 w5 m5 => ?_
        exact hend 6 (nI q) _ _ m5 fun E6 w6 m6 => hF 6 (nI q) (by unfold cAll; rw [cBi_of hpa, if_pos h]) _ _ _ _ _ m6
    · exact hF 5 (nI 0) (by unfold cAll; rw [cBi_inl (cPa_bad hr (fun h => hd h.symm))]) _ _ _ _ _ m2
  · exact hF k pl (by unfold cAll; rw [cBi_inl (cPa_inl hr)]) _ _ _ _ _ m'
end MG
