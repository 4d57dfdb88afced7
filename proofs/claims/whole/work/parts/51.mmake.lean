/-! The reference's make. -/
def mA1 (A : Nat → List Int32) (f : Nat) : Nat → List Int32 := fU (fU (fU (fU A 221 ((A 221).set f 0)) 222 ((A 222).set f (-1))) 223 ((A 223).set f 0)) 224 ((A 224).set f (-1))
section MM
variable {sc : List Int32} {d : Nat} {E0 E : ux_Ev} {g : Nat → Int32} {A : Nat → List Int32} {x z : Nat} {w : Bool} {K : ux_K1} {f L : Nat} {tk : Nat → Int32} {own : Int32} {sg : Nat → Int32}
theorem mS_congr {A A2 : Nat → List Int32} (h : mS A f L tk own sg) (he : ∀ a, 211 ≤ a → a ≤ 214 → A2 a = A a) : mS A2 f L tk own sg := by
  unfold mS at h ⊢
  rw [he 211 (by decide) (by decide), he 212 (by decide) (by decide), he 213 (by decide) (by decide), he 214 (by decide) (by decide)]
  exact h
/-- the last rows of make: the stamp, the unit's use, the choice -/
theorem mm_end {u : Nat} (hm : md E0 g A E) (hf : f < 8) (hu : u < 24) (hK : ∀ E' w', md E0 (fU g 11 (g 11 + 1)) (fU (fU A 215 ((A 215).set u (g 11 + 1))) 224 ((A 224).set f (nI u))) E' → K (.inr none) E' x z w') : ux_B uxP sc d 89 130 [.ref 210, .int (nI f), .int (nI u)] [] E x z w K := by
  refine ux_BN 2 rfl ?_
  refine ux_Bget rfl rfl hm.1 rfl ?_
  refine ux_BN 2 rfl ?_
  refine ux_Btop (g 11 + 1) rfl ?_
  refine mr_put hm rfl rfl rfl (by decide) rfl fun E1 m1 => ?_
  refine ux_BN 1 rfl ?_
  refine ux_Bget rfl rfl m1.1 rfl ?_
  refine ux_BN 2 rfl ?_
  refine ux_Bget rfl rfl m1.1 rfl ?_
  refine ux_Btop (g 11 + 1) rfl ?_
  refine mr_ist m1 215 u rfl (by decide) hu rfl fun E2 m2 => ?_
  refine ux_BN 1 rfl ?_
  refine ux_Bget rfl rfl m2.1 rfl ?_
  refine ux_BN 2 rfl ?_
  refine mr_ist m2 224 f rfl (by decide) hf rfl fun E3 m3 => ?_
  exact ux_Br rfl (hK _ _ m3)
theorem mo_make (hm : md E0 g A E) (hs : mS A f L tk own sg) (hown : ¬ (A 211).getD f 0 = 0 → ∃ j, j < 64 ∧ own = nI j)
    (hA : (A 211).getD f 0 = 0 → ∀ E' w', md E0 g (mA1 A f) E' → K (.inr none) E' x z w')
    (hB : ¬ (A 211).getD f 0 = 0 → ∀ o, o < 3 → mFit A (3 * f + o) f L → ∀ E' w', md E0 (fU g 11 (g 11 + 1)) (fU (fU (fU (fU (mA1 A f) 223 ((mA1 A f 223).set f 1)) 225 ((A 225).set 0 ((A 225).getD 0 0 + 1))) 215 ((A 215).set (3 * f + o) (g 11 + 1))) 224 ((mA1 A f 224).set f (nI (3 * f + o)))) E' → K (.inr none) E' x z w')
    (hC : ¬ (A 211).getD f 0 = 0 → (∀ o, o < 3 → ¬ mFit A (3 * f + o) f L) → ∀ k pl, cAll tk L own sg = .inl (k, pl) → ∀ E' w' g' A', md E0 g' A' E' → (∀ j, j ≠ 26 → j ≠ 28 → j ≠ 29 → j ≠ 30 → g' j = g j) → (∀ a, a < 229 ∨ 234 < a → A' a = (fU (fU (fU (fU (fU (mA1 A f) 223 ((mA1 A f 223).set f 2)) 225 ((A 225).set 1 ((A 225).getD 1 0 + 1))) 221 ((mA1 A f 221).set f k)) 222 ((mA1 A f 222).set f pl)) 225 (((A 225).set 1 ((A 225).getD 1 0 + 1)).set 2 (((A 225).set 1 ((A 225).getD 1 0 + 1)).getD 2 0 + 1))) a) → K (.inr none) E' x z w')
    (hD : ¬ (A 211).getD f 0 = 0 → (∀ o, o < 3 → ¬ mFit A (3 * f + o) f L) → ∀ t q c, cAll tk L own sg = .inr (t, q, c) → ∀ o, o < 3 → (∀ j, j < 3 → (A 215).getD (3 * f + o) 0 ≤ (A 215).getD (3 * f + j) 0) → ∀ E' w' g' A' A2 A3, md E0 (fU g' 11 (g' 11 + 1)) A' E' → (∀ j, j ≠ 26 → j ≠ 28 → j ≠ 29 → j ≠ 30 → g' j = g j) → (∀ a, a < 229 ∨ 234 < a → A2 a = (fU (fU (fU (fU (mA1 A f) 223 ((mA1 A f 223).set f 2)) 225 ((A 225).set 1 ((A 225).getD 1 0 + 1))) 221 ((mA1 A f 221).set f 0)) 222 ((mA1 A f 222).set f (-1))) a) → (∀ k, k < c.length → (A2 234).getD k 0 = c.getD k 0) → mKept A2 A3 (3 * f + o) f L c.length → A' = fU (fU A3 215 ((A3 215).set (3 * f + o) (g' 11 + 1))) 224 ((A3 224).set f (nI (3 * f + o))) → K (.inr none) E' x z w') : ux_Bm uxP sc (d + 3) 89 [.ref 210, .int (nI f)] E x z K := by
  show ux_B uxP sc (d + 3) 89 0 [.ref 210, .int (nI f), .null] [] E x z false K
  have hs' := hs
  obtain ⟨hf, hL, h213, htk, how, hsg⟩ := hs
  refine ux_BN 1 rfl ?_
  refine ux_Bget rfl rfl hm.1 rfl ?_
  refine ux_BN 2 rfl ?_
  refine mr_ist hm 221 f rfl (by decide) hf rfl fun E1 m1 => ?_
  refine ux_BN 1 rfl ?_
  refine ux_Bget rfl rfl m1.1 rfl ?_
  refine ux_BN 2 rfl ?_
  refine mr_ist m1 222 f rfl (by decide) hf rfl fun E2 m2 => ?_
  refine ux_BN 1 rfl ?_
  refine ux_Bget rfl rfl m2.1 rfl ?_
  refine ux_BN 2 rfl ?_
  refine mr_ist m2 223 f rfl (by decide) hf rfl fun E3 m3 => ?_
  refine ux_BN 1 rfl ?_
  refine ux_Bget rfl rfl m3.1 rfl ?_
  refine ux_BN 2 rfl ?_
  refine mr_ist m3 224 f rfl (by decide) hf rfl fun E4 m4 => ?_
  have m4 : md E0 g (mA1 A f) E4 := m4
  refine ux_BN 1 rfl ?_
  refine ux_Bget rfl rfl m4.1 rfl ?_
  refine ux_BN 1 rfl ?_
  refine mr_zld m4 f rfl hf rfl ?_
  refine ux_BN 1 rfl ?_
  refine ux_Bne (fun h0 => ?_) (fun h0 => ?_)
  · exact ux_Br rfl (hA h0 _ _ m4)
  · have h0 : ¬ (A 211).getD f 0 = 0 := h0
    refine ux_BN 2 rfl ?_
    refine ux_Bv rfl rfl rfl m4.1 rfl (by decide) rfl rfl ?_
    refine mo_fitting m4 f L hf hL h213 (fun o ho hfit => ?_) (fun hno => ?_)
    · refine ux_BN 2 rfl ?_
      refine ux_Bget rfl rfl m4.1 rfl ?_
      refine ux_BN 3 rfl ?_
      refine ux_Bsel 1 2 rfl rfl ?_
      refine ux_Btop 1 (if_neg (nI_pos (by omega))) ?_
      refine mr_ist m4 223 f rfl (by decide) hf rfl fun E5 m5 => ?_
      refine ux_BN 1 rfl ?_
      refine ux_Bget rfl rfl m5.1 rfl ?_
      refine ux_BN 2 rfl ?_
      refine ux_Bsel 1 2 rfl rfl ?_
      refine ux_Btop (nI 0) (if_neg (nI_pos (by omega))) ?_
      refine ux_BN 1 rfl ?_
      refine mr_ild m5 225 0 rfl (by decide) (by decide) rfl ?_
      refine ux_BN 2 rfl ?_
      refine ux_Btop ((A 225).getD 0 0 + 1) rfl ?_
      refine mr_ist m5 225 0 rfl (by decide) (by decide) rfl fun E6 m6 => ?_
      refine ux_BN 2 rfl ?_
      refine ux_Byes (nI_pos' (by omega)) ?_
      exact mm_end m6 hf (by omega) fun E7 w7 m7 => hB h0 o ho hfit E7 w7 m7
    · refine ux_BN 2 rfl ?_
      refine ux_Bget rfl rfl m4.1 rfl ?_
      refine ux_BN 3 rfl ?_
      refine ux_Bsel 1 2 rfl rfl ?_
      refine ux_Btop 2 rfl ?_
      refine mr_ist m4 223 f rfl (by decide) hf rfl fun E5 m5 => ?_
      refine ux_BN 1 rfl ?_
      refine ux_Bget rfl rfl m5.1 rfl ?_
      refine ux_BN 2 rfl ?_
      refine ux_Bsel 1 2 rfl rfl ?_
      refine ux_Btop (nI 1) rfl ?_
      refine ux_BN 1 rfl ?_
      refine mr_ild m5 225 1 rfl (by decide) (by decide) rfl ?_
      refine ux_BN 2 rfl ?_
      refine ux_Btop ((A 225).getD 1 0 + 1) rfl ?_
      refine mr_ist m5 225 1 rfl (by decide) (by decide) rfl fun E6 m6 => ?_
      refine ux_BN 2 rfl ?_
      refine ux_Bno (by decide) ?_
      refine ux_BN 2 rfl ?_
      refine ux_Bv rfl rfl rfl m6.1 rfl (by decide) rfl rfl ?_
      refine mo_compile (tk := tk) (own := own) (sg := sg) m6 (mS_congr hs' fun a h1 h2 => by rw [fU_ne _ _ (by omega), fU_ne _ _ (by omega)]; unfold mA1; rw [fU_ne _ _ (by omega), fU_ne _ _ (by omega), fU_ne _ _ (by omega), fU_ne _ _ (by omega)]) (hown h0) (fun t q c hr E7 w7 dd R m7 => ?_) (fun k pl hr E7 w7 dd c R m7 => ?_)
      · obtain ⟨g', A7, hm7, hg7, hA7, h26, h28, h29, h30, ⟨tl, h234⟩, hR⟩ := m7
        have hlen := hm7.len 234 (by decide)
        rw [h234, List.length_append] at hlen
        have hlen : c.length + tl.length = 80 := hlen
        refine ux_BN 1 rfl ?_
        refine ux_Bget rfl rfl hm7.1 rfl ?_
        refine ux_BN 2 rfl ?_
        refine ux_Bget rfl rfl hm7.1 rfl ?_
        refine ux_Btop 0 h29 ?_
        refine mr_ist hm7 221 f rfl (by decide) hf rfl fun E8 m8 => ?_
        refine ux_BN 1 rfl ?_
        refine ux_Bget rfl rfl m8.1 rfl ?_
        refine ux_BN 2 rfl ?_
        refine ux_Bget rfl rfl m8.1 rfl ?_
        refine ux_Btop (-1) h30 ?_
        refine mr_ist m8 222 f rfl (by decide) hf rfl fun E9 m9 => ?_
        refine ux_BN 1 rfl ?_
        refine ux_Bget rfl rfl m9.1 rfl ?_
        refine ux_Btop 0 h29 ?_
        refine ux_BN 1 rfl ?_
        refine ux_Byes (by decide) ?_
        refine ux_BN 2 rfl ?_
        refine ux_Bv rfl rfl rfl m9.1 rfl (by decide) rfl rfl ?_
        refine mo_keep m9 hf hL (show (A7 213).getD f 0 = nI L from by rw [hA7 213 (by decide)]; exact h213) (show c.length ≤ 80 by omega) h28 fun o ho hmin E10 A10 w10 m10 hkept => ?_
        refine ux_BN 1 rfl ?_
        refine mm_end m10 hf (by omega) fun E11 w11 m11 => hD h0 hno t q c hr o ho (fun j hj => ?_) E11 w11 g' _ _ A10 m11 (fun j a b e f => hg7 j a b e f) (fun a ha => ?_) (fun k hk => ?_) hkept rfl
        · have := hmin j hj
          rw [show (fU (fU A7 221 ((A7 221).set f 0)) 222 ((fU A7 221 ((A7 221).set f 0) 222).set f (-1))) 215 = A7 215 from rfl, hA7 215 (by decide)] at this
          exact this
        · by_cases h222 : a = 222
          · subst h222
            rw [fU_at, fU_at, fU_ne _ _ (by decide), hA7 222 (by decide)]; rfl
          · rw [fU_ne _ _ h222, fU_ne _ _ h222]
            by_cases h221 : a = 221
            · subst h221
              rw [fU_at, fU_at, hA7 221 (by decide)]; rfl
            · rw [fU_ne _ _ h221, fU_ne _ _ h221, hA7 a ha]; rfl
        · rw [show (fU (fU A7 221 ((A7 221).set f 0)) 222 ((fU A7 221 ((A7 221).set f 0) 222).set f (-1))) 234 = A7 234 from rfl, h234, getD_app hk]
      · obtain ⟨g', A7, hm7, hg7, hA7, h26, h28, h29, h30, ht, hR⟩ := m7
        refine ux_BN 1 rfl ?_
        refine ux_Bget rfl rfl hm7.1 rfl ?_
        refine ux_BN 2 rfl ?_
        refine ux_Bget rfl rfl hm7.1 rfl ?_
        refine ux_Btop k h29 ?_
        refine mr_ist hm7 221 f rfl (by decide) hf rfl fun E8 m8 => ?_
        refine ux_BN 1 rfl ?_
        refine ux_Bget rfl rfl m8.1 rfl ?_
        refine ux_BN 2 rfl ?_
        refine ux_Bget rfl rfl m8.1 rfl ?_
        refine ux_Btop pl h30 ?_
        refine mr_ist m8 222 f rfl (by decide) hf rfl fun E9 m9 => ?_
        refine ux_BN 1 rfl ?_
        refine ux_Bget rfl rfl m9.1 rfl ?_
        refine ux_Btop k h29 ?_
        refine ux_BN 1 rfl ?_
        refine ux_Bno (cAll_k hr) ?_
        refine ux_BN 1 rfl ?_
        refine ux_Bget rfl rfl m9.1 rfl ?_
        refine ux_BN 2 rfl ?_
        refine mr_ild m9 225 2 rfl (by decide) (by decide) rfl ?_
        refine ux_BN 2 rfl ?_
        have h225 : A7 225 = (A 225).set 1 ((A 225).getD 1 0 + 1) := hA7 225 (by decide)
        refine ux_Btop (((A 225).set 1 ((A 225).getD 1 0 + 1)).getD 2 0 + 1) (by rw [← h225]; rfl) ?_
        refine mr_ist m9 225 2 rfl (by decide) (by decide) rfl fun E10 m10 => ?_
        refine ux_Br rfl (hC h0 hno k pl hr E10 _ g' _ m10 hg7 (fun a ha => ?_))
        by_cases h5 : a = 225
        · subst h5
          rw [fU_at, fU_at, fU_ne _ _ (by decide), fU_ne _ _ (by decide), h225]
        · rw [fU_ne _ _ h5, fU_ne _ _ h5]
          by_cases h222 : a = 222
          · subst h222
            rw [fU_at, fU_at, fU_ne _ _ (by decide), hA7 222 (by decide)]; rfl
          · rw [fU_ne _ _ h222, fU_ne _ _ h222]
            by_cases h221 : a = 221
            · subst h221
              rw [fU_at, fU_at, hA7 221 (by decide)]; rfl
            · rw [fU_ne _ _ h221, fU_ne _ _ h221, hA7 a ha]; rfl
end MM
