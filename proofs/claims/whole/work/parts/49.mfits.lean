/-! The reference's units: fits, fitting, oldest, callsIn. -/
def mFit (A : Nat → List Int32) (u f L : Nat) : Prop := (¬ (A 215).getD u 0 ≤ 0 ∧ (A 216).getD u 0 = (A 213).getD f 0) ∧ (∀ k, k < L → (A 217).getD (30 * u + k) 0 = (A 214).getD (30 * f + k) 0) ∧ ∀ g, g < 8 → (A 218).getD (9 * u + g) 0 < 0 ∨ (¬ (A 211).getD g 0 = 0 ∧ (A 218).getD (9 * u + g) 0 = (A 212).getD g 0)
theorem nI_9 (f k : Nat) : (9 : Int32) * nI f + nI k = nI (9 * f + k) := by
  rw [show (9 : Int32) = nI 9 from rfl, pk_mul, nI_add]
theorem nI_80 (f k : Nat) : (80 : Int32) * nI f + nI k = nI (80 * f + k) := by
  rw [show (80 : Int32) = nI 80 from rfl, pk_mul, nI_add]
theorem nI_s (i : Nat) : nI i + Int32.ofInt 1 = nI (i + 1) := nI_1 i
section MF2
variable {sc : List Int32} {d : Nat} {E0 E : ux_Ev} {g : Nat → Int32} {A : Nat → List Int32} {x z : Nat} {w : Bool} {K : ux_K1}
theorem mo_fits (hm : md E0 g A E) (u f L : Nat) (hu : u < 24) (hf : f < 8) (hL : L ≤ 30) (hLA : (A 213).getD f 0 = nI L) (hK1 : mFit A u f L → K (.inr (some (.int 1))) E x z false) (hK0 : ¬ mFit A u f L → K (.inr (some (.int 0))) E x z false) : ux_Bm uxP sc d 91 [.ref 210, .int (nI u), .int (nI f)] E x z K := by
  show ux_B uxP sc d 91 0 [.ref 210, .int (nI u), .int (nI f), .null, .null, .null] [] E x z false K
  -- not, from the second loop's head
  have z90 : ¬ mFit A u f L → ∀ i v5, i ≤ 8 → ux_B uxP sc d 91 90 [.ref 210, .int (nI u), .int (nI f), .int 0, .int (nI i), v5] [] E x z false K := by
    intro hn i v5 hi
    refine ux_BN 3 rfl ?_
    refine ux_BleN 8 i rfl rfl (by decide) (by omega) (fun h => ?_) (fun h => ?_)
    · refine ux_BN 1 rfl ?_
      exact ux_Bri rfl (Or.inr ⟨rfl, Or.inl rfl⟩) (hK0 hn)
    · refine ux_BN 2 rfl ?_
      refine ux_Byes rfl ?_
      refine ux_BN 1 rfl ?_
      exact ux_Bri rfl (Or.inr ⟨rfl, Or.inl rfl⟩) (hK0 hn)
  have z33 : ¬ mFit A u f L → ∀ i v5, i ≤ 30 → ux_B uxP sc d 91 33 [.ref 210, .int (nI u), .int (nI f), .int 0, .int (nI i), v5] [] E x z false K := by
    intro hn i v5 hi
    refine ux_BN 2 rfl ?_
    refine ux_Bget rfl rfl hm.1 rfl ?_
    refine ux_BN 1 rfl ?_
    refine mr_ild hm 213 f rfl (by decide) hf rfl ?_
    rw [hLA]
    refine ux_BN 1 rfl ?_
    refine ux_BleN L i rfl rfl (by omega) (by omega) (fun h => ?_) (fun h => ?_)
    · refine ux_BN 2 rfl ?_
      exact z90 hn 0 v5 (by decide)
    · refine ux_BN 2 rfl ?_
      refine ux_Byes rfl ?_
      refine ux_BN 2 rfl ?_
      exact z90 hn 0 v5 (by decide)
  have l90 : (¬ (A 215).getD u 0 ≤ 0 ∧ (A 216).getD u 0 = (A 213).getD f 0) → (∀ k, k < L → (A 217).getD (30 * u + k) 0 = (A 214).getD (30 * f + k) 0) → ∀ n i v5, i + n = 8 → (∀ g, g < i → (A 218).getD (9 * u + g) 0 < 0 ∨ (¬ (A 211).getD g 0 = 0 ∧ (A 218).getD (9 * u + g) 0 = (A 212).getD g 0)) → ux_B uxP sc d 91 90 [.ref 210, .int (nI u), .int (nI f), .int 1, .int (nI i), v5] [] E x z false K := by
    intro p1 p2 n
    induction n with
    | zero =>
      intro i v5 hi p3
      refine ux_BN 3 rfl ?_
      refine ux_Byes (nI_le (show 8 ≤ i by omega) (by omega)) ?_
      refine ux_BN 1 rfl ?_
      exact ux_Bri rfl (Or.inr ⟨rfl, Or.inr rfl⟩) (hK1 ⟨p1, p2, fun g hg => p3 g (by omega)⟩)
    | succ n ih =>
      intro i v5 hi p3
      have hyes : ((A 218).getD (9 * u + i) 0 < 0 ∨ (¬ (A 211).getD i 0 = 0 ∧ (A 218).getD (9 * u + i) 0 = (A 212).getD i 0)) → ux_B uxP sc d 91 142 [.ref 210, .int (nI u), .int (nI f), .int 1, .int (nI i), .int ((A 218).getD (9 * u + i) 0)] [] E x z false K := by
        intro hg
        refine ux_BN 5 rfl ?_
        have := ih (i + 1) (.int ((A 218).getD (9 * u + i) 0)) (by omega) (fun g hg2 => by
          by_cases hgi : g = i
          · rw [hgi]; exact hg
          · exact p3 g (by omega))
        rw [← nI_s] at this
        exact this
      have hno : ¬ ((A 218).getD (9 * u + i) 0 < 0 ∨ (¬ (A 211).getD i 0 = 0 ∧ (A 218).getD (9 * u + i) 0 = (A 212).getD i 0)) → ux_B uxP sc d 91 146 [.ref 210, .int (nI u), .int (nI f), .int 1, .int (nI i), .int ((A 218).getD (9 * u + i) 0)] [] E x z false K := by
        intro hg
        refine ux_BN 4 rfl ?_
        have := z90 (fun hfit => hg (hfit.2.2 i (by omega))) (i + 1) (.int ((A 218).getD (9 * u + i) 0)) (by omega)
        rw [← nI_s] at this
        exact this
      refine ux_BN 3 rfl ?_
      refine ux_Bno (nI_ge (show i < 8 by omega) (by decide)) ?_
      refine ux_BN 2 rfl ?_
      refine ux_Bno (by decide) ?_
      refine ux_BN 1 rfl ?_
      refine ux_Bget rfl rfl hm.1 rfl ?_
      refine ux_BN 5 rfl ?_
      refine mr_ild hm 218 (9 * u + i) rfl (by decide) (show 9 * u + i < 216 by omega) (nI_9 u i) ?_
      refine ux_BN 3 rfl ?_
      refine ux_Bif (fun h1 => ?_) (fun h1 => ?_)
      · exact hyes (Or.inl h1)
      · refine ux_BN 1 rfl ?_
        refine ux_Bget rfl rfl hm.1 rfl ?_
        refine ux_BN 1 rfl ?_
        refine mr_zld hm i rfl (by omega) rfl ?_
        refine ux_BN 1 rfl ?_
        refine ux_Bif (fun h2 => ?_) (fun h2 => ?_)
        · exact hno (fun h => h.elim h1 (fun h => h.1 h2))
        · refine ux_BN 2 rfl ?_
          refine ux_Bget rfl rfl hm.1 rfl ?_
          refine ux_BN 1 rfl ?_
          refine mr_ild hm 212 i rfl (by decide) (show i < 8 by omega) rfl ?_
          refine ux_BN 1 rfl ?_
          refine ux_Bne (fun h3 => ?_) (fun h3 => ?_)
          · exact hyes (Or.inr ⟨h2, h3⟩)
          · exact hno (fun h => h.elim h1 (fun h => h3 h.2))
  have l33 : (¬ (A 215).getD u 0 ≤ 0 ∧ (A 216).getD u 0 = (A 213).getD f 0) → ∀ n i v5, i + n = L → (∀ k, k < i → (A 217).getD (30 * u + k) 0 = (A 214).getD (30 * f + k) 0) → ux_B uxP sc d 91 33 [.ref 210, .int (nI u), .int (nI f), .int 1, .int (nI i), v5] [] E x z false K := by
    intro p1 n
    induction n with
    | zero =>
      intro i v5 hi p2
      refine ux_BN 2 rfl ?_
      refine ux_Bget rfl rfl hm.1 rfl ?_
      refine ux_BN 1 rfl ?_
      refine mr_ild hm 213 f rfl (by decide) hf rfl ?_
      rw [hLA]
      refine ux_BN 1 rfl ?_
      refine ux_Byes (nI_le (show L ≤ i by omega) (by omega)) ?_
      refine ux_BN 2 rfl ?_
      exact l90 p1 (fun k hk => p2 k (by omega)) 8 0 v5 rfl (fun g hg => by omega)
    | succ n ih =>
      intro i v5 hi p2
      refine ux_BN 2 rfl ?_
      refine ux_Bget rfl rfl hm.1 rfl ?_
      refine ux_BN 1 rfl ?_
      refine mr_ild hm 213 f rfl (by decide) hf rfl ?_
      rw [hLA]
      refine ux_BN 1 rfl ?_
      refine ux_Bno (nI_ge (show i < L by omega) (by omega)) ?_
      refine ux_BN 2 rfl ?_
      refine ux_Bno (by decide) ?_
      refine ux_BN 1 rfl ?_
      refine ux_Bget rfl rfl hm.1 rfl ?_
      refine ux_BN 5 rfl ?_
      refine mr_ild hm 217 (30 * u + i) rfl (by decide) (show 30 * u + i < 720 by omega) (nI_30 u i) ?_
      refine ux_BN 1 rfl ?_
      refine ux_Bget rfl rfl hm.1 rfl ?_
      refine ux_BN 5 rfl ?_
      refine mr_ild hm 214 (30 * f + i) rfl (by decide) (show 30 * f + i < 240 by omega) (nI_30 f i) ?_
      refine ux_BN 1 rfl ?_
      refine ux_Bne (fun h1 => ?_) (fun h1 => ?_)
      · refine ux_BN 5 rfl ?_
        have := ih (i + 1) v5 (by omega) (fun k hk => by
          by_cases hki : k = i
          · rw [hki]; exact h1
          · exact p2 k (by omega))
        rw [← nI_s] at this
        exact this
      · refine ux_BN 4 rfl ?_
        have := z33 (fun hfit => h1 (hfit.2.1 i (by omega))) (i + 1) v5 (by omega)
        rw [← nI_s] at this
        exact this
  refine ux_BN 1 rfl ?_
  refine ux_Bget rfl rfl hm.1 rfl ?_
  refine ux_BN 1 rfl ?_
  refine mr_ild hm 215 u rfl (by decide) hu rfl ?_
  refine ux_BN 1 rfl ?_
  refine ux_Bif (fun h1 => ?_) (fun h1 => ?_)
  · refine ux_BN 4 rfl ?_
    exact z33 (fun hfit => hfit.1.1 h1) 0 _ (by decide)
  · refine ux_BN 1 rfl ?_
    refine ux_Bget rfl rfl hm.1 rfl ?_
    refine ux_BN 1 rfl ?_
    refine mr_ild hm 216 u rfl (by decide) hu rfl ?_
    refine ux_BN 1 rfl ?_
    refine ux_Bget rfl rfl hm.1 rfl ?_
    refine ux_BN 1 rfl ?_
    refine mr_ild hm 213 f rfl (by decide) hf rfl ?_
    refine ux_BN 1 rfl ?_
    refine ux_Bne (fun h2 => ?_) (fun h2 => ?_)
    · refine ux_BN 5 rfl ?_
      exact l33 ⟨h1, h2⟩ L 0 _ (by omega) (fun k hk => by omega)
    · refine ux_BN 4 rfl ?_
      exact z33 (fun hfit => h2 hfit.1.2) 0 _ (by decide)
theorem mo_callsIn (hm : md E0 g A E) (f h L : Nat) (hf : f < 8) (hh : h < 8) (hL : L ≤ 30) (hLA : (A 213).getD f 0 = nI L) (hK1 : (f = h ∨ ∃ k, k < L ∧ (A 214).getD (30 * f + k) 0 = nI (h + 11)) → K (.inr (some (.int 1))) E x z false) (hK0 : ¬ (f = h ∨ ∃ k, k < L ∧ (A 214).getD (30 * f + k) 0 = nI (h + 11)) → K (.inr (some (.int 0))) E x z false) : ux_Bm uxP sc d 107 [.ref 210, .int (nI f), .int (nI h)] E x z K := by
  show ux_B uxP sc d 107 0 [.ref 210, .int (nI f), .int (nI h), .null, .null] [] E x z false K
  have hloop : ∀ n i (b : Int32), i + n = L → (b = 1 ∧ (f = h ∨ ∃ k, k < i ∧ (A 214).getD (30 * f + k) 0 = nI (h + 11)) ∨ b = 0 ∧ ¬ (f = h ∨ ∃ k, k < i ∧ (A 214).getD (30 * f + k) 0 = nI (h + 11))) → ux_B uxP sc d 107 17 [.ref 210, .int (nI f), .int (nI h), .int b, .int (nI (30 * f + i))] [] E x z false K := by
    intro n
    induction n with
    | zero =>
      intro i b hi hb
      have : i = L := by omega
      subst this
      refine ux_BN 5 rfl ?_
      refine ux_Bget rfl rfl hm.1 rfl ?_
      refine ux_BN 1 rfl ?_
      refine mr_ild hm 213 f rfl (by decide) hf rfl ?_
      rw [hLA]
      refine ux_BN 2 rfl ?_
      refine ux_BleN (30 * f + i) (30 * f + i) (nI_30 f i) rfl (by omega) (by omega) (fun _ => ?_) (fun h => by omega)
      refine ux_BN 1 rfl ?_
      rcases hb with ⟨rfl, hb⟩ | ⟨rfl, hb⟩
      · exact ux_Bri rfl (Or.inr ⟨rfl, Or.inr rfl⟩) (hK1 hb)
      · exact ux_Bri rfl (Or.inr ⟨rfl, Or.inl rfl⟩) (hK0 hb)
    | succ n ih =>
      intro i b hi hb
      have hone : (f = h ∨ ∃ k, k < i + 1 ∧ (A 214).getD (30 * f + k) 0 = nI (h + 11)) → ux_B uxP sc d 107 51 [.ref 210, .int (nI f), .int (nI h), .int b, .int (nI (30 * f + i))] [] E x z false K := by
        intro h1
        refine ux_BN 5 rfl ?_
        have := ih (i + 1) 1 (by omega) (Or.inl ⟨rfl, h1⟩)
        rw [show 30 * f + (i + 1) = 30 * f + i + 1 by omega, ← nI_s] at this
        exact this
      refine ux_BN 5 rfl ?_
      refine ux_Bget rfl rfl hm.1 rfl ?_
      refine ux_BN 1 rfl ?_
      refine mr_ild hm 213 f rfl (by decide) hf rfl ?_
      rw [hLA]
      refine ux_BN 2 rfl ?_
      refine ux_BleN (30 * f + L) (30 * f + i) (nI_30 f L) rfl (by omega) (by omega) (fun h => by omega) (fun _ => ?_)
      refine ux_BN 2 rfl ?_
      rcases hb with ⟨rfl, hb⟩ | ⟨rfl, hb⟩
      · refine ux_Byes (by decide) ?_
        exact hone (hb.imp id fun ⟨k, h1, h2⟩ => ⟨k, by omega, h2⟩)
      · refine ux_Bno (by decide) ?_
        refine ux_BN 1 rfl ?_
        refine ux_Bget rfl rfl hm.1 rfl ?_
        refine ux_BN 1 rfl ?_
        refine mr_ild hm 214 (30 * f + i) rfl (by decide) (show 30 * f + i < 240 by omega) rfl ?_
        refine ux_BN 3 rfl ?_
        refine ux_Btop (nI (h + 11)) ((nI_add 11 h).trans (congrArg nI (Nat.add_comm 11 h))) ?_
        refine ux_BN 1 rfl ?_
        refine ux_Bif (fun h1 => ?_) (fun h1 => ?_)
        · refine ux_BN 4 rfl ?_
          have := ih (i + 1) 0 (by omega) (Or.inr ⟨rfl, fun h2 => h2.elim (fun h3 => hb (Or.inl h3)) (fun ⟨k, h3, h4⟩ => by
            by_cases hki : k = i
            · rw [hki] at h4; exact h1 h4
            · exact hb (Or.inr ⟨k, by omega, h4⟩))⟩)
          rw [show 30 * f + (i + 1) = 30 * f + i + 1 by omega, ← nI_s] at this
          exact this
        · exact hone (Or.inr ⟨i, by omega, Decidable.not_not.mp h1⟩)
  have hst : nI (30 * f + 0) = (Int8.ofInt 30).toInt32 * nI f := by rw [show (Int8.ofInt 30).toInt32 = nI 30 from rfl, pk_mul]; rfl
  refine ux_BN 3 rfl ?_
  refine ux_BneN f h rfl rfl (by omega) (by omega) (fun h1 => ?_) (fun h1 => ?_)
  · refine ux_BN 6 rfl ?_
    have := hloop L 0 0 (by omega) (Or.inr ⟨rfl, fun h2 => h2.elim h1 (fun ⟨k, h3, _⟩ => by omega)⟩)
    rw [hst] at this
    exact this
  · refine ux_BN 7 rfl ?_
    have := hloop L 0 1 (by omega) (Or.inl ⟨rfl, Or.inl h1⟩)
    rw [hst] at this
    exact this
theorem mo_oldest (hm : md E0 g A E) (f : Nat) (hf : f < 8) (hK : ∀ o, o < 3 → (∀ j, j < 3 → (A 215).getD (3 * f + o) 0 ≤ (A 215).getD (3 * f + j) 0) → K (.inr (some (.int (nI (3 * f + o))))) E x z false) : ux_Bm uxP sc d 106 [.ref 210, .int (nI f)] E x z K := by
  show ux_B uxP sc d 106 0 [.ref 210, .int (nI f), .null, .null] [] E x z false K
  have hend : ∀ o, o < 3 → (∀ j, j < 3 → (A 215).getD (3 * f + o) 0 ≤ (A 215).getD (3 * f + j) 0) → ux_B uxP sc d 106 8 [.ref 210, .int (nI f), .int (nI (3 * f + o)), .int (nI (3 * f + 3))] [] E x z false K := by
    intro o ho hmin
    refine ux_BN 7 rfl ?_
    refine ux_BleN (3 * f + 3) (3 * f + 3) (nI_3 f 3) rfl (by omega) (by omega) (fun _ => ?_) (fun h => by omega)
    refine ux_BN 1 rfl ?_
    exact ux_Bri rfl (Or.inl rfl) (hK o ho hmin)
  have hstep : ∀ o k, o < 3 → k < 3 → (∀ w o', w = false → (o' = o ∧ (A 215).getD (3 * f + o) 0 ≤ (A 215).getD (3 * f + k) 0 ∨ o' = k ∧ (A 215).getD (3 * f + k) 0 < (A 215).getD (3 * f + o) 0) → ux_B uxP sc d 106 8 [.ref 210, .int (nI f), .int (nI (3 * f + o')), .int (nI (3 * f + (k + 1)))] [] E x z w K) → ux_B uxP sc d 106 8 [.ref 210, .int (nI f), .int (nI (3 * f + o)), .int (nI (3 * f + k))] [] E x z false K := by
    intro o k ho hk hB
    refine ux_BN 7 rfl ?_
    refine ux_BleN (3 * f + 3) (3 * f + k) (nI_3 f 3) rfl (by omega) (by omega) (fun h => by omega) (fun _ => ?_)
    refine ux_BN 1 rfl ?_
    refine ux_Bget rfl rfl hm.1 rfl ?_
    refine ux_BN 1 rfl ?_
    refine mr_ild hm 215 (3 * f + k) rfl (by decide) (show 3 * f + k < 24 by omega) rfl ?_
    refine ux_BN 1 rfl ?_
    refine ux_Bget rfl rfl hm.1 rfl ?_
    refine ux_BN 1 rfl ?_
    refine mr_ild hm 215 (3 * f + o) rfl (by decide) (show 3 * f + o < 24 by omega) rfl ?_
    refine ux_BN 1 rfl ?_
    refine ux_Bif (fun h => ?_) (fun h => ?_)
    · refine ux_BN 4 rfl ?_
      have := hB false o rfl (Or.inl ⟨rfl, h⟩)
      rw [show 3 * f + (k + 1) = 3 * f + k + 1 by omega, ← nI_s] at this
      exact this
    · refine ux_BN 5 rfl ?_
      have := hB false k rfl (Or.inr ⟨rfl, k2_lt h⟩)
      rw [show 3 * f + (k + 1) = 3 * f + k + 1 by omega, ← nI_s] at this
      exact this
  have hst : nI (3 * f + 0) = Int32.ofInt 3 * nI f := by rw [show Int32.ofInt 3 = nI 3 from rfl, pk_mul]; rfl
  have hst1 : nI (3 * f + 1) = Int32.ofInt 3 * nI f + Int32.ofInt 1 := by rw [← hst]; exact (nI_s _).symm
  have hgo : ux_B uxP sc d 106 8 [.ref 210, .int (nI f), .int (nI (3 * f + 0)), .int (nI (3 * f + 1))] [] E x z false K := by
    refine hstep 0 1 (by decide) (by decide) fun w o1 hw h1 => ?_
    subst hw
    refine hstep o1 2 (by omega) (by decide) fun w o2 hw h2 => ?_
    subst hw
    refine hend o2 (by omega) fun j hj => ?_
    have hlt : ∀ {a b : Int32}, a < b → a ≤ b := fun h => Int32.le_of_lt h
    have htr : ∀ {a b c : Int32}, a ≤ b → b ≤ c → a ≤ c := fun h1 h2 => Int32.le_trans h1 h2
    have hj3 : j = 0 ∨ j = 1 ∨ j = 2 := by omega
    rcases h1 with ⟨rfl, h1⟩ | ⟨rfl, h1⟩ <;> rcases h2 with ⟨rfl, h2⟩ | ⟨rfl, h2⟩ <;> rcases hj3 with rfl | rfl | rfl
    · exact Int32.le_refl _
    · exact h1
    · exact h2
    · exact hlt h2
    · exact htr (hlt h2) h1
    · exact Int32.le_refl _
    · exact hlt h1
    · exact Int32.le_refl _
    · exact h2
    · exact htr (hlt h2) (hlt h1)
    · exact hlt h2
    · exact Int32.le_refl _
  refine ux_BN 8 rfl ?_
  rw [hst1, hst] at hgo
  exact hgo
theorem mo_fitting (hm : md E0 g A E) (f L : Nat) (hf : f < 8) (hL : L ≤ 30) (hLA : (A 213).getD f 0 = nI L) (hK1 : ∀ o, o < 3 → mFit A (3 * f + o) f L → K (.inr (some (.int (nI (3 * f + o))))) E x z false) (hK2 : (∀ o, o < 3 → ¬ mFit A (3 * f + o) f L) → K (.inr (some (.int (-1)))) E x z false) : ux_Bm uxP sc (d + 1) 90 [.ref 210, .int (nI f)] E x z K := by
  show ux_B uxP sc (d + 1) 90 0 [.ref 210, .int (nI f), .null] [] E x z false K
  have hloop : ∀ n i, i + n = 3 → (∀ o, o < i → ¬ mFit A (3 * f + o) f L) → ux_B uxP sc (d + 1) 90 4 [.ref 210, .int (nI f), .int (nI (3 * f + i))] [] E x z false K := by
    intro n
    induction n with
    | zero =>
      intro i hi hno
      refine ux_BN 7 rfl ?_
      refine ux_BleN (3 * f + 3) (3 * f + i) (nI_3 f 3) rfl (by omega) (by omega) (fun _ => ?_) (fun h => by omega)
      refine ux_BN 1 rfl ?_
      exact ux_Bri rfl (Or.inl rfl) (hK2 fun o ho => hno o (by omega))
    | succ n ih =>
      intro i hi hno
      refine ux_BN 7 rfl ?_
      refine ux_BleN (3 * f + 3) (3 * f + i) (nI_3 f 3) rfl (by omega) (by omega) (fun h => by omega) (fun _ => ?_)
      refine ux_BN 3 rfl ?_
      refine ux_Bv rfl rfl rfl hm.1 rfl (by decide) rfl rfl ?_
      refine mo_fits hm (3 * f + i) f L (by omega) hf hL hLA (fun h1 => ?_) (fun h1 => ?_)
      · refine ux_BN 1 rfl ?_
        refine ux_Bno (by decide) ?_
        refine ux_BN 1 rfl ?_
        exact ux_Bri rfl (Or.inl rfl) (hK1 i (by omega) h1)
      · refine ux_BN 1 rfl ?_
        refine ux_Byes rfl ?_
        refine ux_BN 2 rfl ?_
        have := ih (i + 1) (by omega) (fun o ho => by
          by_cases hoi : o = i
          · rw [hoi]; exact h1
          · exact hno o (by omega))
        rw [show 3 * f + (i + 1) = 3 * f + i + 1 by omega, ← nI_s] at this
        exact this
  have hst : nI (3 * f + 0) = Int32.ofInt 3 * nI f := by rw [show Int32.ofInt 3 = nI 3 from rfl, pk_mul]; rfl
  refine ux_BN 4 rfl ?_
  have := hloop 3 0 rfl (fun o ho => by omega)
  rw [hst] at this
  exact this
end MF2
