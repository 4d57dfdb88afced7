/-! The reference keeps a unit. -/
theorem getD_set {l : List Int32} {i j : Nat} {y : Int32} (h : i < l.length) : (l.set i y).getD j 0 = if j = i then y else l.getD j 0 := by
  by_cases hji : j = i
  · subst hji
    rw [if_pos rfl, List.getD_eq_getElem?_getD, List.getElem?_set_self h]; rfl
  · rw [if_neg hji]; exact getD_ne hji
section MK
variable {sc : List Int32} {d : Nat} {E0 E : ux_Ev} {g : Nat → Int32} {A : Nat → List Int32} {x z : Nat} {w : Bool} {K : ux_K1} {u f L : Nat}
theorem mk_l1 (hu : u < 24) (hf : f < 8) (hL : L ≤ 30) (hLA : (A 213).getD f 0 = nI L)
    (hK : ∀ E' A' w', md E0 g A' E' → (∀ a, a ≠ 217 → A' a = A a) → (∀ j, (A' 217).getD j 0 = if 30 * u ≤ j ∧ j < 30 * u + L then (A 214).getD (30 * f + (j - 30 * u)) 0 else (A 217).getD j 0) → ux_B uxP sc d 105 58 [.ref 210, .int (nI f), .int (nI u), .int (nI L)] [] E' x z w' K) :
    ∀ n i E1 A1 w, i + n = L → md E0 g A1 E1 → (∀ a, a ≠ 217 → A1 a = A a) → (∀ j, (A1 217).getD j 0 = if 30 * u ≤ j ∧ j < 30 * u + i then (A 214).getD (30 * f + (j - 30 * u)) 0 else (A 217).getD j 0) → ux_B uxP sc d 105 20 [.ref 210, .int (nI f), .int (nI u), .int (nI i)] [] E1 x z w K := by
  intro n
  induction n with
  | zero =>
    intro i E1 A1 w hi m h1 h2
    have : i = L := by omega
    subst this
    refine ux_BN 2 rfl ?_
    refine ux_Bget rfl rfl m.1 rfl ?_
    refine ux_BN 1 rfl ?_
    refine mr_ild m 213 f rfl (by decide) hf rfl ?_
    rw [h1 213 (by decide), hLA]
    refine ux_BN 1 rfl ?_
    refine ux_Byes (nI_le (Nat.le_refl _) (by omega)) ?_
    exact hK _ _ _ m h1 h2
  | succ n ih =>
    intro i E1 A1 w hi m h1 h2
    refine ux_BN 2 rfl ?_
    refine ux_Bget rfl rfl m.1 rfl ?_
    refine ux_BN 1 rfl ?_
    refine mr_ild m 213 f rfl (by decide) hf rfl ?_
    rw [h1 213 (by decide), hLA]
    refine ux_BN 1 rfl ?_
    refine ux_Bno (nI_ge (show i < L by omega) (by omega)) ?_
    refine ux_BN 1 rfl ?_
    refine ux_Bget rfl rfl m.1 rfl ?_
    refine ux_BN 6 rfl ?_
    refine ux_Bget rfl rfl m.1 rfl ?_
    refine ux_BN 5 rfl ?_
    refine mr_ild m 214 (30 * f + i) rfl (by decide) (show 30 * f + i < 240 by omega) (nI_30 f i) ?_
    rw [h1 214 (by decide)]
    refine mr_ist m 217 (30 * u + i) rfl (by decide) (show 30 * u + i < 720 by omega) (nI_30 u i) fun E2 m2 => ?_
    refine ux_BN 2 rfl ?_
    have := fun w => ih (i + 1) E2 _ w (by omega) m2 (fun a ha => by rw [fU_ne _ _ ha]; exact h1 a ha) (fun j => by
      rw [fU_at, getD_set (by rw [m.len 217 (by decide)]; exact (show 30 * u + i < 720 by omega))]
      by_cases hj : j = 30 * u + i
      · rw [if_pos hj, if_pos (by omega), hj, show 30 * u + i - 30 * u = i by omega]
      · rw [if_neg hj, h2 j]
        by_cases hj2 : 30 * u ≤ j ∧ j < 30 * u + i
        · rw [if_pos hj2, if_pos (by omega)]
        · rw [if_neg hj2, if_neg (by omega)])
    rw [← nI_s] at this
    exact this _
theorem mk_l2 (hu : u < 24) (hf : f < 8) (hL : L ≤ 30) (hLA : (A 213).getD f 0 = nI L)
    (hK : ∀ E' A' w', md E0 g A' E' → (∀ a, a ≠ 218 → A' a = A a) → (∀ h, h < 8 → ((f = h ∨ ∃ k, k < L ∧ (A 214).getD (30 * f + k) 0 = nI (h + 11)) → (A' 218).getD (9 * u + h) 0 = (A 212).getD h 0) ∧ (¬ (f = h ∨ ∃ k, k < L ∧ (A 214).getD (30 * f + k) 0 = nI (h + 11)) → (A' 218).getD (9 * u + h) 0 = -1)) → (∀ j, j < 9 * u ∨ 9 * u + 8 ≤ j → (A' 218).getD j 0 = (A 218).getD j 0) → ux_B uxP sc (d + 1) 105 102 [.ref 210, .int (nI f), .int (nI u), .int (nI 8)] [] E' x z w' K) :
    ∀ n i E1 A1 w, i + n = 8 → md E0 g A1 E1 → (∀ a, a ≠ 218 → A1 a = A a) → (∀ h, h < i → ((f = h ∨ ∃ k, k < L ∧ (A 214).getD (30 * f + k) 0 = nI (h + 11)) → (A1 218).getD (9 * u + h) 0 = (A 212).getD h 0) ∧ (¬ (f = h ∨ ∃ k, k < L ∧ (A 214).getD (30 * f + k) 0 = nI (h + 11)) → (A1 218).getD (9 * u + h) 0 = -1)) → (∀ j, j < 9 * u ∨ 9 * u + 8 ≤ j → (A1 218).getD j 0 = (A 218).getD j 0) → ux_B uxP sc (d + 1) 105 60 [.ref 210, .int (nI f), .int (nI u), .int (nI i)] [] E1 x z w K := by
  intro n
  induction n with
  | zero =>
    intro i E1 A1 w hi m h1 h2 h3
    have : i = 8 := by omega
    subst this
    refine ux_BN 3 rfl ?_
    refine ux_Byes (by decide) ?_
    exact hK _ _ _ m h1 h2 h3
  | succ n ih =>
    intro i E1 A1 w hi m h1 h2 h3
    have hst : ∀ (y : Int32) (w : Bool), ((f = i ∨ ∃ k, k < L ∧ (A 214).getD (30 * f + k) 0 = nI (i + 11)) → y = (A 212).getD i 0) → (¬ (f = i ∨ ∃ k, k < L ∧ (A 214).getD (30 * f + k) 0 = nI (i + 11)) → y = -1) → ux_B uxP sc (d + 1) 105 95 [.ref 210, .int (nI f), .int (nI u), .int (nI i)] [.int y, .int (nI (9 * u + i)), .ref 218] E1 x z w K := by
      intro y w hy1 hy2
      refine mr_ist m 218 (9 * u + i) rfl (by decide) (show 9 * u + i < 216 by omega) rfl fun E2 m2 => ?_
      refine ux_BN 2 rfl ?_
      have hset : ∀ j, ((fU A1 218 ((A1 218).set (9 * u + i) y)) 218).getD j 0 = if j = 9 * u + i then y else (A1 218).getD j 0 := fun j => by
        rw [fU_at, getD_set (by rw [m.len 218 (by decide)]; exact (show 9 * u + i < 216 by omega))]
      have := fun w => ih (i + 1) E2 _ w (by omega) m2 (fun a ha => by rw [fU_ne _ _ ha]; exact h1 a ha) (fun h hh => by
        rw [hset]
        by_cases hhi : h = i
        · subst hhi
          rw [if_pos rfl]
          exact ⟨hy1, hy2⟩
        · rw [if_neg (by omega)]
          exact h2 h (by omega)) (fun j hj => by
        rw [hset, if_neg (by omega)]
        exact h3 j hj)
      rw [← nI_s] at this
      exact this _
    refine ux_BN 3 rfl ?_
    refine ux_Bno (nI_ge (show i < 8 by omega) (by decide)) ?_
    refine ux_BN 1 rfl ?_
    refine ux_Bget rfl rfl m.1 rfl ?_
    refine ux_BN 5 rfl ?_
    refine ux_Btop (nI (9 * u + i)) (nI_9 u i) ?_
    refine ux_BN 3 rfl ?_
    refine ux_Bv rfl rfl rfl m.1 rfl (by decide) rfl rfl ?_
    refine mo_callsIn m f i L hf (by omega) hL (by rw [h1 213 (by decide)]; exact hLA) (fun hc => ?_) (fun hc => ?_)
    · rw [h1 214 (by decide)] at hc
      refine ux_BN 1 rfl ?_
      refine ux_Bno (by decide) ?_
      refine ux_BN 1 rfl ?_
      refine ux_Bget rfl rfl m.1 rfl ?_
      refine ux_BN 1 rfl ?_
      refine mr_ild m 212 i rfl (by decide) (show i < 8 by omega) rfl ?_
      rw [h1 212 (by decide)]
      refine ux_BN 1 rfl ?_
      exact hst _ _ (fun _ => rfl) (fun h => absurd hc h)
    · rw [h1 214 (by decide)] at hc
      refine ux_BN 1 rfl ?_
      refine ux_Byes rfl ?_
      refine ux_BN 1 rfl ?_
      exact hst _ _ (fun h => absurd h hc) (fun _ => rfl)
theorem mk_l3 {nn : Nat} (hu : u < 24) (hn : nn ≤ 80) (hg : g 28 = nI nn)
    (hK : ∀ E' A' w', md E0 g A' E' → (∀ a, a ≠ 220 → A' a = A a) → (∀ j, (A' 220).getD j 0 = if 80 * u ≤ j ∧ j < 80 * u + nn then (A 234).getD (j - 80 * u) 0 else (A 220).getD j 0) → ux_B uxP sc d 105 145 [.ref 210, .int (nI f), .int (nI u), .int (nI nn)] [] E' x z w' K) :
    ∀ n i E1 A1 w, i + n = nn → md E0 g A1 E1 → (∀ a, a ≠ 220 → A1 a = A a) → (∀ j, (A1 220).getD j 0 = if 80 * u ≤ j ∧ j < 80 * u + i then (A 234).getD (j - 80 * u) 0 else (A 220).getD j 0) → ux_B uxP sc d 105 114 [.ref 210, .int (nI f), .int (nI u), .int (nI i)] [] E1 x z w K := by
  intro n
  induction n with
  | zero =>
    intro i E1 A1 w hi m h1 h2
    have : i = nn := by omega
    subst this
    refine ux_BN 2 rfl ?_
    refine ux_Bget rfl rfl m.1 rfl ?_
    refine ux_BN 1 rfl ?_
    refine ux_BleN i i hg rfl (by omega) (by omega) (fun _ => ?_) (fun h => by omega)
    exact hK _ _ _ m h1 h2
  | succ n ih =>
    intro i E1 A1 w hi m h1 h2
    refine ux_BN 2 rfl ?_
    refine ux_Bget rfl rfl m.1 rfl ?_
    refine ux_BN 1 rfl ?_
    refine ux_BleN nn i hg rfl (by omega) (by omega) (fun h => by omega) (fun _ => ?_)
    refine ux_BN 1 rfl ?_
    refine ux_Bget rfl rfl m.1 rfl ?_
    refine ux_BN 6 rfl ?_
    refine ux_Bget rfl rfl m.1 rfl ?_
    refine ux_BN 1 rfl ?_
    refine mr_ild m 234 i rfl (by decide) (show i < 80 by omega) rfl ?_
    rw [h1 234 (by decide)]
    refine mr_ist m 220 (80 * u + i) rfl (by decide) (show 80 * u + i < 1920 by omega) (nI_80 u i) fun E2 m2 => ?_
    refine ux_BN 2 rfl ?_
    have := fun w => ih (i + 1) E2 _ w (by omega) m2 (fun a ha => by rw [fU_ne _ _ ha]; exact h1 a ha) (fun j => by
      rw [fU_at, getD_set (by rw [m.len 220 (by decide)]; exact (show 80 * u + i < 1920 by omega))]
      by_cases hj : j = 80 * u + i
      · rw [if_pos hj, if_pos (by omega), hj, show 80 * u + i - 80 * u = i by omega]
      · rw [if_neg hj, h2 j]
        by_cases hj2 : 80 * u ≤ j ∧ j < 80 * u + i
        · rw [if_pos hj2, if_pos (by omega)]
        · rw [if_neg hj2, if_neg (by omega)])
    rw [← nI_s] at this
    exact this _
/-- what keep writes for slot u -/
def mKept (A A2 : Nat → List Int32) (u f L nn : Nat) : Prop := (∀ a, a < 216 ∨ 220 < a → A2 a = A a) ∧ (∀ j, (A2 216).getD j 0 = if j = u then nI L else (A 216).getD j 0) ∧ (∀ j, (A2 219).getD j 0 = if j = u then nI nn else (A 219).getD j 0) ∧ (∀ j, (A2 217).getD j 0 = if 30 * u ≤ j ∧ j < 30 * u + L then (A 214).getD (30 * f + (j - 30 * u)) 0 else (A 217).getD j 0) ∧ (∀ h, h < 8 → ((f = h ∨ ∃ k, k < L ∧ (A 214).getD (30 * f + k) 0 = nI (h + 11)) → (A2 218).getD (9 * u + h) 0 = (A 212).getD h 0) ∧ (¬ (f = h ∨ ∃ k, k < L ∧ (A 214).getD (30 * f + k) 0 = nI (h + 11)) → (A2 218).getD (9 * u + h) 0 = -1)) ∧ (∀ j, j < 9 * u ∨ 9 * u + 8 ≤ j → (A2 218).getD j 0 = (A 218).getD j 0) ∧ ∀ j, (A2 220).getD j 0 = if 80 * u ≤ j ∧ j < 80 * u + nn then (A 234).getD (j - 80 * u) 0 else (A 220).getD j 0
theorem mo_keep {nn : Nat} (hm : md E0 g A E) (hf : f < 8) (hL : L ≤ 30) (hLA : (A 213).getD f 0 = nI L) (hn : nn ≤ 80) (hg : g 28 = nI nn)
    (hK : ∀ o, o < 3 → (∀ j, j < 3 → (A 215).getD (3 * f + o) 0 ≤ (A 215).getD (3 * f + j) 0) → ∀ E' A' w', md E0 g A' E' → mKept A A' (3 * f + o) f L nn → K (.inr (some (.int (nI (3 * f + o))))) E' x z w') : ux_Bm uxP sc (d + 1) 105 [.ref 210, .int (nI f)] E x z K := by
  show ux_B uxP sc (d + 1) 105 0 [.ref 210, .int (nI f), .null, .null] [] E x z false K
  refine ux_BN 2 rfl ?_
  refine ux_Bv rfl rfl rfl hm.1 rfl (by decide) rfl rfl ?_
  refine mo_oldest hm f hf fun o ho hmin => ?_
  have hu : 3 * f + o < 24 := by omega
  refine ux_BN 2 rfl ?_
  refine ux_Bget rfl rfl hm.1 rfl ?_
  refine ux_BN 2 rfl ?_
  refine ux_Bget rfl rfl hm.1 rfl ?_
  refine ux_BN 1 rfl ?_
  refine mr_ild hm 213 f rfl (by decide) hf rfl ?_
  rw [hLA]
  refine mr_ist hm 216 (3 * f + o) rfl (by decide) hu rfl fun E1 m1 => ?_
  refine ux_BN 2 rfl ?_
  refine mk_l1 (A := fU A 216 ((A 216).set (3 * f + o) (nI L))) hu hf hL hLA (fun E2 A2 w2 m2 e1 e2 => ?_) L 0 E1 _ _ (by omega) m1 (fun _ _ => rfl) (fun j => by rw [if_neg (by omega)])
  refine ux_BN 2 rfl ?_
  refine mk_l2 (A := A2) hu hf hL (by rw [e1 213 (by decide)]; exact hLA) (fun E3 A3 w3 m3 e3 e4 e5 => ?_) 8 0 E2 _ _ rfl m2 (fun _ _ => rfl) (fun h hh => by omega) (fun _ _ => rfl)
  refine ux_BN 1 rfl ?_
  refine ux_Bget rfl rfl m3.1 rfl ?_
  refine ux_BN 2 rfl ?_
  refine ux_Bget rfl rfl m3.1 rfl ?_
  refine mr_ist m3 219 (3 * f + o) rfl (by decide) hu rfl fun E4 m4 => ?_
  refine ux_BN 2 rfl ?_
  refine mk_l3 (A := fU A3 219 ((A3 219).set (3 * f + o) (g 28))) hu hn hg (fun E5 A5 w5 m5 e6 e7 => ?_) nn 0 E4 _ _ (by omega) m4 (fun _ _ => rfl) (fun j => by rw [if_neg (by omega)])
  refine ux_BN 1 rfl ?_
  refine ux_Bri rfl (Or.inl rfl) (hK o ho hmin E5 A5 _ m5 ⟨fun a ha => ?_, fun j => ?_, fun j => ?_, fun j => ?_, fun h hh => ?_, fun j hj => ?_, fun j => ?_⟩)
  · rw [e6 a (by omega), fU_ne _ _ (by omega), e3 a (by omega), e1 a (by omega), fU_ne _ _ (by omega)]
  · rw [e6 216 (by decide), fU_ne _ _ (by decide), e3 216 (by decide), e1 216 (by decide), fU_at, getD_set (by rw [hm.len 216 (by decide)]; exact hu)]
  · rw [e6 219 (by decide), fU_at, getD_set (by rw [m3.len 219 (by decide)]; exact hu), hg, e3 219 (by decide), e1 219 (by decide), fU_ne _ _ (by decide)]
  · rw [e6 217 (by decide), fU_ne _ _ (by decide), e3 217 (by decide), e2 j]; rfl
  · rw [e6 218 (by decide), fU_ne _ _ (by decide)]
    have := e4 h hh
    rw [e1 214 (by decide), e1 212 (by decide)] at this
    exact this
  · rw [e6 218 (by decide), fU_ne _ _ (by decide), e5 j hj, e1 218 (by decide), fU_ne _ _ (by decide)]
  · rw [e7 j, fU_ne _ _ (by decide), fU_ne _ _ (by decide), e3 234 (by decide), e1 234 (by decide), e3 220 (by decide), e1 220 (by decide)]; rfl
end MK
