/-! What compiling a text gives: the fault and its place, or the type, the place behind, and the code. -/
abbrev cR : Type := (Int32 × Int32) ⊕ (Int32 × Nat × List Int32)
def sPar (s : Int32) : Int32 := s &&& 3
def sTyp (s k : Int32) : Int32 := (s >>> ((2 + k) &&& 31)) &&& 1
def sRes (s : Int32) : Int32 := (s >>> ((5 : Int32) &&& 31)) &&& 1
def cBi (r : cR) (k : Int32 → Nat → List Int32 → cR) : cR := match r with
  | .inl e => .inl e
  | .inr (t, q, c) => k t q c
def cPa (rc : Nat → cR) (want : Int32) (p : Nat) : cR := cBi (rc p) fun t q c => if t = want then .inr (t, q, c) else .inl (5, nI p)
def cAr (rc : Nat → cR) (s : Int32) : Nat → Nat → Nat → cR
  | 0, _, p => .inr (0, p, [])
  | n + 1, k, p => cBi (cPa rc (sTyp s (nI k)) p) fun _ q c => cBi (cAr rc s n (k + 1) q) fun _ q2 c2 => .inr (0, q2, c ++ c2)
def cStep (rc : Nat → cR) (own : Int32) (sg : Nat → Int32) (t : Int32) (p : Nat) : cR :=
  if t < 0 ∨ (19 ≤ t ∧ t < 100) then .inl (1, nI p)
  else if t < 3 then (if sPar own ≤ t then .inl (3, nI p) else .inr (sTyp own t, p + 1, [1, t]))
  else if t < 8 then cBi (cPa rc 0 (p + 1)) fun _ q1 c1 => cBi (cPa rc 0 q1) fun _ q2 c2 => .inr (if t < 6 then 0 else 1, q2, c1 ++ c2 ++ [t - 1])
  else if t = 8 then cBi (cPa rc 1 (p + 1)) fun _ q1 c1 => cBi (rc q1) fun t2 q2 c2 => cBi (cPa rc t2 q2) fun _ q3 c3 => .inr (t2, q3, c1 ++ [7, nI (c2.length + 2)] ++ c2 ++ [8, nI c3.length] ++ c3)
  else if t ≤ 10 then .inr (1, p + 1, [0, if t = 9 then 1 else 0])
  else if t < 100 then (if sg (t - 11).toNatClampNeg = -1 then .inl (4, nI p) else cBi (cAr rc (sg (t - 11).toNatClampNeg) (sPar (sg (t - 11).toNatClampNeg)).toNatClampNeg 0 (p + 1)) fun _ q c => .inr (sRes (sg (t - 11).toNatClampNeg), q, c ++ [9, t - 11]))
  else .inr (0, p + 1, [0, t - 100])
def cx (tk : Nat → Int32) (L : Nat) (own : Int32) (sg : Nat → Int32) : Nat → Nat → cR
  | 0, p => .inl (2, nI p)
  | n + 1, p => if L ≤ p then .inl (2, nI p) else cStep (cx tk L own sg n) own sg (tk p) p
theorem cBi_inr {r : cR} {k : Int32 → Nat → List Int32 → cR} {y : Int32 × Nat × List Int32} (h : cBi r k = .inr y) : ∃ t q c, r = .inr (t, q, c) ∧ k t q c = .inr y := by
  unfold cBi at h
  split at h
  · cases h
  · rename_i t q c
    exact ⟨t, q, c, rfl, h⟩
theorem cBi_of {r : cR} {k : Int32 → Nat → List Int32 → cR} {t : Int32} {q : Nat} {c : List Int32} (h : r = .inr (t, q, c)) : cBi r k = k t q c := by rw [h]; rfl
theorem cBi_inl {r : cR} {k : Int32 → Nat → List Int32 → cR} {e : Int32 × Int32} (h : r = .inl e) : cBi r k = .inl e := by rw [h]; rfl
theorem cPa_inr {rc : Nat → cR} {want : Int32} {p : Nat} {t : Int32} {q : Nat} {c : List Int32} (h : cPa rc want p = .inr (t, q, c)) : rc p = .inr (t, q, c) ∧ t = want := by
  unfold cPa at h
  obtain ⟨t1, q1, c1, h1, h2⟩ := cBi_inr h
  split at h2
  · rename_i h3
    cases h2
    exact ⟨h1, h3⟩
  · cases h2
theorem cPa_ok {rc : Nat → cR} {want : Int32} {p : Nat} {t : Int32} {q : Nat} {c : List Int32} (h : rc p = .inr (t, q, c)) (ht : t = want) : cPa rc want p = .inr (t, q, c) := by
  unfold cPa; rw [cBi_of h, if_pos ht]
theorem cPa_bad {rc : Nat → cR} {want : Int32} {p : Nat} {t : Int32} {q : Nat} {c : List Int32} (h : rc p = .inr (t, q, c)) (ht : ¬ t = want) : cPa rc want p = .inl (5, nI p) := by
  unfold cPa; rw [cBi_of h, if_neg ht]
theorem cPa_inl {rc : Nat → cR} {want : Int32} {p : Nat} {e : Int32 × Int32} (h : rc p = .inl e) : cPa rc want p = .inl e := cBi_inl h
/-- from p to q len words are made -/
def cz (b p q len : Nat) : Prop := p ≤ q ∧ ∃ m, len ≤ 2 * (q - p) + 2 * m ∧ 3 * m + b ≤ q - p
def cGood (L : Nat) (rc : Nat → cR) : Prop := ∀ p t q c, rc p = .inr (t, q, c) → p < q ∧ q ≤ L ∧ (t = 0 ∨ t = 1) ∧ cz 1 p q c.length
theorem bit01 (s : Int32) : s &&& 1 = 0 ∨ s &&& 1 = 1 := by
  obtain ⟨j, hj, h⟩ := pk_andE s (m := 1) 1 rfl
  have : j = 0 ∨ j = 1 := by omega
  rcases this with rfl | rfl
  · exact Or.inl h
  · exact Or.inr h
theorem cAr_good {L : Nat} {rc : Nat → cR} (hg : cGood L rc) (s : Int32) : ∀ n k p t q c, p ≤ L → cAr rc s n k p = .inr (t, q, c) → q ≤ L ∧ cz n p q c.length := by
  intro n
  induction n with
  | zero =>
    intro k p t q c hp h
    cases h
    exact ⟨hp, Nat.le_refl _, 0, by simp, by omega⟩
  | succ n ih =>
    intro k p t q c hp h
    obtain ⟨t1, q1, c1, h1, h2⟩ := cBi_inr h
    obtain ⟨t2, q2, c2, h3, h4⟩ := cBi_inr h2
    cases h4
    obtain ⟨a1, a2, a3, a4, m1, a5, a6⟩ := hg _ _ _ _ (cPa_inr h1).1
    obtain ⟨b1, b2, m2, b3, b4⟩ := ih _ _ _ _ _ a2 h3
    refine ⟨b1, by omega, m1 + m2, ?_, by omega⟩
    rw [List.length_append]
    omega
theorem cStep_good {L : Nat} {rc : Nat → cR} (hg : cGood L rc) (own : Int32) (sg : Nat → Int32) (t : Int32) (p : Nat) (hp : p < L) {ty : Int32} {q : Nat} {c : List Int32} (h : cStep rc own sg t p = .inr (ty, q, c)) : p < q ∧ q ≤ L ∧ (ty = 0 ∨ ty = 1) ∧ cz 1 p q c.length := by
  unfold cStep at h
  split at h
  · cases h
  split at h
  · split at h
    · cases h
    · cases h
      exact ⟨by omega, by omega, bit01 _, by omega, 0, by simp, by omega⟩
  split at h
  · obtain ⟨t1, q1, c1, h1, h2⟩ := cBi_inr h
    obtain ⟨t2, q2, c2, h3, h4⟩ := cBi_inr h2
    cases h4
    obtain ⟨a1, a2, a3, a4, m1, a5, a6⟩ := hg _ _ _ _ (cPa_inr h1).1
    obtain ⟨b1, b2, b3, b4, m2, b5, b6⟩ := hg _ _ _ _ (cPa_inr h3).1
    refine ⟨by omega, b2, ?_, by omega, m1 + m2, ?_, by omega⟩
    · split; exact Or.inl rfl; exact Or.inr rfl
    · simp only [List.length_append, List.length_cons, List.length_nil]; omega
  split at h
  · obtain ⟨t1, q1, c1, h1, h2⟩ := cBi_inr h
    obtain ⟨t2, q2, c2, h3, h4⟩ := cBi_inr h2
    obtain ⟨t3, q3, c3, h5, h6⟩ := cBi_inr h4
    cases h6
    obtain ⟨a1, a2, a3, a4, m1, a5, a6⟩ := hg _ _ _ _ (cPa_inr h1).1
    obtain ⟨b1, b2, b3, b4, m2, b5, b6⟩ := hg _ _ _ _ h3
    obtain ⟨e1, e2, e3, e4, m3, e5, e6⟩ := hg _ _ _ _ (cPa_inr h5).1
    refine ⟨by omega, e2, b3, by omega, m1 + m2 + m3 + 1, ?_, by omega⟩
    simp only [List.length_append, List.length_cons, List.length_nil]; omega
  split at h
  · cases h
    exact ⟨by omega, by omega, Or.inr rfl, by omega, 0, by simp, by omega⟩
  split at h
  · split at h
    · cases h
    · obtain ⟨t1, q1, c1, h1, h2⟩ := cBi_inr h
      cases h2
      obtain ⟨b1, b2, m2, b3, b4⟩ := cAr_good hg _ _ _ _ _ _ _ (show p + 1 ≤ L by omega) h1
      refine ⟨by omega, b1, bit01 _, by omega, m2, ?_, by omega⟩
      simp only [List.length_append, List.length_cons, List.length_nil]; omega
  · cases h
    exact ⟨by omega, by omega, Or.inl rfl, by omega, 0, by simp, by omega⟩
theorem cx_good (tk : Nat → Int32) (L : Nat) (own : Int32) (sg : Nat → Int32) : ∀ n, cGood L (cx tk L own sg n) := by
  intro n
  induction n with
  | zero => intro p t q c h; cases h
  | succ n ih =>
    intro p t q c h
    unfold cx at h
    split at h
    · cases h
    · exact cStep_good ih own sg (tk p) p (by omega) h
