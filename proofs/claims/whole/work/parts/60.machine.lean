/-! The machine: its states, one step, a run. -/
abbrev rT : Type := Nat × Nat × Nat × List Int32 × List Int32 × List Int32
/-- one step: height, frames, place, stack, bases, returns -/
def rC (W AD PR : List Int32) (L : Nat) : rT → Int32 → rT → Prop := fun s o s' => match s with
  | (n, F, pc, S, B, R) => (pc + 1 < L ∧ n ≤ 40 ∧ S.length = 40 ∧ B.length = 12 ∧ R.length = 12) ∧ (
    (W.getD pc 0 = 0 ∧ ((n = 40 ∧ o = 3 ∧ s' = s) ∨ (n < 40 ∧ o = -1 ∧ s' = (n + 1, F, pc + 2, S.set n (W.getD (pc + 1) 0), B, R)))) ∨
    (W.getD pc 0 = 1 ∧ ∃ b k F0, F = F0 + 1 ∧ F ≤ 12 ∧ B.getD F0 0 = nI b ∧ W.getD (pc + 1) 0 = nI k ∧ b + k < n ∧ ((n = 40 ∧ o = 3 ∧ s' = s) ∨ (n < 40 ∧ o = -1 ∧ s' = (n + 1, F, pc + 2, S.set n (S.getD (b + k) 0), B, R)))) ∨
    (∃ k, (2 ≤ k ∧ k ≤ 6) ∧ W.getD pc 0 = nI k ∧ 2 ≤ n ∧ o = -1 ∧ s' = (n - 1, F, pc + 1, S.set (n - 2) (reck (nI k) (S.getD (n - 2) 0) (S.getD (n - 1) 0)), B, R)) ∨
    (W.getD pc 0 = 7 ∧ 1 ≤ n ∧ o = -1 ∧ ∃ d, W.getD (pc + 1) 0 = nI d ∧ pc + 2 + d < L ∧ s' = (n - 1, F, (if S.getD (n - 1) 0 = 0 then pc + 2 + d else pc + 2), S, B, R)) ∨
    (W.getD pc 0 = 8 ∧ o = -1 ∧ ∃ d, W.getD (pc + 1) 0 = nI d ∧ pc + 2 + d < L ∧ s' = (n, F, pc + 2 + d, S, B, R)) ∨
    (W.getD pc 0 = 9 ∧ F ≠ 0 ∧ ∃ a g p, W.getD (pc + 1) 0 = nI a ∧ a < L ∧ (g < 8 ∧ AD.getD g 0 = nI a ∧ ∀ j, j < g → ¬ AD.getD j 0 = nI a) ∧ PR.getD g 0 = nI p ∧ p ≤ n ∧ ((F = 12 ∧ o = 2 ∧ s' = s) ∨ (F < 12 ∧ o = -1 ∧ s' = (n, F + 1, a, S, B.set F (nI (n - p)), R.set F (nI (pc + 2)))))) ∨
    (W.getD pc 0 = 10 ∧ ∃ b F0 pc', F = F0 + 1 ∧ F ≤ 12 ∧ B.getD F0 0 = nI b ∧ b < n ∧ ((F0 = 0 ∧ o = 0) ∨ (F0 ≠ 0 ∧ o = -1)) ∧ (pc' < 300 ∧ R.getD F0 0 = nI pc') ∧ s' = (b + 1, F0, pc', S.set b (S.getD (n - 1) 0), B, R)))
def rN (W AD PR : List Int32) (L : Nat) : Nat → Nat → rT → Int32 → Nat → rT → Prop
  | 0, sp, s, o, sp', s' => o = 1 ∧ sp' = sp ∧ s' = s
  | m + 1, sp, s, o, sp', s' => ∃ o1 s1, rC W AD PR L s o1 s1 ∧ ((o1 = -1 ∧ rN W AD PR L m (sp + 1) s1 o sp' s') ∨ (¬ o1 = -1 ∧ o = o1 ∧ sp' = sp + 1 ∧ s' = s1))
/-- an image: for each function that has an address its place, code, marks, number of parameters -/
def iG (W AD PR : List Int32) (L : Nat) (a : Nat → Nat) (D : Nat → List Int32) (m : Nat → List Nat) (p : Nat → Nat) : Prop := ∀ f, f < 8 → ¬ AD.getD f 0 = -1 → (AD.getD f 0 = nI (a f) ∧ PR.getD f 0 = nI (p f) ∧ p f < 4) ∧ a f + (D f).length + 2 ≤ L ∧ (∀ i, i < (D f).length → W.getD (a f + i) 0 = (D f).getD i 0) ∧ W.getD (a f + (D f).length) 0 = 10 ∧ wC (p f) p (fun k => ¬ AD.getD k 0 = -1) (fun k => AD.getD k 0) (D f) (m f) (p f) (p f + 1) ∧ ∀ g, g < 8 → AD.getD g 0 = AD.getD f 0 → g = f
def iOk (W AD PR : List Int32) (L : Nat) : Prop := W.length = 300 ∧ AD.length = 8 ∧ PR.length = 8 ∧ L ≤ 300 ∧ ∃ a D m p, iG W AD PR L a D m p
/-- the frames: the function of each, from the last one down -/
def fOk (AD : List Int32) (a : Nat → Nat) (D : Nat → List Int32) (m : Nat → List Nat) (p : Nat → Nat) (B R : List Int32) : List Nat → Nat → Nat → Prop
  | [], _, _ => False
  | f :: fs, pc, n => ∃ b i, (f < 8 ∧ ¬ AD.getD f 0 = -1) ∧ B.getD fs.length 0 = nI b ∧ b ≤ n ∧ pc = a f + i ∧ i ≤ (D f).length ∧ (m f ++ [p f + 1 + 1]).getD i 0 = n - b + 1 ∧ (fs = [] ∨ ∃ ret, R.getD fs.length 0 = nI ret ∧ ret < 300 ∧ fOk AD a D m p B R fs ret (b + 1))
def iv (AD : List Int32) (a : Nat → Nat) (D : Nat → List Int32) (m : Nat → List Nat) (p : Nat → Nat) (s : rT) : Prop := match s with
  | (n, F, pc, S, B, R) => n ≤ 40 ∧ F ≤ 12 ∧ S.length = 40 ∧ B.length = 12 ∧ R.length = 12 ∧ R.getD 0 0 = 0 ∧ ∃ fs, fs.length = F ∧ fOk AD a D m p B R fs pc n
theorem fOk.congr {AD : List Int32} {a : Nat → Nat} {D : Nat → List Int32} {m : Nat → List Nat} {p : Nat → Nat} {B R B2 R2 : List Int32} : ∀ {fs : List Nat} {pc n : Nat}, (∀ j, j < fs.length → B2.getD j 0 = B.getD j 0 ∧ R2.getD j 0 = R.getD j 0) → fOk AD a D m p B R fs pc n → fOk AD a D m p B2 R2 fs pc n := by
  intro fs
  induction fs with
  | nil => intro pc n _ h; exact h
  | cons f fs ih =>
    intro pc n hj h
    obtain ⟨b, i, h1, h2, h3, h4, h5, h6, h7⟩ := h
    have e := hj fs.length (by simp)
    refine ⟨b, i, h1, by rw [e.1]; exact h2, h3, h4, h5, h6, ?_⟩
    rcases h7 with h7 | ⟨ret, r1, r2, r3⟩
    · exact Or.inl h7
    · exact Or.inr ⟨ret, by rw [e.2]; exact r1, r2, ih (fun j hj2 => hj j (by simp; omega)) r3⟩
theorem first_ad {AD : List Int32} {g : Nat} {y : Int32} : g < 8 → AD.getD g 0 = y → ∃ g0, g0 ≤ g ∧ AD.getD g0 0 = y ∧ ∀ j, j < g0 → ¬ AD.getD j 0 = y := by
  intro hg hy
  have : ∀ n, n ≤ g + 1 → (∃ g0, g0 < n ∧ AD.getD g0 0 = y ∧ ∀ j, j < g0 → ¬ AD.getD j 0 = y) ∨ ∀ j, j < n → ¬ AD.getD j 0 = y := by
    intro n
    induction n with
    | zero => intro _; exact Or.inr fun j hj => by omega
    | succ n ih =>
      intro hn
      rcases ih (by omega) with ⟨g0, h1, h2, h3⟩ | h
      · exact Or.inl ⟨g0, by omega, h2, h3⟩
      · by_cases e : AD.getD n 0 = y
        · exact Or.inl ⟨n, by omega, e, h⟩
        · refine Or.inr fun j hj => ?_
          by_cases hjn : j = n
          · subst hjn; exact e
          · exact h j (by omega)
  rcases this (g + 1) (Nat.le_refl _) with ⟨g0, h1, h2, h3⟩ | h
  · exact ⟨g0, by omega, h2, h3⟩
  · exact absurd hy (h g (by omega))
section ST
variable {W AD PR : List Int32} {L : Nat} {a : Nat → Nat} {D : Nat → List Int32} {m : Nat → List Nat} {p : Nat → Nat}
theorem iv_step (hL : L ≤ 300) (hi : iG W AD PR L a D m p) {s : rT} (hs : iv AD a D m p s) : ∃ o s', rC W AD PR L s o s' ∧ (o = -1 → iv AD a D m p s') := by
  obtain ⟨n, F, pc, S, B, R⟩ := s
  obtain ⟨n40, F12, lS, lB, lR, R0, fs, hF, hfs⟩ := hs
  cases fs with
  | nil => exact absurd hfs id
  | cons f fs =>
    have hF : fs.length + 1 = F := hF
    obtain ⟨b, i, ⟨hf, hpr⟩, hb, hbn, hpc, hi2, hm, hrest⟩ := hfs
    obtain ⟨⟨q1, q2, q3⟩, q4, q5, q6, ⟨wl, w0, w⟩, q8⟩ := hi f hf hpr
    have hb' : B.getD (F - 1) 0 = nI b := by rw [← hF]; exact hb
    have hnext : ∀ i' n' S', i' ≤ (D f).length → n' ≤ 40 → b ≤ n' → S'.length = 40 → (m f ++ [p f + 1 + 1]).getD i' 0 = n' - b + 1 → iv AD a D m p (n', F, a f + i', S', B, R) := fun i' n' S' h1 h2 h3 h4 h5 => ⟨h2, F12, h4, lB, lR, R0, f :: fs, hF, b, i', ⟨hf, hpr⟩, hb, h3, rfl, h1, h5, hrest⟩
    by_cases hend : i = (D f).length
    · subst hend
      rw [gN_r 0 (by omega)] at hm
      have hm : p f + 1 + 1 = n - b + 1 := hm
      have hw : W.getD pc 0 = 10 := by rw [hpc]; exact q6
      have hS : (S.set b (S.getD (n - 1) 0)).length = 40 := by rw [List.length_set]; exact lS
      rcases hrest with rfl | ⟨ret, r1, r2, r3⟩
      · refine ⟨0, _, ⟨⟨by omega, n40, lS, lB, lR⟩, Or.inr (Or.inr (Or.inr (Or.inr (Or.inr (Or.inr ⟨hw, b, 0, 0, hF.symm, F12, hb, by omega, Or.inl ⟨rfl, rfl⟩, ⟨by omega, R0⟩, rfl⟩)))))⟩, fun h => absurd h (by decide)⟩
      · have hne : fs.length ≠ 0 := by
          intro h0
          cases fs with
          | nil => exact r3
          | cons _ _ => cases h0
        refine ⟨-1, _, ⟨⟨by omega, n40, lS, lB, lR⟩, Or.inr (Or.inr (Or.inr (Or.inr (Or.inr (Or.inr ⟨hw, b, fs.length, ret, hF.symm, F12, hb, by omega, Or.inr ⟨hne, rfl⟩, ⟨r2, r1⟩, rfl⟩)))))⟩, fun _ => ?_⟩
        exact ⟨by omega, by omega, hS, lB, lR, R0, fs, rfl, r3⟩
    · have hi3 : i < (D f).length := by omega
      rw [gN_l (by omega)] at hm
      have hw0 : W.getD pc 0 = (D f).getD i 0 := by rw [hpc]; exact q5 i hi3
      have hw1 : i + 1 < (D f).length → W.getD (pc + 1) 0 = (D f).getD (i + 1) 0 := fun h => by rw [hpc, Nat.add_assoc]; exact q5 _ h
      have hc : (pc + 1 < L ∧ n ≤ 40 ∧ S.length = 40 ∧ B.length = 12 ∧ R.length = 12) := ⟨by omega, n40, lS, lB, lR⟩
      rcases w i (n - b) hi3 hm with ⟨w1, w2, w3, w4⟩ | ⟨w1, w2, w3, w4, k, w5, w6⟩ | ⟨⟨k, hk, w1⟩, w2, w3, w4⟩ | ⟨w1, w2, w3, w4, d, w5, w6, w7⟩ | ⟨w1, w2, w3, d, w5, w6, w7⟩ | ⟨w1, w2, w3, k, ⟨w4, w4'⟩, w5, w6, w7⟩
      · by_cases hn : n = 40
        · exact ⟨3, _, ⟨hc, Or.inl ⟨hw0.trans w1, Or.inl ⟨hn, rfl, rfl⟩⟩⟩, fun h => absurd h (by decide)⟩
        · refine ⟨-1, _, ⟨hc, Or.inl ⟨hw0.trans w1, Or.inr ⟨by omega, rfl, rfl⟩⟩⟩, fun _ => ?_⟩
          rw [hpc, Nat.add_assoc]
          exact hnext _ _ _ w4 (by omega) (by omega) (by rw [List.length_set]; exact lS) (by rw [w3]; omega)
      · by_cases hn : n = 40
        · exact ⟨3, _, ⟨hc, Or.inr (Or.inl ⟨hw0.trans w1, b, k, fs.length, hF.symm, F12, hb, (hw1 (by omega)).trans w6, by omega, Or.inl ⟨hn, rfl, rfl⟩⟩)⟩, fun h => absurd h (by decide)⟩
        · refine ⟨-1, _, ⟨hc, Or.inr (Or.inl ⟨hw0.trans w1, b, k, fs.length, hF.symm, F12, hb, (hw1 (by omega)).trans w6, by omega, Or.inr ⟨by omega, rfl, rfl⟩⟩)⟩, fun _ => ?_⟩
          rw [hpc, Nat.add_assoc]
          exact hnext _ _ _ w4 (by omega) (by omega) (by rw [List.length_set]; exact lS) (by rw [w3]; omega)
      · refine ⟨-1, _, ⟨hc, Or.inr (Or.inr (Or.inl ⟨k, hk, hw0.trans w1, by omega, rfl, rfl⟩))⟩, fun _ => ?_⟩
        rw [hpc, Nat.add_assoc]
        exact hnext _ _ _ w4 (by omega) (by omega) (by rw [List.length_set]; exact lS) (by rw [w3]; omega)
      · refine ⟨-1, _, ⟨hc, Or.inr (Or.inr (Or.inr (Or.inl ⟨hw0.trans w1, by omega, rfl, d, (hw1 (by omega)).trans w5, by omega, rfl⟩)))⟩, fun _ => ?_⟩
        by_cases h0 : S.getD (n - 1) 0 = 0
        · rw [if_pos h0, hpc, Nat.add_assoc, Nat.add_assoc]
          exact hnext _ _ _ (by omega) (by omega) (by omega) lS (by rw [← Nat.add_assoc, w7]; omega)
        · rw [if_neg h0, hpc, Nat.add_assoc]
          exact hnext _ _ _ (by omega) (by omega) (by omega) lS (by rw [w3]; omega)
      · refine ⟨-1, _, ⟨hc, Or.inr (Or.inr (Or.inr (Or.inr (Or.inl ⟨hw0.trans w1, rfl, d, (hw1 (by omega)).trans w5, by omega, rfl⟩))))⟩, fun _ => ?_⟩
        rw [hpc, Nat.add_assoc, Nat.add_assoc]
        exact hnext _ _ _ (by omega) (by omega) (by omega) lS (by rw [← Nat.add_assoc, w7])
      · obtain ⟨⟨k1, k2, k3⟩, k4, k5, k6, ⟨kl, k0, kw⟩, k8⟩ := hi k w4 w4'
        obtain ⟨g0, g1, g2, g3⟩ := first_ad w4 k1
        have hgk : g0 = k := k8 g0 (by omega) (by rw [g2, k1])
        subst hgk
        by_cases hF' : F = 12
        · exact ⟨2, _, ⟨hc, Or.inr (Or.inr (Or.inr (Or.inr (Or.inr (Or.inl ⟨hw0.trans w1, by omega, a g0, g0, p g0, (hw1 (by omega)).trans (w5.trans k1), by omega, ⟨w4, k1, g3⟩, k2, by omega, Or.inl ⟨hF', rfl, rfl⟩⟩)))))⟩, fun h => absurd h (by decide)⟩
        · refine ⟨-1, _, ⟨hc, Or.inr (Or.inr (Or.inr (Or.inr (Or.inr (Or.inl ⟨hw0.trans w1, by omega, a g0, g0, p g0, (hw1 (by omega)).trans (w5.trans k1), by omega, ⟨w4, k1, g3⟩, k2, by omega, Or.inr ⟨by omega, rfl, rfl⟩⟩)))))⟩, fun _ => ?_⟩
          refine ⟨n40, by omega, lS, by rw [List.length_set]; exact lB, by rw [List.length_set]; exact lR, by rw [getD_ne (by omega)]; exact R0, g0 :: f :: fs, by simp; omega, n - p g0, 0, ⟨w4, w4'⟩, ?_, by omega, rfl, by omega, ?_, Or.inr ⟨pc + 2, ?_, by omega, ?_⟩⟩
          · rw [show (f :: fs).length = F by simp; omega, getD_set (by omega), if_pos rfl]
          · rw [k0]; omega
          · rw [show (f :: fs).length = F by simp; omega, getD_set (by omega), if_pos rfl]
          · refine fOk.congr (B := B) (R := R) (fun j hj => ⟨getD_ne (by simp at hj; omega), getD_ne (by simp at hj; omega)⟩) ⟨b, i + 2, ⟨hf, hpr⟩, hb, by omega, by omega, w3, by rw [w7]; omega, hrest⟩
end ST
