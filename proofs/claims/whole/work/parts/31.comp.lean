/-! The reference while it compiles: depth dd, fault fk at fp, code c, rows R (open, part, from, second, hole); g0, A0: all that stays. -/
section BYES
variable {P : ux_P} {sc : List Int32} {d i : Nat} {ls st : List Value} {E : ux_Ev} {x z : Nat} {w : Bool} {K : ux_K1} {p q : Nat}
theorem ux_Byes {c : Prop} {_ : Decidable c} (h : c) (k : ux_B P sc d i p ls st E x z w K) : ux_B P sc d i (if decide c = true then p else q) ls st E x z w K := by
  rw [if_pos (decide_eq_true h)]; exact k
theorem ux_Bno {c : Prop} {_ : Decidable c} (h : ¬ c) (k : ux_B P sc d i q ls st E x z w K) : ux_B P sc d i (if decide c = true then p else q) ls st E x z w K := by
  rw [if_neg (by simpa using h)]; exact k
end BYES
def mq (E0 : ux_Ev) (g0 : Nat → Int32) (A0 : Nat → List Int32) (dd : Nat) (fk fp : Int32) (c : List Int32) (R : Nat → List Int32) (E : ux_Ev) : Prop :=
  ∃ g A, md E0 g A E ∧ (∀ j, j ≠ 26 → j ≠ 28 → j ≠ 29 → j ≠ 30 → g j = g0 j) ∧ (∀ a, a < 229 ∨ 234 < a → A a = A0 a) ∧ g 26 = nI dd ∧ g 28 = nI c.length ∧ g 29 = fk ∧ g 30 = fp ∧ (∃ t, A 234 = c ++ t) ∧ ∀ r, 229 ≤ r → r ≤ 233 → A r = R r
section MQ
variable {sc : List Int32} {d i pc : Nat} {ls st : List Value} {E0 E : ux_Ev} {g0 : Nat → Int32} {A0 : Nat → List Int32} {dd : Nat} {fk fp : Int32} {c : List Int32} {R : Nat → List Int32} {x z : Nat} {w : Bool} {K : ux_K1}
theorem mq_Bv (m : mq E0 g0 A0 dd fk fp c R E) {k j n : Nat} {as r0 : List Value} (hi : uxP.1 i pc = some (.invokevirtual k, 3)) (hg : uxP.2.2.1 i k = some (107, j, n)) (hd : st.drop n = .ref 210 :: r0) (has : .ref 210 :: (st.take n).reverse = as) (hc : ux_cb uxP j as r0 = true)
    (hm : ux_Bm uxP sc d j as E x z (fun o E1 x1 z1 w1 => match o with
      | .inr v => ux_B uxP sc (d + 1) i (pc + 3) ls (v.toList ++ r0) E1 x1 z1 (w || w1) K
      | .inl k => (uxP.2.2.2.2.2.2 i).2.2 = [] ∧ K (.inl k) E1 x1 z1 true)) : ux_B uxP sc (d + 1) i pc ls st E x z w K := by
  obtain ⟨g, A, h, _⟩ := m
  exact ux_Bv hi hg hd h.1 rfl (by decide) has hc hm
theorem mq_Bref (m : mq E0 g0 A0 dd fk fp c R E) {k j : Nat} {q : Bool} {v : Value} (hi : uxP.1 i pc = some (.getfield k, 3)) (hf : uxP.2.1 i k = some (7, j, q)) (hv : ∀ g, (md_F g)[j]? = some v) (kk : ux_B uxP sc d i (pc + 3) ls (v :: st) E x z w K) : ux_B uxP sc d i pc ls (.ref 210 :: st) E x z w K := by
  obtain ⟨g, A, h, _⟩ := m
  exact ux_Bget hi hf h.1 (hv g) kk
theorem mq_Bdepth (m : mq E0 g0 A0 dd fk fp c R E) {k : Nat} {q : Bool} (hi : uxP.1 i pc = some (.getfield k, 3)) (hf : uxP.2.1 i k = some (7, 26, q)) (kk : ux_B uxP sc d i (pc + 3) ls (.int (nI dd) :: st) E x z w K) : ux_B uxP sc d i pc ls (.ref 210 :: st) E x z w K := by
  obtain ⟨g, A, h, _, _, h26, _⟩ := m
  refine ux_Bget hi hf h.1 (v := .int (g 26)) rfl ?_
  rw [h26]; exact kk
theorem mq_Bsize (m : mq E0 g0 A0 dd fk fp c R E) {k : Nat} {q : Bool} (hi : uxP.1 i pc = some (.getfield k, 3)) (hf : uxP.2.1 i k = some (7, 28, q)) (kk : ux_B uxP sc d i (pc + 3) ls (.int (nI c.length) :: st) E x z w K) : ux_B uxP sc d i pc ls (.ref 210 :: st) E x z w K := by
  obtain ⟨g, A, h, _, _, _, h28, _⟩ := m
  refine ux_Bget hi hf h.1 (v := .int (g 28)) rfl ?_
  rw [h28]; exact kk
theorem mq_Bfault (m : mq E0 g0 A0 dd fk fp c R E) {k : Nat} {q : Bool} (hi : uxP.1 i pc = some (.getfield k, 3)) (hf : uxP.2.1 i k = some (7, 29, q)) (kk : ux_B uxP sc d i (pc + 3) ls (.int fk :: st) E x z w K) : ux_B uxP sc d i pc ls (.ref 210 :: st) E x z w K := by
  obtain ⟨g, A, h, _, _, _, _, h29, _⟩ := m
  refine ux_Bget hi hf h.1 (v := .int (g 29)) rfl ?_
  rw [h29]; exact kk
theorem mq_ildA (m : mq E0 g0 A0 dd fk fp c R E) (a n : Nat) {j : Int32} (hi : uxP.1 i pc = some (.iaload, 1)) (h1 : 212 ≤ a ∧ a ≤ 237 ∧ (a < 229 ∨ 234 < a)) (hn : n < md_sz a) (hj : j = nI n) (kk : ux_B uxP sc d i (pc + 1) ls (.int ((A0 a).getD n 0) :: st) E x z w K) : ux_B uxP sc d i pc ls (.int j :: .ref a :: st) E x z w K := by
  obtain ⟨g, A, h, _, hA, _⟩ := m
  refine mr_ild h a n hi ⟨h1.1, h1.2.1⟩ hn hj ?_
  rw [hA a h1.2.2]; exact kk
theorem mq_ildR (m : mq E0 g0 A0 dd fk fp c R E) (a n : Nat) {j : Int32} (hi : uxP.1 i pc = some (.iaload, 1)) (h1 : 229 ≤ a ∧ a ≤ 233) (hn : n < 32) (hj : j = nI n) (kk : ux_B uxP sc d i (pc + 1) ls (.int ((R a).getD n 0) :: st) E x z w K) : ux_B uxP sc d i pc ls (.int j :: .ref a :: st) E x z w K := by
  obtain ⟨g, A, h, _, _, _, _, _, _, _, hR⟩ := m
  have hs : md_sz a = 32 := by
    have : a = 229 ∨ a = 230 ∨ a = 231 ∨ a = 232 ∨ a = 233 := by omega
    rcases this with rfl | rfl | rfl | rfl | rfl <;> rfl
  refine mr_ild h a n hi ⟨by omega, by omega⟩ (by rw [hs]; exact hn) hj ?_
  rw [hR a h1.1 h1.2]; exact kk
theorem mq_istR (m : mq E0 g0 A0 dd fk fp c R E) (a n : Nat) {j y : Int32} (hi : uxP.1 i pc = some (.iastore, 1)) (h1 : 229 ≤ a ∧ a ≤ 233) (hn : n < 32) (hj : j = nI n) (kk : ∀ E', mq E0 g0 A0 dd fk fp c (fU R a ((R a).set n y)) E' → ux_B uxP sc d i (pc + 1) ls st E' x z true K) : ux_B uxP sc d i pc ls (.int y :: .int j :: .ref a :: st) E x z w K := by
  obtain ⟨g, A, h, hg, hA, h26, h28, h29, h30, ht, hR⟩ := m
  have hs : md_sz a = 32 := by
    have : a = 229 ∨ a = 230 ∨ a = 231 ∨ a = 232 ∨ a = 233 := by omega
    rcases this with rfl | rfl | rfl | rfl | rfl <;> rfl
  refine mr_ist h a n hi ⟨by omega, by omega⟩ (by rw [hs]; exact hn) hj fun E' m' => kk E' ⟨g, _, m', hg, fun b hb => ?_, h26, h28, h29, h30, ?_, fun r hr1 hr2 => ?_⟩
  · rw [fU_ne _ _ (by omega)]; exact hA b hb
  · rw [fU_ne _ _ (by omega)]; exact ht
  · by_cases hra : r = a
    · subst hra; rw [fU_at, fU_at, hR r hr1 hr2]
    · rw [fU_ne _ _ hra, fU_ne _ _ hra]; exact hR r hr1 hr2
/-- a word already written is written anew -/
theorem mq_patch (m : mq E0 g0 A0 dd fk fp c R E) (n : Nat) {j y : Int32} (hi : uxP.1 i pc = some (.iastore, 1)) (hn : n < c.length) (hj : j = nI n) (kk : ∀ E', mq E0 g0 A0 dd fk fp (c.set n y) R E' → ux_B uxP sc d i (pc + 1) ls st E' x z true K) : ux_B uxP sc d i pc ls (.int y :: .int j :: .ref 234 :: st) E x z w K := by
  obtain ⟨g, A, h, hg, hA, h26, h28, h29, h30, ⟨t, ht⟩, hR⟩ := m
  have hl := h.len 234 (by decide)
  rw [ht, List.length_append] at hl
  have hl' : c.length + t.length = 80 := hl
  refine mr_ist h 234 n hi (by decide) (show n < 80 by omega) hj fun E' m' => kk E' ⟨g, _, m', hg, fun b hb => ?_, h26, ?_, h29, h30, ⟨t, ?_⟩, fun r hr1 hr2 => ?_⟩
  · rw [fU_ne _ _ (by omega)]; exact hA b hb
  · rw [List.length_set]; exact h28
  · rw [fU_at, ht, List.set_append_left _ _ hn]
  · rw [fU_ne _ _ (by omega)]; exact hR r hr1 hr2
theorem mq_zld (m : mq E0 g0 A0 dd fk fp c R E) (n : Nat) {j : Int32} (hi : uxP.1 i pc = some (.baload, 1)) (hn : n < 8) (hj : j = nI n) (kk : ux_B uxP sc d i (pc + 1) ls (.int ((A0 211).getD n 0) :: st) E x z w K) : ux_B uxP sc d i pc ls (.int j :: .ref 211 :: st) E x z w K := by
  obtain ⟨g, A, h, _, hA, _⟩ := m
  refine mr_zld h n hi hn hj ?_
  rw [hA 211 (by decide)]; exact kk
theorem mq_putdepth (m : mq E0 g0 A0 dd fk fp c R E) (n : Nat) {k : Nat} {y : Int32} (hi : uxP.1 i pc = some (.putfield k, 3)) (hf : uxP.2.1 i k = some (7, 26, false)) (hp : uxP.2.2.2.1 i (200000 + k) = some 2000) (hy : y = nI n) (kk : ∀ E', mq E0 g0 A0 n fk fp c R E' → ux_B uxP sc d i (pc + 3) ls st E' x z true K) : ux_B uxP sc d i pc ls (.int y :: .ref 210 :: st) E x z w K := by
  obtain ⟨g, A, h, hg, hA, h26, h28, h29, h30, ht, hR⟩ := m
  subst hy
  exact mr_put h hi hf hp (by decide) rfl fun E' m' => kk E' ⟨_, A, m', fun j a b e f => by rw [fU_ne _ _ a]; exact hg j a b e f, hA, fU_at _ _ _, h28, h29, h30, ht, hR⟩
theorem mq_parameters (m : mq E0 g0 A0 dd fk fp c R E) (f : Nat) (hf : f < 8) (hK : K (.inr (some (.int ((A0 212).getD f 0 &&& 3)))) E x z false) : ux_Bm uxP sc d 96 [.ref 210, .int (nI f)] E x z K := by
  obtain ⟨g, A, h, _, hA, _⟩ := m
  refine mo_parameters h f hf ?_
  rw [hA 212 (by decide)]; exact hK
theorem mq_typeOf (m : mq E0 g0 A0 dd fk fp c R E) (f : Nat) (hf : f < 8) (k : Int32) (hK : K (.inr (some (.int (((A0 212).getD f 0 >>> ((2 + k) &&& 31)) &&& 1)))) E x z false) : ux_Bm uxP sc d 97 [.ref 210, .int (nI f), .int k] E x z K := by
  obtain ⟨g, A, h, _, hA, _⟩ := m
  refine mo_typeOf h f hf k ?_
  rw [hA 212 (by decide)]; exact hK
theorem mq_resultOf (m : mq E0 g0 A0 dd fk fp c R E) (f : Nat) (hf : f < 8) (hK : K (.inr (some (.int ((A0 212).getD f 0 >>> ((5 : Int32) &&& 31))))) E x z false) : ux_Bm uxP sc d 101 [.ref 210, .int (nI f)] E x z K := by
  obtain ⟨g, A, h, _, hA, _⟩ := m
  refine mo_resultOf h f hf ?_
  rw [hA 212 (by decide)]; exact hK
theorem mq_wrong (m : mq E0 g0 A0 dd 0 fp c R E) (y q : Int32) (hK : ∀ E' w', mq E0 g0 A0 dd y q c R E' → K (.inr none) E' x z w') : ux_Bm uxP sc d 93 [.ref 210, .int y, .int q] E x z K := by
  obtain ⟨g, A, h, hg, hA, h26, h28, h29, h30, ht, hR⟩ := m
  refine mo_wrong h y q fun E' w' m' => hK E' w' ?_
  rw [h29, if_neg (by decide)] at m'
  exact ⟨_, A, m', fun j a b e f => by rw [fU_ne _ _ f, fU_ne _ _ e]; exact hg j a b e f, hA, h26, h28, rfl, rfl, ht, hR⟩
theorem mq_emit (m : mq E0 g0 A0 dd fk fp c R E) (y : Int32) (hc : c.length < 80) (hK : ∀ E', mq E0 g0 A0 dd fk fp (c ++ [y]) R E' → K (.inr none) E' x z true) : ux_Bm uxP sc d 95 [.ref 210, .int y] E x z K := by
  obtain ⟨g, A, h, hg, hA, h26, h28, h29, h30, ⟨t, ht⟩, hR⟩ := m
  have hl := h.len 234 (by decide)
  rw [ht, List.length_append] at hl
  have hl' : c.length + t.length = 80 := hl
  refine mo_emit h y c.length hc h28 fun E' m' => hK E' ⟨_, _, m', fun j a b e f => ?_, fun b hb => ?_, h26, ?_, h29, h30, ?_, fun r hr1 hr2 => ?_⟩
  · rw [fU_ne _ _ b]; exact hg j a b e f
  · rw [fU_ne _ _ (by omega)]; exact hA b hb
  · rw [fU_at, List.length_append]; rfl
  · cases t with
    | nil => simp at hl'; omega
    | cons a t => exact ⟨t, by rw [fU_at, ht]; simp⟩
  · rw [fU_ne _ _ (by omega)]; exact hR r hr1 hr2
theorem mq_begins (m : mq E0 g0 A0 dd fk fp c R E) (y q : Int32) (hd : dd < 32) (hK : ∀ E', mq E0 g0 A0 (dd + 1) fk fp c (fU (fU (fU R 229 ((R 229).set dd y)) 230 ((R 230).set dd 0)) 231 ((R 231).set dd q)) E' → K (.inr none) E' x z true) : ux_Bm uxP sc d 99 [.ref 210, .int y, .int q] E x z K := by
  obtain ⟨g, A, h, hg, hA, h26, h28, h29, h30, ht, hR⟩ := m
  refine mo_begins h y q dd hd h26 fun E' m' => hK E' ⟨_, _, m', fun j a b e f => ?_, fun b hb => ?_, fU_at _ _ _, h28, h29, h30, ht, fun r hr1 hr2 => ?_⟩
  · rw [fU_ne _ _ a]; exact hg j a b e f
  · rw [fU_ne _ _ (by omega), fU_ne _ _ (by omega), fU_ne _ _ (by omega)]; exact hA b hb
  · by_cases h1 : r = 231
    · subst h1; rw [fU_at, fU_at, hR 231 hr1 hr2]
    · rw [fU_ne _ _ h1, fU_ne _ _ h1]
      by_cases h2 : r = 230
      · subst h2; rw [fU_at, fU_at, hR 230 hr1 hr2]
      · rw [fU_ne _ _ h2, fU_ne _ _ h2]
        by_cases h3 : r = 229
        · subst h3; rw [fU_at, fU_at, hR 229 hr1 hr2]
        · rw [fU_ne _ _ h3, fU_ne _ _ h3]; exact hR r hr1 hr2
end MQ
