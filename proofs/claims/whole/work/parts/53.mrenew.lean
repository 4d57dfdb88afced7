/-! The reference's units by latest use; its make as the pure function. -/
def mU (A : Nat → List Int32) (u f : Nat) (U : sU) : Prop := (A 216).getD u 0 = nI U.1.length ∧ (∀ k, k < U.1.length → (A 217).getD (30 * u + k) 0 = U.1.getD k 0) ∧ (∀ h, h < 8 → (A 218).getD (9 * u + h) 0 = if h = f then U.2.1 else U.2.2.1.getD h 0) ∧ (A 219).getD u 0 = nI U.2.2.2.length ∧ ∀ k, k < U.2.2.2.length → (A 220).getD (80 * u + k) 0 = U.2.2.2.getD k 0
/-- a unit that was compiled once -/
def uV (f : Nat) (U : sU) : Prop := ∃ sl t q, sOk sl ∧ ¬ sl.getD f 0 = -1 ∧ (∀ h, h < 8 → nI (h + 11) ∈ U.1 → ¬ sl.getD h 0 = -1) ∧ U.2.1 = sl.getD f 0 ∧ U.2.2.1 = calOf U.1 sl ∧ cOf f U.1 sl = .inr (t, q, U.2.2.2) ∧ U.1.length ≤ 30
/-- signatures and texts -/
def mT (A : Nat → List Int32) (sl : List Int32) (tx : Nat → List Int32) : Prop := (∀ h, h < 8 → ((A 211).getD h 0 = 0 → sl.getD h 0 = -1) ∧ (¬ (A 211).getD h 0 = 0 → sl.getD h 0 = (A 212).getD h 0 ∧ ∃ j, j < 64 ∧ sl.getD h 0 = nI j)) ∧ ∀ f, f < 8 → (tx f).length ≤ 30 ∧ (A 213).getD f 0 = nI (tx f).length ∧ ∀ k, k < (tx f).length → (A 214).getD (30 * f + k) 0 = (tx f).getD k 0
theorem mT.s {A : Nat → List Int32} {sl : List Int32} {tx : Nat → List Int32} (h : mT A sl tx) {f : Nat} (hf : f < 8) : mS A f (tx f).length (fun i => (tx f).getD i 0) ((A 212).getD f 0) (fun h => sl.getD h 0) := by
  obtain ⟨h1, h2⟩ := h
  obtain ⟨a1, a2, a3⟩ := h2 f hf
  exact ⟨hf, a1, a2, a3, rfl, h1⟩
theorem val_pos {j : Nat} (hj : j < 64) : ¬ nI j < 0 := nI_pos (by omega)
theorem fit_iff {A : Nat → List Int32} {sl : List Int32} {tx : Nat → List Int32} (h : mT A sl tx) {f u : Nat} (hf : f < 8) {U : sU} (hV : uV f U) (hU : mU A u f U) (hu : ¬ (A 215).getD u 0 ≤ 0) : mFit A u f (tx f).length ↔ uFit f sl (tx f) U = true := by
  obtain ⟨sl0, t0, q0, hok, hsf, hca, hown, hcal, hcof, hlen⟩ := hV
  obtain ⟨u1, u2, u3, u4, u5⟩ := hU
  obtain ⟨h1, h2⟩ := h
  obtain ⟨a1, a2, a3⟩ := h2 f hf
  obtain ⟨jf, hjf, hsf0⟩ := (hok.2 f hf).resolve_left hsf
  have hcalg : ∀ g, g < 8 → U.2.2.1.getD g 0 = if nI (g + 11) ∈ U.1 then sl0.getD g 0 else -1 := fun g hg => by rw [hcal]; exact calOf_at U.1 sl0 hg
  rw [uFit_iff]
  constructor
  · rintro ⟨⟨_, f1⟩, f2, f3⟩
    have hll : U.1.length = (tx f).length := by
      rw [u1, a2] at f1
      exact (nI_eq (by omega) (by omega)).mp f1
    have ht : U.1 = tx f := ext_getD hll fun k hk => by rw [← u2 k hk, f2 k (by omega), a3 k (by omega)]
    have hown2 : U.2.1 = sl.getD f 0 := by
      have hh := f3 f hf
      rw [u3 f hf, if_pos rfl] at hh
      rcases hh with hh | ⟨hh1, hh2⟩
      · rw [hown, hsf0] at hh
        exact absurd hh (val_pos hjf)
      · rw [hh2, ((h1 f hf).2 hh1).1]
    refine ⟨hown2, ht, fun g hg => ?_⟩
    by_cases hm : nI (g + 11) ∈ U.1
    · right
      have hne := hca g hg hm
      obtain ⟨j, hj, hsj⟩ := (hok.2 g hg).resolve_left hne
      have hcg : U.2.2.1.getD g 0 = nI j := by rw [hcalg g hg, if_pos hm, hsj]
      by_cases hgf : g = f
      · subst hgf
        rw [hcg, ← hown2, hown, hsj]
      · have hh := f3 g hg
        rw [u3 g hg, if_neg hgf, hcg] at hh
        rcases hh with hh | ⟨hh1, hh2⟩
        · exact absurd hh (val_pos hj)
        · rw [hcg, hh2, ((h1 g hg).2 hh1).1]
    · left
      rw [hcalg g hg, if_neg hm]
  · rintro ⟨f1, f2, f3⟩
    refine ⟨⟨hu, by rw [u1, a2, f2]⟩, fun k hk => ?_, fun g hg => ?_⟩
    · rw [a3 k hk, u2 k (by rw [f2]; exact hk), f2]
    · have hthere : ∀ j, j < 64 → sl.getD g 0 = nI j → ¬ (A 211).getD g 0 = 0 := fun j hj hs h0 => by
        have := (h1 g hg).1 h0
        rw [hs] at this
        exact nI_m1 j hj this
      rw [u3 g hg]
      by_cases hgf : g = f
      · subst hgf
        rw [if_pos rfl, f1]
        right
        have := hthere jf hjf (by rw [← f1, hown, hsf0])
        exact ⟨this, ((h1 g hg).2 this).1⟩
      · rw [if_neg hgf]
        by_cases hm : nI (g + 11) ∈ U.1
        · have hne := hca g hg hm
          obtain ⟨j, hj, hsj⟩ := (hok.2 g hg).resolve_left hne
          have hcg : U.2.2.1.getD g 0 = nI j := by rw [hcalg g hg, if_pos hm, hsj]
          have hcs : U.2.2.1.getD g 0 = sl.getD g 0 := (f3 g hg).resolve_left (by rw [hcg]; exact nI_m1 j hj)
          right
          have := hthere j hj (by rw [← hcs, hcg])
          exact ⟨this, by rw [hcs]; exact ((h1 g hg).2 this).1⟩
        · left
          rw [hcalg g hg, if_neg hm]
          decide
/-- two kept units of a function that fit are the same -/
theorem fit_key {sl t : List Int32} {f : Nat} {U : sU} (hV : uV f U) (h : uFit f sl t U = true) : U.1 = t ∧ U.2.1 = sl.getD f 0 ∧ U.2.2.1 = calOf t sl := by
  obtain ⟨sl0, t0, q0, hok, hsf, hca, hown, hcal, hcof, hlen⟩ := hV
  obtain ⟨f1, f2, f3⟩ := (uFit_iff f sl t U).mp h
  refine ⟨f2, f1, ext_getD (by rw [hcal, calOf_len, calOf_len]) fun g hg => ?_⟩
  have hg8 : g < 8 := by rw [hcal, calOf_len] at hg; exact hg
  rw [calOf_at t sl hg8]
  have hcg : U.2.2.1.getD g 0 = if nI (g + 11) ∈ U.1 then sl0.getD g 0 else -1 := by rw [hcal]; exact calOf_at U.1 sl0 hg8
  by_cases hm : nI (g + 11) ∈ t
  · rw [if_pos hm]
    have hm' : nI (g + 11) ∈ U.1 := by rw [f2]; exact hm
    refine (f3 g hg8).resolve_left ?_
    rw [hcg, if_pos hm']
    exact hca g hg8 hm'
  · rw [if_neg hm, hcg, if_neg (by rw [f2]; exact hm)]
/-- the reference's slots of function f: slot, stamp and unit, by latest use -/
def mSl (A : Nat → List Int32) (f st : Nat) (qs : List (Nat × Nat × sU)) : Prop := qs.length ≤ 3 ∧ (∀ q, q ∈ qs → (3 * f ≤ q.1 ∧ q.1 < 3 * f + 3) ∧ (A 215).getD q.1 0 = nI q.2.1 ∧ (0 < q.2.1 ∧ q.2.1 ≤ st) ∧ mU A q.1 f q.2.2) ∧ (qs.Pairwise fun a b => b.2.1 < a.2.1 ∧ a.1 ≠ b.1) ∧ ∀ s, 3 * f ≤ s → s < 3 * f + 3 → (∀ q, q ∈ qs → q.1 ≠ s) → (A 215).getD s 0 = 0
/-- the units are sound and differ -/
def uO (f : Nat) (us : List sU) : Prop := (∀ U, U ∈ us → uV f U) ∧ us.Pairwise fun U V => ¬ (U.1 = V.1 ∧ U.2.1 = V.2.1 ∧ U.2.2.1 = V.2.2.1)
/-- the reference's desk but for image and run -/
def mR (g : Nat → Int32) (A : Nat → List Int32) (sl : List Int32) (tx : Nat → List Int32) (us : Nat → List sU) (st : Nat) : Prop := mT A sl tx ∧ g 11 = nI st ∧ ∀ f, f < 8 → uO f (us f) ∧ ∃ qs, mSl A f st qs ∧ us f = qs.map fun q => q.2.2
/-- slot s is the same -/
def sSame (A A2 : Nat → List Int32) (s : Nat) : Prop := (A2 215).getD s 0 = (A 215).getD s 0 ∧ (A2 216).getD s 0 = (A 216).getD s 0 ∧ (∀ k, k < 30 → (A2 217).getD (30 * s + k) 0 = (A 217).getD (30 * s + k) 0) ∧ (∀ h, h < 8 → (A2 218).getD (9 * s + h) 0 = (A 218).getD (9 * s + h) 0) ∧ (A2 219).getD s 0 = (A 219).getD s 0 ∧ ∀ k, k < 80 → (A2 220).getD (80 * s + k) 0 = (A 220).getD (80 * s + k) 0
theorem uV.len {f : Nat} {U : sU} (h : uV f U) : U.1.length ≤ 30 ∧ U.2.2.2.length ≤ 80 := by
  obtain ⟨sl0, t0, q0, hok, hsf, hca, hown, hcal, hcof, hlen⟩ := h
  exact ⟨hlen, (cAll_len hcof hlen).1⟩
theorem mU.congr {A A2 : Nat → List Int32} {s f : Nat} {U : sU} (h : mU A s f U) (hs : sSame A A2 s) (hV : uV f U) : mU A2 s f U := by
  obtain ⟨u1, u2, u3, u4, u5⟩ := h
  obtain ⟨s1, s2, s3, s4, s5, s6⟩ := hs
  obtain ⟨l1, l2⟩ := hV.len
  exact ⟨by rw [s2]; exact u1, fun k hk => by rw [s3 k (by omega)]; exact u2 k hk, fun h hh => by rw [s4 h hh]; exact u3 h hh, by rw [s5]; exact u4, fun k hk => by rw [s6 k (by omega)]; exact u5 k hk⟩
theorem mSl.congr {A A2 : Nat → List Int32} {f st st2 : Nat} {qs : List (Nat × Nat × sU)} (h : mSl A f st qs) (hV : ∀ q, q ∈ qs → uV f q.2.2) (hs : ∀ s, 3 * f ≤ s → s < 3 * f + 3 → sSame A A2 s) (hst : st ≤ st2) : mSl A2 f st2 qs := by
  obtain ⟨a1, a2, a3, a4⟩ := h
  refine ⟨a1, fun q hq => ?_, a3, fun s h1 h2 h3 => by rw [(hs s h1 h2).1]; exact a4 s h1 h2 h3⟩
  obtain ⟨b1, b2, b3, b4⟩ := a2 q hq
  exact ⟨b1, by rw [(hs q.1 b1.1 b1.2).1]; exact b2, ⟨b3.1, by omega⟩, b4.congr (hs q.1 b1.1 b1.2) (hV q hq)⟩
