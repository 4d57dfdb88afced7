/-! The reference's build: its loop. -/
def rOut (r : Int32 × Int32 × Int32) : Prop := r.2.2 = 0 ∨ ¬ r.1 = 0
/-- the size of what is chosen -/
def zF (r : Int32 × Int32 × Int32) (l : List sU) : Nat := if r.2.2 = 0 then 0 else if r.1 = 0 then (match l with
  | U :: _ => U.2.2.2.length
  | [] => 0) else 0
def zN (z : Nat → Nat) : Nat → Nat
  | 0 => 0
  | n + 1 => zN z n + z n
theorem zF_out {r : Int32 × Int32 × Int32} {l : List sU} (h : rOut r) : zF r l = 0 := by
  unfold zF
  rcases h with h | h
  · rw [if_pos h]
  · by_cases h0 : r.2.2 = 0
    · rw [if_pos h0]
    · rw [if_neg h0, if_neg h]
theorem zF_in {r : Int32 × Int32 × Int32} {U : sU} {l : List sU} (h : ¬ rOut r) : zF r (U :: l) = U.2.2.2.length := by
  unfold zF
  have h1 : ¬ r.2.2 = 0 := fun e => h (Or.inl e)
  have h2 : r.1 = 0 := Decidable.not_not.mp fun e => h (Or.inr e)
  rw [if_neg h1, if_pos h2]
/-- what is chosen for f -/
def chG (A : Nat → List Int32) (f : Nat) (r : Int32 × Int32 × Int32) (l : List sU) : Prop := (rOut r → (A 224).getD f 0 = -1) ∧ (¬ rOut r → ∃ u U rs, (A 224).getD f 0 = nI u ∧ (3 * f ≤ u ∧ u < 3 * f + 3) ∧ l = U :: rs ∧ mU A u f U)
section MB
variable {sc : List Int32} {d : Nat} {E0 E : ux_Ev} {g : Nat → Int32} {A : Nat → List Int32} {x z : Nat} {w : Bool} {K : ux_K1} {st : Nat} {sl : List Int32} {tx : Nat → List Int32} {us : Nat → List sU}
def mB (E0 : ux_Ev) (g : Nat → Int32) (A : Nat → List Int32) (sl : List Int32) (tx : Nat → List Int32) (us : Nat → List sU) (st n : Nat) (E' : ux_Ev) (g' : Nat → Int32) (A' : Nat → List Int32) (st' : Nat) : Prop :=
  md E0 g' A' E' ∧ mR g' A' sl tx (usN sl tx us n) st' ∧ (st ≤ st' ∧ st' ≤ st + n) ∧ A' 221 = rwN (fun f => (rnR f sl (tx f) (us f)).1) n (A 221) ∧ A' 222 = rwN (fun f => (rnR f sl (tx f) (us f)).2.1) n (A 222) ∧ A' 223 = rwN (fun f => (rnR f sl (tx f) (us f)).2.2) n (A 223) ∧ A' 225 = ctN rnM (fun f => rnR f sl (tx f) (us f)) n (A 225) ∧ (∀ f, f < n → chG A' f (rnR f sl (tx f) (us f)) (rnU f sl (tx f) (us f))) ∧ (∀ a, a < 215 ∨ (226 ≤ a ∧ a ≤ 228) ∨ 234 < a → A' a = A a) ∧ ∀ j, j ≠ 11 → j ≠ 26 → j ≠ 28 → j ≠ 29 → j ≠ 30 → g' j = g j
theorem mo_loop (hok : sOk sl) (hst : st < 50000)
    (hK : ∀ E' w' g' A' st', mB E0 g A sl tx us st 8 E' g' A' st' → ux_B uxP sc (d + 4) 88 74 [.ref 210, .int (nI (zN (fun f => zF (rnR f sl (tx f) (us f)) (rnU f sl (tx f) (us f))) 8)), .int (nI 8)] [] E' x z w' K) :
    ∀ m n E1 w g1 A1 st1, n + m = 8 → mB E0 g A sl tx us st n E1 g1 A1 st1 → zN (fun f => zF (rnR f sl (tx f) (us f)) (rnU f sl (tx f) (us f))) n ≤ 80 * n → ux_B uxP sc (d + 4) 88 30 [.ref 210, .int (nI (zN (fun f => zF (rnR f sl (tx f) (us f)) (rnU f sl (tx f) (us f))) n)), .int (nI n)] [] E1 x z w K := by
  intro m
  induction m with
  | zero =>
    intro n E1 w g1 A1 st1 hn hB _
    have : n = 8 := by omega
    subst this
    refine ux_BN 3 rfl ?_
    refine ux_Byes (by decide) ?_
    exact hK _ _ _ _ _ hB
  | succ m ih =>
    intro n E1 w g1 A1 st1 hn hB hz
    obtain ⟨b1, b2, b3, b4, b5, b6, b7, b8, b9, b10⟩ := hB
    refine ux_BN 3 rfl ?_
    refine ux_Bno (nI_ge (show n < 8 by omega) (by decide)) ?_
    refine ux_BN 2 rfl ?_
    refine ux_Bv rfl rfl rfl b1.1 rfl (by decide) rfl rfl ?_
    refine mo_make2 b1 b2 hok (by omega) (show n < 8 by omega) fun E2 w2 g2 A2 st2 m2 R2 s1 s2 made hg2 => ?_
    rw [usN_at, usN_s] at R2
    rw [usN_at] at made
    obtain ⟨e1, e2, e3, e4, ⟨v, e5, e6, e7⟩, e8, e9⟩ := made
    have hl224 : (A1 224).length = 8 := b1.len 224 (by decide)
    have h224 : ∀ f, (A2 224).getD f 0 = if f = n then v else (A1 224).getD f 0 := fun f => by rw [e5, getD_set (by omega)]
    have hch : ∀ f, f < n + 1 → chG A2 f (rnR f sl (tx f) (us f)) (rnU f sl (tx f) (us f)) := by
      intro f hf
      by_cases hfn : f = n
      · subst hfn
        refine ⟨fun h => by rw [h224, if_pos rfl]; exact e6 h, fun h => ?_⟩
        obtain ⟨u, U, rs, c1, c2, c3, c4⟩ := e7 h
        exact ⟨u, U, rs, by rw [h224, if_pos rfl]; exact c1, c2, c3, c4⟩
      · obtain ⟨c1, c2⟩ := b8 f (by omega)
        refine ⟨fun h => by rw [h224, if_neg hfn]; exact c1 h, fun h => ?_⟩
        obtain ⟨u, U, rs, d1, d2, d3, d4⟩ := c2 h
        refine ⟨u, U, rs, by rw [h224, if_neg hfn]; exact d1, d2, d3, d4.congr (e9 u (by omega)) ?_⟩
        have hO := (R2.2.2 f (by omega)).1
        rw [show usN sl tx us (n + 1) f = rnU f sl (tx f) (us f) from if_pos (by omega), d3] at hO
        exact hO.1 U (by simp)
    have hB2 : mB E0 g A sl tx us st (n + 1) E2 g2 A2 st2 := ⟨m2, R2, ⟨by omega, by omega⟩, by rw [e1, b4]; rfl, by rw [e2, b5]; rfl, by rw [e3, b6]; rfl, by rw [e4, b7]; rfl, hch, fun a ha => by rw [e8 a ha, b9 a ha], fun j j1 j2 j3 j4 j5 => by rw [hg2 j j1 j2 j3 j4 j5, b10 j j1 j2 j3 j4 j5]⟩
    obtain ⟨q1, q2⟩ := hch n (by omega)
    have hnext : ∀ (y : Nat) (w : Bool), y = zF (rnR n sl (tx n) (us n)) (rnU n sl (tx n) (us n)) → y ≤ 80 → ux_B uxP sc (d + 4) 88 66 [.ref 210, .int (nI (zN (fun f => zF (rnR f sl (tx f) (us f)) (rnU f sl (tx f) (us f))) n)), .int (nI n)] [.int (nI y), .int (nI (zN (fun f => zF (rnR f sl (tx f) (us f)) (rnU f sl (tx f) (us f))) n))] E2 x z w K := by
      intro y w hy hy80
      refine ux_BN 1 rfl ?_
      refine ux_Btop (nI (zN (fun f => zF (rnR f sl (tx f) (us f)) (rnU f sl (tx f) (us f))) (n + 1))) (by
        show nI _ + nI _ = _
        rw [nI_add, hy]; rfl) ?_
      refine ux_BN 3 rfl ?_
      have := fun w => ih (n + 1) E2 w g2 A2 st2 (by omega) hB2 (by
        show zN _ n + zF _ _ ≤ _
        rw [← hy]; omega)
      rw [← nI_s n] at this
      exact this _
    refine ux_BN 2 rfl ?_
    refine ux_Bget rfl rfl m2.1 rfl ?_
    refine ux_BN 1 rfl ?_
    refine mr_ild m2 224 n rfl (by decide) (show n < 8 by omega) rfl ?_
    by_cases hout : rOut (rnR n sl (tx n) (us n))
    · rw [q1 hout]
      refine ux_BN 1 rfl ?_
      refine ux_Bno (by decide) ?_
      refine ux_BN 2 rfl ?_
      exact hnext 0 _ (zF_out hout).symm (by omega)
    · obtain ⟨u, U, rs, d1, d2, d3, d4⟩ := q2 hout
      have hVU : uV n U := by
        have hO := (R2.2.2 n (by omega)).1
        rw [show usN sl tx us (n + 1) n = rnU n sl (tx n) (us n) from if_pos (by omega), d3] at hO
        exact hO.1 U (by simp)
      rw [d1]
      refine ux_BN 1 rfl ?_
      refine ux_Byes (nI_pos' (by omega)) ?_
      refine ux_BN 1 rfl ?_
      refine ux_Bget rfl rfl m2.1 rfl ?_
      refine ux_BN 1 rfl ?_
      refine ux_Bget rfl rfl m2.1 rfl ?_
      refine ux_BN 1 rfl ?_
      refine mr_ild m2 224 n rfl (by decide) (show n < 8 by omega) rfl ?_
      rw [d1]
      refine mr_ild m2 219 u rfl (by decide) (show u < 24 by omega) rfl ?_
      rw [d4.2.2.2.1]
      exact hnext _ _ (by rw [d3, zF_in hout]) hVU.len.2
end MB
