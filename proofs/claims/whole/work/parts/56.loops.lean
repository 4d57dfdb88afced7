/-! build's loop over the functions, on both sides. -/
def rwN (g : Nat → Int32) : Nat → List Int32 → List Int32
  | 0, l => l
  | n + 1, l => (rwN g n l).set n (g n)
def ctN (k : Int32 × Int32 × Int32 → List Int32 → List Int32) (r : Nat → Int32 × Int32 × Int32) : Nat → List Int32 → List Int32
  | 0, l => l
  | n + 1, l => k (r n) (ctN k r n l)
def usN (sl : List Int32) (tx : Nat → List Int32) (us : Nat → List sU) (n : Nat) : Nat → List sU := fun f => if f < n then rnU f sl (tx f) (us f) else us f
theorem usN_0 (sl : List Int32) (tx : Nat → List Int32) (us : Nat → List sU) : usN sl tx us 0 = us := funext fun f => if_neg (by omega)
theorem usN_at (sl : List Int32) (tx : Nat → List Int32) (us : Nat → List sU) (n : Nat) : usN sl tx us n n = us n := if_neg (by omega)
theorem usN_s (sl : List Int32) (tx : Nat → List Int32) (us : Nat → List sU) (n : Nat) : fU (usN sl tx us n) n (rnU n sl (tx n) (us n)) = usN sl tx us (n + 1) := funext fun f => by
  unfold fU usN
  by_cases h : f = n
  · rw [if_pos h, if_pos (by omega), h]
  · rw [if_neg h]
    by_cases h2 : f < n
    · rw [if_pos h2, if_pos (by omega)]
    · rw [if_neg h2, if_neg (by omega)]
section LP
variable {sc : List Int32} {d : Nat} {E : ux_Ev} {sl fk fp dn ct : List Int32} {tx : Nat → List Int32} {us : Nat → List sU} {x z : Nat} {w : Bool} {K : ux_K1}
theorem ko_loop (h : cS E sl tx us fk fp dn ct) (hK : ∀ E' w', cS E' sl tx (usN sl tx us 8) (rwN (fun f => (rnR f sl (tx f) (us f)).1) 8 fk) (rwN (fun f => (rnR f sl (tx f) (us f)).2.1) 8 fp) (rwN (fun f => (rnR f sl (tx f) (us f)).2.2) 8 dn) (ctN rnC (fun f => rnR f sl (tx f) (us f)) 8 ct) → (∀ b, (b < 5 ∨ 9 < b) → (b < 20 ∨ 209 < b) → E' b = E b) → ux_B uxP sc 101 8 40 [.ref 1, .int (nI 8)] [] E' x z w' K) :
    ∀ m n E1 w, n + m = 8 → cS E1 sl tx (usN sl tx us n) (rwN (fun f => (rnR f sl (tx f) (us f)).1) n fk) (rwN (fun f => (rnR f sl (tx f) (us f)).2.1) n fp) (rwN (fun f => (rnR f sl (tx f) (us f)).2.2) n dn) (ctN rnC (fun f => rnR f sl (tx f) (us f)) n ct) → (∀ b, (b < 5 ∨ 9 < b) → (b < 20 ∨ 209 < b) → E1 b = E b) → ux_B uxP sc 101 8 23 [.ref 1, .int (nI n)] [] E1 x z w K := by
  intro m
  induction m with
  | zero =>
    intro n E1 w hn h1 g1
    have : n = 8 := by omega
    subst this
    refine ux_BN 3 rfl ?_
    refine ux_Byes (by decide) ?_
    exact hK _ _ h1 g1
  | succ m ih =>
    intro n E1 w hn h1 g1
    refine ux_BN 3 rfl ?_
    refine ux_Bno (nI_ge (show n < 8 by omega) (by decide)) ?_
    refine ux_BN 2 rfl ?_
    refine ux_Bv rfl rfl rfl h1.1 rfl (by decide) rfl rfl ?_
    refine ko_renew2 h1 (by omega) fun E2 w2 h2 g2 => ?_
    rw [usN_at, usN_s] at h2
    refine ux_BN 2 rfl ?_
    have := fun w => ih (n + 1) E2 w (by omega) h2 (fun b b1 b2 => by rw [g2 b b1 (by omega), g1 b b1 b2])
    rw [← nI_s] at this
    exact this _
end LP
