/-! The class's units and shelves. A unit: text, own signature, called, code. -/
abbrev sU : Type := List Int32 × Int32 × List Int32 × List Int32
def uS (E : ux_Ev) (a : Nat) (U : sU) : Prop := E a = some (6, [], [.ref (a + 1), .ref (a + 3), .ref (a + 4), .int U.2.1, .int (nI U.2.2.2.length)]) ∧ tS E (a + 1) U.1 ∧ (E (a + 3) = some (100, U.2.2.1, []) ∧ U.2.2.1.length = 8) ∧ ∃ r, E (a + 4) = some (100, U.2.2.2 ++ r, []) ∧ (U.2.2.2 ++ r).length = 122
theorem uS.fr {E E2 : ux_Ev} {a : Nat} {U : sU} (h : uS E a U) (he : ∀ b, a ≤ b → b ≤ a + 4 → E2 b = E b) : uS E2 a U := by
  obtain ⟨h1, h2, ⟨h3, h4⟩, r, h5, h6⟩ := h
  exact ⟨by rw [he _ (by omega) (by omega)]; exact h1, h2.fr (he _ (by omega) (by omega)) (he _ (by omega) (by omega)), ⟨by rw [he _ (by omega) (by omega)]; exact h3, h4⟩, r, by rw [he _ (by omega) (by omega)]; exact h5, h6⟩
def uFit (f : Nat) (sl l : List Int32) (U : sU) : Bool := decide (U.2.1 = sl.getD f 0) && (decide (U.1 = l) && (List.range 8).all fun g => decide (U.2.2.1.getD g 0 = -1) || decide (U.2.2.1.getD g 0 = sl.getD g 0))
theorem uFit_iff (f : Nat) (sl l : List Int32) (U : sU) : uFit f sl l U = true ↔ U.2.1 = sl.getD f 0 ∧ U.1 = l ∧ ∀ g, g < 8 → U.2.2.1.getD g 0 = -1 ∨ U.2.2.1.getD g 0 = sl.getD g 0 := by
  unfold uFit
  rw [Bool.and_eq_true, Bool.and_eq_true, decide_eq_true_eq, decide_eq_true_eq, List.all_eq_true]
  simp only [List.mem_range, Bool.or_eq_true, decide_eq_true_eq]
/-- a shelf: four units (address, content), the first n kept -/
def sS (E : ux_Ev) (f n : Nat) (vs : List (Nat × sU)) : Prop := E (20 + 24 * f) = some (4, [], [.ref (21 + 24 * f), .int (nI n)]) ∧ E (21 + 24 * f) = some (105, [], vs.map fun v => .ref v.1) ∧ vs.length = 4 ∧ n ≤ 3 ∧ (vs.map fun v => v.1).Nodup ∧ ∀ v, v ∈ vs → uS E v.1 v.2 ∧ ∃ k, k < 4 ∧ v.1 = 22 + 24 * f + 5 * k
section UXM
variable {P : ux_P} {sc : List Int32} {d i pc : Nat} {ls st : List Value} {E : ux_Ev} {x z : Nat} {w : Bool} {K : ux_K1}
theorem ux_Bmin {k q1 q2 : Nat} {a b : Int32} (hi : P.1 i pc = some (.invokestatic k, 3)) (hg : P.2.2.1 i k = some (8, q1, q2)) (hc : Nat.ble (st.map fun v => v.category).sum 16 = true) (kk : ux_B P sc d i (pc + 3) ls (.int (if b < a then b else a) :: st) E x z w K) : ux_B P sc d i pc ls (.int b :: .int a :: st) E x z w K := by
  intro h hw h2
  obtain ⟨o, h', E', g1, g2⟩ := kk h hw h2
  refine ⟨o, h', E', ux_Gm (pc' := pc + 3) ?_ g1, g2⟩
  simp only [ux_m1, hi, ux_sim, ux_mem, hg]
  rw [if_pos (Nat.le_of_ble_eq_true hc)]
  rfl
theorem ux_Bmax {k q1 q2 : Nat} {a b : Int32} (hi : P.1 i pc = some (.invokestatic k, 3)) (hg : P.2.2.1 i k = some (7, q1, q2)) (hc : Nat.ble (st.map fun v => v.category).sum 16 = true) (kk : ux_B P sc d i (pc + 3) ls (.int (if a < b then b else a) :: st) E x z w K) : ux_B P sc d i pc ls (.int b :: .int a :: st) E x z w K := by
  intro h hw h2
  obtain ⟨o, h', E', g1, g2⟩ := kk h hw h2
  refine ⟨o, h', E', ux_Gm (pc' := pc + 3) ?_ g1, g2⟩
  simp only [ux_m1, hi, ux_sim, ux_mem, hg]
  rw [if_pos (Nat.le_of_ble_eq_true hc)]
  rfl
/-- an element of a row of objects is read, written, at a place known as a number -/
theorem ux_BaldN (n : Nat) {a t : Nat} {j : Int32} {v : Value} {is : List Int32} {vs : List Value} (hi : P.1 i pc = some (.aaload, 1)) (hc : E a = some (t, is, vs)) (ht : 102 < t) (hj : j = nI n) (hb : n < 2 ^ 31) (hx : vs[n]? = some v)
    (kk : ux_B P sc d i (pc + 1) ls (v :: st) E x z w K) : ux_B P sc d i pc ls (.int j :: .ref a :: st) E x z w K := by
  subst hj
  exact ux_Bald hi hc ht (nI_pos hb) (by rw [nI_clamp hb]; exact hx) kk
theorem ux_BastN (n : Nat) {a t v ci : Nat} {j : Int32} {is is2 : List Int32} {vs vs2 : List Value} (hi : P.1 i pc = some (.aastore, 1)) (hc : E a = some (t, is, vs)) (hv : E v = some (ci, is2, vs2)) (ht : 102 < t) (hci : ci < 100) (hco : P.2.2.2.2.2.1 t = ci) (hj : j = nI n) (hb : n < 2 ^ 31) (hx : n < vs.length)
    (kk : ux_B P sc d i (pc + 1) ls st (ux_up E a (t, is, vs.set n (.ref v))) x z true K) : ux_B P sc d i pc ls (.ref v :: .int j :: .ref a :: st) E x z w K := by
  subst hj
  refine ux_Bast hi hc hv ht hci hco (nI_pos hb) (by rw [nI_clamp hb]; exact hx) ?_
  rw [nI_clamp hb]
  exact kk
end UXM
section KU
variable {sc : List Int32} {d : Nat} {E : ux_Ev} {a t2 f n : Nat} {l2 sl : List Int32} {U : sU} {vs : List (Nat × sU)} {x z : Nat} {w : Bool} {K : ux_K1}
theorem ko_begin (h : uS E a U) (h2 : tS E t2 l2) (hn : t2 + 1 < a ∨ a + 4 < t2) (own : Int32) (hK : ∀ E' w', uS E' a (l2, own, List.replicate 8 (-1), []) → (∀ b, b < a ∨ a + 4 < b → E' b = E b) → K (.inr none) E' x z w') : ux_Bm uxP sc (d + 1) 15 [.ref a, .ref t2, .int own] E x z K := by
  show ux_B uxP sc (d + 1) 15 0 [.ref a, .ref t2, .int own, .null] [] E x z false K
  obtain ⟨h1, ht, ⟨h3, h4⟩, r, h5, h6⟩ := h
  refine ux_BN 1 rfl ?_
  refine ux_Bget rfl rfl h1 rfl ?_
  refine ux_BN 1 rfl ?_
  refine ux_Bv rfl rfl rfl ht.1 rfl (by decide) rfl rfl ?_
  refine ko_copy ht h2 (by omega) (by omega) (by omega) fun E1 w1 t1 f1 => ?_
  refine ux_BN 2 rfl ?_
  have g1 : E1 a = some (6, [], [.ref (a + 1), .ref (a + 3), .ref (a + 4), .int U.2.1, .int (nI U.2.2.2.length)]) := by rw [f1 a (by omega) (by omega)]; exact h1
  refine ux_Bput rfl rfl rfl g1 rfl (Nat.le_of_ble_eq_true rfl) ?_
  refine ux_BN 2 rfl ?_
  refine ux_Bput rfl rfl rfl (ux_up_at _ _ _) rfl (Nat.le_of_ble_eq_true rfl) ?_
  refine ux_BN 2 rfl ?_
  have hloop : ∀ n i E2 w c, i + n = 8 → E2 a = some (6, [], [.ref (a + 1), .ref (a + 3), .ref (a + 4), .int own, .int 0]) → E2 (a + 3) = some (100, List.replicate i (-1) ++ c, []) → (List.replicate i (-1) ++ c).length = 8 → (∀ b, b ≠ a → b ≠ a + 3 → E2 b = E1 b) → ux_B uxP sc (d + 1) 15 20 [.ref a, .ref t2, .int own, .int (nI i)] [] E2 x z w K := by
    intro n
    induction n with
    | zero =>
      intro i E2 w c hi e1 e2 e3 e4
      have hi' : i = 8 := by omega
      subst hi'
      refine ux_BN 3 rfl ?_
      refine ux_Byes (by decide) ?_
      have hc : c = [] := by
        cases c with
        | nil => rfl
        | cons y c => rw [List.length_append, List.length_replicate, List.length_cons] at e3; omega
      subst hc
      rw [List.append_nil] at e2
      refine ux_Br rfl (hK _ _ ⟨e1, t1.fr (e4 _ (by omega) (by omega)) (e4 _ (by omega) (by omega)), ⟨e2, rfl⟩, U.2.2.2 ++ r, ?_, h6⟩ (fun b hb => ?_))
      · rw [e4 _ (by omega) (by omega), f1 _ (by omega) (by omega)]; exact h5
      · rw [e4 b (by omega) (by omega), f1 b (by omega) (by omega)]
    | succ n ih =>
      intro i E2 w c hi e1 e2 e3 e4
      refine ux_BN 3 rfl ?_
      refine ux_Bno (nI_ge (show i < 8 by omega) (by decide)) ?_
      refine ux_BN 1 rfl ?_
      refine ux_Bget rfl rfl e1 rfl ?_
      refine ux_BN 2 rfl ?_
      refine ux_BistN i rfl e2 rfl (by omega) (by omega) ?_
      refine ux_BN 2 rfl ?_
      cases c with
      | nil => rw [List.append_nil, List.length_replicate] at e3; omega
      | cons y c =>
        have hset : (List.replicate i (-1 : Int32) ++ y :: c).set i (-1) = List.replicate (i + 1) (-1) ++ c := by
          rw [List.set_append_right _ _ (by simp), List.length_replicate, Nat.sub_self, List.set_cons_zero, List.replicate_succ']
          simp
        have := fun w => ih (i + 1) (ux_up E2 (a + 3) (100, (List.replicate i (-1 : Int32) ++ y :: c).set i (-1), [])) w c (by omega) (by rw [ux_up_ne _ _ (by omega)]; exact e1) (by rw [ux_up_at, hset]) (by rw [← hset, List.length_set]; exact e3) (fun b b1 b2 => by rw [ux_up_ne _ _ b2]; exact e4 b b1 b2)
        rw [← show nI i + Int32.ofInt 1 = nI (i + 1) from nI_1 i] at this
        exact this _
  refine hloop 8 0 _ _ U.2.2.1 (by omega) (ux_up_at _ _ _) ?_ h4 (fun b b1 b2 => by rw [ux_up_ne _ _ b1, ux_up_ne _ _ b1])
  rw [ux_up_ne _ _ (by omega), ux_up_ne _ _ (by omega), f1 _ (by omega) (by omega)]
  exact h3
theorem ko_ufits (h : uS E a U) (h2 : tS E t2 l2) (hsl : E 2 = some (100, sl, [])) (hl : sl.length = 8) (hf : f < 8) (hK : K (.inr (some (.int (if uFit f sl l2 U = true then 1 else 0)))) E x z false) : ux_Bm uxP sc (d + 1) 11 [.ref a, .ref t2, .int (nI f), .ref 2] E x z K := by
  show ux_B uxP sc (d + 1) 11 0 [.ref a, .ref t2, .int (nI f), .ref 2, .null] [] E x z false K
  obtain ⟨h1, ht, ⟨h3, h4⟩, r, h5, h6⟩ := h
  refine ux_BN 1 rfl ?_
  refine ux_Bget rfl rfl h1 rfl ?_
  refine ux_BN 2 rfl ?_
  refine ux_BildN f rfl hsl rfl (by omega) (by omega) ?_
  refine ux_BN 1 rfl ?_
  refine ux_Bne (fun e1 => ?_) (fun e1 => ?_)
  · refine ux_BN 1 rfl ?_
    refine ux_Bget rfl rfl h1 rfl ?_
    refine ux_BN 1 rfl ?_
    refine ux_Bv rfl rfl rfl ht.1 rfl (by decide) rfl rfl ?_
    refine ko_matches ht h2 ?_
    refine ux_BN 1 rfl ?_
    by_cases e2 : U.1 = l2
    · rw [if_pos e2]
      refine ux_Byes (by decide) ?_
      refine ux_BN 2 rfl ?_
      have hloop : ∀ n i w, i + n = 8 → (∀ g, g < i → U.2.2.1.getD g 0 = -1 ∨ U.2.2.1.getD g 0 = sl.getD g 0) → w = false → ux_B uxP sc (d + 1) 11 26 [.ref a, .ref t2, .int (nI f), .ref 2, .int (nI i)] [] E x z w K := by
        intro n
        induction n with
        | zero =>
          intro i w hi hg hw
          subst hw
          have hi' : i = 8 := by omega
          subst hi'
          refine ux_BN 3 rfl ?_
          refine ux_Byes (by decide) ?_
          refine ux_BN 1 rfl ?_
          rw [if_pos ((uFit_iff f sl l2 U).mpr ⟨e1, e2, hg⟩)] at hK
          exact ux_Bri rfl (Or.inr ⟨rfl, Or.inr rfl⟩) hK
        | succ n ih =>
          intro i w hi hg hw
          subst hw
          have hnext : (U.2.2.1.getD i 0 = -1 ∨ U.2.2.1.getD i 0 = sl.getD i 0) → ux_B uxP sc (d + 1) 11 60 [.ref a, .ref t2, .int (nI f), .ref 2, .int (nI i)] [] E x z false K := by
            intro hgi
            refine ux_BN 2 rfl ?_
            have := ih (i + 1) false (by omega) (fun g hg2 => by
              by_cases hgi2 : g = i
              · rw [hgi2]; exact hgi
              · exact hg g (by omega)) rfl
            rw [← show nI i + Int32.ofInt 1 = nI (i + 1) from nI_1 i] at this
            exact this
          refine ux_BN 3 rfl ?_
          refine ux_Bno (nI_ge (show i < 8 by omega) (by decide)) ?_
          refine ux_BN 1 rfl ?_
          refine ux_Bget rfl rfl h1 rfl ?_
          refine ux_BN 1 rfl ?_
          refine ux_BildN i rfl h3 rfl (by omega) (by omega) ?_
          refine ux_BN 2 rfl ?_
          refine ux_Bif (fun e3 => ?_) (fun e3 => ?_)
          · exact hnext (Or.inl e3)
          · refine ux_BN 1 rfl ?_
            refine ux_Bget rfl rfl h1 rfl ?_
            refine ux_BN 1 rfl ?_
            refine ux_BildN i rfl h3 rfl (by omega) (by omega) ?_
            refine ux_BN 2 rfl ?_
            refine ux_BildN i rfl hsl rfl (by omega) (by omega) ?_
            refine ux_BN 1 rfl ?_
            refine ux_Bif (fun e4 => ?_) (fun e4 => ?_)
            · exact hnext (Or.inr e4)
            · refine ux_BN 1 rfl ?_
              rw [if_neg (fun h7 => (((uFit_iff f sl l2 U).mp h7).2.2 i (by omega)).elim e3 e4)] at hK
              exact ux_Bri rfl (Or.inr ⟨rfl, Or.inl rfl⟩) hK
      exact hloop 8 0 _ (by omega) (fun g hg => by omega) rfl
    · rw [if_neg e2]
      refine ux_Bno (by decide) ?_
      refine ux_BN 1 rfl ?_
      rw [if_neg (fun h7 => e2 ((uFit_iff f sl l2 U).mp h7).2.1)] at hK
      exact ux_Bri rfl (Or.inr ⟨rfl, Or.inl rfl⟩) hK
  · refine ux_BN 1 rfl ?_
    rw [if_neg (fun h7 => e1 ((uFit_iff f sl l2 U).mp h7).1)] at hK
    exact ux_Bri rfl (Or.inr ⟨rfl, Or.inl rfl⟩) hK
end KU
