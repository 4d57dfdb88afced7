/-! The class while it compiles: unit u, signatures sl, text tl of length L, own signature, place p, fault fk at fp, called cal, code c. -/
def kq (E0 : ux_Ev) (u : Nat) (sl tl : List Int32) (own : Int32) (L p : Nat) (fk fp : Int32) (cal c : List Int32) (E : ux_Ev) : Prop :=
  18 ≤ u ∧ E 9 = some (1, [], [.int fk, .int fp, .int (nI p)]) ∧ E u = some (6, [], [.ref (u + 1), .ref (u + 3), .ref (u + 4), .int own, .int (nI c.length)]) ∧ E (u + 1) = some (5, [], [.ref (u + 2), .int (nI L)]) ∧ (E (u + 2) = some (100, tl, []) ∧ tl.length = 30) ∧ (E (u + 3) = some (100, cal, []) ∧ cal.length = 8) ∧ (∃ t, E (u + 4) = some (100, c ++ t, []) ∧ (c ++ t).length = 122) ∧ (E 2 = some (100, sl, []) ∧ sl.length = 8) ∧ ∀ b, b ≠ 9 → b ≠ u → b ≠ u + 3 → b ≠ u + 4 → E b = E0 b
theorem ux_up_at (E : ux_Ev) (a : Nat) (c : ux_C) : ux_up E a c a = some c := if_pos rfl
theorem ux_up_ne (E : ux_Ev) {a b : Nat} (c : ux_C) (h : b ≠ a) : ux_up E a c b = E b := if_neg h
section KQ
variable {sc : List Int32} {d i pc : Nat} {ls st : List Value} {E0 E : ux_Ev} {u L p : Nat} {sl tl cal c : List Int32} {own fk fp : Int32} {x z : Nat} {w : Bool} {K : ux_K1}
theorem kq.o9 (m : kq E0 u sl tl own L p fk fp cal c E) : E 9 = some (1, [], [.int fk, .int fp, .int (nI p)]) := m.2.1
theorem kq.ou (m : kq E0 u sl tl own L p fk fp cal c E) : E u = some (6, [], [.ref (u + 1), .ref (u + 3), .ref (u + 4), .int own, .int (nI c.length)]) := m.2.2.1
theorem kq.ot (m : kq E0 u sl tl own L p fk fp cal c E) : E (u + 1) = some (5, [], [.ref (u + 2), .int (nI L)]) := m.2.2.2.1
theorem kq.otk (m : kq E0 u sl tl own L p fk fp cal c E) : E (u + 2) = some (100, tl, []) := m.2.2.2.2.1.1
theorem kq.ocal (m : kq E0 u sl tl own L p fk fp cal c E) : E (u + 3) = some (100, cal, []) := m.2.2.2.2.2.1.1
theorem kq.osg (m : kq E0 u sl tl own L p fk fp cal c E) : E 2 = some (100, sl, []) := m.2.2.2.2.2.2.2.1.1
theorem kq_setC (m : kq E0 u sl tl own L p fk fp cal c E) (fk2 fp2 : Int32) (p2 : Nat) : kq E0 u sl tl own L p2 fk2 fp2 cal c (ux_up E 9 (1, [], [.int fk2, .int fp2, .int (nI p2)])) := by
  obtain ⟨hu, h9, hu0, hu1, hu2, hu3, ⟨t, hu4, hl4⟩, h2, hE⟩ := m
  refine ⟨hu, ux_up_at _ _ _, ?_, ?_, ?_, ?_, ⟨t, ?_, hl4⟩, ?_, fun b b1 b2 b3 b4 => ?_⟩
  · rw [ux_up_ne _ _ (by omega)]; exact hu0
  · rw [ux_up_ne _ _ (by omega)]; exact hu1
  · rw [ux_up_ne _ _ (by omega)]; exact hu2
  · rw [ux_up_ne _ _ (by omega)]; exact hu3
  · rw [ux_up_ne _ _ (by omega)]; exact hu4
  · rw [ux_up_ne _ _ (by omega)]; exact h2
  · rw [ux_up_ne _ _ b1]; exact hE b b1 b2 b3 b4
theorem kq_setplace (m : kq E0 u sl tl own L p fk fp cal c E) (n : Nat) {k : Nat} {y : Int32} (hi : uxP.1 i pc = some (.putfield k, 3)) (hf : uxP.2.1 i k = some (1, 2, false)) (hp : uxP.2.2.2.1 i (200000 + k) = some 2000) (hy : y = nI n) (kk : ∀ E', kq E0 u sl tl own L n fk fp cal c E' → ux_B uxP sc d i (pc + 3) ls st E' x z true K) : ux_B uxP sc d i pc ls (.int y :: .ref 9 :: st) E x z w K := by
  subst hy
  exact ux_Bput hi hf hp m.o9 rfl (Nat.le_of_ble_eq_true rfl) (kk _ (kq_setC m fk fp n))
theorem kq_setcalled (m : kq E0 u sl tl own L p fk fp cal c E) (n : Nat) {j y : Int32} (hi : uxP.1 i pc = some (.iastore, 1)) (hn : n < 8) (hj : j = nI n) (kk : ∀ E', kq E0 u sl tl own L p fk fp (cal.set n y) c E' → ux_B uxP sc d i (pc + 1) ls st E' x z true K) : ux_B uxP sc d i pc ls (.int y :: .int j :: .ref (u + 3) :: st) E x z w K := by
  obtain ⟨hu, h9, hu0, hu1, hu2, hu3, ⟨t, hu4, hl4⟩, h2, hE⟩ := m
  refine ux_BistN n hi hu3.1 hj (by omega) (by rw [hu3.2]; exact hn) (kk _ ?_)
  refine ⟨hu, ?_, ?_, ?_, ?_, ⟨ux_up_at _ _ _, by rw [List.length_set]; exact hu3.2⟩, ⟨t, ?_, hl4⟩, ?_, fun b b1 b2 b3 b4 => ?_⟩
  · rw [ux_up_ne _ _ (by omega)]; exact h9
  · rw [ux_up_ne _ _ (by omega)]; exact hu0
  · rw [ux_up_ne _ _ (by omega)]; exact hu1
  · rw [ux_up_ne _ _ (by omega)]; exact hu2
  · rw [ux_up_ne _ _ (by omega)]; exact hu4
  · rw [ux_up_ne _ _ (by omega)]; exact h2
  · rw [ux_up_ne _ _ b3]; exact hE b b1 b2 b3 b4
/-- the unit's code and length are written -/
theorem kq_setU (m : kq E0 u sl tl own L p fk fp cal c E) (c2 : List Int32) {E2 : ux_Ev} (t2 : List Int32) (hl : (c2 ++ t2).length = 122) (h1 : E2 u = some (6, [], [.ref (u + 1), .ref (u + 3), .ref (u + 4), .int own, .int (nI c2.length)])) (h2 : E2 (u + 4) = some (100, c2 ++ t2, [])) (h3 : ∀ b, b ≠ u → b ≠ u + 4 → E2 b = E b) : kq E0 u sl tl own L p fk fp cal c2 E2 := by
  obtain ⟨hu, h9, hu0, hu1, hu2, hu3, ⟨t, hu4, hl4⟩, h2', hE⟩ := m
  refine ⟨hu, ?_, h1, ?_, ?_, ?_, ⟨t2, h2, hl⟩, ?_, fun b b1 b2 b3 b4 => ?_⟩
  · rw [h3 _ (by omega) (by omega)]; exact h9
  · rw [h3 _ (by omega) (by omega)]; exact hu1
  · rw [h3 _ (by omega) (by omega)]; exact hu2
  · rw [h3 _ (by omega) (by omega)]; exact hu3
  · rw [h3 _ (by omega) (by omega)]; exact h2'
  · rw [h3 _ b2 b4]; exact hE b b1 b2 b3 b4
theorem ko_fault (m : kq E0 u sl tl own L p fk fp cal c E) (k q : Int32) (hK : ∀ E' w', kq E0 u sl tl own L p k q cal c E' → K (.inr (some (.int (-1)))) E' x z w') : ux_Bm uxP sc d 22 [.ref 9, .int k, .int q] E x z K := by
  show ux_B uxP sc d 22 0 [.ref 9, .int k, .int q] [] E x z false K
  refine ux_BN 2 rfl ?_
  refine ux_Bput rfl rfl rfl m.o9 rfl (Nat.le_of_ble_eq_true rfl) ?_
  have m1 := kq_setC m k fp p
  refine ux_BN 2 rfl ?_
  refine ux_Bput rfl rfl rfl m1.o9 rfl (Nat.le_of_ble_eq_true rfl) ?_
  have m2 := kq_setC m1 k q p
  refine ux_BN 1 rfl ?_
  exact ux_Bri rfl (Or.inl rfl) (hK _ _ m2)
theorem ko_has (m : kq E0 u sl tl own L p fk fp cal c E) (n : Nat) (hn : n < 2 ^ 31) (hL : L ≤ 30) (hK : K (.inr (some (.int (if n < L then 1 else 0)))) E x z false) : ux_Bm uxP sc d 21 [.ref (u + 1), .int (nI n)] E x z K := by
  show ux_B uxP sc d 21 0 [.ref (u + 1), .int (nI n)] [] E x z false K
  refine ux_BN 2 rfl ?_
  refine ux_Bno (nI_pos hn) ?_
  refine ux_BN 2 rfl ?_
  refine ux_Bget rfl rfl m.ot rfl ?_
  refine ux_BN 1 rfl ?_
  refine ux_BleN L n rfl rfl (by omega) hn (fun h => ?_) (fun h => ?_)
  · refine ux_BN 1 rfl ?_
    rw [if_neg (by omega)] at hK
    exact ux_Bri rfl (Or.inr ⟨rfl, Or.inl rfl⟩) hK
  · refine ux_BN 2 rfl ?_
    rw [if_pos (by omega)] at hK
    exact ux_Bri rfl (Or.inr ⟨rfl, Or.inr rfl⟩) hK
theorem ko_isNone (t : Int32) (hK : K (.inr (some (.int (if t < 0 ∨ (19 ≤ t ∧ t < 100) then 1 else 0)))) E x z false) : ux_Bm uxP sc d 23 [.int t] E x z K := by
  show ux_B uxP sc d 23 0 [.int t] [] E x z false K
  refine ux_BN 2 rfl ?_
  refine ux_Bif (fun h1 => ?_) (fun h1 => ?_)
  · refine ux_BN 2 rfl ?_
    rw [if_pos (Or.inl h1)] at hK
    exact ux_Bri rfl (Or.inr ⟨rfl, Or.inr rfl⟩) hK
  · refine ux_BN 3 rfl ?_
    refine ux_Bif (fun h2 => ?_) (fun h2 => ?_)
    · refine ux_BN 1 rfl ?_
      rw [if_neg (by rintro (h | ⟨h, _⟩); exact h1 h; exact k2_nlt h h2)] at hK
      exact ux_Bri rfl (Or.inr ⟨rfl, Or.inl rfl⟩) hK
    · refine ux_BN 3 rfl ?_
      refine ux_Bif (fun h3 => ?_) (fun h3 => ?_)
      · refine ux_BN 1 rfl ?_
        rw [if_neg (by rintro (h | ⟨_, h⟩); exact h1 h; exact k2_nlt h3 h)] at hK
        exact ux_Bri rfl (Or.inr ⟨rfl, Or.inl rfl⟩) hK
      · refine ux_BN 2 rfl ?_
        rw [if_pos (Or.inr ⟨k2_le h2, k2_lt h3⟩)] at hK
        exact ux_Bri rfl (Or.inr ⟨rfl, Or.inr rfl⟩) hK
theorem ko_params (s : Int32) (hK : K (.inr (some (.int (sPar s)))) E x z false) : ux_Bm uxP sc d 25 [.int s] E x z K := by
  show ux_B uxP sc d 25 0 [.int s] [] E x z false K
  refine ux_BN 3 rfl ?_
  exact ux_Bri rfl (Or.inl rfl) hK
theorem ko_type (s k : Int32) (hK : K (.inr (some (.int (sTyp s k)))) E x z false) : ux_Bm uxP sc d 27 [.int s, .int k] E x z K := by
  show ux_B uxP sc d 27 0 [.int s, .int k] [] E x z false K
  refine ux_BN 7 rfl ?_
  exact ux_Bri rfl (Or.inl rfl) hK
theorem ko_result (s : Int32) (hK : K (.inr (some (.int (sRes s)))) E x z false) : ux_Bm uxP sc d 18 [.int s] E x z K := by
  show ux_B uxP sc d 18 0 [.int s] [] E x z false K
  refine ux_BN 5 rfl ?_
  exact ux_Bri rfl (Or.inl rfl) hK
theorem ko_operationOf (k : Nat) (hk : 2 ≤ k ∧ k ≤ 6) (hK : K (.inr (some (.int (nI k)))) E x z false) : ux_Bm uxP sc d 29 [.int (nI (k + 1))] E x z K := by
  have hk5 : k = 2 ∨ k = 3 ∨ k = 4 ∨ k = 5 ∨ k = 6 := by omega
  rcases hk5 with rfl | rfl | rfl | rfl | rfl
  · show ux_B uxP sc d 29 0 [.int (nI 3)] [] E x z false K
    refine ux_BN 3 rfl ?_
    exact ux_Bri rfl (Or.inl rfl) hK
  · show ux_B uxP sc d 29 0 [.int (nI 4)] [] E x z false K
    refine ux_BN 3 rfl ?_
    exact ux_Bri rfl (Or.inl rfl) hK
  · show ux_B uxP sc d 29 0 [.int (nI 5)] [] E x z false K
    refine ux_BN 3 rfl ?_
    exact ux_Bri rfl (Or.inl rfl) hK
  · show ux_B uxP sc d 29 0 [.int (nI 6)] [] E x z false K
    refine ux_BN 3 rfl ?_
    exact ux_Bri rfl (Or.inl rfl) hK
  · show ux_B uxP sc d 29 0 [.int (nI 7)] [] E x z false K
    refine ux_BN 3 rfl ?_
    exact ux_Bri rfl (Or.inl rfl) hK
theorem ko_put1 (m : kq E0 u sl tl own L p fk fp cal c E) (y : Int32) (hc : c.length < 122) (hK : ∀ E' w', kq E0 u sl tl own L p fk fp cal (c ++ [y]) E' → K (.inr none) E' x z w') : ux_Bm uxP sc d 30 [.ref u, .int y] E x z K := by
  show ux_B uxP sc d 30 0 [.ref u, .int y] [] E x z false K
  obtain ⟨t, hu4, hl4⟩ := m.2.2.2.2.2.2.1
  have hu := m.1
  refine ux_BN 1 rfl ?_
  refine ux_Bget rfl rfl m.ou rfl ?_
  refine ux_BN 2 rfl ?_
  refine ux_Bno (nI_ge hc (by decide)) ?_
  refine ux_BN 1 rfl ?_
  refine ux_Bget rfl rfl m.ou rfl ?_
  refine ux_BN 1 rfl ?_
  refine ux_Bget rfl rfl m.ou rfl ?_
  refine ux_BN 1 rfl ?_
  refine ux_BistN c.length rfl hu4 rfl (by omega) (by omega) ?_
  have hu' : ux_up E (u + 4) (100, (c ++ t).set c.length y, []) u = some (6, [], [.ref (u + 1), .ref (u + 3), .ref (u + 4), .int own, .int (nI c.length)]) := by rw [ux_up_ne _ _ (by omega)]; exact m.ou
  refine ux_BN 2 rfl ?_
  refine ux_Bget rfl rfl hu' rfl ?_
  refine ux_BN 2 rfl ?_
  refine ux_Btop (nI (c ++ [y]).length) (by rw [List.length_append]; exact nI_1 _) ?_
  refine ux_Bput rfl rfl rfl hu' rfl (Nat.le_of_ble_eq_true rfl) ?_
  refine ux_Br rfl (hK _ _ ?_)
  cases t with
  | nil => rw [List.append_nil] at hl4; omega
  | cons a t =>
    refine kq_setU m (c ++ [y]) t (by simp at hl4 ⊢; omega) (ux_up_at _ _ _) ?_ (fun b b1 b2 => by rw [ux_up_ne _ _ b1, ux_up_ne _ _ b2])
    rw [ux_up_ne _ _ (by omega), ux_up_at]
    simp
theorem ko_put2 (m : kq E0 u sl tl own L p fk fp cal c E) (y y2 : Int32) (hc : c.length + 1 < 122) (hK : ∀ E' w', kq E0 u sl tl own L p fk fp cal (c ++ [y, y2]) E' → K (.inr none) E' x z w') : ux_Bm uxP sc d 26 [.ref u, .int y, .int y2] E x z K := by
  show ux_B uxP sc d 26 0 [.ref u, .int y, .int y2] [] E x z false K
  obtain ⟨t, hu4, hl4⟩ := m.2.2.2.2.2.2.1
  have hu := m.1
  refine ux_BN 1 rfl ?_
  refine ux_Bget rfl rfl m.ou rfl ?_
  refine ux_BN 4 rfl ?_
  refine ux_Bno (show ¬ nI 122 ≤ nI c.length + 1 from by rw [nI_1]; exact nI_ge hc (by decide)) ?_
  refine ux_BN 1 rfl ?_
  refine ux_Bget rfl rfl m.ou rfl ?_
  refine ux_BN 1 rfl ?_
  refine ux_Bget rfl rfl m.ou rfl ?_
  refine ux_BN 1 rfl ?_
  refine ux_BistN c.length rfl hu4 rfl (by omega) (by omega) ?_
  have hu' : ux_up E (u + 4) (100, (c ++ t).set c.length y, []) u = some (6, [], [.ref (u + 1), .ref (u + 3), .ref (u + 4), .int own, .int (nI c.length)]) := by rw [ux_up_ne _ _ (by omega)]; exact m.ou
  refine ux_BN 1 rfl ?_
  refine ux_Bget rfl rfl hu' rfl ?_
  refine ux_BN 1 rfl ?_
  refine ux_Bget rfl rfl hu' rfl ?_
  refine ux_BN 3 rfl ?_
  refine ux_BistN (c.length + 1) rfl (ux_up_at _ _ _) (nI_1 _) (by omega) (by rw [List.length_set]; omega) ?_
  have hu'' : ux_up (ux_up E (u + 4) (100, (c ++ t).set c.length y, [])) (u + 4) (100, ((c ++ t).set c.length y).set (c.length + 1) y2, []) u = some (6, [], [.ref (u + 1), .ref (u + 3), .ref (u + 4), .int own, .int (nI c.length)]) := by rw [ux_up_ne _ _ (by omega)]; exact hu'
  refine ux_BN 2 rfl ?_
  refine ux_Bget rfl rfl hu'' rfl ?_
  refine ux_BN 2 rfl ?_
  refine ux_Btop (nI (c ++ [y, y2]).length) (by rw [List.length_append]; exact nI_add _ 2) ?_
  refine ux_Bput rfl rfl rfl hu'' rfl (Nat.le_of_ble_eq_true rfl) ?_
  refine ux_Br rfl (hK _ _ ?_)
  have : 2 ≤ t.length := by rw [List.length_append] at hl4; omega
  match t, this, hl4 with
  | a :: b :: t, _, hl4 =>
    refine kq_setU m (c ++ [y, y2]) t (by simp at hl4 ⊢; omega) (ux_up_at _ _ _) ?_ (fun b b1 b2 => by rw [ux_up_ne _ _ b1, ux_up_ne _ _ b2, ux_up_ne _ _ b2])
    rw [ux_up_ne _ _ (by omega), ux_up_at]
    simp
theorem ko_setOperand (m : kq E0 u sl tl own L p fk fp cal c E) (n : Nat) (y : Int32) (hn : n + 1 < c.length) (hc : c.length ≤ 122) (hK : ∀ E' w', kq E0 u sl tl own L p fk fp cal (c.set (n + 1) y) E' → K (.inr none) E' x z w') : ux_Bm uxP sc d 32 [.ref u, .int (nI n), .int y] E x z K := by
  show ux_B uxP sc d 32 0 [.ref u, .int (nI n), .int y, .null] [] E x z false K
  obtain ⟨t, hu4, hl4⟩ := m.2.2.2.2.2.2.1
  have hu := m.1
  refine ux_BN 3 rfl ?_
  refine ux_Btop (nI (n + 1)) (nI_1 n) ?_
  refine ux_BN 3 rfl ?_
  refine ux_Bno (nI_pos (by omega)) ?_
  refine ux_BN 2 rfl ?_
  refine ux_Bget rfl rfl m.ou rfl ?_
  refine ux_BN 1 rfl ?_
  refine ux_Bno (nI_ge hn (by omega)) ?_
  refine ux_BN 1 rfl ?_
  refine ux_Bget rfl rfl m.ou rfl ?_
  refine ux_BN 2 rfl ?_
  refine ux_BistN (n + 1) rfl hu4 rfl (by omega) (by omega) ?_
  refine ux_Br rfl (hK _ _ ?_)
  refine kq_setU m (c.set (n + 1) y) t (by simpa using hl4) ?_ ?_ (fun b b1 b2 => by rw [ux_up_ne _ _ b2])
  · rw [ux_up_ne _ _ (by omega), List.length_set]; exact m.ou
  · rw [ux_up_at, List.set_append_left _ _ hn]
end KQ
