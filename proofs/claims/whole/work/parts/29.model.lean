/-! The reference's small methods, second row. -/
def ux_cb (P : ux_P) (j : Nat) (as r0 : List Value) : Bool := Nat.ble (r0.map fun v => v.category).sum 16 && (Nat.ble as.length (P.2.2.2.2.2.2 j).1 && (Nat.ble (P.2.2.2.2.2.2 j).1 30 && (as.all fun v => v.category == 1)))
theorem ux_cb_of {P : ux_P} {j : Nat} {as r0 : List Value} (h : ux_cb P j as r0 = true) : (r0.map fun v => v.category).sum ≤ 16 ∧ as.length ≤ (P.2.2.2.2.2.2 j).1 ∧ (P.2.2.2.2.2.2 j).1 ≤ 30 ∧ (as.all fun v => v.category == 1) = true := by
  unfold ux_cb at h
  simp only [Bool.and_eq_true] at h
  exact ⟨Nat.le_of_ble_eq_true h.1, Nat.le_of_ble_eq_true h.2.1, Nat.le_of_ble_eq_true h.2.2.1, h.2.2.2⟩
section BC
variable {P : ux_P} {sc : List Int32} {d i pc : Nat} {ls st : List Value} {E : ux_Ev} {x z : Nat} {w : Bool} {K : ux_K1}
theorem ux_Bk {j : Nat} {as r0 : List Value} (hs : ux_cc P i pc st E = some (j, as, r0)) (hc : ux_cb P j as r0 = true)
    (hm : ux_Bm P sc d j as E x z (fun o E1 x1 z1 w1 => match o with
      | .inr v => ux_B P sc (d + 1) i (pc + 3) ls (v.toList ++ r0) E1 x1 z1 (w || w1) K
      | .inl k => (P.2.2.2.2.2.2 i).2.2 = [] ∧ K (.inl k) E1 x1 z1 true)) : ux_B P sc (d + 1) i pc ls st E x z w K := ux_Bc hs (ux_cb_of hc) hm
/-- a call of an object's method: the receiver's kind is known -/
theorem ux_Bv {k q j n a ci : Nat} {as r0 : List Value} {is : List Int32} {vs : List Value} (hi : P.1 i pc = some (.invokevirtual k, 3)) (hg : P.2.2.1 i k = some (q, j, n)) (hd : st.drop n = .ref a :: r0) (hE : E a = some (ci, is, vs)) (hq : q = 100 + ci) (hci : ci < 100) (has : .ref a :: (st.take n).reverse = as) (hc : ux_cb P j as r0 = true)
    (hm : ux_Bm P sc d j as E x z (fun o E1 x1 z1 w1 => match o with
      | .inr v => ux_B P sc (d + 1) i (pc + 3) ls (v.toList ++ r0) E1 x1 z1 (w || w1) K
      | .inl k => (P.2.2.2.2.2.2 i).2.2 = [] ∧ K (.inl k) E1 x1 z1 true)) : ux_B P sc (d + 1) i pc ls st E x z w K := by
  subst has
  refine ux_Bk ?_ hc hm
  unfold ux_cc
  rw [hi]
  simp only [hg, hd, hE]
  rw [if_pos ⟨hq, hci⟩]
end BC
section MO2
variable {sc : List Int32} {d : Nat} {E0 E : ux_Ev} {g : Nat → Int32} {A : Nat → List Int32} {x z : Nat} {K : ux_K1}
theorem mo_begins (hm : md E0 g A E) (y q : Int32) (n : Nat) (hn : n < 32) (hg : g 26 = nI n) (hK : ∀ E', md E0 (fU g 26 (nI (n + 1))) (fU (fU (fU A 229 ((A 229).set n y)) 230 ((A 230).set n 0)) 231 ((A 231).set n q)) E' → K (.inr none) E' x z true) : ux_Bm uxP sc d 99 [.ref 210, .int y, .int q] E x z K := by
  show ux_B uxP sc d 99 0 [.ref 210, .int y, .int q] [] E x z false K
  refine ux_BN 1 rfl ?_
  refine ux_Bget rfl rfl hm.1 rfl ?_
  refine ux_BN 1 rfl ?_
  refine ux_Bget rfl rfl hm.1 rfl ?_
  refine ux_BN 1 rfl ?_
  refine mr_ist hm 229 n rfl (by decide) hn hg fun E1 m1 => ?_
  refine ux_BN 1 rfl ?_
  refine ux_Bget rfl rfl m1.1 rfl ?_
  refine ux_BN 1 rfl ?_
  refine ux_Bget rfl rfl m1.1 rfl ?_
  refine ux_BN 1 rfl ?_
  refine mr_ist m1 230 n rfl (by decide) hn hg fun E2 m2 => ?_
  refine ux_BN 1 rfl ?_
  refine ux_Bget rfl rfl m2.1 rfl ?_
  refine ux_BN 1 rfl ?_
  refine ux_Bget rfl rfl m2.1 rfl ?_
  refine ux_BN 1 rfl ?_
  refine mr_ist m2 231 n rfl (by decide) hn hg fun E3 m3 => ?_
  refine ux_BN 2 rfl ?_
  refine ux_Bget rfl rfl m3.1 rfl ?_
  refine ux_BN 2 rfl ?_
  refine ux_Btop (nI (n + 1)) (show g 26 + 1 = nI (n + 1) from by rw [hg]; exact nI_1 n) ?_
  refine mr_put m3 rfl rfl rfl (by decide) rfl fun E4 m4 => ?_
  exact ux_Br rfl (hK _ m4)
/-- out of bounds, as a number -/
def oB (v lim : Int32) : Int32 := if v < 0 ∨ lim ≤ v then 1 else 0
theorem oB01 (v lim : Int32) : oB v lim = 0 ∨ oB v lim = 1 := by unfold oB; split; exact Or.inr rfl; exact Or.inl rfl
theorem oB_0 {v lim : Int32} (h : oB v lim = 0) : ¬ v < 0 ∧ ¬ lim ≤ v := by
  unfold oB at h
  split at h
  · exact absurd h (by decide)
  · rename_i hn; exact ⟨fun q => hn (Or.inl q), fun q => hn (Or.inr q)⟩
theorem oB_n0 {v lim : Int32} (h : ¬ oB v lim = 0) : v < 0 ∨ lim ≤ v := by
  unfold oB at h
  split at h
  · rename_i hn; exact hn
  · exact absurd rfl h
theorem oB_at {v lim : Int32} {n : Nat} (hl : lim = nI n) (hn : n < 2 ^ 31) (h : oB v lim = 0) : ∃ j, j < n ∧ v = nI j := by
  obtain ⟨h1, h2⟩ := oB_0 h
  subst hl
  rcases pk_ix v hn with h3 | h3 | h3
  · exact absurd h3 h1
  · exact absurd h3 h2
  · exact h3
theorem mo_count (hm : md E0 g A E) (v : Int32) (hK1 : v < 0 ∨ 5 ≤ v → ∀ E' w', md E0 (fU g 0 1) A E' → K (.inr (some (.int 0))) E' x z w') (hK2 : ∀ n, n < 5 → v = nI n → ∀ E' w', md E0 (fU g 0 0) A E' → K (.inr (some (.int ((A 225).getD n 0)))) E' x z w') : ux_Bm uxP sc (d + 1) 110 [.ref 210, .int v] E x z K := by
  show ux_B uxP sc (d + 1) 110 0 [.ref 210, .int v] [] E x z false K
  refine ux_BN 3 rfl ?_
  refine ux_Bk (j := 82) rfl rfl ?_
  refine mo_out v 5 ?_
  refine ux_BN 1 rfl ?_
  refine ux_Bv rfl rfl rfl hm.1 rfl (by decide) rfl rfl ?_
  refine mo_fails hm (oB v 5) 1 (oB01 v 5) fun E1 m1 => ?_
  refine ux_BN 1 rfl ?_
  refine ux_Bif (fun h1 => ?_) (fun h1 => ?_)
  · rw [if_pos h1] at m1
    obtain ⟨n, hn, rfl⟩ := oB_at (n := 5) rfl (by decide) h1
    refine ux_BN 1 rfl ?_
    refine ux_Bget rfl rfl m1.1 rfl ?_
    refine ux_BN 1 rfl ?_
    refine mr_ild m1 225 n rfl (by decide) hn rfl ?_
    exact ux_Bri rfl (Or.inl rfl) (hK2 n hn rfl _ _ m1)
  · rw [if_neg h1] at m1
    refine ux_BN 2 rfl ?_
    exact ux_Bri rfl (Or.inl rfl) (hK1 (oB_n0 h1) _ _ m1)
theorem mo_size (hm : md E0 g A E) (hK : ∀ E', md E0 (fU g 0 0) A E' → K (.inr (some (.int (g 17)))) E' x z true) : ux_Bm uxP sc d 112 [.ref 210] E x z K := by
  show ux_B uxP sc d 112 0 [.ref 210] [] E x z false K
  refine ux_BN 2 rfl ?_
  refine mr_put hm rfl rfl rfl (by decide) rfl fun E1 m1 => ?_
  refine ux_BN 1 rfl ?_
  refine ux_Bget rfl rfl m1.1 rfl ?_
  exact ux_Bri rfl (Or.inl rfl) (hK _ m1)
theorem mo_value (hm : md E0 g A E) (hK : ∀ E', md E0 (fU g 0 0) A E' → K (.inr (some (.int (g 31)))) E' x z true) : ux_Bm uxP sc d 117 [.ref 210] E x z K := by
  show ux_B uxP sc d 117 0 [.ref 210] [] E x z false K
  refine ux_BN 2 rfl ?_
  refine mr_put hm rfl rfl rfl (by decide) rfl fun E1 m1 => ?_
  refine ux_BN 1 rfl ?_
  refine ux_Bget rfl rfl m1.1 rfl ?_
  exact ux_Bri rfl (Or.inl rfl) (hK _ m1)
theorem mo_used (hm : md E0 g A E) (hK : ∀ E', md E0 (fU g 0 0) A E' → K (.inr (some (.int (g 32)))) E' x z true) : ux_Bm uxP sc d 118 [.ref 210] E x z K := by
  show ux_B uxP sc d 118 0 [.ref 210] [] E x z false K
  refine ux_BN 2 rfl ?_
  refine mr_put hm rfl rfl rfl (by decide) rfl fun E1 m1 => ?_
  refine ux_BN 1 rfl ?_
  refine ux_Bget rfl rfl m1.1 rfl ?_
  exact ux_Bri rfl (Or.inl rfl) (hK _ m1)
theorem mo_word (hm : md E0 g A E) (v : Int32) (m : Nat) (hg : g 17 = nI m) (hm3 : m ≤ 300) (hK1 : v < 0 ∨ nI m ≤ v → ∀ E' w', md E0 (fU g 0 1) A E' → K (.inr (some (.int 0))) E' x z w') (hK2 : ∀ n, n < m → v = nI n → ∀ E' w', md E0 (fU g 0 0) A E' → K (.inr (some (.int ((A 226).getD n 0)))) E' x z w') : ux_Bm uxP sc (d + 1) 113 [.ref 210, .int v] E x z K := by
  show ux_B uxP sc (d + 1) 113 0 [.ref 210, .int v] [] E x z false K
  refine ux_BN 3 rfl ?_
  refine ux_Bget rfl rfl hm.1 rfl ?_
  refine ux_Btop (nI m) hg ?_
  refine ux_Bk (j := 82) rfl rfl ?_
  refine mo_out v (nI m) ?_
  refine ux_BN 1 rfl ?_
  refine ux_Bv rfl rfl rfl hm.1 rfl (by decide) rfl rfl ?_
  refine mo_fails hm (oB v (nI m)) 1 (oB01 v (nI m)) fun E1 m1 => ?_
  refine ux_BN 1 rfl ?_
  refine ux_Bif (fun h1 => ?_) (fun h1 => ?_)
  · rw [if_pos h1] at m1
    obtain ⟨n, hn, rfl⟩ := oB_at (n := m) rfl (by omega) h1
    refine ux_BN 1 rfl ?_
    refine ux_Bget rfl rfl m1.1 rfl ?_
    refine ux_BN 1 rfl ?_
    refine mr_ild m1 226 n rfl (by decide) (show n < 300 by omega) rfl ?_
    exact ux_Bri rfl (Or.inl rfl) (hK2 n hn rfl _ _ m1)
  · rw [if_neg h1] at m1
    refine ux_BN 2 rfl ?_
    exact ux_Bri rfl (Or.inl rfl) (hK1 (oB_n0 h1) _ _ m1)
theorem mo_drop (hm : md E0 g A E) (v : Int32) (hK1 : v < 0 ∨ 8 ≤ v → ∀ E' w', md E0 (fU g 0 1) A E' → K (.inr none) E' x z w') (hK2 : ∀ n, n < 8 → v = nI n → ∀ E' w', md E0 (fU g 0 0) (fU (fU A 211 ((A 211).set n 0)) 213 ((A 213).set n 0)) E' → K (.inr none) E' x z w') : ux_Bm uxP sc (d + 1) 84 [.ref 210, .int v] E x z K := by
  show ux_B uxP sc (d + 1) 84 0 [.ref 210, .int v] [] E x z false K
  refine ux_BN 3 rfl ?_
  refine ux_Bk (j := 82) rfl rfl ?_
  refine mo_out v 8 ?_
  refine ux_BN 1 rfl ?_
  refine ux_Bv rfl rfl rfl hm.1 rfl (by decide) rfl rfl ?_
  refine mo_fails hm (oB v 8) 1 (oB01 v 8) fun E1 m1 => ?_
  refine ux_BN 1 rfl ?_
  refine ux_Bif (fun h1 => ?_) (fun h1 => ?_)
  · rw [if_pos h1] at m1
    obtain ⟨n, hn, rfl⟩ := oB_at (n := 8) rfl (by decide) h1
    refine ux_BN 1 rfl ?_
    refine ux_Bget rfl rfl m1.1 rfl ?_
    refine ux_BN 2 rfl ?_
    refine mr_zst m1 n rfl hn rfl (Or.inl rfl) fun E2 m2 => ?_
    refine ux_BN 1 rfl ?_
    refine ux_Bget rfl rfl m2.1 rfl ?_
    refine ux_BN 2 rfl ?_
    refine mr_ist m2 213 n rfl (by decide) hn rfl fun E3 m3 => ?_
    exact ux_Br rfl (hK2 n hn rfl _ _ m3)
  · rw [if_neg h1] at m1
    exact ux_Br rfl (hK1 (oB_n0 h1) _ _ m1)
theorem mo_wipe (hm : md E0 g A E) (v : Int32) (hK1 : v < 0 ∨ 8 ≤ v → ∀ E' w', md E0 (fU g 0 1) A E' → K (.inr (some (.int 0))) E' x z w') (hK2 : ∀ n, n < 8 → v = nI n → ∀ E' w', md E0 (fU g 0 0) (fU A 213 ((A 213).set n 0)) E' → K (.inr (some (.int ((A 213).getD n 0)))) E' x z w') : ux_Bm uxP sc (d + 1) 87 [.ref 210, .int v] E x z K := by
  show ux_B uxP sc (d + 1) 87 0 [.ref 210, .int v, .null] [] E x z false K
  refine ux_BN 3 rfl ?_
  refine ux_Bk (j := 82) rfl rfl ?_
  refine mo_out v 8 ?_
  refine ux_BN 1 rfl ?_
  refine ux_Bv rfl rfl rfl hm.1 rfl (by decide) rfl rfl ?_
  refine mo_fails hm (oB v 8) 1 (oB01 v 8) fun E1 m1 => ?_
  refine ux_BN 1 rfl ?_
  refine ux_Bif (fun h1 => ?_) (fun h1 => ?_)
  · rw [if_pos h1] at m1
    obtain ⟨n, hn, rfl⟩ := oB_at (n := 8) rfl (by decide) h1
    refine ux_BN 1 rfl ?_
    refine ux_Bget rfl rfl m1.1 rfl ?_
    refine ux_BN 1 rfl ?_
    refine mr_ild m1 213 n rfl (by decide) hn rfl ?_
    refine ux_BN 2 rfl ?_
    refine ux_Bget rfl rfl m1.1 rfl ?_
    refine ux_BN 2 rfl ?_
    refine mr_ist m1 213 n rfl (by decide) hn rfl fun E3 m3 => ?_
    refine ux_BN 1 rfl ?_
    exact ux_Bri rfl (Or.inl rfl) (hK2 n hn rfl _ _ m3)
  · rw [if_neg h1] at m1
    refine ux_BN 1 rfl ?_
    exact ux_Bri rfl (Or.inl rfl) (hK1 (oB_n0 h1) _ _ m1)
end MO2
