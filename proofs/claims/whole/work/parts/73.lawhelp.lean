/-! The law's helpers: calls of the class under handlers. -/
theorem ux_Bhv {P : ux_P} {sc : List Int32} {d i pc : Nat} {ls st : List Value} {E : ux_Ev} {x z : Nat} {w : Bool} {K : ux_K1} {k q j n a ci : Nat} {as r0 : List Value} {is : List Int32} {vs : List Value} (hi : P.1 i pc = some (.invokevirtual k, 3)) (hg : P.2.2.1 i k = some (q, j, n)) (hd : st.drop n = .ref a :: r0) (hE : E a = some (ci, is, vs)) (hq : q = 100 + ci) (hci : ci < 100) (has : .ref a :: (st.take n).reverse = as) (hc : ux_cb P j as r0 = true)
    (hm : ux_Bm P sc d j as E x z (fun o E1 x1 z1 w1 => match o with
      | .inr v => ux_B P sc (d + 1) i (pc + 3) ls (v.toList ++ r0) E1 x1 z1 (w || w1) K
      | .inl k => ∃ t q len, ux_hnd (P.2.2.2.2.2.2 i).2.2 pc k = some t ∧ (P.1 i t).bind (fun y => ux_lay y.1) = some (q, len) ∧ q < ls.length ∧ ux_B P sc (d + 1) i (t + len) (ls.set q .null) [] E1 x1 z1 true K)) : ux_B P sc (d + 1) i pc ls st E x z w K := by
  subst has
  refine ux_Bh ?_ (ux_cb_of hc) hm
  unfold ux_cc
  rw [hi]
  simp only [hg, hd, hE]
  rw [if_pos ⟨hq, hci⟩]
section LH
variable {sc : List Int32} {d : Nat} {E : ux_Ev} {sl fk fp dn ct : List Int32} {tx : Nat → List Int32} {us : Nat → List sU} {W AD PR : List Int32} {L : Nat} {rs sp : Int32} {n F pc : Nat} {S B R : List Int32} {x z : Nat} {w : Bool} {K : ux_K1} {q0 : Int64}
theorem lh_sign (h : cS E sl tx us fk fp dn ct) (v p t b : Int32) (hK1 : (v < 0 ∨ 8 ≤ v) ∨ (p < 0 ∨ 4 ≤ p) → K (.inr (some (.int 1))) E (x + 1) (z + 6) true) (hK2 : ∀ n k, n < 8 → k < 4 → v = nI n → p = nI k → ∀ E' w', cS E' (sl.set n (sgM p t b)) tx us fk fp dn ct → (∀ b, b ≠ 2 → E' b = E b) → K (.inr (some (.int 0))) E' x z w') : ux_Bm uxP sc (d + 3) 47 [.ref 1, .int v, .int p, .int t, .int b] E x z K := by
  show ux_B uxP sc (d + 3) 47 0 [.ref 1, .int v, .int p, .int t, .int b, .null] [] E x z false K
  refine ux_BN 5 rfl ?_
  refine ux_Bhv rfl rfl rfl h.1 rfl (by decide) rfl rfl ?_
  refine ko_sign h v p t b (fun hc => ⟨12, 5, 2, rfl, rfl, Nat.le_of_ble_eq_true rfl, ?_⟩) (fun n k hn hk he he2 E1 w1 h1 f1 => ?_)
  · refine ux_BN 1 rfl ?_
    exact ux_Bri rfl (Or.inl rfl) (hK1 hc)
  · refine ux_BN 2 rfl ?_
    exact ux_Bri rfl (Or.inl rfl) (hK2 n k hn hk he he2 _ _ h1 f1)
theorem lh_drop (h : cS E sl tx us fk fp dn ct) (v : Int32) (hK1 : v < 0 ∨ 8 ≤ v → K (.inr (some (.int 1))) E (x + 1) (z + 6) true) (hK2 : ∀ n, n < 8 → v = nI n → ∀ E' w', cS E' (sl.set n (-1)) (fU tx n []) us fk fp dn ct → (∀ b, b ≠ 2 → b < 18 ∨ 209 < b → E' b = E b) → K (.inr (some (.int 0))) E' x z w') : ux_Bm uxP sc (d + 3) 51 [.ref 1, .int v] E x z K := by
  show ux_B uxP sc (d + 3) 51 0 [.ref 1, .int v, .null] [] E x z false K
  refine ux_BN 2 rfl ?_
  refine ux_Bhv rfl rfl rfl h.1 rfl (by decide) rfl rfl ?_
  refine ko_drop h v (fun hc => ⟨8, 2, 1, rfl, rfl, Nat.le_of_ble_eq_true rfl, ?_⟩) (fun n hn he E1 w1 h1 f1 => ?_)
  · refine ux_BN 1 rfl ?_
    exact ux_Bri rfl (Or.inl rfl) (hK1 hc)
  · refine ux_BN 2 rfl ?_
    exact ux_Bri rfl (Or.inl rfl) (hK2 n hn he _ _ h1 f1)
theorem lh_token (h : cS E sl tx us fk fp dn ct) (ho : E 238 = some (102, [], [.long q0])) (v t : Int32) (hK1 : v < 0 ∨ 8 ≤ v → K (.inr (some (.int 1))) E (x + 1) (z + 6) true) (hK2 : ∀ n, n < 8 → v = nI n → sl.getD n 0 = -1 → K (.inr (some (.int 2))) E (x + 1) (z + 6) true) (hK3 : ∀ n, n < 8 → v = nI n → ¬ sl.getD n 0 = -1 → (tx n).length = 30 → ∀ w', K (.inr (some (.int 0))) (ux_up E 238 (102, [], [.long 0])) x z w') (hK4 : ∀ n, n < 8 → v = nI n → ¬ sl.getD n 0 = -1 → (tx n).length < 30 → ∀ E' w', cS E' sl (fU tx n (tx n ++ [t])) us fk fp dn ct → (∀ b, b < 18 ∨ 209 < b → E' b = E b) → K (.inr (some (.int 0))) (ux_up E' 238 (102, [], [.long 1])) x z w') : ux_Bm uxP sc (d + 3) 53 [.ref 1, .int v, .int t, .ref 238] E x z K := by
  show ux_B uxP sc (d + 3) 53 0 [.ref 1, .int v, .int t, .ref 238, .null] [] E x z false K
  refine ux_BN 5 rfl ?_
  refine ux_Bhv rfl rfl rfl h.1 rfl (by decide) rfl rfl ?_
  refine ko_token h v t (fun hc => ⟨20, 4, 2, rfl, rfl, Nat.le_of_ble_eq_true rfl, ?_⟩) (fun n hn he ha => ⟨24, 4, 2, rfl, rfl, Nat.le_of_ble_eq_true rfl, ?_⟩) (fun n hn he ha h30 w1 => ?_) (fun n hn he ha h30 E1 w1 h1 f1 => ?_)
  · refine ux_BN 1 rfl ?_
    exact ux_Bri rfl (Or.inl rfl) (hK1 hc)
  · refine ux_BN 1 rfl ?_
    exact ux_Bri rfl (Or.inl rfl) (hK2 n hn he ha)
  · refine ux_BN 1 rfl ?_
    refine ux_Byes rfl ?_
    refine ux_BN 1 rfl ?_
    refine ux_Blst rfl ho (by decide) (Nat.le_of_ble_eq_true rfl) ?_
    refine ux_BN 2 rfl ?_
    exact ux_Bri rfl (Or.inl rfl) (hK3 n hn he ha h30 _)
  · refine ux_BN 1 rfl ?_
    refine ux_Bno (by decide) ?_
    refine ux_BN 2 rfl ?_
    refine ux_Blst rfl (by rw [f1 238 (by omega)]; exact ho) (by decide) (Nat.le_of_ble_eq_true rfl) ?_
    refine ux_BN 2 rfl ?_
    exact ux_Bri rfl (Or.inl rfl) (hK4 n hn he ha h30 _ _ h1 f1)
theorem lh_edit (h : cS E sl tx us fk fp dn ct) (v j t : Int32) (hK1 : v < 0 ∨ 8 ≤ v → K (.inr (some (.int 1))) E (x + 1) (z + 6) true) (hK2 : ∀ n, n < 8 → v = nI n → j < 0 ∨ nI (tx n).length ≤ j → K (.inr (some (.int 2))) E (x + 1) (z + 6) true) (hK3 : ∀ n k, n < 8 → v = nI n → k < (tx n).length → j = nI k → ∀ E' w', cS E' sl (fU tx n ((tx n).set k t)) us fk fp dn ct → (∀ b, b < 18 ∨ 209 < b → E' b = E b) → K (.inr (some (.int 0))) E' x z w') : ux_Bm uxP sc (d + 3) 56 [.ref 1, .int v, .int j, .int t] E x z K := by
  show ux_B uxP sc (d + 3) 56 0 [.ref 1, .int v, .int j, .int t, .null] [] E x z false K
  refine ux_BN 4 rfl ?_
  refine ux_Bhv rfl rfl rfl h.1 rfl (by decide) rfl rfl ?_
  refine ko_edit h v j t (fun hc => ⟨10, 4, 2, rfl, rfl, Nat.le_of_ble_eq_true rfl, ?_⟩) (fun n hn he hj => ⟨14, 4, 2, rfl, rfl, Nat.le_of_ble_eq_true rfl, ?_⟩) (fun n k hn he hk hj E1 w1 h1 f1 => ?_)
  · refine ux_BN 1 rfl ?_
    exact ux_Bri rfl (Or.inl rfl) (hK1 hc)
  · refine ux_BN 1 rfl ?_
    exact ux_Bri rfl (Or.inl rfl) (hK2 n hn he hj)
  · refine ux_BN 2 rfl ?_
    exact ux_Bri rfl (Or.inl rfl) (hK3 n k hn he hk hj _ _ h1 f1)
theorem lh_wipe (h : cS E sl tx us fk fp dn ct) (ho : E 238 = some (102, [], [.long q0])) (v : Int32) (hK1 : v < 0 ∨ 8 ≤ v → K (.inr (some (.int 1))) E (x + 1) (z + 6) true) (hK2 : ∀ n, n < 8 → v = nI n → ∀ E' w', cS E' sl (fU tx n []) us fk fp dn ct → (∀ b, b < 18 ∨ 209 < b → E' b = E b) → K (.inr (some (.int 0))) (ux_up E' 238 (102, [], [.long (nI (tx n).length).toInt64])) x z w') : ux_Bm uxP sc (d + 3) 58 [.ref 1, .int v, .ref 238] E x z K := by
  show ux_B uxP sc (d + 3) 58 0 [.ref 1, .int v, .ref 238, .null] [] E x z false K
  refine ux_BN 4 rfl ?_
  refine ux_Bhv rfl rfl rfl h.1 rfl (by decide) rfl rfl ?_
  refine ko_wipe h v (fun hc => ⟨12, 3, 1, rfl, rfl, Nat.le_of_ble_eq_true rfl, ?_⟩) (fun n hn he E1 w1 h1 f1 => ?_)
  · refine ux_BN 1 rfl ?_
    exact ux_Bri rfl (Or.inl rfl) (hK1 hc)
  · refine ux_BN 1 rfl ?_
    refine ux_Blst rfl (by rw [f1 238 (by omega)]; exact ho) (by decide) (Nat.le_of_ble_eq_true rfl) ?_
    refine ux_BN 2 rfl ?_
    exact ux_Bri rfl (Or.inl rfl) (hK2 n hn he _ _ h1 f1)
theorem lh_count (h : cS E sl tx us fk fp dn ct) (ho : E 238 = some (102, [], [.long q0])) (v : Int32) (hK1 : v < 0 ∨ 5 ≤ v → K (.inr (some (.int 1))) E (x + 1) (z + 6) true) (hK2 : ∀ n, n < 5 → v = nI n → ∀ w', K (.inr (some (.int 0))) (ux_up E 238 (102, [], [.long (ct.getD n 0).toInt64])) x z w') : ux_Bm uxP sc (d + 3) 60 [.ref 1, .int v, .ref 238] E x z K := by
  show ux_B uxP sc (d + 3) 60 0 [.ref 1, .int v, .ref 238, .null] [] E x z false K
  refine ux_BN 4 rfl ?_
  refine ux_Bhv rfl rfl rfl h.1 rfl (by decide) rfl rfl ?_
  refine ko_count h v (fun hc => ⟨12, 3, 1, rfl, rfl, Nat.le_of_ble_eq_true rfl, ?_⟩) (fun n hn he => ?_)
  · refine ux_BN 1 rfl ?_
    exact ux_Bri rfl (Or.inl rfl) (hK1 hc)
  · refine ux_BN 1 rfl ?_
    refine ux_Blst rfl ho (by decide) (Nat.le_of_ble_eq_true rfl) ?_
    refine ux_BN 2 rfl ?_
    exact ux_Bri rfl (Or.inl rfl) (hK2 n hn he _)
theorem lh_look (h : cS E sl tx us fk fp dn ct) (hi : iS E W AD PR L) (hAD : AD.length = 8) (ho : E 238 = some (102, [], [.long q0])) (v u : Int32) (hK1 : (v < 0 ∨ 8 ≤ v) ∨ (u < 0 ∨ 5 ≤ u) → K (.inr (some (.int 1))) E (x + 1) (z + 6) true) (hK2 : ∀ n k, n < 8 → k < 5 → v = nI n → u = nI k → ∀ w', K (.inr (some (.int 0))) (ux_up E 238 (102, [], [.long (if k = 0 then fk.getD n 0 else if k = 1 then fp.getD n 0 else if k = 2 then dn.getD n 0 else if k = 3 then nI (us n).length else AD.getD n 0).toInt64])) x z w') : ux_Bm uxP sc (d + 3) 62 [.ref 1, .int v, .int u, .ref 238] E x z K := by
  show ux_B uxP sc (d + 3) 62 0 [.ref 1, .int v, .int u, .ref 238, .null] [] E x z false K
  refine ux_BN 5 rfl ?_
  refine ux_Bhv rfl rfl rfl h.1 rfl (by decide) rfl rfl ?_
  refine ko_look h hi hAD v u (fun hc => ⟨13, 4, 2, rfl, rfl, Nat.le_of_ble_eq_true rfl, ?_⟩) (fun n k hn hk he he2 => ?_)
  · refine ux_BN 1 rfl ?_
    exact ux_Bri rfl (Or.inl rfl) (hK1 hc)
  · refine ux_BN 1 rfl ?_
    refine ux_Blst rfl ho (by decide) (Nat.le_of_ble_eq_true rfl) ?_
    refine ux_BN 2 rfl ?_
    exact ux_Bri rfl (Or.inl rfl) (hK2 n k hn hk he he2 _)
theorem lh_word (h : cS E sl tx us fk fp dn ct) (hi : iS E W AD PR L) (hL : L ≤ 300) (hW : W.length = 300) (ho : E 238 = some (102, [], [.long q0])) (v : Int32) (hK1 : v < 0 ∨ nI L ≤ v → K (.inr (some (.int 1))) E (x + 1) (z + 6) true) (hK2 : ∀ n, n < L → v = nI n → ∀ w', K (.inr (some (.int 0))) (ux_up E 238 (102, [], [.long (W.getD n 0).toInt64])) x z w') : ux_Bm uxP sc (d + 3) 64 [.ref 1, .int v, .ref 238] E x z K := by
  show ux_B uxP sc (d + 3) 64 0 [.ref 1, .int v, .ref 238, .null] [] E x z false K
  refine ux_BN 4 rfl ?_
  refine ux_Bhv rfl rfl rfl h.1 rfl (by decide) rfl rfl ?_
  refine ko_word h hi hL hW v (fun hc => ⟨12, 3, 1, rfl, rfl, Nat.le_of_ble_eq_true rfl, ?_⟩) (fun n hn he => ?_)
  · refine ux_BN 1 rfl ?_
    exact ux_Bri rfl (Or.inl rfl) (hK1 hc)
  · refine ux_BN 1 rfl ?_
    refine ux_Blst rfl ho (by decide) (Nat.le_of_ble_eq_true rfl) ?_
    refine ux_BN 2 rfl ?_
    exact ux_Bri rfl (Or.inl rfl) (hK2 n hn he _)
theorem lh_run (h : cS E sl tx us fk fp dn ct) (hi : iS E W AD PR L) (hI : iOk W AD PR L) (hn : nS E rs sp (n, F, pc, S, B, R)) (hS : S.length = 40) (hB : B.length = 12) (hR : R.length = 12) (R0 : R.getD 0 0 = 0) (ho : E 238 = some (102, [], [.long q0])) (v a b c fu : Int32)
    (hK1 : (v < 0 ∨ 8 ≤ v) ∨ (∃ f, f < 8 ∧ v = nI f ∧ AD.getD f 0 = -1) → K (.inr (some (.int 1))) E (x + 1) (z + 6) true)
    (hK2 : ∀ f, f < 8 → v = nI f → ¬ AD.getD f 0 = -1 → ∃ p ad o sp' s', p ≤ 3 ∧ PR.getD f 0 = nI p ∧ AD.getD f 0 = nI ad ∧ ad < 300 ∧ rN W AD PR L (fuC fu) 0 (p, 1, ad, ((S.set 0 a).set 1 b).set 2 c, B.set 0 0, R) o sp' s' ∧ s'.2.2.2.1.length = 40 ∧ s'.2.2.2.2.1.length = 12 ∧ s'.2.2.2.2.2.length = 12 ∧ s'.2.2.2.2.2.getD 0 0 = 0 ∧ ∀ E' w' n F pc, nS E' (if o = 0 then s'.2.2.2.1.getD 0 0 else 0) (nI sp') (n, F, pc, s'.2.2.2.1, s'.2.2.2.2.1, s'.2.2.2.2.2) → nF E E' → K (.inr (some (.int 0))) (ux_up E' 238 (102, [], [.long o.toInt64])) x z w') : ux_Bm uxP sc (d + 5) 66 [.ref 1, .int v, .int a, .int b, .int c, .int fu, .ref 238] E x z K := by
  show ux_B uxP sc (d + 5) 66 0 [.ref 1, .int v, .int a, .int b, .int c, .int fu, .ref 238, .null] [] E x z false K
  refine ux_BN 8 rfl ?_
  refine ux_Bhv rfl rfl rfl h.1 rfl (by decide) rfl rfl ?_
  refine ko_run h hi hI hn hS hB hR R0 v a b c fu (fun hc => ⟨19, 7, 2, rfl, rfl, Nat.le_of_ble_eq_true rfl, ?_⟩) (fun f hf he ha => ?_)
  · refine ux_BN 1 rfl ?_
    exact ux_Bri rfl (Or.inl rfl) (hK1 hc)
  · obtain ⟨p, ad, o, sp', s', k1, k2, k3, k4, k5, k6, k7, k8, k9, k10⟩ := hK2 f hf he ha
    refine ⟨p, ad, o, sp', s', k1, k2, k3, k4, k5, k6, k7, k8, k9, fun E1 w1 n1 F1 pc1 h1 f1 => ?_⟩
    refine ux_BN 1 rfl ?_
    refine ux_Blst rfl (by rw [f1 238 (by omega)]; exact ho) (by decide) (Nat.le_of_ble_eq_true rfl) ?_
    refine ux_BN 2 rfl ?_
    exact ux_Bri rfl (Or.inl rfl) (k10 _ _ _ _ _ h1 f1)
end LH
