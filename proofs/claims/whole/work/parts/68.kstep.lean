/-! The class's machine: a step, a run. -/
section KM2
variable {sc : List Int32} {d : Nat} {E : ux_Ev} {W AD PR : List Int32} {L : Nat} {rs sp : Int32} {n F pc : Nat} {S B R : List Int32} {x z : Nat} {w : Bool} {K : ux_K1}
theorem ks_pre (hi : iS E W AD PR L) (hL : L ≤ 300) (hW : W.length = 300) (h : nS E rs sp (n, F, pc, S, B, R)) (hpc : pc + 1 < L)
    (hK : ∀ E' w', nS E' rs sp (n, F, (if 2 ≤ W.getD pc 0 ∧ W.getD pc 0 ≤ 6 then pc + 1 else pc + 2), S, B, R) → nF E E' → ux_B uxP sc (d + 2) 71 41 [.ref 14, .ref 10, .int (W.getD pc 0), .int (W.getD (pc + 1) 0)] [] E' x z w' K) : ux_Bm uxP sc (d + 2) 71 [.ref 14, .ref 10] E x z K := by
  show ux_B uxP sc (d + 2) 71 0 [.ref 14, .ref 10, .null, .null] [] E x z false K
  refine ux_BN 2 rfl ?_
  refine ux_Bget rfl rfl h.1 rfl ?_
  refine ux_Bv rfl rfl rfl hi.1 rfl (by decide) rfl rfl ?_
  refine ko_at hi hL hW (show pc < L by omega) fun w1 => ?_
  refine ux_BN 3 rfl ?_
  refine ux_Bget rfl rfl h.1 rfl ?_
  refine ux_BN 2 rfl ?_
  refine ux_Btop (nI (pc + 1)) (nI_1 pc) ?_
  refine ux_Bv rfl rfl rfl hi.1 rfl (by decide) rfl rfl ?_
  refine ko_at hi hL hW hpc fun w2 => ?_
  refine ux_BN 3 rfl ?_
  refine ux_Bget rfl rfl h.1 rfl ?_
  refine ux_BN 1 rfl ?_
  refine ux_Bk (j := 43) rfl rfl ?_
  refine ko_hasOp _ (fun ho => ?_) (fun ho => ?_)
  · refine ux_BN 1 rfl ?_
    refine ux_Byes rfl ?_
    refine ux_BN 2 rfl ?_
    refine ux_Btop (nI (pc + 1)) (nI_1 pc) ?_
    refine ux_Bput rfl rfl rfl h.1 rfl (Nat.le_of_ble_eq_true rfl) ?_
    rw [if_pos ho] at hK
    exact hK _ _ (h.f14 rs sp n F (pc + 1)) (nF_up (by decide))
  · refine ux_BN 1 rfl ?_
    refine ux_Bno (by decide) ?_
    refine ux_BN 3 rfl ?_
    refine ux_Btop (nI (pc + 2)) (nI_add pc 2) ?_
    refine ux_Bput rfl rfl rfl h.1 rfl (Nat.le_of_ble_eq_true rfl) ?_
    rw [if_neg ho] at hK
    exact hK _ _ (h.f14 rs sp n F (pc + 2)) (nF_up (by decide))
theorem ko_step (hi : iS E W AD PR L) (hL : L ≤ 300) (hW : W.length = 300) (hAD : AD.length = 8) (hPR : PR.length = 8) {o : Int32} {s' : rT} (h : nS E rs sp (n, F, pc, S, B, R)) (hc : rC W AD PR L (n, F, pc, S, B, R) o s')
    (hK : ∀ E' w' q, (o = -1 → q = s'.2.2.1) → nS E' rs sp (s'.1, s'.2.1, q, s'.2.2.2.1, s'.2.2.2.2.1, s'.2.2.2.2.2) → nF E E' → K (.inr (some (.int o))) E' x z w') : ux_Bm uxP sc (d + 2) 71 [.ref 14, .ref 10] E x z K := by
  obtain ⟨⟨c1, c2, c3, c4, c5⟩, hc⟩ := hc
  refine ks_pre hi hL hW h c1 fun E1 w1 h1 f1 => ?_
  have hi1 : iS E1 W AD PR L := hi.fr fun b b1 b2 => f1 b (by omega)
  rcases hc with ⟨hw, hc⟩ | ⟨hw, b, k, F0, rfl, hF, hb, hk, hbk, hc⟩ | ⟨k, hk, hw, hn, rfl, rfl⟩ | ⟨hw, hn, rfl, dd, hd, hdl, rfl⟩ | ⟨hw, rfl, dd, hd, hdl, rfl⟩ | ⟨hw, hF0, a, g, p, ha, haL, ⟨hg, hg2, hg3⟩, hp, hpn, hc⟩ | ⟨hw, b, F0, pc', rfl, hF, hb, hbn, ho, ⟨hp1, hp2⟩, rfl⟩
  · rw [hw] at h1 ⊢
    rw [if_neg (by decide)] at h1
    refine ux_BN 2 rfl ?_
    refine ux_BN 2 rfl ?_
    refine ux_Bv rfl rfl rfl h1.1 rfl (by decide) rfl rfl ?_
    rcases hc with ⟨h40, rfl, rfl⟩ | ⟨h40, rfl, rfl⟩
    · refine ko_push h1 c3 c2 _ (fun _ => ?_) (fun e => by omega)
      exact ux_Bri rfl (Or.inl rfl) (hK _ _ _ (fun e => absurd e (by decide)) h1 f1)
    · refine ko_push h1 c3 c2 _ (fun e => by omega) fun _ E2 w2 h2 f2 => ?_
      exact ux_Bri rfl (Or.inl rfl) (hK _ _ _ (fun _ => rfl) h2 (f1.tr f2))
  · rw [hw] at h1 ⊢
    rw [if_neg (by decide)] at h1
    rw [hk]
    refine ux_BN 2 rfl ?_
    refine ux_BN 3 rfl ?_
    refine ux_Bv rfl rfl rfl h1.1 rfl (by decide) rfl rfl ?_
    refine ko_arg h1 c3 c4 (by omega) c2 hb hbk ?_
    refine ux_Bv rfl rfl rfl h1.1 rfl (by decide) rfl rfl ?_
    rcases hc with ⟨h40, rfl, rfl⟩ | ⟨h40, rfl, rfl⟩
    · refine ko_push h1 c3 c2 _ (fun _ => ?_) (fun e => by omega)
      exact ux_Bri rfl (Or.inl rfl) (hK _ _ _ (fun e => absurd e (by decide)) h1 f1)
    · refine ko_push h1 c3 c2 _ (fun e => by omega) fun _ E2 w2 h2 f2 => ?_
      exact ux_Bri rfl (Or.inl rfl) (hK _ _ _ (fun _ => rfl) h2 (f1.tr f2))
  · obtain ⟨n, rfl⟩ : ∃ m, n = m + 2 := ⟨n - 2, by omega⟩
    have hop : (2 : Int32) ≤ nI k ∧ nI k ≤ 6 := ⟨nI_le (a := 2) (by omega) (by omega), nI_le (b := 6) (by omega) (by decide)⟩
    rw [hw] at h1 ⊢
    rw [if_pos hop] at h1
    have hgo : ux_B uxP sc (d + 2) 71 171 [.ref 14, .ref 10, .int (nI k), .int (W.getD (pc + 1) 0)] [] E1 x z w1 K := by
      refine ux_BN 2 rfl ?_
      refine ux_Bv rfl rfl rfl h1.1 rfl (by decide) rfl rfl ?_
      refine ko_calc h1 c3 c2 hk fun E2 w2 h2 f2 => ?_
      exact ux_Bri rfl (Or.inl rfl) (hK _ _ _ (fun _ => rfl) h2 (f1.tr f2))
    have hk5 : k = 2 ∨ k = 3 ∨ k = 4 ∨ k = 5 ∨ k = 6 := by omega
    rcases hk5 with rfl | rfl | rfl | rfl | rfl
    · exact ux_BN 2 rfl hgo
    · exact ux_BN 2 rfl hgo
    · exact ux_BN 2 rfl hgo
    · exact ux_BN 2 rfl hgo
    · exact ux_BN 2 rfl hgo
  · obtain ⟨n, rfl⟩ : ∃ m, n = m + 1 := ⟨n - 1, by omega⟩
    rw [hw] at h1 ⊢
    rw [if_neg (by decide)] at h1
    rw [hd]
    refine ux_BN 2 rfl ?_
    refine ux_BN 2 rfl ?_
    refine ux_Bget rfl rfl h1.1 rfl ?_
    refine ux_BN 1 rfl ?_
    refine ux_Bv rfl rfl rfl h1.1 rfl (by decide) rfl rfl ?_
    refine ko_pop h1 c3 (by omega) fun E2 w2 h2 f2 => ?_
    refine ux_BN 1 rfl ?_
    refine ux_Bne (fun (h0 : S.getD n 0 = 0) => ?_) (fun (h0 : ¬ S.getD n 0 = 0) => ?_)
    · refine ux_BN 3 rfl ?_
      refine ux_Btop (nI (pc + 2 + dd)) (nI_add (pc + 2) dd) ?_
      refine ux_Bput rfl rfl rfl h2.1 rfl (Nat.le_of_ble_eq_true rfl) ?_
      refine ux_BN 1 rfl ?_
      have := h2.f14 rs sp n F (pc + 2 + dd)
      refine ux_Bri rfl (Or.inl rfl) (hK _ _ (pc + 2 + dd) (fun _ => ?_) this ((f1.tr f2).tr (nF_up (by decide))))
      show _ = if S.getD n 0 = 0 then _ else _
      rw [if_pos h0]
    · refine ux_BN 2 rfl ?_
      refine ux_Btop (nI (pc + 2)) (Int32.add_zero _) ?_
      refine ux_Bput rfl rfl rfl h2.1 rfl (Nat.le_of_ble_eq_true rfl) ?_
      refine ux_BN 1 rfl ?_
      have := h2.f14 rs sp n F (pc + 2)
      refine ux_Bri rfl (Or.inl rfl) (hK _ _ (pc + 2) (fun _ => ?_) this ((f1.tr f2).tr (nF_up (by decide))))
      show _ = if S.getD n 0 = 0 then _ else _
      rw [if_neg h0]
  · rw [hw] at h1 ⊢
    rw [if_neg (by decide)] at h1
    rw [hd]
    refine ux_BN 2 rfl ?_
    refine ux_BN 2 rfl ?_
    refine ux_Bget rfl rfl h1.1 rfl ?_
    refine ux_BN 2 rfl ?_
    refine ux_Btop (nI (pc + 2 + dd)) (nI_add (pc + 2) dd) ?_
    refine ux_Bput rfl rfl rfl h1.1 rfl (Nat.le_of_ble_eq_true rfl) ?_
    refine ux_BN 1 rfl ?_
    exact ux_Bri rfl (Or.inl rfl) (hK _ _ _ (fun _ => rfl) (h1.f14 rs sp n F (pc + 2 + dd)) (f1.tr (nF_up (by decide))))
  · rw [hw] at h1 ⊢
    rw [if_neg (by decide)] at h1
    rw [ha]
    refine ux_BN 2 rfl ?_
    refine ux_BN 4 rfl ?_
    refine ux_Bv rfl rfl rfl hi1.1 rfl (by decide) rfl rfl ?_
    refine ko_parAt hi1 hAD hPR hg hg2 hg3 ?_
    rw [hp]
    refine ux_BN 1 rfl ?_
    refine ux_Bget rfl rfl h1.1 rfl ?_
    refine ux_Bv rfl rfl rfl h1.1 rfl (by decide) rfl rfl ?_
    rcases hc with ⟨h12, rfl, rfl⟩ | ⟨h12, rfl, rfl⟩
    · refine ko_open h1 c4 c5 (by omega) hpn (fun _ => ?_) (fun e => by omega)
      exact ux_Bri rfl (Or.inl rfl) (hK _ _ _ (fun e => absurd e (by decide)) h1 f1)
    · refine ko_open h1 c4 c5 (by omega) hpn (fun e => by omega) fun _ E2 w2 h2 f2 => ?_
      exact ux_Bri rfl (Or.inl rfl) (hK _ _ _ (fun _ => rfl) h2 (f1.tr f2))
  · obtain ⟨n, rfl⟩ : ∃ m, n = m + 1 := ⟨n - 1, by omega⟩
    rw [hw] at h1 ⊢
    rw [if_neg (by decide)] at h1
    refine ux_BN 2 rfl ?_
    refine ux_BN 1 rfl ?_
    refine ux_Bv rfl rfl rfl h1.1 rfl (by decide) rfl rfl ?_
    refine ko_close h1 c3 c4 c5 (by omega) (by omega) hb (by omega) hp2 o ho fun E2 w2 h2 f2 => ?_
    exact ux_Bri rfl (Or.inl rfl) (hK _ _ _ (fun _ => rfl) h2 (f1.tr f2))
/-- the loop of a run -/
theorem ko_work (hi : iS E W AD PR L) (hL : L ≤ 300) (hW : W.length = 300) (hAD : AD.length = 8) (hPR : PR.length = 8) {fu : Nat} (hfu : fu ≤ 1000) {s : rT} (h : nS E rs sp s) {o : Int32} {sp' : Nat} {s' : rT} (hS' : s'.2.2.2.1.length = 40) (hr : rN W AD PR L fu 0 s o sp' s')
    (hK : ∀ E' w' n F pc, nS E' (if o = 0 then s'.2.2.2.1.getD 0 0 else 0) (nI sp') (n, F, pc, s'.2.2.2.1, s'.2.2.2.2.1, s'.2.2.2.2.2) → nF E E' → K (.inr (some (.int o))) E' x z w') : ux_Bm uxP sc (d + 3) 70 [.ref 14, .ref 10, .int (nI fu)] E x z K := by
  show ux_B uxP sc (d + 3) 70 0 [.ref 14, .ref 10, .int (nI fu), .null] [] E x z false K
  obtain ⟨n, F, pc, S, B, R⟩ := s
  refine ux_BN 4 rfl ?_
  refine ux_Bput rfl rfl rfl h.1 rfl (Nat.le_of_ble_eq_true rfl) ?_
  have hend : ∀ E1 w rs1 sp1 n1 F1 pc1 y, nS E1 rs1 (nI sp1) (n1, F1, pc1, s'.2.2.2.1, s'.2.2.2.2.1, s'.2.2.2.2.2) → nF E E1 → sp' = sp1 → ((y = -1 ∧ o = 1) ∨ (¬ y = -1 ∧ o = y)) → ux_B uxP sc (d + 3) 70 39 [.ref 14, .ref 10, .int (nI fu), .int y] [] E1 x z w K := by
    intro E1 w rs1 sp1 n1 F1 pc1 y h1 f1 hsp hy
    subst hsp
    refine ux_BN 3 rfl ?_
    have hfin : ∀ v w, v = (if o = 0 then s'.2.2.2.1.getD 0 0 else 0) → ux_B uxP sc (d + 3) 70 54 [.ref 14, .ref 10, .int (nI fu), .int y] [.int v, .ref 14] E1 x z w K := by
      intro v w hv
      refine ux_Bput rfl rfl rfl h1.1 rfl (Nat.le_of_ble_eq_true rfl) ?_
      have h2 := h1.f14 v (nI sp') n1 F1 pc1
      rw [hv] at h2 ⊢
      refine ux_BN 3 rfl ?_
      rcases hy with ⟨rfl, rfl⟩ | ⟨hy, rfl⟩
      · refine ux_Bne (fun _ => ?_) (fun e => absurd rfl e)
        refine ux_BN 2 rfl ?_
        exact ux_Bri rfl (Or.inl rfl) (hK _ _ n1 F1 pc1 h2 (f1.tr (nF_up (by decide))))
      · refine ux_Bne (fun e => absurd e hy) (fun _ => ?_)
        refine ux_BN 1 rfl ?_
        exact ux_Bri rfl (Or.inl rfl) (hK _ _ n1 F1 pc1 h2 (f1.tr (nF_up (by decide))))
    refine ux_Bne (fun (e : y = 0) => ?_) (fun (e : ¬ y = 0) => ?_)
    · refine ux_BN 1 rfl ?_
      refine ux_Bget rfl rfl h1.1 rfl ?_
      refine ux_BN 1 rfl ?_
      refine ux_BildN 0 rfl h1.2.1 rfl (by decide) (by show 0 < s'.2.2.2.1.length; omega) ?_
      refine ux_BN 1 rfl ?_
      refine hfin _ _ ?_
      have : o = 0 := by
        rcases hy with ⟨e2, _⟩ | ⟨_, e2⟩
        · rw [e] at e2; exact absurd e2 (by decide)
        · rw [e2, e]
      rw [if_pos this]
    · refine ux_BN 1 rfl ?_
      refine hfin _ _ ?_
      have : ¬ o = 0 := by
        rcases hy with ⟨_, e2⟩ | ⟨_, e2⟩
        · rw [e2]; decide
        · rw [e2]; exact e
      rw [if_neg this]; rfl
  have hloop : ∀ m k E1 w n1 F1 pc1 S1 B1 R1, k + m = fu → nS E1 rs (nI k) (n1, F1, pc1, S1, B1, R1) → nF E E1 → rN W AD PR L m k (n1, F1, pc1, S1, B1, R1) o sp' s' → ux_B uxP sc (d + 3) 70 7 [.ref 14, .ref 10, .int (nI fu), .int (-1)] [] E1 x z w K := by
    intro m
    induction m with
    | zero =>
      intro k E1 w n1 F1 pc1 S1 B1 R1 hk h1 f1 hr
      obtain ⟨r1, r2, r3⟩ := hr
      refine ux_BN 1 rfl ?_
      refine ux_Bget rfl rfl h1.1 rfl ?_
      refine ux_BN 2 rfl ?_
      refine ux_Byes (nI_le (by omega) (by omega)) ?_
      subst r3
      exact hend _ _ _ _ _ _ _ _ h1 f1 r2 (Or.inl ⟨rfl, r1⟩)
    | succ m ih =>
      intro k E1 w n1 F1 pc1 S1 B1 R1 hk h1 f1 hr
      obtain ⟨o1, s1, r1, r2⟩ := hr
      refine ux_BN 1 rfl ?_
      refine ux_Bget rfl rfl h1.1 rfl ?_
      refine ux_BN 2 rfl ?_
      refine ux_Bno (nI_ge (show k < fu by omega) (by omega)) ?_
      refine ux_BN 3 rfl ?_
      refine ux_Bno (by decide) ?_
      refine ux_BN 2 rfl ?_
      refine ux_Bv rfl rfl rfl h1.1 rfl (by decide) rfl rfl ?_
      have hi1 : iS E1 W AD PR L := hi.fr fun b b1 b2 => f1 b (by omega)
      refine ko_step hi1 hL hW hAD hPR h1 r1 fun E2 w2 q hq h2 f2 => ?_
      refine ux_BN 3 rfl ?_
      refine ux_Bget rfl rfl h2.1 rfl ?_
      refine ux_BN 2 rfl ?_
      refine ux_Btop (nI (k + 1)) (nI_1 k) ?_
      refine ux_Bput rfl rfl rfl h2.1 rfl (Nat.le_of_ble_eq_true rfl) ?_
      refine ux_BN 1 rfl ?_
      have h3 := h2.f14 rs (nI (k + 1)) s1.1 s1.2.1 q
      have f3 : nF E (ux_up E2 14 (3, [], [.int rs, .int (nI (k + 1)), .ref 15, .ref 16, .ref 17, .int (nI s1.1), .int (nI s1.2.1), .int (nI q)])) := (f1.tr f2).tr (nF_up (by decide))
      rcases r2 with ⟨rfl, r2⟩ | ⟨hne, r2, r3, r4⟩
      · obtain rfl := hq rfl
        exact ih (k + 1) _ _ _ _ _ _ _ _ (by omega) h3 f3 r2
      · refine ux_BN 1 rfl ?_
        refine ux_Bget rfl rfl h3.1 rfl ?_
        refine ux_BN 2 rfl ?_
        subst r4
        by_cases hk2 : fu ≤ k + 1
        · refine ux_Byes (nI_le hk2 (by omega)) ?_
          exact hend _ _ _ _ _ _ _ _ h3 f3 r3 (Or.inr ⟨hne, r2⟩)
        · refine ux_Bno (nI_ge (show k + 1 < fu by omega) (by omega)) ?_
          refine ux_BN 3 rfl ?_
          refine ux_Byes hne ?_
          exact hend _ _ _ _ _ _ _ _ h3 f3 r3 (Or.inr ⟨hne, r2⟩)
  exact hloop fu 0 _ _ _ _ _ _ _ _ (by omega) (h.f14 rs (nI 0) n F pc) (nF_up (by decide)) hr
end KM2
