/-! The class's machine: its small methods. -/
def nS (E : ux_Ev) (rs sp : Int32) (s : rT) : Prop := E 14 = some (3, [], [.int rs, .int sp, .ref 15, .ref 16, .ref 17, .int (nI s.1), .int (nI s.2.1), .int (nI s.2.2.1)]) ∧ E 15 = some (100, s.2.2.2.1, []) ∧ E 16 = some (100, s.2.2.2.2.1, []) ∧ E 17 = some (100, s.2.2.2.2.2, [])
def nF (E E' : ux_Ev) : Prop := ∀ b, b < 14 ∨ 17 < b → E' b = E b
theorem nF.tr {E E1 E2 : ux_Ev} (h : nF E E1) (h2 : nF E1 E2) : nF E E2 := fun b hb => (h2 b hb).trans (h b hb)
theorem nF_up {E : ux_Ev} {a : Nat} {c : ux_C} (h : 14 ≤ a ∧ a ≤ 17) : nF E (ux_up E a c) := fun b hb => ux_up_ne _ _ (by omega)
section KM
variable {sc : List Int32} {d : Nat} {E : ux_Ev} {W AD PR : List Int32} {L : Nat} {rs sp : Int32} {n F pc : Nat} {S B R : List Int32} {x z : Nat} {w : Bool} {K : ux_K1}
theorem nS.f14 (h : nS E rs sp (n, F, pc, S, B, R)) (rs' sp' : Int32) (n' F' pc' : Nat) : nS (ux_up E 14 (3, [], [.int rs', .int sp', .ref 15, .ref 16, .ref 17, .int (nI n'), .int (nI F'), .int (nI pc')])) rs' sp' (n', F', pc', S, B, R) :=
  ⟨ux_up_at _ _ _, by rw [ux_up_ne _ _ (by decide)]; exact h.2.1, by rw [ux_up_ne _ _ (by decide)]; exact h.2.2.1, by rw [ux_up_ne _ _ (by decide)]; exact h.2.2.2⟩
theorem nS.f15 (h : nS E rs sp (n, F, pc, S, B, R)) (S' : List Int32) : nS (ux_up E 15 (100, S', [])) rs sp (n, F, pc, S', B, R) :=
  ⟨by rw [ux_up_ne _ _ (by decide)]; exact h.1, ux_up_at _ _ _, by rw [ux_up_ne _ _ (by decide)]; exact h.2.2.1, by rw [ux_up_ne _ _ (by decide)]; exact h.2.2.2⟩
theorem nS.f16 (h : nS E rs sp (n, F, pc, S, B, R)) (B' : List Int32) : nS (ux_up E 16 (100, B', [])) rs sp (n, F, pc, S, B', R) :=
  ⟨by rw [ux_up_ne _ _ (by decide)]; exact h.1, by rw [ux_up_ne _ _ (by decide)]; exact h.2.1, ux_up_at _ _ _, by rw [ux_up_ne _ _ (by decide)]; exact h.2.2.2⟩
theorem nS.f17 (h : nS E rs sp (n, F, pc, S, B, R)) (R' : List Int32) : nS (ux_up E 17 (100, R', [])) rs sp (n, F, pc, S, B, R') :=
  ⟨by rw [ux_up_ne _ _ (by decide)]; exact h.1, by rw [ux_up_ne _ _ (by decide)]; exact h.2.1, by rw [ux_up_ne _ _ (by decide)]; exact h.2.2.1, ux_up_at _ _ _⟩
theorem ko_at (hi : iS E W AD PR L) (hL : L ≤ 300) (hW : W.length = 300) {k : Nat} (hk : k < L) (hK : ∀ w', K (.inr (some (.int (W.getD k 0)))) E x z w') : ux_Bm uxP sc (d + 1) 72 [.ref 10, .int (nI k)] E x z K := by
  show ux_B uxP sc (d + 1) 72 0 [.ref 10, .int (nI k)] [] E x z false K
  refine ux_BN 2 rfl ?_
  refine ux_Bv rfl rfl rfl hi.1 rfl (by decide) rfl rfl ?_
  refine ko_hasI hi.1 (by omega) _ (fun m hm he => ?_) (fun he => ?_)
  · refine ux_BN 1 rfl ?_
    refine ux_Bno (by decide) ?_
    refine ux_BN 1 rfl ?_
    refine ux_Bget rfl rfl hi.1 rfl ?_
    refine ux_BN 1 rfl ?_
    refine ux_BildN k rfl hi.2.1 rfl (by omega) (by omega) ?_
    refine ux_BN 1 rfl ?_
    exact ux_Bri rfl (Or.inl rfl) (hK _)
  · rcases he with he | he
    · exact absurd he (nI_pos (by omega))
    · exact absurd he (nI_ge hk (by omega))
theorem ko_push (h : nS E rs sp (n, F, pc, S, B, R)) (hS : S.length = 40) (hn : n ≤ 40) (y : Int32) (hK1 : n = 40 → K (.inr (some (.int 3))) E x z false) (hK2 : n < 40 → ∀ E' w', nS E' rs sp (n + 1, F, pc, S.set n y, B, R) → nF E E' → K (.inr (some (.int (-1)))) E' x z w') : ux_Bm uxP sc d 73 [.ref 14, .int y] E x z K := by
  show ux_B uxP sc d 73 0 [.ref 14, .int y] [] E x z false K
  refine ux_BN 1 rfl ?_
  refine ux_Bget rfl rfl h.1 rfl ?_
  refine ux_BN 2 rfl ?_
  refine ux_BltN n 40 rfl rfl (by omega) (by decide) (fun h1 => ?_) (fun h1 => ?_)
  · refine ux_BN 1 rfl ?_
    refine ux_Bget rfl rfl h.1 rfl ?_
    refine ux_BN 1 rfl ?_
    refine ux_Bget rfl rfl h.1 rfl ?_
    refine ux_BN 1 rfl ?_
    refine ux_BistN n rfl h.2.1 rfl (by omega) (by show n < S.length; omega) ?_
    have h2 := h.f15 (S.set n y)
    refine ux_BN 2 rfl ?_
    refine ux_Bget rfl rfl h2.1 rfl ?_
    refine ux_BN 2 rfl ?_
    refine ux_Btop (nI (n + 1)) (nI_1 n) ?_
    refine ux_Bput rfl rfl rfl h2.1 rfl (Nat.le_of_ble_eq_true rfl) ?_
    refine ux_BN 1 rfl ?_
    exact ux_Bri rfl (Or.inl rfl) (hK2 h1 _ _ (h2.f14 rs sp (n + 1) F pc) ((nF_up (by decide)).tr (nF_up (by decide))))
  · refine ux_BN 1 rfl ?_
    exact ux_Bri rfl (Or.inl rfl) (hK1 (by omega))
theorem ko_pop (h : nS E rs sp (n + 1, F, pc, S, B, R)) (hS : S.length = 40) (hn : n < 40) (hK : ∀ E' w', nS E' rs sp (n, F, pc, S, B, R) → nF E E' → K (.inr (some (.int (S.getD n 0)))) E' x z w') : ux_Bm uxP sc d 75 [.ref 14] E x z K := by
  show ux_B uxP sc d 75 0 [.ref 14] [] E x z false K
  refine ux_BN 1 rfl ?_
  refine ux_Bget rfl rfl h.1 rfl ?_
  refine ux_BN 1 rfl ?_
  refine ux_Byes (show 0 < nI (n + 1) from nI_lt (a := 0) (by omega) (by omega)) ?_
  refine ux_BN 2 rfl ?_
  refine ux_Bget rfl rfl h.1 rfl ?_
  refine ux_BN 2 rfl ?_
  refine ux_Btop (nI n) (nI_pred n) ?_
  refine ux_Bput rfl rfl rfl h.1 rfl (Nat.le_of_ble_eq_true rfl) ?_
  have h2 := h.f14 rs sp n F pc
  refine ux_BN 1 rfl ?_
  refine ux_Bget rfl rfl h2.1 rfl ?_
  refine ux_BN 1 rfl ?_
  refine ux_Bget rfl rfl h2.1 rfl ?_
  refine ux_BildN n rfl h2.2.1 rfl (by omega) (by show n < S.length; omega) ?_
  exact ux_Bri rfl (Or.inl rfl) (hK _ _ h2 (nF_up (by decide)))
theorem ko_arg (h : nS E rs sp (n, F + 1, pc, S, B, R)) (hS : S.length = 40) (hB : B.length = 12) (hF : F < 12) {b k : Nat} (hn : n ≤ 40) (hb : B.getD F 0 = nI b) (hk : b + k < n) (hK : K (.inr (some (.int (S.getD (b + k) 0)))) E x z false) : ux_Bm uxP sc d 74 [.ref 14, .int (nI k)] E x z K := by
  show ux_B uxP sc d 74 0 [.ref 14, .int (nI k), .null] [] E x z false K
  refine ux_BN 1 rfl ?_
  refine ux_Bget rfl rfl h.1 rfl ?_
  refine ux_BN 1 rfl ?_
  refine ux_Bno (nI_nle (n := F + 1) (by omega) (by omega)) ?_
  refine ux_BN 1 rfl ?_
  refine ux_Bget rfl rfl h.1 rfl ?_
  refine ux_BN 1 rfl ?_
  refine ux_Bget rfl rfl h.1 rfl ?_
  refine ux_BN 2 rfl ?_
  refine ux_BildN F rfl h.2.2.1 (nI_pred F) (by omega) (by show F < B.length; omega) ?_
  refine ux_Btop (nI b) hb ?_
  refine ux_BN 2 rfl ?_
  refine ux_Btop (nI (b + k)) (nI_add b k) ?_
  refine ux_BN 4 rfl ?_
  refine ux_Bno (nI_pos (by omega)) ?_
  refine ux_BN 2 rfl ?_
  refine ux_Bget rfl rfl h.1 rfl ?_
  refine ux_BN 1 rfl ?_
  refine ux_Bno (nI_ge hk (by omega)) ?_
  refine ux_BN 1 rfl ?_
  refine ux_Bget rfl rfl h.1 rfl ?_
  refine ux_BN 1 rfl ?_
  refine ux_BildN (b + k) rfl h.2.1 rfl (by omega) (by show b + k < S.length; omega) ?_
  refine ux_BN 1 rfl ?_
  exact ux_Bri rfl (Or.inl rfl) hK
theorem ko_open (h : nS E rs sp (n, F, pc, S, B, R)) (hB : B.length = 12) (hR : R.length = 12) (hF : F ≤ 12) {a p r : Nat} (hp : p ≤ n) (hK1 : F = 12 → K (.inr (some (.int 2))) E x z false) (hK2 : F < 12 → ∀ E' w', nS E' rs sp (n, F + 1, a, S, B.set F (nI (n - p)), R.set F (nI r)) → nF E E' → K (.inr (some (.int (-1)))) E' x z w') : ux_Bm uxP sc d 69 [.ref 14, .int (nI a), .int (nI p), .int (nI r)] E x z K := by
  show ux_B uxP sc d 69 0 [.ref 14, .int (nI a), .int (nI p), .int (nI r)] [] E x z false K
  refine ux_BN 1 rfl ?_
  refine ux_Bget rfl rfl h.1 rfl ?_
  refine ux_BN 2 rfl ?_
  refine ux_BltN F 12 rfl rfl (by omega) (by decide) (fun h1 => ?_) (fun h1 => ?_)
  · refine ux_BN 1 rfl ?_
    refine ux_Bget rfl rfl h.1 rfl ?_
    refine ux_BN 1 rfl ?_
    refine ux_Bget rfl rfl h.1 rfl ?_
    refine ux_BN 1 rfl ?_
    refine ux_Bget rfl rfl h.1 rfl ?_
    refine ux_BN 2 rfl ?_
    refine ux_Btop (nI (n - p)) (pk_sub hp) ?_
    refine ux_BistN F rfl h.2.2.1 rfl (by omega) (by show F < B.length; omega) ?_
    have h2 := h.f16 (B.set F (nI (n - p)))
    refine ux_BN 1 rfl ?_
    refine ux_Bget rfl rfl h2.1 rfl ?_
    refine ux_BN 1 rfl ?_
    refine ux_Bget rfl rfl h2.1 rfl ?_
    refine ux_BN 1 rfl ?_
    refine ux_BistN F rfl h2.2.2.2 rfl (by omega) (by show F < R.length; omega) ?_
    have h3 := h2.f17 (R.set F (nI r))
    refine ux_BN 2 rfl ?_
    refine ux_Bget rfl rfl h3.1 rfl ?_
    refine ux_BN 2 rfl ?_
    refine ux_Btop (nI (F + 1)) (nI_1 F) ?_
    refine ux_Bput rfl rfl rfl h3.1 rfl (Nat.le_of_ble_eq_true rfl) ?_
    have h4 := h3.f14 rs sp n (F + 1) pc
    refine ux_BN 2 rfl ?_
    refine ux_Bput rfl rfl rfl h4.1 rfl (Nat.le_of_ble_eq_true rfl) ?_
    refine ux_BN 1 rfl ?_
    exact ux_Bri rfl (Or.inl rfl) (hK2 h1 _ _ (h4.f14 rs sp n (F + 1) a) ((((nF_up (by decide)).tr (nF_up (by decide))).tr (nF_up (by decide))).tr (nF_up (by decide))))
  · refine ux_BN 1 rfl ?_
    exact ux_Bri rfl (Or.inl rfl) (hK1 (by omega))
theorem ko_parAt (hi : iS E W AD PR L) (hAD : AD.length = 8) (hPR : PR.length = 8) {a g : Nat} (hg : g < 8) (hga : AD.getD g 0 = nI a) (hno : ∀ j, j < g → ¬ AD.getD j 0 = nI a) (hK : K (.inr (some (.int (PR.getD g 0)))) E x z false) : ux_Bm uxP sc d 76 [.ref 10, .int (nI a)] E x z K := by
  show ux_B uxP sc d 76 0 [.ref 10, .int (nI a), .null] [] E x z false K
  refine ux_BN 2 rfl ?_
  have hloop : ∀ k j, j + k = g → ux_B uxP sc d 76 2 [.ref 10, .int (nI a), .int (nI j)] [] E x z false K := by
    intro k
    induction k with
    | zero =>
      intro j hj
      have : j = g := by omega
      subst this
      refine ux_BN 3 rfl ?_
      refine ux_Bno (nI_ge hg (by decide)) ?_
      refine ux_BN 1 rfl ?_
      refine ux_Bget rfl rfl hi.1 rfl ?_
      refine ux_BN 1 rfl ?_
      refine ux_BildN j rfl hi.2.2.1 rfl (by omega) (by omega) ?_
      refine ux_BN 2 rfl ?_
      refine ux_Bne (fun _ => ?_) (fun h1 => absurd hga h1)
      refine ux_BN 1 rfl ?_
      refine ux_Bget rfl rfl hi.1 rfl ?_
      refine ux_BN 1 rfl ?_
      refine ux_BildN j rfl hi.2.2.2 rfl (by omega) (by omega) ?_
      exact ux_Bri rfl (Or.inl rfl) hK
    | succ k ih =>
      intro j hj
      refine ux_BN 3 rfl ?_
      refine ux_Bno (nI_ge (show j < 8 by omega) (by decide)) ?_
      refine ux_BN 1 rfl ?_
      refine ux_Bget rfl rfl hi.1 rfl ?_
      refine ux_BN 1 rfl ?_
      refine ux_BildN j rfl hi.2.2.1 rfl (by omega) (by omega) ?_
      refine ux_BN 2 rfl ?_
      refine ux_Bne (fun h1 => absurd h1 (hno j (by omega))) (fun _ => ?_)
      refine ux_BN 2 rfl ?_
      have := ih (j + 1) (by omega)
      rw [← nI_s] at this
      exact this
  exact hloop g 0 (by omega)
theorem ko_close (h : nS E rs sp (n + 1, F + 1, pc, S, B, R)) (hS : S.length = 40) (hB : B.length = 12) (hR : R.length = 12) (hn : n < 40) (hF : F < 12) {b pc' : Nat} (hb : B.getD F 0 = nI b) (hbn : b ≤ n) (hr : R.getD F 0 = nI pc') (o : Int32) (ho : (F = 0 ∧ o = 0) ∨ (F ≠ 0 ∧ o = -1)) (hK : ∀ E' w', nS E' rs sp (b + 1, F, pc', S.set b (S.getD n 0), B, R) → nF E E' → K (.inr (some (.int o))) E' x z w') : ux_Bm uxP sc (d + 1) 77 [.ref 14] E x z K := by
  show ux_B uxP sc (d + 1) 77 0 [.ref 14, .null] [] E x z false K
  refine ux_BN 1 rfl ?_
  refine ux_Bv rfl rfl rfl h.1 rfl (by decide) rfl rfl ?_
  refine ko_pop h hS hn fun E1 w1 h1 f1 => ?_
  refine ux_BN 2 rfl ?_
  refine ux_Bget rfl rfl h1.1 rfl ?_
  refine ux_BN 1 rfl ?_
  refine ux_Byes (show 0 < nI (F + 1) from nI_lt (a := 0) (by omega) (by omega)) ?_
  refine ux_BN 2 rfl ?_
  refine ux_Bget rfl rfl h1.1 rfl ?_
  refine ux_BN 2 rfl ?_
  refine ux_Btop (nI F) (nI_pred F) ?_
  refine ux_Bput rfl rfl rfl h1.1 rfl (Nat.le_of_ble_eq_true rfl) ?_
  have h2 := h1.f14 rs sp n F pc
  refine ux_BN 3 rfl ?_
  refine ux_Bget rfl rfl h2.1 rfl ?_
  refine ux_BN 1 rfl ?_
  refine ux_Bget rfl rfl h2.1 rfl ?_
  refine ux_BildN F rfl h2.2.2.1 rfl (by omega) (by show F < B.length; omega) ?_
  refine ux_Btop (nI b) hb ?_
  refine ux_Bmax rfl rfl rfl ?_
  refine ux_Btop (nI b) (by
    by_cases hb0 : b = 0
    · subst hb0; rfl
    · exact if_pos (nI_lt (a := 0) (by omega) (by omega))) ?_
  refine ux_Bput rfl rfl rfl h2.1 rfl (Nat.le_of_ble_eq_true rfl) ?_
  have h3 := h2.f14 rs sp b F pc
  refine ux_BN 2 rfl ?_
  refine ux_Bget rfl rfl h3.1 rfl ?_
  refine ux_BN 1 rfl ?_
  refine ux_Bget rfl rfl h3.1 rfl ?_
  refine ux_BildN F rfl h3.2.2.2 rfl (by omega) (by show F < R.length; omega) ?_
  refine ux_Btop (nI pc') hr ?_
  refine ux_Bput rfl rfl rfl h3.1 rfl (Nat.le_of_ble_eq_true rfl) ?_
  have h4 := h3.f14 rs sp b F pc'
  refine ux_BN 2 rfl ?_
  refine ux_Bv rfl rfl rfl h4.1 rfl (by decide) rfl rfl ?_
  refine ko_push h4 hS (by omega) _ (fun e => by omega) fun _ E5 w5 h5 f5 => ?_
  have f15 : nF E E5 := ((((f1.tr (nF_up (by decide))).tr (nF_up (by decide))).tr (nF_up (by decide))).tr f5)
  refine ux_BN 2 rfl ?_
  refine ux_Bget rfl rfl h5.1 rfl ?_
  refine ux_BN 1 rfl ?_
  rcases ho with ⟨rfl, rfl⟩ | ⟨hF0, rfl⟩
  · refine ux_Bno (show ¬ ¬ nI 0 = 0 by decide) ?_
    refine ux_BN 2 rfl ?_
    exact ux_Bri rfl (Or.inl rfl) (hK _ _ h5 f15)
  · refine ux_Byes (nI_ne0 (n := F) (by omega) (by omega)) ?_
    refine ux_BN 1 rfl ?_
    exact ux_Bri rfl (Or.inl rfl) (hK _ _ h5 f15)
theorem ko_calc (h : nS E rs sp (n + 2, F, pc, S, B, R)) (hS : S.length = 40) (hn : n + 2 ≤ 40) {k : Nat} (hk : 2 ≤ k ∧ k ≤ 6) (hK : ∀ E' w', nS E' rs sp (n + 1, F, pc, S.set n (reck (nI k) (S.getD n 0) (S.getD (n + 1) 0)), B, R) → nF E E' → K (.inr (some (.int (-1)))) E' x z w') : ux_Bm uxP sc (d + 1) 78 [.ref 14, .int (nI k)] E x z K := by
  show ux_B uxP sc (d + 1) 78 0 [.ref 14, .int (nI k), .null, .null] [] E x z false K
  refine ux_BN 1 rfl ?_
  refine ux_Bv rfl rfl rfl h.1 rfl (by decide) rfl rfl ?_
  refine ko_pop h hS (by omega) fun E1 w1 h1 f1 => ?_
  refine ux_BN 2 rfl ?_
  refine ux_Bv rfl rfl rfl h1.1 rfl (by decide) rfl rfl ?_
  refine ko_pop h1 hS (by omega) fun E2 w2 h2 f2 => ?_
  refine ux_BN 1 rfl ?_
  have hp : ∀ y, y = reck (nI k) (S.getD n 0) (S.getD (n + 1) 0) → ux_Bm uxP sc d 73 [.ref 14, .int y] E2 x z fun o E' x' z' w' => o = .inr (some (.int (-1))) ∧ x' = x ∧ z' = z ∧ nS E' rs sp (n + 1, F, pc, S.set n (reck (nI k) (S.getD n 0) (S.getD (n + 1) 0)), B, R) ∧ nF E E' := by
    intro y hy
    refine ko_push h2 hS (by omega) y (fun e => by omega) fun _ E3 w3 h3 f3 => ⟨rfl, rfl, rfl, ?_, (f1.tr f2).tr f3⟩
    rw [← hy]; exact h3
  generalize S.getD n 0 = va at hK hp h2 ⊢
  generalize S.getD (n + 1) 0 = vb at hK hp h1 ⊢
  have hk5 : k = 2 ∨ k = 3 ∨ k = 4 ∨ k = 5 ∨ k = 6 := by omega
  rcases hk5 with rfl | rfl | rfl | rfl | rfl
  · refine ux_BN 6 rfl ?_
    refine ux_Bv rfl rfl rfl h2.1 rfl (by decide) rfl rfl ?_
    refine ux_Bmm (hp _ rfl) ?_
    rintro o E' x' z' w' ⟨rfl, rfl, rfl, a, b⟩
    exact ux_Bri rfl (Or.inl rfl) (hK _ _ a b)
  · refine ux_BN 6 rfl ?_
    refine ux_Bv rfl rfl rfl h2.1 rfl (by decide) rfl rfl ?_
    refine ux_Bmm (hp _ rfl) ?_
    rintro o E' x' z' w' ⟨rfl, rfl, rfl, a, b⟩
    exact ux_Bri rfl (Or.inl rfl) (hK _ _ a b)
  · refine ux_BN 6 rfl ?_
    refine ux_Bv rfl rfl rfl h2.1 rfl (by decide) rfl rfl ?_
    refine ux_Bmm (hp _ rfl) ?_
    rintro o E' x' z' w' ⟨rfl, rfl, rfl, a, b⟩
    exact ux_Bri rfl (Or.inl rfl) (hK _ _ a b)
  · refine ux_BN 6 rfl ?_
    refine ux_Bif (fun h3 => ?_) (fun h3 => ?_)
    · refine ux_BN 1 rfl ?_
      refine ux_Bv rfl rfl rfl h2.1 rfl (by decide) rfl rfl ?_
      refine ux_Bmm (hp _ (if_neg (k2_nlt h3)).symm) ?_
      rintro o E' x' z' w' ⟨rfl, rfl, rfl, a, b⟩
      exact ux_Bri rfl (Or.inl rfl) (hK _ _ a b)
    · refine ux_BN 2 rfl ?_
      refine ux_Bv rfl rfl rfl h2.1 rfl (by decide) rfl rfl ?_
      refine ux_Bmm (hp _ (if_pos (k2_lt h3)).symm) ?_
      rintro o E' x' z' w' ⟨rfl, rfl, rfl, a, b⟩
      exact ux_Bri rfl (Or.inl rfl) (hK _ _ a b)
  · refine ux_BN 6 rfl ?_
    refine ux_Bne (fun h3 => ?_) (fun h3 => ?_)
    · refine ux_BN 2 rfl ?_
      refine ux_Bv rfl rfl rfl h2.1 rfl (by decide) rfl rfl ?_
      refine ux_Bmm (hp _ (if_pos h3).symm) ?_
      rintro o E' x' z' w' ⟨rfl, rfl, rfl, a, b⟩
      exact ux_Bri rfl (Or.inl rfl) (hK _ _ a b)
    · refine ux_BN 1 rfl ?_
      refine ux_Bv rfl rfl rfl h2.1 rfl (by decide) rfl rfl ?_
      refine ux_Bmm (hp _ (if_neg h3).symm) ?_
      rintro o E' x' z' w' ⟨rfl, rfl, rfl, a, b⟩
      exact ux_Bri rfl (Or.inl rfl) (hK _ _ a b)
end KM
