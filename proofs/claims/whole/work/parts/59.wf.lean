/-! Codes as they come from a text: their form, their linked form, their marks. -/
def cSh : List Int32 → Prop
  | [] => True
  | [w] => 2 ≤ w ∧ w ≤ 6
  | w :: x :: r => if 2 ≤ w ∧ w ≤ 6 then cSh (x :: r) else (w = 9 → ∃ k, k < 8 ∧ x = nI k) ∧ cSh r
def lkO (ad : Nat → Int32) (w x : Int32) : Int32 := if w = 9 then ad x.toNatClampNeg else x
def lk (ad : Nat → Int32) : List Int32 → List Int32
  | [] => []
  | [w] => [w]
  | w :: x :: r => if 2 ≤ w ∧ w ≤ 6 then w :: lk ad (x :: r) else w :: lkO ad w x :: lk ad r
theorem cSh_op {w x : Int32} {r : List Int32} (h : 2 ≤ w ∧ w ≤ 6) (hr : cSh (x :: r)) : cSh (w :: x :: r) := by
  show if _ then _ else _
  rw [if_pos h]; exact hr
theorem lk_op {ad : Nat → Int32} {w : Int32} {r : List Int32} (h : 2 ≤ w ∧ w ≤ 6) : lk ad (w :: r) = w :: lk ad r := by
  cases r with
  | nil => rfl
  | cons x r => exact if_pos h
theorem lk_two {ad : Nat → Int32} {w x : Int32} {r : List Int32} (h : ¬ (2 ≤ w ∧ w ≤ 6)) : lk ad (w :: x :: r) = w :: lkO ad w x :: lk ad r := if_neg h
theorem cSh_1 {w : Int32} {r : List Int32} (h : cSh (w :: r)) (ho : 2 ≤ w ∧ w ≤ 6) : cSh r := by
  cases r with
  | nil => exact True.intro
  | cons x r =>
    have h : if _ then _ else _ := h
    rw [if_pos ho] at h
    exact h
theorem cSh_2 {w : Int32} {r : List Int32} (h : cSh (w :: r)) (ho : ¬ (2 ≤ w ∧ w ≤ 6)) : ∃ x r2, r = x :: r2 ∧ (w = 9 → ∃ k, k < 8 ∧ x = nI k) ∧ cSh r2 := by
  cases r with
  | nil => exact absurd h ho
  | cons x r =>
    have h : if _ then _ else _ := h
    rw [if_neg ho] at h
    exact ⟨x, r, rfl, h⟩
theorem cSh_i1 {w : Int32} {r : List Int32} (ho : 2 ≤ w ∧ w ≤ 6) (h : cSh r) : cSh (w :: r) := by
  cases r with
  | nil => exact ho
  | cons x r => exact cSh_op ho h
theorem cSh_i2 {w x : Int32} {r : List Int32} (ho : ¬ (2 ≤ w ∧ w ≤ 6)) (hx : w = 9 → ∃ k, k < 8 ∧ x = nI k) (h : cSh r) : cSh (w :: x :: r) := by
  show if _ then _ else _
  rw [if_neg ho]; exact ⟨hx, h⟩
theorem cSh_ind {ad : Nat → Int32} {c2 : List Int32} : ∀ n (c : List Int32), c.length ≤ n → cSh c → (cSh c2 → cSh (c ++ c2)) ∧ lk ad (c ++ c2) = lk ad c ++ lk ad c2 ∧ (lk ad c).length = c.length := by
  intro n
  induction n with
  | zero =>
    intro c hc hs
    cases c with
    | nil => exact ⟨fun h => h, rfl, rfl⟩
    | cons w r => simp at hc
  | succ n ih =>
    intro c hc hs
    cases c with
    | nil => exact ⟨fun h => h, rfl, rfl⟩
    | cons w r =>
      rw [List.length_cons] at hc
      by_cases ho : 2 ≤ w ∧ w ≤ 6
      · obtain ⟨i1, i2, i3⟩ := ih r (by omega) (cSh_1 hs ho)
        refine ⟨fun h => cSh_i1 ho (i1 h), ?_, ?_⟩
        · rw [List.cons_append, lk_op ho, lk_op ho, i2]; rfl
        · rw [lk_op ho, List.length_cons, i3]; rfl
      · obtain ⟨x, r2, rfl, hx, hr⟩ := cSh_2 hs ho
        rw [List.length_cons] at hc
        obtain ⟨i1, i2, i3⟩ := ih r2 (by omega) hr
        refine ⟨fun h => cSh_i2 ho hx (i1 h), ?_, ?_⟩
        · rw [List.cons_append, List.cons_append, lk_two ho, lk_two ho, i2]; rfl
        · rw [lk_two ho, List.length_cons, List.length_cons, i3]; rfl
theorem cSh_app {c c2 : List Int32} (h : cSh c) (h2 : cSh c2) : cSh (c ++ c2) := (cSh_ind (ad := fun _ => 0) c.length c (Nat.le_refl _) h).1 h2
theorem lk_app {ad : Nat → Int32} {c : List Int32} (c2 : List Int32) (h : cSh c) : lk ad (c ++ c2) = lk ad c ++ lk ad c2 := (cSh_ind c.length c (Nat.le_refl _) h).2.1
theorem lk_len {ad : Nat → Int32} {c : List Int32} (h : cSh c) : (lk ad c).length = c.length := (cSh_ind (c2 := []) c.length c (Nat.le_refl _) h).2.2
section WF2
variable {par : Nat} {ar : Nat → Nat} {ok : Nat → Prop} {ad : Nat → Int32}
theorem wC_if {c2 c3 : List Int32} {m2 m3 : List Nat} {h : Nat} (hh : par ≤ h) (a : wC par ar ok ad c2 m2 h (h + 1)) (b : wC par ar ok ad c3 m3 h (h + 1)) : wC par ar ok ad ([7, nI (c2.length + 2)] ++ (c2 ++ ([8, nI c3.length] ++ c3))) ([h + 2, 0] ++ (m2 ++ ([h + 2, 0] ++ m3))) (h + 1) (h + 1) := by
  obtain ⟨a1, a2, a3⟩ := a
  obtain ⟨b1, b2, b3⟩ := b
  have hM : ([h + 2, 0] ++ (m2 ++ ([h + 2, 0] ++ m3))) ++ [h + 1 + 1] = [h + 2, 0] ++ (m2 ++ ([h + 2, 0] ++ (m3 ++ [h + 2]))) := by simp
  have g2 : ∀ j, j ≤ c2.length → ([h + 2, 0] ++ (m2 ++ ([h + 2, 0] ++ (m3 ++ [h + 2])))).getD (j + 2) 0 = (m2 ++ [h + 1 + 1]).getD j 0 := by
    intro j hj
    rw [gN_r j (by simp; omega)]
    by_cases hj2 : j < m2.length
    · rw [gN_l hj2, gN_l hj2]
    · rw [gN_r (l := m2) (r := [h + 2, 0] ++ (m3 ++ [h + 2])) 0 (by omega), gN_r (l := m2) (r := [h + 1 + 1]) 0 (by omega)]; rfl
  have g3 : ∀ j, ([h + 2, 0] ++ (m2 ++ ([h + 2, 0] ++ (m3 ++ [h + 2])))).getD (j + (c2.length + 4)) 0 = (m3 ++ [h + 1 + 1]).getD j 0 := by
    intro j
    rw [gN_r (j + c2.length + 2) (by simp; omega), gN_r (j + 2) (by omega), gN_r j (by simp; omega)]
  have gc : ∀ j, ([7, nI (c2.length + 2)] ++ (c2 ++ ([8, nI c3.length] ++ c3))).getD (j + c2.length + 2) 0 = ([8, nI c3.length] ++ c3).getD j 0 := by
    intro j
    rw [gI_r (j + c2.length) (by simp; omega), gI_r j (by omega)]
  have gm : ([h + 2, 0] ++ (m2 ++ ([h + 2, 0] ++ (m3 ++ [h + 2])))).getD (1 + c2.length + 2) 0 = 0 := by
    rw [gN_r (1 + c2.length) (by simp; omega), gN_r 1 (by omega)]; rfl
  have hl : ([7, nI (c2.length + 2)] ++ (c2 ++ ([8, nI c3.length] ++ c3))).length = c2.length + c3.length + 4 := by simp; omega
  have hml : ([h + 2, 0] ++ (m2 ++ ([h + 2, 0] ++ m3))).length = c2.length + c3.length + 4 := by simp; omega
  refine ⟨by omega, rfl, fun i h' hi hm => ?_⟩
  rw [hM]
  rw [hl] at hi
  have hm' : ([h + 2, 0] ++ (m2 ++ ([h + 2, 0] ++ (m3 ++ [h + 2])))).getD i 0 = h' + 1 := by
    rw [← hM, gN_l (by omega)]; exact hm
  by_cases i0 : i = 0
  · subst i0
    have : h + 2 = h' + 1 := hm'
    have : h' = h + 1 := by omega
    subst this
    refine Or.inr (Or.inr (Or.inr (Or.inl ⟨rfl, rfl, ?_, by omega, c2.length + 2, rfl, by omega, ?_⟩)))
    · rw [g2 0 (by omega)]
      exact a2
    · have := g3 0
      rw [show 0 + 2 + (c2.length + 2) = 0 + (c2.length + 4) by omega, g3 0]
      exact b2
  by_cases i1 : i = 1
  · subst i1
    exact absurd (show 0 = h' + 1 from hm') (by omega)
  by_cases i2 : i < c2.length + 2
  · obtain ⟨k, rfl⟩ : ∃ k, i = k + 2 := ⟨i - 2, by omega⟩
    rw [g2 k (by omega), gN_l (by omega)] at hm'
    refine (a3 k h' (by omega) hm').shift (by omega) (fun j _ hj => ?_) (fun j _ hj => g2 j hj) (by omega)
    rw [gI_r j (by simp; omega)]
    exact getD_app hj
  by_cases i3 : i = c2.length + 2
  · subst i3
    rw [g2 _ (Nat.le_refl _), gN_r 0 (by omega)] at hm'
    have : h + 1 + 1 = h' + 1 := hm'
    have : h' = h + 1 := by omega
    subst this
    refine Or.inr (Or.inr (Or.inr (Or.inr (Or.inl ⟨?_, ?_, ?_, c3.length, ?_, by omega, ?_⟩))))
    · have := gc 0
      rw [Nat.zero_add] at this
      rw [this]; rfl
    · rw [show c2.length + 2 + 1 = 1 + c2.length + 2 by omega]; exact gm
    · rw [show c2.length + 2 + 2 = 0 + (c2.length + 4) by omega, g3 0, b2]; omega
    · rw [show c2.length + 2 + 1 = 1 + c2.length + 2 by omega, gc 1]; rfl
    · rw [show c2.length + 2 + 2 + c3.length = c3.length + (c2.length + 4) by omega, g3, gN_r 0 (by omega)]; rfl
  by_cases i4 : i = c2.length + 3
  · subst i4
    rw [show c2.length + 3 = 1 + c2.length + 2 by omega, gm] at hm'
    omega
  · obtain ⟨k, rfl⟩ : ∃ k, i = k + (c2.length + 4) := ⟨i - (c2.length + 4), by omega⟩
    rw [g3, gN_l (by omega)] at hm'
    refine (b3 k h' (by omega) hm').shift (by omega) (fun j _ hj => ?_) (fun j _ hj => g3 j) (by omega)
    rw [show j + (c2.length + 4) = (j + 2) + c2.length + 2 by omega, gc, gI_r j (by simp; omega)]
def cWf (par : Nat) (ar : Nat → Nat) (ok : Nat → Prop) (ad : Nat → Int32) (n : Nat) (c : List Int32) : Prop := cSh c ∧ ∀ h, par ≤ h → ∃ m, wC par ar ok ad (lk ad c) m h (h + n)
theorem cWf.app {n n2 : Nat} {c c2 : List Int32} (a : cWf par ar ok ad n c) (b : cWf par ar ok ad n2 c2) : cWf par ar ok ad (n + n2) (c ++ c2) := by
  refine ⟨cSh_app a.1 b.1, fun h hh => ?_⟩
  obtain ⟨m, hm⟩ := a.2 h hh
  obtain ⟨m2, hm2⟩ := b.2 (h + n) (by omega)
  rw [lk_app c2 a.1]
  exact ⟨m ++ m2, by rw [show h + (n + n2) = h + n + n2 by omega]; exact hm.app hm2⟩
theorem cWf_nil : cWf par ar ok ad 0 [] := ⟨True.intro, fun _ _ => ⟨[], rfl, rfl, fun _ _ hi => absurd hi (Nat.not_lt_zero _)⟩⟩
theorem cAr_wf {rc : Nat → cR} (hg : ∀ p t q c, rc p = .inr (t, q, c) → cWf par ar ok ad 1 c) (s : Int32) : ∀ n k p t q c, cAr rc s n k p = .inr (t, q, c) → cWf par ar ok ad n c := by
  intro n
  induction n with
  | zero =>
    intro k p t q c h
    cases h
    exact cWf_nil
  | succ n ih =>
    intro k p t q c h
    obtain ⟨t1, q1, c1, h1, h2⟩ := cBi_inr h
    obtain ⟨t2, q2, c2, h3, h4⟩ := cBi_inr h2
    cases h4
    rw [Nat.add_comm n 1]
    exact (hg _ _ _ _ (cPa_inr h1).1).app (ih _ _ _ _ _ h3)
theorem sPar_n (s : Int32) : ∃ j, j < 4 ∧ sPar s = nI j ∧ (sPar s).toNatClampNeg = j := by
  obtain ⟨j, hj, h⟩ := pk_andE s (m := 3) 2 rfl
  exact ⟨j, by omega, h, by show (s &&& 3).toNatClampNeg = j; rw [h]; exact nI_clamp (by omega)⟩
theorem cWf_lit {w x : Int32} (hw : ¬ (2 ≤ w ∧ w ≤ 6)) (h9 : ¬ w = 9) (h : ∀ h, par ≤ h → ∃ m, wC par ar ok ad [w, x] m h (h + 1)) : cWf par ar ok ad 1 [w, x] := by
  refine ⟨cSh_i2 hw (fun e => absurd e h9) True.intro, fun h' hh => ?_⟩
  rw [lk_two hw, show lkO ad w x = x from if_neg h9]
  exact h h' hh
theorem cSh_ne {c : List Int32} {n : Nat} (h : cWf par ar ok ad (n + 1) c) : c.length ≠ 0 := by
  intro h0
  cases c with
  | nil =>
    obtain ⟨m, m1, m2, m3⟩ := h.2 par (Nat.le_refl _)
    cases m with
    | nil =>
      have : par + (n + 1) + 1 = par + 1 := m2
      omega
    | cons a b => cases m1
  | cons a b => cases h0
end WF2
theorem cStep_wf {ok : Nat → Prop} {ad : Nat → Int32} {rc : Nat → cR} (own : Int32) (sg : Nat → Int32) (hg : ∀ p t q c, rc p = .inr (t, q, c) → cWf (sPar own).toNatClampNeg (fun k => (sPar (sg k)).toNatClampNeg) ok ad 1 c) (t : Int32) (p : Nat) (hok : ∀ k, k < 8 → t = nI (k + 11) → ok k) {ty : Int32} {q : Nat} {c : List Int32} (h : cStep rc own sg t p = .inr (ty, q, c)) : cWf (sPar own).toNatClampNeg (fun k => (sPar (sg k)).toNatClampNeg) ok ad 1 c := by
  unfold cStep at h
  split at h
  · cases h
  rename_i h1
  have hp0 : ¬ t < 0 := fun e => h1 (Or.inl e)
  obtain ⟨k, hk, rfl⟩ := nI_of hp0
  split at h
  · rename_i h2
    split at h
    · cases h
    · rename_i h3
      cases h
      obtain ⟨j, hj, hj2, hj3⟩ := sPar_n own
      have : k < j := by
        rw [hj2] at h3
        exact Nat.lt_of_not_le fun e => h3 (nI_le e hk)
      exact cWf_lit (by decide) (by decide) fun h' hh => ⟨_, wC_par (by omega) hh⟩
  rename_i h2
  have hk3 : 3 ≤ k := Nat.le_of_not_lt fun e => h2 (nI_lt e (by decide))
  split at h
  · rename_i h4
    obtain ⟨t1, q1, c1, h5, h6⟩ := cBi_inr h
    obtain ⟨t2, q2, c2, h7, h8⟩ := cBi_inr h6
    cases h8
    have hk8 : k < 8 := (nI_ltI hk (by decide)).mp h4
    obtain ⟨k, rfl⟩ : ∃ j, k = j + 1 := ⟨k - 1, by omega⟩
    rw [nI_pred]
    have ho : (2 : Int32) ≤ nI k ∧ nI k ≤ 6 := ⟨nI_le (a := 2) (by omega) (by omega), nI_le (b := 6) (by omega) (by decide)⟩
    obtain ⟨s1, w1⟩ := (hg _ _ _ _ (cPa_inr h5).1).app (hg _ _ _ _ (cPa_inr h7).1)
    refine ⟨cSh_app s1 ho, fun h' hh => ?_⟩
    obtain ⟨m, hm⟩ := w1 h' hh
    refine ⟨m ++ [h' + 3], ?_⟩
    rw [lk_app _ s1]
    exact hm.app (wC_op ⟨by omega, by omega⟩ hh)
  split at h
  · obtain ⟨t1, q1, c1, h5, h6⟩ := cBi_inr h
    obtain ⟨t2, q2, c2, h7, h8⟩ := cBi_inr h6
    obtain ⟨t3, q3, c3, h9, h10⟩ := cBi_inr h8
    cases h10
    have w1 := hg _ _ _ _ (cPa_inr h5).1
    have w2 := hg _ _ _ _ h7
    have w3 := hg _ _ _ _ (cPa_inr h9).1
    rw [show c1 ++ [7, nI (c2.length + 2)] ++ c2 ++ [8, nI c3.length] ++ c3 = c1 ++ ([7, nI (c2.length + 2)] ++ (c2 ++ ([8, nI c3.length] ++ c3))) by simp only [List.append_assoc]]
    have s3 : cSh ([8, nI c3.length] ++ c3) := cSh_i2 (r := c3) (by decide) (fun e => absurd e (by decide)) w3.1
    have s2 : cSh ([7, nI (c2.length + 2)] ++ (c2 ++ ([8, nI c3.length] ++ c3))) := cSh_i2 (r := c2 ++ ([8, nI c3.length] ++ c3)) (by decide) (fun e => absurd e (by decide)) (cSh_app w2.1 s3)
    refine ⟨cSh_app w1.1 s2, fun h' hh => ?_⟩
    obtain ⟨m1, hm1⟩ := w1.2 h' hh
    obtain ⟨m2, hm2⟩ := w2.2 h' hh
    obtain ⟨m3, hm3⟩ := w3.2 h' hh
    rw [lk_app _ w1.1]
    have e3 : lk ad ([8, nI c3.length] ++ c3) = [8, nI c3.length] ++ lk ad c3 := lk_two (by decide)
    have e2 : lk ad ([7, nI (c2.length + 2)] ++ (c2 ++ ([8, nI c3.length] ++ c3))) = [7, nI (c2.length + 2)] ++ (lk ad c2 ++ ([8, nI c3.length] ++ lk ad c3)) := by
      rw [← e3, ← lk_app _ w2.1]
      exact lk_two (by decide)
    rw [e2]
    have := wC_if hh hm2 hm3
    rw [lk_len w2.1, lk_len w3.1] at this
    exact ⟨_, hm1.app this⟩
  rename_i h11
  split at h
  · cases h
    exact cWf_lit (by decide) (by decide) fun h' _ => ⟨_, wC_num _ h'⟩
  rename_i h12
  split at h
  · rename_i h13
    split at h
    · cases h
    · obtain ⟨t1, q1, c1, h5, h6⟩ := cBi_inr h
      cases h6
      have hk11 : 11 ≤ k := Nat.le_of_not_lt fun e => h12 (nI_le (b := 10) (by omega) (by decide))
      have hk100 : k < 100 := (nI_ltI hk (by decide)).mp h13
      have hk19 : k < 19 := Nat.lt_of_not_le fun e => h1 (Or.inr ⟨nI_le (a := 19) e (by omega), h13⟩)
      have e11 : nI k - 11 = nI (k - 11) := pk_sub (b := 11) hk11
      rw [e11] at h5 ⊢
      rw [nI_clamp (by omega)] at h5
      obtain ⟨s1, w1⟩ := cAr_wf hg _ _ _ _ _ _ _ h5
      refine ⟨cSh_app s1 (cSh_i2 (by decide) (fun _ => ⟨k - 11, by omega, rfl⟩) True.intro), fun h' hh => ?_⟩
      obtain ⟨m, hm⟩ := w1 h' hh
      rw [lk_app _ s1]
      have e4 : lk ad [9, nI (k - 11)] = [9, ad (k - 11)] := by
        rw [lk_two (by decide), show lkO ad 9 (nI (k - 11)) = ad (nI (k - 11)).toNatClampNeg from if_pos rfl, nI_clamp (by omega)]; rfl
      rw [e4]
      exact ⟨_, hm.app (wC_call (ar := fun k => (sPar (sg k)).toNatClampNeg) ⟨by omega, hok _ (by omega) (by rw [show k - 11 + 11 = k by omega])⟩ hh)⟩
  · cases h
    exact cWf_lit (by decide) (by decide) fun h' _ => ⟨_, wC_num _ h'⟩
theorem cx_wf {ok : Nat → Prop} {ad : Nat → Int32} (tk : Nat → Int32) (L : Nat) (own : Int32) (sg : Nat → Int32) (hok : ∀ k i, k < 8 → i < L → tk i = nI (k + 11) → ok k) : ∀ n p t q c, cx tk L own sg n p = .inr (t, q, c) → cWf (sPar own).toNatClampNeg (fun k => (sPar (sg k)).toNatClampNeg) ok ad 1 c := by
  intro n
  induction n with
  | zero => intro p t q c h; cases h
  | succ n ih =>
    intro p t q c h
    unfold cx at h
    split at h
    · cases h
    · rename_i hp
      exact cStep_wf own sg ih (tk p) p (fun k hk e => hok k p hk (by omega) e) h
theorem cAll_wf {ok : Nat → Prop} {tk : Nat → Int32} {L : Nat} {own : Int32} {sg : Nat → Int32} (hok : ∀ k i, k < 8 → i < L → tk i = nI (k + 11) → ok k) {t : Int32} {q : Nat} {c : List Int32} (h : cAll tk L own sg = .inr (t, q, c)) : ∃ c0, c = c0 ++ [10, sPar own] ∧ ∀ ad, cWf (sPar own).toNatClampNeg (fun k => (sPar (sg k)).toNatClampNeg) ok ad 1 c0 := by
  unfold cAll at h
  obtain ⟨t1, q1, c1, h1, h2⟩ := cBi_inr h
  split at h2
  · cases h2
  · cases h2
    exact ⟨c1, rfl, fun ad => cx_wf tk L own sg hok _ _ _ _ _ (cPa_inr h1).1⟩
