/-! The reference: its object stands at 210, its rows at 211 .. 237. g: its numbers by their field; A: its rows by their address. -/
def fU {α : Type} (f : Nat → α) (k : Nat) (v : α) : Nat → α := fun j => if j = k then v else f j
theorem fU_at {α : Type} (f : Nat → α) (k : Nat) (v : α) : fU f k v k = v := if_pos rfl
theorem fU_ne {α : Type} (f : Nat → α) {k j : Nat} (v : α) (h : j ≠ k) : fU f k v j = f j := if_neg h
def md_F (g : Nat → Int32) : List Value := [.int (g 0), .ref 211, .ref 212, .ref 213, .ref 214, .ref 215, .ref 216, .ref 217, .ref 218, .ref 219, .ref 220, .int (g 11), .ref 221, .ref 222, .ref 223, .ref 224, .ref 225, .int (g 17), .ref 226, .ref 227, .ref 228, .ref 229, .ref 230, .ref 231, .ref 232, .ref 233, .int (g 26), .ref 234, .int (g 28), .int (g 29), .int (g 30), .int (g 31), .int (g 32), .ref 235, .ref 236, .ref 237]
def md_k (a : Nat) : Nat := if a = 211 then 101 else 100
def md_sz (a : Nat) : Nat := (ux_nth [8, 8, 8, 240, 24, 24, 720, 216, 24, 1920, 8, 8, 8, 8, 5, 300, 8, 8, 32, 32, 32, 32, 32, 80, 41, 12, 12] (a - 211)).getD 0
/-- E is E0 but for the reference, which holds g and A -/
def md (E0 : ux_Ev) (g : Nat → Int32) (A : Nat → List Int32) (E : ux_Ev) : Prop := E 210 = some (7, [], md_F g) ∧ (∀ a, 211 ≤ a → a ≤ 237 → E a = some (md_k a, A a, []) ∧ (A a).length = md_sz a) ∧ ∀ b, b < 210 ∨ 237 < b → E b = E0 b
theorem md.row {E0 E : ux_Ev} {g : Nat → Int32} {A : Nat → List Int32} (h : md E0 g A E) (a : Nat) (h1 : 212 ≤ a ∧ a ≤ 237) : E a = some (100, A a, []) := by
  have := (h.2.1 a (by omega) h1.2).1
  rw [show md_k a = 100 from if_neg (by omega)] at this
  exact this
theorem md.len {E0 E : ux_Ev} {g : Nat → Int32} {A : Nat → List Int32} (h : md E0 g A E) (a : Nat) (h1 : 211 ≤ a ∧ a ≤ 237) : (A a).length = md_sz a := (h.2.1 a h1.1 h1.2).2
theorem md.put {E0 E : ux_Ev} {g : Nat → Int32} {A : Nat → List Int32} (h : md E0 g A E) {l : List Value} {g' : Nat → Int32} (hl : l = md_F g') : md E0 g' A (ux_up E 210 (7, [], l)) := by
  subst hl
  refine ⟨if_pos rfl, fun a h1 h2 => ?_, fun b hb => ?_⟩
  · rw [show ux_up E 210 (7, [], md_F g') a = E a from if_neg (by omega)]
    exact h.2.1 a h1 h2
  · rw [show ux_up E 210 (7, [], md_F g') b = E b from if_neg (by omega)]
    exact h.2.2 b hb
theorem md.set {E0 E : ux_Ev} {g : Nat → Int32} {A : Nat → List Int32} (h : md E0 g A E) (a : Nat) (h1 : 212 ≤ a ∧ a ≤ 237) (n : Nat) (y : Int32) : md E0 g (fU A a ((A a).set n y)) (ux_up E a (100, (A a).set n y, [])) := by
  refine ⟨?_, fun b h2 h3 => ?_, fun b hb => ?_⟩
  · rw [show ux_up E a (100, (A a).set n y, []) 210 = E 210 from if_neg (by omega)]
    exact h.1
  · by_cases hba : b = a
    · subst hba
      rw [show ux_up E b (100, (A b).set n y, []) b = some (100, (A b).set n y, []) from if_pos rfl, fU_at, show md_k b = 100 from if_neg (by omega), List.length_set]
      exact ⟨rfl, h.len b ⟨h2, h3⟩⟩
    · rw [show ux_up E a (100, (A a).set n y, []) b = E b from if_neg hba, fU_ne _ _ hba]
      exact h.2.1 b h2 h3
  · rw [show ux_up E a (100, (A a).set n y, []) b = E b from if_neg (by omega)]
    exact h.2.2 b hb
theorem md.setz {E0 E : ux_Ev} {g : Nat → Int32} {A : Nat → List Int32} (h : md E0 g A E) (n : Nat) (y : Int32) : md E0 g (fU A 211 ((A 211).set n y)) (ux_up E 211 (101, (A 211).set n y, [])) := by
  refine ⟨?_, fun b h2 h3 => ?_, fun b hb => ?_⟩
  · rw [show ux_up E 211 (101, (A 211).set n y, []) 210 = E 210 from if_neg (by omega)]
    exact h.1
  · by_cases hba : b = 211
    · subst hba
      rw [show ux_up E 211 (101, (A 211).set n y, []) 211 = some (101, (A 211).set n y, []) from if_pos rfl, fU_at, List.length_set]
      exact ⟨rfl, h.len 211 ⟨h2, h3⟩⟩
    · rw [show ux_up E 211 (101, (A 211).set n y, []) b = E b from if_neg hba, fU_ne _ _ hba]
      exact h.2.1 b h2 h3
  · rw [show ux_up E 211 (101, (A 211).set n y, []) b = E b from if_neg (by omega)]
    exact h.2.2 b hb
theorem md_sz_small (a : Nat) : md_sz a < 2 ^ 31 := by
  unfold md_sz
  cases h : ux_nth [8, 8, 8, 240, 24, 24, 720, 216, 24, 1920, 8, 8, 8, 8, 5, 300, 8, 8, 32, 32, 32, 32, 32, 80, 41, 12, 12] (a - 211) with
  | none => decide
  | some v =>
    have hm := ux_nth_mem _ _ _ h
    have : ∀ y ∈ [8, 8, 8, 240, 24, 24, 720, 216, 24, 1920, 8, 8, 8, 8, 5, 300, 8, 8, 32, 32, 32, 32, 32, 80, 41, 12, 12], y < 2 ^ 31 := by decide
    exact this v hm
section BN
variable {P : ux_P} {sc : List Int32} {d i pc : Nat} {ls st : List Value} {E : ux_Ev} {x z : Nat} {w : Bool} {K : ux_K1}
/-- the number on top by another name -/
theorem ux_Btop {y : Int32} (y' : Int32) (he : y = y') (kk : ux_B P sc d i pc ls (.int y' :: st) E x z w K) : ux_B P sc d i pc ls (.int y :: st) E x z w K := by rw [he]; exact kk
/-- a row is read, written, at a place known as a number -/
theorem ux_BildN (n : Nat) {a : Nat} {j : Int32} {is : List Int32} {vs : List Value} (hi : P.1 i pc = some (.iaload, 1)) (hc : E a = some (100, is, vs)) (hj : j = nI n) (hb : n < 2 ^ 31) (hn : n < is.length)
    (kk : ux_B P sc d i (pc + 1) ls (.int (is.getD n 0) :: st) E x z w K) : ux_B P sc d i pc ls (.int j :: .ref a :: st) E x z w K := by
  subst hj
  refine ux_Bild hi hc (nI_pos hb) (y := is.getD n 0) ?_ kk
  rw [nI_clamp hb]
  simp [hn]
theorem ux_BistN (n : Nat) {a : Nat} {j y : Int32} {is : List Int32} {vs : List Value} (hi : P.1 i pc = some (.iastore, 1)) (hc : E a = some (100, is, vs)) (hj : j = nI n) (hb : n < 2 ^ 31) (hn : n < is.length)
    (kk : ux_B P sc d i (pc + 1) ls st (ux_up E a (100, is.set n y, vs)) x z true K) : ux_B P sc d i pc ls (.int y :: .int j :: .ref a :: st) E x z w K := by
  subst hj
  refine ux_Bist hi hc (nI_pos hb) (by rw [nI_clamp hb]; exact hn) ?_
  rw [nI_clamp hb]
  exact kk
theorem ux_BzldN (n : Nat) {a : Nat} {j : Int32} {is : List Int32} {vs : List Value} (hi : P.1 i pc = some (.baload, 1)) (hc : E a = some (101, is, vs)) (hj : j = nI n) (hb : n < 2 ^ 31) (hn : n < is.length)
    (kk : ux_B P sc d i (pc + 1) ls (.int (is.getD n 0) :: st) E x z w K) : ux_B P sc d i pc ls (.int j :: .ref a :: st) E x z w K := by
  subst hj
  refine ux_Bzld hi hc (nI_pos hb) (y := is.getD n 0) ?_ kk
  rw [nI_clamp hb]
  simp [hn]
theorem ux_BzstN (n : Nat) {a : Nat} {j y : Int32} {is : List Int32} {vs : List Value} (hi : P.1 i pc = some (.bastore, 1)) (hc : E a = some (101, is, vs)) (hj : j = nI n) (hb : n < 2 ^ 31) (hn : n < is.length) (h01 : y = 0 ∨ y = 1)
    (kk : ux_B P sc d i (pc + 1) ls st (ux_up E a (101, is.set n y, vs)) x z true K) : ux_B P sc d i pc ls (.int y :: .int j :: .ref a :: st) E x z w K := by
  subst hj
  refine ux_Bzst hi hc (nI_pos hb) (by rw [nI_clamp hb]; exact hn) h01 ?_
  rw [nI_clamp hb]
  exact kk
end BN
section MR
variable {sc : List Int32} {d i pc : Nat} {ls st : List Value} {E0 E : ux_Ev} {g : Nat → Int32} {A : Nat → List Int32} {x z : Nat} {w : Bool} {K : ux_K1}
theorem mr_ild (hm : md E0 g A E) (a n : Nat) {j : Int32} (hi : uxP.1 i pc = some (.iaload, 1)) (h1 : 212 ≤ a ∧ a ≤ 237) (hn : n < md_sz a) (hj : j = nI n) (kk : ux_B uxP sc d i (pc + 1) ls (.int ((A a).getD n 0) :: st) E x z w K) : ux_B uxP sc d i pc ls (.int j :: .ref a :: st) E x z w K :=
  ux_BildN n hi (hm.row a h1) hj (Nat.lt_trans hn (md_sz_small a)) (by rw [hm.len a ⟨by omega, h1.2⟩]; exact hn) kk
theorem mr_ist (hm : md E0 g A E) (a n : Nat) {j y : Int32} (hi : uxP.1 i pc = some (.iastore, 1)) (h1 : 212 ≤ a ∧ a ≤ 237) (hn : n < md_sz a) (hj : j = nI n) (kk : ∀ E', md E0 g (fU A a ((A a).set n y)) E' → ux_B uxP sc d i (pc + 1) ls st E' x z true K) : ux_B uxP sc d i pc ls (.int y :: .int j :: .ref a :: st) E x z w K :=
  ux_BistN n hi (hm.row a h1) hj (Nat.lt_trans hn (md_sz_small a)) (by rw [hm.len a ⟨by omega, h1.2⟩]; exact hn) (kk _ (hm.set a h1 n y))
theorem mr_zld (hm : md E0 g A E) (n : Nat) {j : Int32} (hi : uxP.1 i pc = some (.baload, 1)) (hn : n < 8) (hj : j = nI n) (kk : ux_B uxP sc d i (pc + 1) ls (.int ((A 211).getD n 0) :: st) E x z w K) : ux_B uxP sc d i pc ls (.int j :: .ref 211 :: st) E x z w K :=
  ux_BzldN n hi (hm.2.1 211 (by decide) (by decide)).1 hj (by omega) (by rw [hm.len 211 (by decide)]; exact hn) kk
theorem mr_zst (hm : md E0 g A E) (n : Nat) {j y : Int32} (hi : uxP.1 i pc = some (.bastore, 1)) (hn : n < 8) (hj : j = nI n) (h01 : y = 0 ∨ y = 1) (kk : ∀ E', md E0 g (fU A 211 ((A 211).set n y)) E' → ux_B uxP sc d i (pc + 1) ls st E' x z true K) : ux_B uxP sc d i pc ls (.int y :: .int j :: .ref 211 :: st) E x z w K :=
  ux_BzstN n hi (hm.2.1 211 (by decide) (by decide)).1 hj (by omega) (by rw [hm.len 211 (by decide)]; exact hn) h01 (kk _ (hm.setz n y))
theorem mr_put (hm : md E0 g A E) {k j : Nat} {y : Int32} (hi : uxP.1 i pc = some (.putfield k, 3)) (hf : uxP.2.1 i k = some (7, j, false)) (hp : uxP.2.2.2.1 i (200000 + k) = some 2000) (hj : j < 36) (hl : (md_F g).set j (.int y) = md_F (fU g j y)) (kk : ∀ E', md E0 (fU g j y) A E' → ux_B uxP sc d i (pc + 3) ls st E' x z true K) : ux_B uxP sc d i pc ls (.int y :: .ref 210 :: st) E x z w K :=
  ux_Bput hi hf hp hm.1 rfl hj (kk _ (hm.put hl))
end MR
section MO
variable {sc : List Int32} {d : Nat} {E0 E : ux_Ev} {g : Nat → Int32} {A : Nat → List Int32} {x z : Nat} {K : ux_K1}
theorem mo_out (v lim : Int32) (hK : K (.inr (some (.int (if v < 0 ∨ lim ≤ v then 1 else 0)))) E x z false) : ux_Bm uxP sc d 82 [.int v, .int lim] E x z K := by
  show ux_B uxP sc d 82 0 [.int v, .int lim] [] E x z false K
  refine ux_BN 2 rfl ?_
  refine ux_Bif (fun h1 => ?_) (fun h1 => ?_)
  · refine ux_BN 2 rfl ?_
    refine ux_Bri rfl (Or.inr ⟨rfl, Or.inr rfl⟩) ?_
    rw [if_pos (Or.inl h1)] at hK
    exact hK
  · refine ux_BN 3 rfl ?_
    refine ux_Bif (fun h2 => ?_) (fun h2 => ?_)
    · refine ux_BN 1 rfl ?_
      refine ux_Bri rfl (Or.inr ⟨rfl, Or.inl rfl⟩) ?_
      rw [if_neg (fun h => h.elim h1 (fun h3 => k2_nlt h3 h2))] at hK
      exact hK
    · refine ux_BN 2 rfl ?_
      refine ux_Bri rfl (Or.inr ⟨rfl, Or.inr rfl⟩) ?_
      rw [if_pos (Or.inr (k2_le h2))] at hK
      exact hK
theorem mo_fails (hm : md E0 g A E) (b c : Int32) (h01 : b = 0 ∨ b = 1) (hK : ∀ E', md E0 (fU g 0 (if b = 0 then 0 else c)) A E' → K (.inr (some (.int b))) E' x z true) : ux_Bm uxP sc d 83 [.ref 210, .int b, .int c] E x z K := by
  show ux_B uxP sc d 83 0 [.ref 210, .int b, .int c] [] E x z false K
  refine ux_BN 3 rfl ?_
  refine ux_Bif (fun h1 => ?_) (fun h1 => ?_)
  · refine ux_BN 1 rfl ?_
    refine ux_Bput rfl rfl rfl hm.1 rfl (Nat.le_of_ble_eq_true rfl) ?_
    refine ux_BN 1 rfl ?_
    refine ux_Bri rfl (Or.inr ⟨rfl, h01⟩) (hK _ (hm.put ?_))
    rw [if_pos h1]; rfl
  · refine ux_BN 2 rfl ?_
    refine ux_Bput rfl rfl rfl hm.1 rfl (Nat.le_of_ble_eq_true rfl) ?_
    refine ux_BN 1 rfl ?_
    refine ux_Bri rfl (Or.inr ⟨rfl, h01⟩) (hK _ (hm.put ?_))
    rw [if_neg h1]; rfl
theorem mo_thrown (hm : md E0 g A E) (hK : K (.inr (some (.int (g 0)))) E x z false) : ux_Bm uxP sc d 80 [.ref 210] E x z K := by
  show ux_B uxP sc d 80 0 [.ref 210] [] E x z false K
  refine ux_BN 1 rfl ?_
  refine ux_Bget rfl rfl hm.1 rfl ?_
  exact ux_Bri rfl (Or.inl rfl) hK
theorem mo_parameters (hm : md E0 g A E) (f : Nat) (hf : f < 8) (hK : K (.inr (some (.int ((A 212).getD f 0 &&& 3)))) E x z false) : ux_Bm uxP sc d 96 [.ref 210, .int (nI f)] E x z K := by
  show ux_B uxP sc d 96 0 [.ref 210, .int (nI f)] [] E x z false K
  refine ux_BN 1 rfl ?_
  refine ux_Bget rfl rfl hm.1 rfl ?_
  refine ux_BN 1 rfl ?_
  refine mr_ild hm 212 f rfl (by decide) hf rfl ?_
  refine ux_BN 2 rfl ?_
  exact ux_Bri rfl (Or.inl rfl) hK
theorem mo_typeOf (hm : md E0 g A E) (f : Nat) (hf : f < 8) (k : Int32) (hK : K (.inr (some (.int (((A 212).getD f 0 >>> ((2 + k) &&& 31)) &&& 1)))) E x z false) : ux_Bm uxP sc d 97 [.ref 210, .int (nI f), .int k] E x z K := by
  show ux_B uxP sc d 97 0 [.ref 210, .int (nI f), .int k] [] E x z false K
  refine ux_BN 1 rfl ?_
  refine ux_Bget rfl rfl hm.1 rfl ?_
  refine ux_BN 1 rfl ?_
  refine mr_ild hm 212 f rfl (by decide) hf rfl ?_
  refine ux_BN 6 rfl ?_
  exact ux_Bri rfl (Or.inl rfl) hK
theorem mo_resultOf (hm : md E0 g A E) (f : Nat) (hf : f < 8) (hK : K (.inr (some (.int ((A 212).getD f 0 >>> ((5 : Int32) &&& 31))))) E x z false) : ux_Bm uxP sc d 101 [.ref 210, .int (nI f)] E x z K := by
  show ux_B uxP sc d 101 0 [.ref 210, .int (nI f)] [] E x z false K
  refine ux_BN 1 rfl ?_
  refine ux_Bget rfl rfl hm.1 rfl ?_
  refine ux_BN 1 rfl ?_
  refine mr_ild hm 212 f rfl (by decide) hf rfl ?_
  refine ux_BN 2 rfl ?_
  exact ux_Bri rfl (Or.inl rfl) hK
theorem mo_isSign (t : Int32) (hK : K (.inr (some (.int (if 3 ≤ t ∧ t ≤ 7 then 1 else 0)))) E x z false) : ux_Bm uxP sc d 98 [.int t] E x z K := by
  show ux_B uxP sc d 98 0 [.int t] [] E x z false K
  refine ux_BN 3 rfl ?_
  refine ux_Bif (fun h1 => ?_) (fun h1 => ?_)
  · refine ux_BN 1 rfl ?_
    refine ux_Bri rfl (Or.inr ⟨rfl, Or.inl rfl⟩) ?_
    rw [if_neg (fun h => k2_nlt h.1 h1)] at hK
    exact hK
  · refine ux_BN 3 rfl ?_
    refine ux_Bif (fun h2 => ?_) (fun h2 => ?_)
    · refine ux_BN 1 rfl ?_
      refine ux_Bri rfl (Or.inr ⟨rfl, Or.inl rfl⟩) ?_
      rw [if_neg (fun h => k2_nlt h.2 h2)] at hK
      exact hK
    · refine ux_BN 2 rfl ?_
      refine ux_Bri rfl (Or.inr ⟨rfl, Or.inr rfl⟩) ?_
      rw [if_pos ⟨k2_le h1, k2_le h2⟩] at hK
      exact hK
theorem mo_isCall (t : Int32) (hK : K (.inr (some (.int (if 11 ≤ t ∧ t < 19 then 1 else 0)))) E x z false) : ux_Bm uxP sc d 100 [.int t] E x z K := by
  show ux_B uxP sc d 100 0 [.int t] [] E x z false K
  refine ux_BN 3 rfl ?_
  refine ux_Bif (fun h1 => ?_) (fun h1 => ?_)
  · refine ux_BN 1 rfl ?_
    refine ux_Bri rfl (Or.inr ⟨rfl, Or.inl rfl⟩) ?_
    rw [if_neg (fun h => k2_nlt h.1 h1)] at hK
    exact hK
  · refine ux_BN 3 rfl ?_
    refine ux_Bif (fun h2 => ?_) (fun h2 => ?_)
    · refine ux_BN 1 rfl ?_
      refine ux_Bri rfl (Or.inr ⟨rfl, Or.inl rfl⟩) ?_
      rw [if_neg (fun h => k2_nlt h2 h.2)] at hK
      exact hK
    · refine ux_BN 2 rfl ?_
      refine ux_Bri rfl (Or.inr ⟨rfl, Or.inr rfl⟩) ?_
      rw [if_pos ⟨k2_le h1, k2_lt h2⟩] at hK
      exact hK
theorem mo_typeOfSign (t : Int32) (hK : K (.inr (some (.int (if t < 6 then 0 else 1)))) E x z false) : ux_Bm uxP sc d 104 [.int t] E x z K := by
  show ux_B uxP sc d 104 0 [.int t] [] E x z false K
  refine ux_BN 3 rfl ?_
  refine ux_Bif (fun h1 => ?_) (fun h1 => ?_)
  · refine ux_BN 1 rfl ?_
    refine ux_Bri rfl (Or.inl rfl) ?_
    rw [if_neg (k2_nlt (show (6 : Int32) ≤ t from h1))] at hK
    exact hK
  · refine ux_BN 2 rfl ?_
    refine ux_Bri rfl (Or.inl rfl) ?_
    rw [if_pos (k2_lt (show ¬ (6 : Int32) ≤ t from h1))] at hK
    exact hK
theorem mo_wordsOf (t : Int32) (hK : K (.inr (some (.int (if 2 ≤ t ∧ t ≤ 6 then 1 else 2)))) E x z false) : ux_Bm uxP sc d 109 [.int t] E x z K := by
  show ux_B uxP sc d 109 0 [.int t] [] E x z false K
  refine ux_BN 3 rfl ?_
  refine ux_Bif (fun h1 => ?_) (fun h1 => ?_)
  · refine ux_BN 1 rfl ?_
    refine ux_Bri rfl (Or.inl rfl) ?_
    rw [if_neg (fun h => k2_nlt h.1 h1)] at hK
    exact hK
  · refine ux_BN 3 rfl ?_
    refine ux_Bif (fun h2 => ?_) (fun h2 => ?_)
    · refine ux_BN 1 rfl ?_
      refine ux_Bri rfl (Or.inl rfl) ?_
      rw [if_neg (fun h => k2_nlt h.2 h2)] at hK
      exact hK
    · refine ux_BN 2 rfl ?_
      refine ux_Bri rfl (Or.inl rfl) ?_
      rw [if_pos ⟨k2_le h1, k2_le h2⟩] at hK
      exact hK
theorem mo_wrong (hm : md E0 g A E) (y q : Int32) (hK : ∀ E' w', md E0 (if 0 < g 29 then g else fU (fU g 29 y) 30 q) A E' → K (.inr none) E' x z w') : ux_Bm uxP sc d 93 [.ref 210, .int y, .int q] E x z K := by
  show ux_B uxP sc d 93 0 [.ref 210, .int y, .int q] [] E x z false K
  refine ux_BN 1 rfl ?_
  refine ux_Bget rfl rfl hm.1 rfl ?_
  refine ux_BN 1 rfl ?_
  refine ux_Bif (fun h1 => ?_) (fun h1 => ?_)
  · rw [if_neg (k2_nlt h1)] at hK
    refine ux_BN 2 rfl ?_
    refine mr_put hm rfl rfl rfl (by decide) rfl fun E1 m1 => ?_
    refine ux_BN 2 rfl ?_
    refine mr_put m1 rfl rfl rfl (by decide) rfl fun E2 m2 => ?_
    exact ux_Br rfl (hK _ _ m2)
  · rw [if_pos (k2_lt h1)] at hK
    exact ux_Br rfl (hK _ _ hm)
theorem mo_emit (hm : md E0 g A E) (y : Int32) (n : Nat) (hn : n < 80) (hg : g 28 = nI n) (hK : ∀ E', md E0 (fU g 28 (nI (n + 1))) (fU A 234 ((A 234).set n y)) E' → K (.inr none) E' x z true) : ux_Bm uxP sc d 95 [.ref 210, .int y] E x z K := by
  show ux_B uxP sc d 95 0 [.ref 210, .int y] [] E x z false K
  refine ux_BN 1 rfl ?_
  refine ux_Bget rfl rfl hm.1 rfl ?_
  refine ux_BN 1 rfl ?_
  refine ux_Bget rfl rfl hm.1 rfl ?_
  refine ux_BN 1 rfl ?_
  refine mr_ist hm 234 n rfl (by decide) hn hg fun E1 m1 => ?_
  refine ux_BN 2 rfl ?_
  refine ux_Bget rfl rfl m1.1 rfl ?_
  refine ux_BN 2 rfl ?_
  refine ux_Btop (nI (n + 1)) (show g 28 + 1 = nI (n + 1) from by rw [hg]; exact nI_1 n) ?_
  refine mr_put m1 rfl rfl rfl (by decide) rfl fun E2 m2 => ?_
  exact ux_Br rfl (hK _ m2)
end MO
