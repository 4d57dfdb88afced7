/-! The reference's compile, its loop by induction. -/
theorem sRes_nI : ∀ j, j < 64 → nI j >>> ((5 : Int32) &&& 31) = sRes (nI j) := by decide +kernel
theorem sPar_nI : ∀ j, j < 64 → sPar (nI j) = nI (j % 4) := by decide +kernel
theorem nI_m1 : ∀ j, j < 64 → ¬ nI j = -1 := by decide +kernel
/-- what compiling reads of the reference's rows -/
def mS (A0 : Nat → List Int32) (f L : Nat) (tk : Nat → Int32) (own : Int32) (sg : Nat → Int32) : Prop :=
  f < 8 ∧ L ≤ 30 ∧ (A0 213).getD f 0 = nI L ∧ (∀ p, p < L → (A0 214).getD (30 * f + p) 0 = tk p) ∧ (A0 212).getD f 0 = own ∧ ∀ h, h < 8 → ((A0 211).getD h 0 = 0 → sg h = -1) ∧ (¬ (A0 211).getD h 0 = 0 → sg h = (A0 212).getD h 0 ∧ ∃ j, j < 64 ∧ sg h = nI j)
def mIH (sc : List Int32) (d : Nat) (E0 : ux_Ev) (g0 : Nat → Int32) (A0 : Nat → List Int32) (f L x z lim : Nat) (rc : Nat → cR) : Prop :=
  ∀ p dd c R E v4 v5 v6 w K, mq E0 g0 A0 dd 0 (-1) c R E → dd ≤ p → lim ≤ p → p ≤ L → cz 0 0 p c.length →
    (∀ t q c', rc p = .inr (t, q, c') → ∀ E' R' v6' w', mq E0 g0 A0 dd 0 (-1) (c ++ c') R' E' → rk R R' dd → ux_B uxP sc (d + 2) 92 77 [.ref 210, .int (nI f), .int (nI q), .int 1, .int (nI p), .int t, v6'] [] E' x z w' K) →
    (∀ k pl, rc p = .inl (k, pl) → ∀ E' w' dd' c' R', mq E0 g0 A0 dd' k pl c' R' E' → K (.inr none) E' x z w') →
    ux_B uxP sc (d + 2) 92 24 [.ref 210, .int (nI f), .int (nI p), .int 1, v4, v5, v6] [] E x z w K
section MX
variable {sc : List Int32} {d : Nat} {E0 E : ux_Ev} {g0 : Nat → Int32} {A0 : Nat → List Int32} {dd e f L lim p : Nat} {c : List Int32} {R : Nat → List Int32} {x z : Nat} {w : Bool} {K : ux_K1} {v4 v5 v6 : Value} {rc : Nat → cR}
theorem cz78 {q len : Nat} (h : cz 1 0 q len) (hq : q ≤ 30) : len ≤ 78 := by
  obtain ⟨_, m, h1, h2⟩ := h
  omega
theorem cz_add {q a b : Nat} (h : cz 0 0 p a) (h2 : cz 1 p q b) : cz 1 0 q (a + b) := by
  obtain ⟨_, m, h1, h3⟩ := h
  obtain ⟨h4, m2, h5, h6⟩ := h2
  exact ⟨by omega, m + m2, by omega, by omega⟩
theorem t01 {t : Int32} (h : t = 0 ∨ t = 1) : ¬ t = 2 := by rcases h with rfl | rfl <;> decide
theorem mc_part {due : Int32} (ih : mIH sc d E0 g0 A0 f L x z lim rc) (hg : cGood L rc) (hf : f < 8) (hL : L ≤ 30) (m : mq E0 g0 A0 (e + 1) 0 (-1) c R E) (he : e + 1 ≤ p) (hlim : lim ≤ p) (hp : p ≤ L) (hz : cz 0 0 p c.length) (hdue : ¬ due = 2)
    (hw : ∀ E' c' R', mq E0 g0 A0 (e + 1) 0 (-1) c' R' E' → fr R' e = fr R e → ∀ K' : ux_K1, K' (.inr (some (.int due))) E' x z false → ux_Bm uxP sc (d + 1) 102 [.ref 210, .int (nI f)] E' x z K')
    (hS : ∀ t q c', cPa rc due p = .inr (t, q, c') → cz 1 p q c'.length → p < q → q ≤ L → ∀ E' R' w', mq E0 g0 A0 (e + 1) 0 (-1) (c ++ c') R' E' → rk R R' (e + 1) → ux_B uxP sc (d + 2) 92 161 [.ref 210, .int (nI f), .int (nI q), .int 1, .int ((R' 231).getD e 0), .int t, .int due] [.int t, .ref 210] E' x z w' K)
    (hF : ∀ k pl, cPa rc due p = .inl (k, pl) → ∀ E' w' dd' c' R', mq E0 g0 A0 dd' k pl c' R' E' → K (.inr none) E' x z w') : ux_B uxP sc (d + 2) 92 24 [.ref 210, .int (nI f), .int (nI p), .int 1, v4, v5, v6] [] E x z w K := by
  refine ih p (e + 1) c R E v4 v5 v6 w K m he hlim hp hz (fun t q c' hr E' R' v6' w' m' hk => ?_) (fun k pl hr => hF k pl (cPa_inl hr))
  obtain ⟨g1, g2, g3, g4⟩ := hg _ _ _ _ hr
  have hz2 := cz_add hz g4
  rw [← List.length_append] at hz2
  refine mc_77 m' (by omega) hf (t01 g3) (cz78 hz2 (by omega)) (hw E' _ R' m' (hk e (by omega))) (fun hd w => ?_) (fun hd => ?_)
  · have ht : t = due := (hd.resolve_left hdue).symm
    exact hS t q c' (cPa_ok hr ht) g4 g1 g2 E' R' w m' hk
  · exact fun E2 w2 c2 m2 => hF 5 (nI p) (cPa_bad hr (fun h => hd (Or.inr h.symm))) E2 w2 _ _ _ m2
theorem mc_any (ih : mIH sc d E0 g0 A0 f L x z lim rc) (hg : cGood L rc) (hf : f < 8) (hL : L ≤ 30) (m : mq E0 g0 A0 (e + 1) 0 (-1) c R E) (he : e + 1 ≤ p) (hlim : lim ≤ p) (hp : p ≤ L) (hz : cz 0 0 p c.length)
    (hw : ∀ E' c' R', mq E0 g0 A0 (e + 1) 0 (-1) c' R' E' → fr R' e = fr R e → ∀ K' : ux_K1, K' (.inr (some (.int 2))) E' x z false → ux_Bm uxP sc (d + 1) 102 [.ref 210, .int (nI f)] E' x z K')
    (hS : ∀ t q c', rc p = .inr (t, q, c') → cz 1 p q c'.length → p < q → q ≤ L → ∀ E' R' w', mq E0 g0 A0 (e + 1) 0 (-1) (c ++ c') R' E' → rk R R' (e + 1) → ux_B uxP sc (d + 2) 92 161 [.ref 210, .int (nI f), .int (nI q), .int 1, .int ((R' 231).getD e 0), .int t, .int 2] [.int t, .ref 210] E' x z w' K)
    (hF : ∀ k pl, rc p = .inl (k, pl) → ∀ E' w' dd' c' R', mq E0 g0 A0 dd' k pl c' R' E' → K (.inr none) E' x z w') : ux_B uxP sc (d + 2) 92 24 [.ref 210, .int (nI f), .int (nI p), .int 1, v4, v5, v6] [] E x z w K := by
  refine ih p (e + 1) c R E v4 v5 v6 w K m he hlim hp hz (fun t q c' hr E' R' v6' w' m' hk => ?_) hF
  obtain ⟨g1, g2, g3, g4⟩ := hg _ _ _ _ hr
  have hz2 := cz_add hz g4
  rw [← List.length_append] at hz2
  refine mc_77 m' (by omega) hf (t01 g3) (cz78 hz2 (by omega)) (hw E' _ R' m' (hk e (by omega))) (fun hd w => ?_) (fun hd => absurd (Or.inl rfl) hd)
  exact hS t q c' hr g4 g1 g2 E' R' w m' hk
theorem begins_fr (hl : ∀ r, 229 ≤ r ∧ r ≤ 233 → (R r).length = 32) (hd : dd < 32) (y q : Int32) : fr (fU (fU (fU R 229 ((R 229).set dd y)) 230 ((R 230).set dd 0)) 231 ((R 231).set dd q)) dd = (y, 0, q, (R 232).getD dd 0, (R 233).getD dd 0) ∧ rk R (fU (fU (fU R 229 ((R 229).set dd y)) 230 ((R 230).set dd 0)) 231 ((R 231).set dd q)) dd := by
  have h9 : dd < (R 229).length := by rw [hl 229 (by decide)]; exact hd
  have h0 : dd < ((fU R 229 ((R 229).set dd y)) 230).length := by
    show dd < (R 230).length
    rw [hl 230 (by decide)]; exact hd
  have h1 : dd < ((fU (fU R 229 ((R 229).set dd y)) 230 ((R 230).set dd 0)) 231).length := by
    show dd < (R 231).length
    rw [hl 231 (by decide)]; exact hd
  have e0 : (R 230).set dd 0 = ((fU R 229 ((R 229).set dd y)) 230).set dd 0 := rfl
  have e1 : (R 231).set dd q = ((fU (fU R 229 ((R 229).set dd y)) 230 ((R 230).set dd 0)) 231).set dd q := rfl
  constructor
  · rw [e1, fr_231 _ dd q h1, e0, fr_230 _ dd 0 h0, fr_229 _ dd y h9]
    rfl
  · rw [e1]
    refine rk.trans ?_ (rk_set _ 231 dd q h1)
    rw [e0]
    exact (rk_set R 229 dd y h9).trans (rk_set _ 230 dd 0 h0)
end MX
