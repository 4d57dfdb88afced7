/-! What the reference wants next, and what it does when a part is whole. -/
def fr (R : Nat → List Int32) (e : Nat) : Int32 × Int32 × Int32 × Int32 × Int32 := ((R 229).getD e 0, (R 230).getD e 0, (R 231).getD e 0, (R 232).getD e 0, (R 233).getD e 0)
theorem nI_sub1 {a n r : Nat} (h : a = n + r + 1) : (nI a - nI n) - 1 = nI r := by
  rw [pk_sub (by omega), show a - n = r + 1 by omega]
  exact nI_pred r
def rk (R R2 : Nat → List Int32) (e : Nat) : Prop := ∀ j, j < e → fr R2 j = fr R j
theorem fUg (R : Nat → List Int32) (r e : Nat) (y : Int32) (h : e < (R r).length) (r2 j : Nat) : ((fU R r ((R r).set e y)) r2).getD j 0 = if r2 = r ∧ j = e then y else (R r2).getD j 0 := by
  by_cases h1 : r2 = r
  · subst h1
    rw [fU_at]
    by_cases h2 : j = e
    · subst h2
      rw [if_pos ⟨rfl, rfl⟩]
      simp [List.getD_eq_getElem?_getD, h]
    · rw [if_neg (fun h3 => h2 h3.2)]
      simp only [List.getD_eq_getElem?_getD]
      rw [List.getElem?_set_ne (fun h3 => h2 h3.symm)]
  · rw [fU_ne _ _ h1, if_neg (fun h3 => h1 h3.1)]
theorem rk_set (R : Nat → List Int32) (r e : Nat) (y : Int32) (h : e < (R r).length) : rk R (fU R r ((R r).set e y)) e := by
  intro j hj
  unfold fr
  simp only [fUg R r e y h]
  have : ∀ r2, ¬ (r2 = r ∧ j = e) := fun r2 h2 => by omega
  simp only [this, if_false]
theorem rk.trans {R R2 R3 : Nat → List Int32} {e : Nat} (h : rk R R2 e) (h2 : rk R2 R3 e) : rk R R3 e := fun j hj => (h2 j hj).trans (h j hj)
theorem rk.mono {R R2 : Nat → List Int32} {e e2 : Nat} (h : rk R R2 e) (h2 : e2 ≤ e) : rk R R2 e2 := fun j hj => h j (by omega)
theorem rk.refl (R : Nat → List Int32) (e : Nat) : rk R R e := fun _ _ => rfl
theorem fr_229 (R : Nat → List Int32) (e : Nat) (y : Int32) (h : e < (R 229).length) : fr (fU R 229 ((R 229).set e y)) e = (y, (fr R e).2) := by
  unfold fr; simp only [fUg R 229 e y h]; simp
theorem fr_230 (R : Nat → List Int32) (e : Nat) (y : Int32) (h : e < (R 230).length) : fr (fU R 230 ((R 230).set e y)) e = ((fr R e).1, y, (fr R e).2.2) := by
  unfold fr; simp only [fUg R 230 e y h]; simp
theorem fr_231 (R : Nat → List Int32) (e : Nat) (y : Int32) (h : e < (R 231).length) : fr (fU R 231 ((R 231).set e y)) e = ((fr R e).1, (fr R e).2.1, y, (fr R e).2.2.2) := by
  unfold fr; simp only [fUg R 231 e y h]; simp
theorem fr_232 (R : Nat → List Int32) (e : Nat) (y : Int32) (h : e < (R 232).length) : fr (fU R 232 ((R 232).set e y)) e = ((fr R e).1, (fr R e).2.1, (fr R e).2.2.1, y, (fr R e).2.2.2.2) := by
  unfold fr; simp only [fUg R 232 e y h]; simp
theorem fr_233 (R : Nat → List Int32) (e : Nat) (y : Int32) (h : e < (R 233).length) : fr (fU R 233 ((R 233).set e y)) e = ((fr R e).1, (fr R e).2.1, (fr R e).2.2.1, (fr R e).2.2.2.1, y) := by
  unfold fr; simp only [fUg R 233 e y h]; simp
section MP
variable {sc : List Int32} {d : Nat} {E0 E : ux_Ev} {g0 : Nat → Int32} {A0 : Nat → List Int32} {dd e : Nat} {fk fp : Int32} {c : List Int32} {R : Nat → List Int32} {x z : Nat} {K : ux_K1} {w pt fm s2 hl : Int32}
theorem mq.lenR (m : mq E0 g0 A0 dd fk fp c R E) (a : Nat) (h1 : 229 ≤ a ∧ a ≤ 233) : (R a).length = 32 := by
  obtain ⟨g, A, h, _, _, _, _, _, _, _, hR⟩ := m
  have hs : md_sz a = 32 := by
    have : a = 229 ∨ a = 230 ∨ a = 231 ∨ a = 232 ∨ a = 233 := by omega
    rcases this with rfl | rfl | rfl | rfl | rfl <;> rfl
  rw [← hR a h1.1 h1.2, h.len a ⟨by omega, by omega⟩, hs]
theorem fr_w (h : fr R e = (w, pt, fm, s2, hl)) : (R 229).getD e 0 = w := congrArg (fun y => y.1) h
theorem fr_p (h : fr R e = (w, pt, fm, s2, hl)) : (R 230).getD e 0 = pt := congrArg (fun y => y.2.1) h
theorem fr_f (h : fr R e = (w, pt, fm, s2, hl)) : (R 231).getD e 0 = fm := congrArg (fun y => y.2.2.1) h
theorem fr_s (h : fr R e = (w, pt, fm, s2, hl)) : (R 232).getD e 0 = s2 := congrArg (fun y => y.2.2.2.1) h
theorem fr_h (h : fr R e = (w, pt, fm, s2, hl)) : (R 233).getD e 0 = hl := congrArg (fun y => y.2.2.2.2) h

theorem mp_cast {c2 : List Int32} (m : mq E0 g0 A0 dd fk fp c R E) (h : c = c2) : mq E0 g0 A0 dd fk fp c2 R E := h ▸ m
theorem mw_0 (m : mq E0 g0 A0 0 fk fp c R E) (f : Nat) (hf : f < 8) (hK : K (.inr (some (.int ((A0 212).getD f 0 >>> ((5 : Int32) &&& 31))))) E x z false) : ux_Bm uxP sc (d + 1) 102 [.ref 210, .int (nI f)] E x z K := by
  show ux_B uxP sc (d + 1) 102 0 [.ref 210, .int (nI f), .null, .null] [] E x z false K
  refine ux_BN 1 rfl ?_
  refine mq_Bdepth m rfl rfl ?_
  refine ux_BN 1 rfl ?_
  refine ux_Bno (not_not_intro rfl) ?_
  refine ux_BN 2 rfl ?_
  refine mq_Bv m rfl rfl rfl rfl rfl ?_
  refine mq_resultOf m f hf ?_
  exact ux_Bri rfl (Or.inl rfl) hK

theorem mw_sign (m : mq E0 g0 A0 (e + 1) fk fp c R E) (he : e < 32) (f : Nat) (k : Nat) (hk : 3 ≤ k ∧ k ≤ 7) (hfr : fr R e = (nI k, pt, fm, s2, hl)) (hK : K (.inr (some (.int 0))) E x z false) : ux_Bm uxP sc (d + 1) 102 [.ref 210, .int (nI f)] E x z K := by
  show ux_B uxP sc (d + 1) 102 0 [.ref 210, .int (nI f), .null, .null] [] E x z false K
  refine ux_BN 1 rfl ?_
  refine mq_Bdepth m rfl rfl ?_
  refine ux_BN 1 rfl ?_
  refine ux_Byes (nI_ne0 (by omega) (by omega)) ?_
  refine ux_BN 1 rfl ?_
  refine mq_Bref m rfl rfl (fun _ => rfl) ?_
  refine ux_BN 1 rfl ?_
  refine mq_Bdepth m rfl rfl ?_
  refine ux_BN 2 rfl ?_
  refine mq_ildR m 229 e rfl (by decide) he (nI_pred e) ?_
  refine ux_Btop (nI k) (fr_w hfr) ?_
  refine ux_BN 2 rfl ?_
  refine mq_Bref m rfl rfl (fun _ => rfl) ?_
  refine ux_BN 1 rfl ?_
  refine mq_Bdepth m rfl rfl ?_
  refine ux_BN 2 rfl ?_
  refine mq_ildR m 230 e rfl (by decide) he (nI_pred e) ?_
  refine ux_Btop pt (fr_p hfr) ?_
  refine ux_BN 2 rfl ?_
  refine ux_Bk (j := 98) rfl rfl ?_
  refine mt_isSign1 ⟨nI_le (show 3 ≤ k by omega) (by omega), nI_le (show k ≤ 7 by omega) (by decide)⟩ ?_
  refine ux_BN 1 rfl ?_
  refine ux_Bno (by decide) ?_
  refine ux_BN 1 rfl ?_
  exact ux_Bri rfl (Or.inl rfl) hK

theorem mw_if0 (m : mq E0 g0 A0 (e + 1) fk fp c R E) (he : e < 32) (f : Nat) (hfr : fr R e = (8, 0, fm, s2, hl)) (hK : K (.inr (some (.int 1))) E x z false) : ux_Bm uxP sc (d + 1) 102 [.ref 210, .int (nI f)] E x z K := by
  show ux_B uxP sc (d + 1) 102 0 [.ref 210, .int (nI f), .null, .null] [] E x z false K
  refine ux_BN 1 rfl ?_
  refine mq_Bdepth m rfl rfl ?_
  refine ux_BN 1 rfl ?_
  refine ux_Byes (nI_ne0 (by omega) (by omega)) ?_
  refine ux_BN 1 rfl ?_
  refine mq_Bref m rfl rfl (fun _ => rfl) ?_
  refine ux_BN 1 rfl ?_
  refine mq_Bdepth m rfl rfl ?_
  refine ux_BN 2 rfl ?_
  refine mq_ildR m 229 e rfl (by decide) he (nI_pred e) ?_
  refine ux_Btop 8 (fr_w hfr) ?_
  refine ux_BN 2 rfl ?_
  refine mq_Bref m rfl rfl (fun _ => rfl) ?_
  refine ux_BN 1 rfl ?_
  refine mq_Bdepth m rfl rfl ?_
  refine ux_BN 2 rfl ?_
  refine mq_ildR m 230 e rfl (by decide) he (nI_pred e) ?_
  refine ux_Btop 0 (fr_p hfr) ?_
  refine ux_BN 2 rfl ?_
  refine ux_Bk (j := 98) rfl rfl ?_
  refine mt_isSign0 (by decide) ?_
  refine ux_BN 1 rfl ?_
  refine ux_Byes rfl ?_
  refine ux_BN 3 rfl ?_
  refine ux_Bno (by decide) ?_
  refine ux_BN 2 rfl ?_
  refine ux_Bno (by decide) ?_
  refine ux_BN 2 rfl ?_
  exact ux_Bri rfl (Or.inl rfl) hK

theorem mw_if1 (m : mq E0 g0 A0 (e + 1) fk fp c R E) (he : e < 32) (f : Nat) (hfr : fr R e = (8, 1, fm, s2, hl)) (hK : K (.inr (some (.int 2))) E x z false) : ux_Bm uxP sc (d + 1) 102 [.ref 210, .int (nI f)] E x z K := by
  show ux_B uxP sc (d + 1) 102 0 [.ref 210, .int (nI f), .null, .null] [] E x z false K
  refine ux_BN 1 rfl ?_
  refine mq_Bdepth m rfl rfl ?_
  refine ux_BN 1 rfl ?_
  refine ux_Byes (nI_ne0 (by omega) (by omega)) ?_
  refine ux_BN 1 rfl ?_
  refine mq_Bref m rfl rfl (fun _ => rfl) ?_
  refine ux_BN 1 rfl ?_
  refine mq_Bdepth m rfl rfl ?_
  refine ux_BN 2 rfl ?_
  refine mq_ildR m 229 e rfl (by decide) he (nI_pred e) ?_
  refine ux_Btop 8 (fr_w hfr) ?_
  refine ux_BN 2 rfl ?_
  refine mq_Bref m rfl rfl (fun _ => rfl) ?_
  refine ux_BN 1 rfl ?_
  refine mq_Bdepth m rfl rfl ?_
  refine ux_BN 2 rfl ?_
  refine mq_ildR m 230 e rfl (by decide) he (nI_pred e) ?_
  refine ux_Btop 1 (fr_p hfr) ?_
  refine ux_BN 2 rfl ?_
  refine ux_Bk (j := 98) rfl rfl ?_
  refine mt_isSign0 (by decide) ?_
  refine ux_BN 1 rfl ?_
  refine ux_Byes rfl ?_
  refine ux_BN 3 rfl ?_
  refine ux_Bno (by decide) ?_
  refine ux_BN 2 rfl ?_
  refine ux_Byes (by decide) ?_
  refine ux_BN 3 rfl ?_
  refine ux_Bno (by decide) ?_
  refine ux_BN 2 rfl ?_
  exact ux_Bri rfl (Or.inl rfl) hK

theorem mw_if2 (m : mq E0 g0 A0 (e + 1) fk fp c R E) (he : e < 32) (f : Nat) (hfr : fr R e = (8, 2, fm, s2, hl)) (hK : K (.inr (some (.int s2))) E x z false) : ux_Bm uxP sc (d + 1) 102 [.ref 210, .int (nI f)] E x z K := by
  show ux_B uxP sc (d + 1) 102 0 [.ref 210, .int (nI f), .null, .null] [] E x z false K
  refine ux_BN 1 rfl ?_
  refine mq_Bdepth m rfl rfl ?_
  refine ux_BN 1 rfl ?_
  refine ux_Byes (nI_ne0 (by omega) (by omega)) ?_
  refine ux_BN 1 rfl ?_
  refine mq_Bref m rfl rfl (fun _ => rfl) ?_
  refine ux_BN 1 rfl ?_
  refine mq_Bdepth m rfl rfl ?_
  refine ux_BN 2 rfl ?_
  refine mq_ildR m 229 e rfl (by decide) he (nI_pred e) ?_
  refine ux_Btop 8 (fr_w hfr) ?_
  refine ux_BN 2 rfl ?_
  refine mq_Bref m rfl rfl (fun _ => rfl) ?_
  refine ux_BN 1 rfl ?_
  refine mq_Bdepth m rfl rfl ?_
  refine ux_BN 2 rfl ?_
  refine mq_ildR m 230 e rfl (by decide) he (nI_pred e) ?_
  refine ux_Btop 2 (fr_p hfr) ?_
  refine ux_BN 2 rfl ?_
  refine ux_Bk (j := 98) rfl rfl ?_
  refine mt_isSign0 (by decide) ?_
  refine ux_BN 1 rfl ?_
  refine ux_Byes rfl ?_
  refine ux_BN 3 rfl ?_
  refine ux_Bno (by decide) ?_
  refine ux_BN 2 rfl ?_
  refine ux_Byes (by decide) ?_
  refine ux_BN 3 rfl ?_
  refine ux_Byes (by decide) ?_
  refine ux_BN 1 rfl ?_
  refine mq_Bref m rfl rfl (fun _ => rfl) ?_
  refine ux_BN 1 rfl ?_
  refine mq_Bdepth m rfl rfl ?_
  refine ux_BN 2 rfl ?_
  refine mq_ildR m 232 e rfl (by decide) he (nI_pred e) ?_
  refine ux_Btop s2 (fr_s hfr) ?_
  exact ux_Bri rfl (Or.inl rfl) hK

theorem mw_call (m : mq E0 g0 A0 (e + 1) fk fp c R E) (he : e < 32) (f : Nat) (h p : Nat) (hh : h < 8) (hfr : fr R e = (nI (h + 11), nI p, fm, s2, hl)) (hK : K (.inr (some (.int (((A0 212).getD h 0 >>> ((2 + nI p) &&& 31)) &&& 1)))) E x z false) : ux_Bm uxP sc (d + 1) 102 [.ref 210, .int (nI f)] E x z K := by
  show ux_B uxP sc (d + 1) 102 0 [.ref 210, .int (nI f), .null, .null] [] E x z false K
  refine ux_BN 1 rfl ?_
  refine mq_Bdepth m rfl rfl ?_
  refine ux_BN 1 rfl ?_
  refine ux_Byes (nI_ne0 (by omega) (by omega)) ?_
  refine ux_BN 1 rfl ?_
  refine mq_Bref m rfl rfl (fun _ => rfl) ?_
  refine ux_BN 1 rfl ?_
  refine mq_Bdepth m rfl rfl ?_
  refine ux_BN 2 rfl ?_
  refine mq_ildR m 229 e rfl (by decide) he (nI_pred e) ?_
  refine ux_Btop (nI (h + 11)) (fr_w hfr) ?_
  refine ux_BN 2 rfl ?_
  refine mq_Bref m rfl rfl (fun _ => rfl) ?_
  refine ux_BN 1 rfl ?_
  refine mq_Bdepth m rfl rfl ?_
  refine ux_BN 2 rfl ?_
  refine mq_ildR m 230 e rfl (by decide) he (nI_pred e) ?_
  refine ux_Btop (nI p) (fr_p hfr) ?_
  refine ux_BN 2 rfl ?_
  refine ux_Bk (j := 98) rfl rfl ?_
  refine mt_isSign0 (fun h0 => absurd h0.2 (nI_ge (show 7 < h + 11 by omega) (by omega))) ?_
  refine ux_BN 1 rfl ?_
  refine ux_Byes rfl ?_
  refine ux_BN 3 rfl ?_
  refine ux_Byes (nI_neq (b := 8) (by omega) (by omega) (by decide)) ?_
  refine ux_BN 4 rfl ?_
  refine ux_Btop (nI h) (pk_sub (show 11 ≤ h + 11 by omega)) ?_
  refine ux_BN 1 rfl ?_
  refine mq_Bv m rfl rfl rfl rfl rfl ?_
  refine mq_typeOf m h hh (nI p) ?_
  exact ux_Bri rfl (Or.inl rfl) hK

theorem mp_sign1 (m : mq E0 g0 A0 (e + 1) fk fp c R E) (he : e < 32) (ty : Int32) (k : Nat) (hk : 3 ≤ k ∧ k ≤ 7) (hfr : fr R e = ((nI k), nI 0, fm, s2, hl)) (hK : ∀ E' w' R', mq E0 g0 A0 (e + 1) fk fp c R' E' → rk R R' e → fr R' e = (nI k, nI 1, fm, s2, hl) → K (.inr (some (.int 2))) E' x z w') : ux_Bm uxP sc (d + 1) 103 [.ref 210, .int ty] E x z K := by
  show ux_B uxP sc (d + 1) 103 0 [.ref 210, .int ty, .null, .null, .null, .null] [] E x z false K
  have hl0 : e < (R 230).length := by rw [m.lenR 230 (by decide)]; exact he
  refine ux_BN 1 rfl ?_
  refine mq_Bdepth m rfl rfl ?_
  refine ux_BN 2 rfl ?_
  refine ux_Btop (nI e) (nI_pred e) ?_
  refine ux_BN 2 rfl ?_
  refine mq_Bref m rfl rfl (fun _ => rfl) ?_
  refine ux_BN 1 rfl ?_
  refine mq_ildR m 229 e rfl (by decide) he rfl ?_
  refine ux_Btop (nI k) (fr_w hfr) ?_
  refine ux_BN 2 rfl ?_
  refine mq_Bref m rfl rfl (fun _ => rfl) ?_
  refine ux_BN 2 rfl ?_
  refine mq_ildR m 230 e rfl (by decide) he rfl ?_
  refine ux_Btop (nI 0) (fr_p hfr) ?_
  refine ux_BN 2 rfl ?_
  refine ux_Btop (nI 1) (nI_1 _) ?_
  refine mq_istR m 230 e rfl (by decide) he rfl fun E1 m1 => ?_
  refine ux_BN 1 rfl ?_
  refine mq_Bref m1 rfl rfl (fun _ => rfl) ?_
  refine ux_BN 1 rfl ?_
  refine mq_ildR m1 230 e rfl (by decide) he rfl ?_
  refine ux_Btop (nI 1) (by rw [fUg R 230 e _ hl0, if_pos ⟨rfl, rfl⟩]) ?_
  refine ux_BN 4 rfl ?_
  refine ux_Byes (nI_neq (b := 8) (by omega) (by omega) (by decide)) ?_
  refine ux_BN 3 rfl ?_
  refine ux_Byes (nI_neq (b := 8) (by omega) (by omega) (by decide)) ?_
  refine ux_BN 1 rfl ?_
  refine ux_Bk (j := 98) rfl rfl ?_
  refine mt_isSign1 ⟨nI_le (show 3 ≤ k by omega) (by omega), nI_le (show k ≤ 7 by omega) (by decide)⟩ ?_
  refine ux_BN 1 rfl ?_
  refine ux_Bno (by decide) ?_
  refine ux_BN 6 rfl ?_
  refine ux_Bno (by decide) ?_
  refine ux_BN 1 rfl ?_
  exact ux_Bri rfl (Or.inl rfl) (hK _ _ _ m1 (rk_set R 230 e _ hl0) (by rw [fr_230 R e _ hl0, hfr]))

theorem mp_sign2 (m : mq E0 g0 A0 (e + 1) fk fp c R E) (he : e < 32) (ty : Int32) (k : Nat) (hk : 2 ≤ k ∧ k ≤ 6) (hc : c.length + 1 ≤ 80) (hfr : fr R e = ((nI (k + 1)), nI 1, fm, s2, hl)) (hK : ∀ E' w' R', mq E0 g0 A0 e fk fp (c ++ [nI k]) R' E' → rk R R' e → K (.inr (some (.int (if nI (k + 1) < 6 then 0 else 1)))) E' x z w') : ux_Bm uxP sc (d + 1) 103 [.ref 210, .int ty] E x z K := by
  show ux_B uxP sc (d + 1) 103 0 [.ref 210, .int ty, .null, .null, .null, .null] [] E x z false K
  have hl0 : e < (R 230).length := by rw [m.lenR 230 (by decide)]; exact he
  refine ux_BN 1 rfl ?_
  refine mq_Bdepth m rfl rfl ?_
  refine ux_BN 2 rfl ?_
  refine ux_Btop (nI e) (nI_pred e) ?_
  refine ux_BN 2 rfl ?_
  refine mq_Bref m rfl rfl (fun _ => rfl) ?_
  refine ux_BN 1 rfl ?_
  refine mq_ildR m 229 e rfl (by decide) he rfl ?_
  refine ux_Btop (nI (k + 1)) (fr_w hfr) ?_
  refine ux_BN 2 rfl ?_
  refine mq_Bref m rfl rfl (fun _ => rfl) ?_
  refine ux_BN 2 rfl ?_
  refine mq_ildR m 230 e rfl (by decide) he rfl ?_
  refine ux_Btop (nI 1) (fr_p hfr) ?_
  refine ux_BN 2 rfl ?_
  refine ux_Btop (nI 2) (nI_1 _) ?_
  refine mq_istR m 230 e rfl (by decide) he rfl fun E1 m1 => ?_
  refine ux_BN 1 rfl ?_
  refine mq_Bref m1 rfl rfl (fun _ => rfl) ?_
  refine ux_BN 1 rfl ?_
  refine mq_ildR m1 230 e rfl (by decide) he rfl ?_
  refine ux_Btop (nI 2) (by rw [fUg R 230 e _ hl0, if_pos ⟨rfl, rfl⟩]) ?_
  refine ux_BN 4 rfl ?_
  refine ux_Byes (nI_neq (b := 8) (by omega) (by omega) (by decide)) ?_
  refine ux_BN 3 rfl ?_
  refine ux_Byes (nI_neq (b := 8) (by omega) (by omega) (by decide)) ?_
  refine ux_BN 1 rfl ?_
  refine ux_Bk (j := 98) rfl rfl ?_
  refine mt_isSign1 ⟨nI_le (show 3 ≤ (k + 1) by omega) (by omega), nI_le (show (k + 1) ≤ 7 by omega) (by decide)⟩ ?_
  refine ux_BN 1 rfl ?_
  refine ux_Bno (by decide) ?_
  refine ux_BN 6 rfl ?_
  refine ux_Byes (by decide) ?_
  refine ux_BN 2 rfl ?_
  refine mq_Bdepth m1 rfl rfl ?_
  refine ux_BN 2 rfl ?_
  refine mq_putdepth m1 e rfl rfl rfl (nI_pred e) fun E3 m3 => ?_
  refine ux_BN 1 rfl ?_
  refine ux_Bk (j := 98) rfl rfl ?_
  refine mt_isSign1 ⟨nI_le (show 3 ≤ (k + 1) by omega) (by omega), nI_le (show (k + 1) ≤ 7 by omega) (by decide)⟩ ?_
  refine ux_BN 1 rfl ?_
  refine ux_Bno (by decide) ?_
  refine ux_BN 4 rfl ?_
  refine ux_Btop (nI k) (nI_pred k) ?_
  refine mq_Bv m3 rfl rfl rfl rfl rfl ?_
  refine mq_emit m3 (nI k) (by omega) fun E5 m5 => ?_
  refine ux_BN 1 rfl ?_
  refine ux_Bk (j := 104) rfl rfl ?_
  refine mo_typeOfSign (nI (k + 1)) ?_
  exact ux_Bri rfl (Or.inl rfl) (hK _ _ _ m5 (rk_set R 230 e _ hl0))

theorem mp_if1 (m : mq E0 g0 A0 (e + 1) fk fp c R E) (he : e < 32) (ty : Int32) (hc : c.length + 2 ≤ 80) (hfr : fr R e = (8, nI 0, fm, s2, hl)) (hK : ∀ E' w' R', mq E0 g0 A0 (e + 1) fk fp (c ++ [7, 0]) R' E' → rk R R' e → fr R' e = (8, nI 1, fm, s2, nI (c.length + 1)) → K (.inr (some (.int 2))) E' x z w') : ux_Bm uxP sc (d + 1) 103 [.ref 210, .int ty] E x z K := by
  show ux_B uxP sc (d + 1) 103 0 [.ref 210, .int ty, .null, .null, .null, .null] [] E x z false K
  have hl0 : e < (R 230).length := by rw [m.lenR 230 (by decide)]; exact he
  refine ux_BN 1 rfl ?_
  refine mq_Bdepth m rfl rfl ?_
  refine ux_BN 2 rfl ?_
  refine ux_Btop (nI e) (nI_pred e) ?_
  refine ux_BN 2 rfl ?_
  refine mq_Bref m rfl rfl (fun _ => rfl) ?_
  refine ux_BN 1 rfl ?_
  refine mq_ildR m 229 e rfl (by decide) he rfl ?_
  refine ux_Btop 8 (fr_w hfr) ?_
  refine ux_BN 2 rfl ?_
  refine mq_Bref m rfl rfl (fun _ => rfl) ?_
  refine ux_BN 2 rfl ?_
  refine mq_ildR m 230 e rfl (by decide) he rfl ?_
  refine ux_Btop (nI 0) (fr_p hfr) ?_
  refine ux_BN 2 rfl ?_
  refine ux_Btop (nI 1) (nI_1 _) ?_
  refine mq_istR m 230 e rfl (by decide) he rfl fun E1 m1 => ?_
  refine ux_BN 1 rfl ?_
  refine mq_Bref m1 rfl rfl (fun _ => rfl) ?_
  refine ux_BN 1 rfl ?_
  refine mq_ildR m1 230 e rfl (by decide) he rfl ?_
  refine ux_Btop (nI 1) (by rw [fUg R 230 e _ hl0, if_pos ⟨rfl, rfl⟩]) ?_
  refine ux_BN 4 rfl ?_
  refine ux_Bno (by decide) ?_
  refine ux_BN 3 rfl ?_
  refine ux_Bno (by decide) ?_
  refine ux_BN 2 rfl ?_
  refine mq_Bv m1 rfl rfl rfl rfl rfl ?_
  refine mq_emit m1 7 (by omega) fun E2 m2 => ?_
  refine ux_BN 1 rfl ?_
  refine mq_Bref m2 rfl rfl (fun _ => rfl) ?_
  refine ux_BN 2 rfl ?_
  refine mq_Bsize m2 rfl rfl ?_
  refine mq_istR m2 233 e rfl (by decide) he rfl fun E3 m3 => ?_
  refine ux_BN 2 rfl ?_
  refine mq_Bv m3 rfl rfl rfl rfl rfl ?_
  refine mq_emit m3 0 (by simp; omega) fun E4 m4 => ?_
  refine ux_BN 3 rfl ?_
  refine ux_Bno (by decide) ?_
  refine ux_BN 3 rfl ?_
  refine ux_Byes (by decide) ?_
  refine ux_BN 1 rfl ?_
  refine ux_Bk (j := 98) rfl rfl ?_
  refine mt_isSign0 (by decide) ?_
  refine ux_BN 1 rfl ?_
  refine ux_Byes rfl ?_
  refine ux_BN 3 rfl ?_
  refine ux_Bno (by decide) ?_
  refine ux_BN 6 rfl ?_
  refine ux_Bno (by decide) ?_
  refine ux_BN 1 rfl ?_
  exact ux_Bri rfl (Or.inl rfl) (hK _ _ _ (by simpa using m4) ((rk_set R 230 e _ hl0).trans (rk_set _ 233 e _ (by rw [m2.lenR 233 (by decide)]; exact he))) (by rw [fr_233 _ e _ (by rw [m2.lenR 233 (by decide)]; exact he), fr_230 R e _ hl0, hfr]))

theorem mp_if2 (m : mq E0 g0 A0 (e + 1) fk fp c R E) (he : e < 32) (ty : Int32) (n : Nat) (hn : n < c.length) (hc : c.length + 2 ≤ 80) (hfr : fr R e = (8, nI 1, fm, s2, nI n)) (hK : ∀ E' w' R', mq E0 g0 A0 (e + 1) fk fp (c.set n (nI (c.length + 1 - n)) ++ [8, 0]) R' E' → rk R R' e → fr R' e = (8, nI 2, fm, ty, nI (c.length + 1)) → K (.inr (some (.int 2))) E' x z w') : ux_Bm uxP sc (d + 1) 103 [.ref 210, .int ty] E x z K := by
  show ux_B uxP sc (d + 1) 103 0 [.ref 210, .int ty, .null, .null, .null, .null] [] E x z false K
  have hl0 : e < (R 230).length := by rw [m.lenR 230 (by decide)]; exact he
  refine ux_BN 1 rfl ?_
  refine mq_Bdepth m rfl rfl ?_
  refine ux_BN 2 rfl ?_
  refine ux_Btop (nI e) (nI_pred e) ?_
  refine ux_BN 2 rfl ?_
  refine mq_Bref m rfl rfl (fun _ => rfl) ?_
  refine ux_BN 1 rfl ?_
  refine mq_ildR m 229 e rfl (by decide) he rfl ?_
  refine ux_Btop 8 (fr_w hfr) ?_
  refine ux_BN 2 rfl ?_
  refine mq_Bref m rfl rfl (fun _ => rfl) ?_
  refine ux_BN 2 rfl ?_
  refine mq_ildR m 230 e rfl (by decide) he rfl ?_
  refine ux_Btop (nI 1) (fr_p hfr) ?_
  refine ux_BN 2 rfl ?_
  refine ux_Btop (nI 2) (nI_1 _) ?_
  refine mq_istR m 230 e rfl (by decide) he rfl fun E1 m1 => ?_
  refine ux_BN 1 rfl ?_
  refine mq_Bref m1 rfl rfl (fun _ => rfl) ?_
  refine ux_BN 1 rfl ?_
  refine mq_ildR m1 230 e rfl (by decide) he rfl ?_
  refine ux_Btop (nI 2) (by rw [fUg R 230 e _ hl0, if_pos ⟨rfl, rfl⟩]) ?_
  refine ux_BN 4 rfl ?_
  refine ux_Bno (by decide) ?_
  refine ux_BN 3 rfl ?_
  refine ux_Byes (by decide) ?_
  refine ux_BN 3 rfl ?_
  refine ux_Bno (by decide) ?_
  refine ux_BN 3 rfl ?_
  refine ux_Bno (by decide) ?_
  refine ux_BN 1 rfl ?_
  refine mq_Bref m1 rfl rfl (fun _ => rfl) ?_
  refine ux_BN 2 rfl ?_
  refine mq_istR m1 232 e rfl (by decide) he rfl fun E2 m2 => ?_
  refine ux_BN 2 rfl ?_
  refine mq_Bv m2 rfl rfl rfl rfl rfl ?_
  refine mq_emit m2 8 (by omega) fun E3 m3 => ?_
  refine ux_BN 1 rfl ?_
  refine mq_Bref m3 rfl rfl (fun _ => rfl) ?_
  refine ux_BN 1 rfl ?_
  refine mq_Bref m3 rfl rfl (fun _ => rfl) ?_
  refine ux_BN 1 rfl ?_
  refine mq_ildR m3 233 e rfl (by decide) he rfl ?_
  refine ux_Btop (nI n) (show (R 233).getD e 0 = nI n from fr_h hfr) ?_
  refine ux_BN 1 rfl ?_
  refine mq_Bsize m3 rfl rfl ?_
  refine ux_BN 2 rfl ?_
  refine ux_Btop (nI (c.length + 1 + 1)) (by rw [List.length_append]; exact nI_1 _) ?_
  refine ux_BN 1 rfl ?_
  refine mq_Bref m3 rfl rfl (fun _ => rfl) ?_
  refine ux_BN 1 rfl ?_
  refine mq_ildR m3 233 e rfl (by decide) he rfl ?_
  refine ux_Btop (nI n) (show (R 233).getD e 0 = nI n from fr_h hfr) ?_
  refine ux_BN 3 rfl ?_
  refine ux_Btop (nI (c.length + 1 - n)) (nI_sub1 (by omega)) ?_
  refine mq_patch m3 n rfl (by simp; omega) rfl fun E4 m4 => ?_
  refine ux_BN 1 rfl ?_
  refine mq_Bref m4 rfl rfl (fun _ => rfl) ?_
  refine ux_BN 2 rfl ?_
  refine mq_Bsize m4 rfl rfl ?_
  refine mq_istR m4 233 e rfl (by decide) he rfl fun E5 m5 => ?_
  refine ux_BN 2 rfl ?_
  refine mq_Bv m5 rfl rfl rfl rfl rfl ?_
  refine mq_emit m5 0 (by simp; omega) fun E6 m6 => ?_
  refine ux_BN 1 rfl ?_
  refine ux_Bk (j := 98) rfl rfl ?_
  refine mt_isSign0 (by decide) ?_
  refine ux_BN 1 rfl ?_
  refine ux_Byes rfl ?_
  refine ux_BN 3 rfl ?_
  refine ux_Bno (by decide) ?_
  refine ux_BN 6 rfl ?_
  refine ux_Bno (by decide) ?_
  refine ux_BN 1 rfl ?_
  exact ux_Bri rfl (Or.inl rfl) (hK _ _ _ (mp_cast m6 (by rw [List.set_append_left _ _ hn]; simp)) (((rk_set R 230 e _ hl0).trans (rk_set _ 232 e _ (by rw [m1.lenR 232 (by decide)]; exact he))).trans (rk_set _ 233 e _ (by rw [m4.lenR 233 (by decide)]; exact he))) (by rw [fr_233 _ e _ (by rw [m4.lenR 233 (by decide)]; exact he), fr_232 _ e _ (by rw [m1.lenR 232 (by decide)]; exact he), fr_230 R e _ hl0, hfr]; simp))

theorem mp_if3 (m : mq E0 g0 A0 (e + 1) fk fp c R E) (he : e < 32) (ty : Int32) (n : Nat) (hn : n < c.length) (hc : c.length ≤ 80) (hfr : fr R e = (8, nI 2, fm, s2, nI n)) (hK : ∀ E' w' R', mq E0 g0 A0 e fk fp (c.set n (nI (c.length - n - 1))) R' E' → rk R R' e → K (.inr (some (.int s2))) E' x z w') : ux_Bm uxP sc (d + 1) 103 [.ref 210, .int ty] E x z K := by
  show ux_B uxP sc (d + 1) 103 0 [.ref 210, .int ty, .null, .null, .null, .null] [] E x z false K
  have hl0 : e < (R 230).length := by rw [m.lenR 230 (by decide)]; exact he
  refine ux_BN 1 rfl ?_
  refine mq_Bdepth m rfl rfl ?_
  refine ux_BN 2 rfl ?_
  refine ux_Btop (nI e) (nI_pred e) ?_
  refine ux_BN 2 rfl ?_
  refine mq_Bref m rfl rfl (fun _ => rfl) ?_
  refine ux_BN 1 rfl ?_
  refine mq_ildR m 229 e rfl (by decide) he rfl ?_
  refine ux_Btop 8 (fr_w hfr) ?_
  refine ux_BN 2 rfl ?_
  refine mq_Bref m rfl rfl (fun _ => rfl) ?_
  refine ux_BN 2 rfl ?_
  refine mq_ildR m 230 e rfl (by decide) he rfl ?_
  refine ux_Btop (nI 2) (fr_p hfr) ?_
  refine ux_BN 2 rfl ?_
  refine ux_Btop (nI 3) (nI_1 _) ?_
  refine mq_istR m 230 e rfl (by decide) he rfl fun E1 m1 => ?_
  refine ux_BN 1 rfl ?_
  refine mq_Bref m1 rfl rfl (fun _ => rfl) ?_
  refine ux_BN 1 rfl ?_
  refine mq_ildR m1 230 e rfl (by decide) he rfl ?_
  refine ux_Btop (nI 3) (by rw [fUg R 230 e _ hl0, if_pos ⟨rfl, rfl⟩]) ?_
  refine ux_BN 4 rfl ?_
  refine ux_Bno (by decide) ?_
  refine ux_BN 3 rfl ?_
  refine ux_Byes (by decide) ?_
  refine ux_BN 3 rfl ?_
  refine ux_Bno (by decide) ?_
  refine ux_BN 3 rfl ?_
  refine ux_Byes (by decide) ?_
  refine ux_BN 1 rfl ?_
  refine ux_Bk (j := 98) rfl rfl ?_
  refine mt_isSign0 (by decide) ?_
  refine ux_BN 1 rfl ?_
  refine ux_Byes rfl ?_
  refine ux_BN 3 rfl ?_
  refine ux_Bno (by decide) ?_
  refine ux_BN 6 rfl ?_
  refine ux_Byes (by decide) ?_
  refine ux_BN 2 rfl ?_
  refine mq_Bdepth m1 rfl rfl ?_
  refine ux_BN 2 rfl ?_
  refine mq_putdepth m1 e rfl rfl rfl (nI_pred e) fun E3 m3 => ?_
  refine ux_BN 1 rfl ?_
  refine ux_Bk (j := 98) rfl rfl ?_
  refine mt_isSign0 (by decide) ?_
  refine ux_BN 1 rfl ?_
  refine ux_Byes rfl ?_
  refine ux_BN 3 rfl ?_
  refine ux_Bno (by decide) ?_
  refine ux_BN 1 rfl ?_
  refine mq_Bref m3 rfl rfl (fun _ => rfl) ?_
  refine ux_BN 1 rfl ?_
  refine mq_Bref m3 rfl rfl (fun _ => rfl) ?_
  refine ux_BN 1 rfl ?_
  refine mq_ildR m3 233 e rfl (by decide) he rfl ?_
  refine ux_Btop (nI n) (show (R 233).getD e 0 = nI n from fr_h hfr) ?_
  refine ux_BN 1 rfl ?_
  refine mq_Bsize m3 rfl rfl ?_
  refine ux_BN 1 rfl ?_
  refine mq_Bref m3 rfl rfl (fun _ => rfl) ?_
  refine ux_BN 1 rfl ?_
  refine mq_ildR m3 233 e rfl (by decide) he rfl ?_
  refine ux_Btop (nI n) (show (R 233).getD e 0 = nI n from fr_h hfr) ?_
  refine ux_BN 3 rfl ?_
  refine ux_Btop (nI (c.length - n - 1)) (nI_sub1 (by omega)) ?_
  refine mq_patch m3 n rfl hn rfl fun E5 m5 => ?_
  refine ux_BN 1 rfl ?_
  refine mq_Bref m5 rfl rfl (fun _ => rfl) ?_
  refine ux_BN 1 rfl ?_
  refine mq_ildR m5 232 e rfl (by decide) he rfl ?_
  refine ux_Btop s2 (show (R 232).getD e 0 = s2 from fr_s hfr) ?_
  exact ux_Bri rfl (Or.inl rfl) (hK _ _ _ m5 (rk_set R 230 e _ hl0))

theorem mp_call1 (m : mq E0 g0 A0 (e + 1) fk fp c R E) (he : e < 32) (ty : Int32) (h p : Nat) (hh : h < 8) (hp : ¬ (A0 212).getD h 0 &&& 3 ≤ nI (p + 1)) (hfr : fr R e = ((nI (h + 11)), nI p, fm, s2, hl)) (hK : ∀ E' w' R', mq E0 g0 A0 (e + 1) fk fp c R' E' → rk R R' e → fr R' e = (nI (h + 11), nI (p + 1), fm, s2, hl) → K (.inr (some (.int 2))) E' x z w') : ux_Bm uxP sc (d + 1) 103 [.ref 210, .int ty] E x z K := by
  show ux_B uxP sc (d + 1) 103 0 [.ref 210, .int ty, .null, .null, .null, .null] [] E x z false K
  have hl0 : e < (R 230).length := by rw [m.lenR 230 (by decide)]; exact he
  refine ux_BN 1 rfl ?_
  refine mq_Bdepth m rfl rfl ?_
  refine ux_BN 2 rfl ?_
  refine ux_Btop (nI e) (nI_pred e) ?_
  refine ux_BN 2 rfl ?_
  refine mq_Bref m rfl rfl (fun _ => rfl) ?_
  refine ux_BN 1 rfl ?_
  refine mq_ildR m 229 e rfl (by decide) he rfl ?_
  refine ux_Btop (nI (h + 11)) (fr_w hfr) ?_
  refine ux_BN 2 rfl ?_
  refine mq_Bref m rfl rfl (fun _ => rfl) ?_
  refine ux_BN 2 rfl ?_
  refine mq_ildR m 230 e rfl (by decide) he rfl ?_
  refine ux_Btop (nI p) (fr_p hfr) ?_
  refine ux_BN 2 rfl ?_
  refine ux_Btop (nI (p + 1)) (nI_1 _) ?_
  refine mq_istR m 230 e rfl (by decide) he rfl fun E1 m1 => ?_
  refine ux_BN 1 rfl ?_
  refine mq_Bref m1 rfl rfl (fun _ => rfl) ?_
  refine ux_BN 1 rfl ?_
  refine mq_ildR m1 230 e rfl (by decide) he rfl ?_
  refine ux_Btop (nI (p + 1)) (by rw [fUg R 230 e _ hl0, if_pos ⟨rfl, rfl⟩]) ?_
  refine ux_BN 4 rfl ?_
  refine ux_Byes (nI_neq (b := 8) (by omega) (by omega) (by decide)) ?_
  refine ux_BN 3 rfl ?_
  refine ux_Byes (nI_neq (b := 8) (by omega) (by omega) (by decide)) ?_
  refine ux_BN 1 rfl ?_
  refine ux_Bk (j := 98) rfl rfl ?_
  refine mt_isSign0 (fun h0 => absurd h0.2 (nI_ge (show 7 < h + 11 by omega) (by omega))) ?_
  refine ux_BN 1 rfl ?_
  refine ux_Byes rfl ?_
  refine ux_BN 3 rfl ?_
  refine ux_Byes (nI_neq (b := 8) (by omega) (by omega) (by decide)) ?_
  refine ux_BN 4 rfl ?_
  refine ux_Btop (nI h) (pk_sub (show 11 ≤ h + 11 by omega)) ?_
  refine mq_Bv m1 rfl rfl rfl rfl rfl ?_
  refine mq_parameters m1 h hh ?_
  refine ux_BN 4 rfl ?_
  refine ux_Bno hp ?_
  refine ux_BN 1 rfl ?_
  exact ux_Bri rfl (Or.inl rfl) (hK _ _ _ m1 (rk_set R 230 e _ hl0) (by rw [fr_230 R e _ hl0, hfr]))

theorem mp_call2 (m : mq E0 g0 A0 (e + 1) fk fp c R E) (he : e < 32) (ty : Int32) (h p : Nat) (hh : h < 8) (hp : (A0 212).getD h 0 &&& 3 ≤ nI (p + 1)) (hc : c.length + 2 ≤ 80) (hfr : fr R e = ((nI (h + 11)), nI p, fm, s2, hl)) (hK : ∀ E' w' R', mq E0 g0 A0 e fk fp (c ++ [9, nI h]) R' E' → rk R R' e → K (.inr (some (.int ((A0 212).getD h 0 >>> ((5 : Int32) &&& 31))))) E' x z w') : ux_Bm uxP sc (d + 1) 103 [.ref 210, .int ty] E x z K := by
  show ux_B uxP sc (d + 1) 103 0 [.ref 210, .int ty, .null, .null, .null, .null] [] E x z false K
  have hl0 : e < (R 230).length := by rw [m.lenR 230 (by decide)]; exact he
  refine ux_BN 1 rfl ?_
  refine mq_Bdepth m rfl rfl ?_
  refine ux_BN 2 rfl ?_
  refine ux_Btop (nI e) (nI_pred e) ?_
  refine ux_BN 2 rfl ?_
  refine mq_Bref m rfl rfl (fun _ => rfl) ?_
  refine ux_BN 1 rfl ?_
  refine mq_ildR m 229 e rfl (by decide) he rfl ?_
  refine ux_Btop (nI (h + 11)) (fr_w hfr) ?_
  refine ux_BN 2 rfl ?_
  refine mq_Bref m rfl rfl (fun _ => rfl) ?_
  refine ux_BN 2 rfl ?_
  refine mq_ildR m 230 e rfl (by decide) he rfl ?_
  refine ux_Btop (nI p) (fr_p hfr) ?_
  refine ux_BN 2 rfl ?_
  refine ux_Btop (nI (p + 1)) (nI_1 _) ?_
  refine mq_istR m 230 e rfl (by decide) he rfl fun E1 m1 => ?_
  refine ux_BN 1 rfl ?_
  refine mq_Bref m1 rfl rfl (fun _ => rfl) ?_
  refine ux_BN 1 rfl ?_
  refine mq_ildR m1 230 e rfl (by decide) he rfl ?_
  refine ux_Btop (nI (p + 1)) (by rw [fUg R 230 e _ hl0, if_pos ⟨rfl, rfl⟩]) ?_
  refine ux_BN 4 rfl ?_
  refine ux_Byes (nI_neq (b := 8) (by omega) (by omega) (by decide)) ?_
  refine ux_BN 3 rfl ?_
  refine ux_Byes (nI_neq (b := 8) (by omega) (by omega) (by decide)) ?_
  refine ux_BN 1 rfl ?_
  refine ux_Bk (j := 98) rfl rfl ?_
  refine mt_isSign0 (fun h0 => absurd h0.2 (nI_ge (show 7 < h + 11 by omega) (by omega))) ?_
  refine ux_BN 1 rfl ?_
  refine ux_Byes rfl ?_
  refine ux_BN 3 rfl ?_
  refine ux_Byes (nI_neq (b := 8) (by omega) (by omega) (by decide)) ?_
  refine ux_BN 4 rfl ?_
  refine ux_Btop (nI h) (pk_sub (show 11 ≤ h + 11 by omega)) ?_
  refine mq_Bv m1 rfl rfl rfl rfl rfl ?_
  refine mq_parameters m1 h hh ?_
  refine ux_BN 4 rfl ?_
  refine ux_Byes hp ?_
  refine ux_BN 2 rfl ?_
  refine mq_Bdepth m1 rfl rfl ?_
  refine ux_BN 2 rfl ?_
  refine mq_putdepth m1 e rfl rfl rfl (nI_pred e) fun E4 m4 => ?_
  refine ux_BN 1 rfl ?_
  refine ux_Bk (j := 98) rfl rfl ?_
  refine mt_isSign0 (fun h0 => absurd h0.2 (nI_ge (show 7 < h + 11 by omega) (by omega))) ?_
  refine ux_BN 1 rfl ?_
  refine ux_Byes rfl ?_
  refine ux_BN 3 rfl ?_
  refine ux_Byes (nI_neq (b := 8) (by omega) (by omega) (by decide)) ?_
  refine ux_BN 2 rfl ?_
  refine mq_Bv m4 rfl rfl rfl rfl rfl ?_
  refine mq_emit m4 9 (by omega) fun E6 m6 => ?_
  refine ux_BN 4 rfl ?_
  refine ux_Btop (nI h) (pk_sub (show 11 ≤ h + 11 by omega)) ?_
  refine mq_Bv m6 rfl rfl rfl rfl rfl ?_
  refine mq_emit m6 (nI h) (by simp; omega) fun E7 m7 => ?_
  refine ux_BN 4 rfl ?_
  refine ux_Btop (nI h) (pk_sub (show 11 ≤ h + 11 by omega)) ?_
  refine mq_Bv m7 rfl rfl rfl rfl rfl ?_
  refine mq_resultOf m7 h hh ?_
  exact ux_Bri rfl (Or.inl rfl) (hK _ _ _ (by simpa using m7) (rk_set R 230 e _ hl0))

end MP
