/-! The relation of both desks, and what the small calls do to it. -/
def tI (A : Nat → List Int32) (g : Nat → Int32) (fk fp dn ct W AD PR : List Int32) (L : Nat) (rs sp : Int32) (S B R : List Int32) (y0 : Int32) : Prop :=
  (A 221 = fk ∧ A 222 = fp ∧ A 223 = dn ∧ A 225 = ct) ∧ (A 226 = W ∧ A 227 = AD ∧ (∀ f, f < 8 → ¬ AD.getD f 0 = -1 → (A 228).getD f 0 = PR.getD f 0) ∧ g 17 = nI L) ∧ (g 31 = rs ∧ g 32 = sp) ∧ A 235 = S ++ [y0] ∧ A 237 = B ∧ A 236 = R
theorem tI.same {A A2 : Nat → List Int32} {g g2 : Nat → Int32} {fk fp dn ct W AD PR : List Int32} {L : Nat} {rs sp : Int32} {S B R : List Int32} {y0 : Int32} (h : tI A g fk fp dn ct W AD PR L rs sp S B R y0) (hA : ∀ a, 221 ≤ a → A2 a = A a) (hg : ∀ j, j ≠ 0 → g2 j = g j) : tI A2 g2 fk fp dn ct W AD PR L rs sp S B R y0 := by
  unfold tI at h ⊢
  rw [hA 221 (by decide), hA 222 (by decide), hA 223 (by decide), hA 225 (by decide), hA 226 (by decide), hA 227 (by decide), hA 228 (by decide), hA 235 (by decide), hA 236 (by decide), hA 237 (by decide), hg 17 (by decide), hg 31 (by decide), hg 32 (by decide)]
  exact h
def pI (W AD PR : List Int32) (L : Nat) (S B R : List Int32) : Prop := iOk W AD PR L ∧ S.length = 40 ∧ B.length = 12 ∧ R.length = 12 ∧ R.getD 0 0 = 0
/-- the two desks and the row out -/
def RL (N : Nat) (E : ux_Ev) : Prop := ∃ sl tx us fk fp dn ct W AD PR L rs sp n F pc S B R g A y0 st q, cS E sl tx us fk fp dn ct ∧ iS E W AD PR L ∧ nS E rs sp (n, F, pc, S, B, R) ∧ pI W AD PR L S B R ∧ md E g A E ∧ mR g A sl tx us st ∧ st ≤ N ∧ tI A g fk fp dn ct W AD PR L rs sp S B R y0 ∧ E 238 = some (102, [], [.long q]) ∧ E 239 = none
theorem md.mv {E E2 : ux_Ev} {g : Nat → Int32} {A : Nat → List Int32} (h : md E g A E) (he : ∀ b, 210 ≤ b → b ≤ 237 → E2 b = E b) : md E2 g A E2 := by
  obtain ⟨h1, h2, _⟩ := h
  exact ⟨by rw [he 210 (by decide) (by decide)]; exact h1, fun a a1 a2 => by rw [he a (by omega) a2]; exact h2 a a1 a2, fun _ _ => rfl⟩
theorem md.self {E0 E : ux_Ev} {g : Nat → Int32} {A : Nat → List Int32} (h : md E0 g A E) : md E g A E := ⟨h.1, h.2.1, fun _ _ => rfl⟩
theorem nS.fr {E E2 : ux_Ev} {rs sp : Int32} {s : rT} (h : nS E rs sp s) (he : ∀ b, 14 ≤ b → b ≤ 17 → E2 b = E b) : nS E2 rs sp s := by
  obtain ⟨h1, h2, h3, h4⟩ := h
  exact ⟨by rw [he _ (by omega) (by omega)]; exact h1, by rw [he _ (by omega) (by omega)]; exact h2, by rw [he _ (by omega) (by omega)]; exact h3, by rw [he _ (by omega) (by omega)]; exact h4⟩
section RLs
variable {E E2 E3 : ux_Ev} {sl fk fp dn ct : List Int32} {tx : Nat → List Int32} {us : Nat → List sU} {W AD PR : List Int32} {L : Nat} {rs sp : Int32} {n F pc : Nat} {S B R : List Int32} {g : Nat → Int32} {A : Nat → List Int32} {y0 : Int32} {st N : Nat} {q : Int64}
theorem RL_of (hc : cS E2 sl tx us fk fp dn ct) (hi : iS E2 W AD PR L) (hn : nS E2 rs sp (n, F, pc, S, B, R)) (hp : pI W AD PR L S B R) (hm : md E2 g A E3) (hR : mR g A sl tx us st) (hst : st ≤ N) (ht : tI A g fk fp dn ct W AD PR L rs sp S B R y0) (ho : E2 238 = some (102, [], [.long q])) (h9 : E2 239 = none) : RL N E3 :=
  have f : ∀ b, b < 210 ∨ 237 < b → E3 b = E2 b := hm.2.2
  ⟨sl, tx, us, fk, fp, dn, ct, W, AD, PR, L, rs, sp, n, F, pc, S, B, R, g, A, y0, st, q, hc.fr fun b _ hb => f b (Or.inl hb), hi.fr fun b b1 b2 => f b (by omega), hn.fr fun b b1 b2 => f b (by omega), hp, hm.self, hR, hst, ht, by rw [f 238 (by omega)]; exact ho, by rw [f 239 (by omega)]; exact h9⟩
theorem mR.mt {g2 : Nat → Int32} {A2 : Nat → List Int32} {sl2 : List Int32} {tx2 : Nat → List Int32} (h : mR g A sl tx us st) (ht : mT A2 sl2 tx2) (hg : g2 11 = g 11) (hA : ∀ a, 215 ≤ a → a ≤ 220 → A2 a = A a) : mR g2 A2 sl2 tx2 us st := by
  obtain ⟨h1, h2, h3⟩ := h
  refine ⟨ht, by rw [hg]; exact h2, fun f hf => ?_⟩
  obtain ⟨b1, qs, b2, b3⟩ := h3 f hf
  exact ⟨b1, qs, b2.congr (fun q hq => b1.1 _ (by rw [b3]; exact List.mem_map_of_mem hq)) (fun s _ _ => sSame_of hA s) (Nat.le_refl _), b3⟩
theorem mT_sign {k : Nat} (h : mT A sl tx) (hl : sl.length = 8) (hA : (A 211).length = 8) (hA2 : (A 212).length = 8) {f : Nat} (hf : f < 8) (hk : k < 4) (t b : Int32) : mT (fU (fU A 211 ((A 211).set f 1)) 212 ((A 212).set f (sgM (nI k) t b))) (sl.set f (sgM (nI k) t b)) tx := by
  obtain ⟨h1, h2⟩ := h
  refine ⟨fun g hg => ?_, fun g hg => ?_⟩
  · rw [fU_ne _ _ (by decide), fU_at, fU_at, getD_set (by omega), getD_set (by omega), getD_set (by omega)]
    by_cases e : g = f
    · rw [if_pos e, if_pos e, if_pos e]
      exact ⟨fun h => absurd h (by decide), fun _ => ⟨rfl, sgM_64 hk t b⟩⟩
    · rw [if_neg e, if_neg e, if_neg e]
      exact h1 g hg
  · rw [fU_ne _ _ (by decide), fU_ne _ _ (by decide), fU_ne _ _ (by decide), fU_ne _ _ (by decide)]
    exact h2 g hg
theorem mT_drop (h : mT A sl tx) (hl : sl.length = 8) (hA : (A 211).length = 8) (hA2 : (A 213).length = 8) {f : Nat} (hf : f < 8) : mT (fU (fU A 211 ((A 211).set f 0)) 213 ((A 213).set f 0)) (sl.set f (-1)) (fU tx f []) := by
  obtain ⟨h1, h2⟩ := h
  refine ⟨fun g hg => ?_, fun g hg => ?_⟩
  · rw [fU_ne _ _ (by decide), fU_at, fU_ne _ _ (by decide), fU_ne _ _ (by decide), getD_set (by omega), getD_set (by omega)]
    by_cases e : g = f
    · rw [if_pos e, if_pos e]
      exact ⟨fun _ => rfl, fun h => absurd rfl h⟩
    · rw [if_neg e, if_neg e]
      exact h1 g hg
  · have e1 : (fU (fU A 211 ((A 211).set f 0)) 213 ((A 213).set f 0)) 213 = (A 213).set f 0 := fU_at _ _ _
    have e2 : (fU (fU A 211 ((A 211).set f 0)) 213 ((A 213).set f 0)) 214 = A 214 := by rw [fU_ne _ _ (by decide), fU_ne _ _ (by decide)]
    rw [e1, e2, getD_set (by omega)]
    by_cases e : g = f
    · subst e
      rw [fU_at, if_pos rfl]
      exact ⟨by simp, rfl, fun k hk => absurd hk (by simp)⟩
    · rw [fU_ne _ _ e, if_neg e]
      exact h2 g hg
theorem mT_wipe (h : mT A sl tx) (hA2 : (A 213).length = 8) {f : Nat} (hf : f < 8) : mT (fU A 213 ((A 213).set f 0)) sl (fU tx f []) := by
  obtain ⟨h1, h2⟩ := h
  refine ⟨fun g hg => ?_, fun g hg => ?_⟩
  · rw [fU_ne _ _ (by decide), fU_ne _ _ (by decide)]
    exact h1 g hg
  · have e1 : (fU A 213 ((A 213).set f 0)) 213 = (A 213).set f 0 := fU_at _ _ _
    have e2 : (fU A 213 ((A 213).set f 0)) 214 = A 214 := fU_ne _ _ (by decide)
    rw [e1, e2, getD_set (by omega)]
    by_cases e : g = f
    · subst e
      rw [fU_at, if_pos rfl]
      exact ⟨by simp, rfl, fun k hk => absurd hk (by simp)⟩
    · rw [fU_ne _ _ e, if_neg e]
      exact h2 g hg
theorem mT_edit (h : mT A sl tx) (hA2 : (A 214).length = 240) {f k : Nat} (hf : f < 8) (hk : k < (tx f).length) (t : Int32) : mT (fU A 214 ((A 214).set (30 * f + k) t)) sl (fU tx f ((tx f).set k t)) := by
  obtain ⟨h1, h2⟩ := h
  refine ⟨fun g hg => ?_, fun g hg => ?_⟩
  · rw [fU_ne _ _ (by decide), fU_ne _ _ (by decide)]
    exact h1 g hg
  · have e1 : (fU A 214 ((A 214).set (30 * f + k) t)) 213 = A 213 := fU_ne _ _ (by decide)
    have e2 : (fU A 214 ((A 214).set (30 * f + k) t)) 214 = (A 214).set (30 * f + k) t := fU_at _ _ _
    rw [e1, e2]
    have hf30 := (h2 f hf).1
    obtain ⟨a1, a2, a3⟩ := h2 g hg
    by_cases e : g = f
    · subst e
      rw [fU_at, List.length_set]
      refine ⟨a1, a2, fun j hj => ?_⟩
      rw [getD_set (by omega), getD_set (by omega)]
      by_cases ej : j = k
      · rw [if_pos (by omega), if_pos ej]
      · rw [if_neg (by omega), if_neg ej]
        exact a3 j hj
    · rw [fU_ne _ _ e]
      refine ⟨a1, a2, fun j hj => ?_⟩
      rw [getD_ne (by omega)]
      exact a3 j hj
theorem mT_token (h : mT A sl tx) (hA1 : (A 213).length = 8) (hA2 : (A 214).length = 240) {f : Nat} (hf : f < 8) (hk : (tx f).length < 30) (t : Int32) : mT (fU (fU A 214 ((A 214).set (30 * f + (tx f).length) t)) 213 ((A 213).set f (nI ((tx f).length + 1)))) sl (fU tx f (tx f ++ [t])) := by
  obtain ⟨h1, h2⟩ := h
  refine ⟨fun g hg => ?_, fun g hg => ?_⟩
  · rw [fU_ne _ _ (by decide), fU_ne _ _ (by decide), fU_ne _ _ (by decide), fU_ne _ _ (by decide)]
    exact h1 g hg
  · have e1 : (fU (fU A 214 ((A 214).set (30 * f + (tx f).length) t)) 213 ((A 213).set f (nI ((tx f).length + 1)))) 213 = (A 213).set f (nI ((tx f).length + 1)) := fU_at _ _ _
    have e2 : (fU (fU A 214 ((A 214).set (30 * f + (tx f).length) t)) 213 ((A 213).set f (nI ((tx f).length + 1)))) 214 = (A 214).set (30 * f + (tx f).length) t := by rw [fU_ne _ _ (by decide), fU_at]
    rw [e1, e2, getD_set (by omega)]
    have hf30 := (h2 f hf).1
    obtain ⟨a1, a2, a3⟩ := h2 g hg
    by_cases e : g = f
    · subst e
      rw [fU_at, if_pos rfl, List.length_append]
      refine ⟨by simp; omega, rfl, fun j hj => ?_⟩
      rw [getD_set (by omega)]
      by_cases ej : j = (tx g).length
      · rw [if_pos (by omega), gI_r 0 (by omega)]; rfl
      · have hj' : j < (tx g).length := by simp at hj; omega
        rw [if_neg (by omega), getD_app hj']
        exact a3 j hj'
    · rw [fU_ne _ _ e, if_neg e]
      refine ⟨a1, a2, fun j hj => ?_⟩
      rw [getD_ne (by omega)]
      exact a3 j hj
/-- how many units a function has -/
theorem cnt_of {f : Nat} {qs : List (Nat × Nat × sU)} (h : mSl A f st qs) (hst : st < 2 ^ 31) : mo_cnt A f 3 = qs.length := by
  obtain ⟨h1, h2, h3, h4⟩ := h
  have hin : ∀ q, q ∈ qs → (0 : Int32) < (A 215).getD q.1 0 := fun q hq => by
    obtain ⟨_, b2, b3, _⟩ := h2 q hq
    rw [b2]
    exact nI_lt (a := 0) b3.1 (by omega)
  have hpos : ∀ k, k < 3 → ((∃ q, q ∈ qs ∧ q.1 = 3 * f + k) → ¬ (A 215).getD (3 * f + k) 0 ≤ 0) ∧ ((∀ q, q ∈ qs → q.1 ≠ 3 * f + k) → (A 215).getD (3 * f + k) 0 ≤ 0) := by
    intro k hk
    refine ⟨?_, fun hn => ?_⟩
    · rintro ⟨q, hq, e⟩
      rw [← e]
      exact k2_nle (hin q hq)
    · rw [h4 (3 * f + k) (by omega) (by omega) hn]; decide
  have hslot : ∀ q, q ∈ qs → q.1 = 3 * f + 0 ∨ q.1 = 3 * f + 1 ∨ q.1 = 3 * f + 2 := fun q hq => by
    have := (h2 q hq).1; omega
  have c3 : mo_cnt A f 3 = ((0 + (if (A 215).getD (3 * f + 0) 0 ≤ 0 then 0 else 1)) + (if (A 215).getD (3 * f + 1) 0 ≤ 0 then 0 else 1)) + (if (A 215).getD (3 * f + 2) 0 ≤ 0 then 0 else 1) := rfl
  rw [c3]
  have p0 := hpos 0 (by omega)
  have p1 := hpos 1 (by omega)
  have p2 := hpos 2 (by omega)
  match qs, h1 with
  | [], _ =>
    rw [if_pos (p0.2 (by simp)), if_pos (p1.2 (by simp)), if_pos (p2.2 (by simp))]; rfl
  | [a], _ =>
    rcases hslot a (by simp) with e | e | e
    · rw [if_neg (p0.1 ⟨a, by simp, e⟩), if_pos (p1.2 (by simp; omega)), if_pos (p2.2 (by simp; omega))]; rfl
    · rw [if_pos (p0.2 (by simp; omega)), if_neg (p1.1 ⟨a, by simp, e⟩), if_pos (p2.2 (by simp; omega))]; rfl
    · rw [if_pos (p0.2 (by simp; omega)), if_pos (p1.2 (by simp; omega)), if_neg (p2.1 ⟨a, by simp, e⟩)]; rfl
  | [a, b], _ =>
    have hab : a.1 ≠ b.1 := ((List.pairwise_cons.mp h3).1 b (by simp)).2
    rcases hslot a (by simp) with e | e | e <;> rcases hslot b (by simp) with e2 | e2 | e2
    · omega
    · rw [if_neg (p0.1 ⟨a, by simp, e⟩), if_neg (p1.1 ⟨b, by simp, e2⟩), if_pos (p2.2 (by simp; omega))]; rfl
    · rw [if_neg (p0.1 ⟨a, by simp, e⟩), if_pos (p1.2 (by simp; omega)), if_neg (p2.1 ⟨b, by simp, e2⟩)]; rfl
    · rw [if_neg (p0.1 ⟨b, by simp, e2⟩), if_neg (p1.1 ⟨a, by simp, e⟩), if_pos (p2.2 (by simp; omega))]; rfl
    · omega
    · rw [if_pos (p0.2 (by simp; omega)), if_neg (p1.1 ⟨a, by simp, e⟩), if_neg (p2.1 ⟨b, by simp, e2⟩)]; rfl
    · rw [if_neg (p0.1 ⟨b, by simp, e2⟩), if_pos (p1.2 (by simp; omega)), if_neg (p2.1 ⟨a, by simp, e⟩)]; rfl
    · rw [if_pos (p0.2 (by simp; omega)), if_neg (p1.1 ⟨b, by simp, e2⟩), if_neg (p2.1 ⟨a, by simp, e⟩)]; rfl
    · omega
  | [a, b, c], _ =>
    obtain ⟨g1, g2⟩ := List.pairwise_cons.mp h3
    have hab : a.1 ≠ b.1 := (g1 b (by simp)).2
    have hac : a.1 ≠ c.1 := (g1 c (by simp)).2
    have hbc : b.1 ≠ c.1 := ((List.pairwise_cons.mp g2).1 c (by simp)).2
    have q0 : ∃ q, q ∈ [a, b, c] ∧ q.1 = 3 * f + 0 := by
      rcases hslot a (by simp) with e | e | e <;> rcases hslot b (by simp) with e2 | e2 | e2 <;> rcases hslot c (by simp) with e3 | e3 | e3 <;> first | exact ⟨a, by simp, e⟩ | exact ⟨b, by simp, e2⟩ | exact ⟨c, by simp, e3⟩ | omega
    have q1 : ∃ q, q ∈ [a, b, c] ∧ q.1 = 3 * f + 1 := by
      rcases hslot a (by simp) with e | e | e <;> rcases hslot b (by simp) with e2 | e2 | e2 <;> rcases hslot c (by simp) with e3 | e3 | e3 <;> first | exact ⟨a, by simp, e⟩ | exact ⟨b, by simp, e2⟩ | exact ⟨c, by simp, e3⟩ | omega
    have q2 : ∃ q, q ∈ [a, b, c] ∧ q.1 = 3 * f + 2 := by
      rcases hslot a (by simp) with e | e | e <;> rcases hslot b (by simp) with e2 | e2 | e2 <;> rcases hslot c (by simp) with e3 | e3 | e3 <;> first | exact ⟨a, by simp, e⟩ | exact ⟨b, by simp, e2⟩ | exact ⟨c, by simp, e3⟩ | omega
    rw [if_neg (p0.1 q0), if_neg (p1.1 q1), if_neg (p2.1 q2)]; rfl
  | a :: b :: c :: e :: r, h1 => simp at h1
end RLs
