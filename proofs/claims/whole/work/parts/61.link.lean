/-! Linking, as a pure function; runs exist; counts of both sides. -/
theorem rC.len {W AD PR : List Int32} {L n F pc : Nat} {S B R : List Int32} {o : Int32} {s' : rT} (h : rC W AD PR L (n, F, pc, S, B, R) o s') : s'.2.2.2.1.length = 40 ∧ s'.2.2.2.2.1.length = 12 ∧ s'.2.2.2.2.2.length = 12 ∧ (R.getD 0 0 = 0 → s'.2.2.2.2.2.getD 0 0 = 0) := by
  obtain ⟨⟨h1, h2, h3, h4, h5⟩, h6⟩ := h
  rcases h6 with ⟨_, h | h⟩ | ⟨_, b, k, F0, _, _, _, _, _, h | h⟩ | ⟨k, _, _, _, _, rfl⟩ | ⟨_, _, _, d, _, _, rfl⟩ | ⟨_, _, d, _, _, rfl⟩ | ⟨_, h0, a, g, p, _, _, _, _, _, h | h⟩ | ⟨_, b, F0, pc', _, _, _, _, _, _, rfl⟩
  · obtain ⟨_, _, rfl⟩ := h; exact ⟨h3, h4, h5, id⟩
  · obtain ⟨_, _, rfl⟩ := h; exact ⟨by rw [List.length_set]; exact h3, h4, h5, id⟩
  · obtain ⟨_, _, rfl⟩ := h; exact ⟨h3, h4, h5, id⟩
  · obtain ⟨_, _, rfl⟩ := h; exact ⟨by rw [List.length_set]; exact h3, h4, h5, id⟩
  · exact ⟨by rw [List.length_set]; exact h3, h4, h5, id⟩
  · exact ⟨h3, h4, h5, id⟩
  · exact ⟨h3, h4, h5, id⟩
  · obtain ⟨_, _, rfl⟩ := h; exact ⟨h3, h4, h5, id⟩
  · obtain ⟨_, _, rfl⟩ := h
    exact ⟨h3, by rw [List.length_set]; exact h4, by rw [List.length_set]; exact h5, fun e => by rw [getD_ne (by omega)]; exact e⟩
  · exact ⟨by rw [List.length_set]; exact h3, h4, h5, id⟩
theorem rN_ex {W AD PR : List Int32} {L : Nat} {a : Nat → Nat} {D : Nat → List Int32} {m : Nat → List Nat} {p : Nat → Nat} (hL : L ≤ 300) (hi : iG W AD PR L a D m p) : ∀ k sp s, iv AD a D m p s → ∃ o sp' s', rN W AD PR L k sp s o sp' s' ∧ (s'.2.2.2.1.length = 40 ∧ s'.2.2.2.2.1.length = 12 ∧ s'.2.2.2.2.2.length = 12 ∧ s'.2.2.2.2.2.getD 0 0 = 0) := by
  intro k
  induction k with
  | zero =>
    intro sp s hs
    obtain ⟨n, F, pc, S, B, R⟩ := s
    obtain ⟨n40, F12, lS, lB, lR, R0, _⟩ := hs
    exact ⟨1, sp, _, ⟨rfl, rfl, rfl⟩, lS, lB, lR, R0⟩
  | succ k ih =>
    intro sp s hs
    obtain ⟨o, s1, h1, h2⟩ := iv_step hL hi hs
    by_cases ho : o = -1
    · obtain ⟨o2, sp2, s2, h3, h4⟩ := ih (sp + 1) s1 (h2 ho)
      exact ⟨o2, sp2, s2, ⟨o, s1, h1, Or.inl ⟨ho, h3⟩⟩, h4⟩
    · obtain ⟨n, F, pc, S, B, R⟩ := s
      obtain ⟨n40, F12, lS, lB, lR, R0, _⟩ := hs
      obtain ⟨l1, l2, l3, l4⟩ := h1.len
      exact ⟨o, sp + 1, s1, ⟨o, s1, h1, Or.inr ⟨ho, rfl, rfl, rfl⟩⟩, l1, l2, l3, l4 R0⟩
theorem iv_begin {W AD PR S B R : List Int32} {L : Nat} {a : Nat → Nat} {D : Nat → List Int32} {m : Nat → List Nat} {p : Nat → Nat} (hi : iG W AD PR L a D m p) {f : Nat} (hf : f < 8) (hp : ¬ AD.getD f 0 = -1) (lS : S.length = 40) (lB : B.length = 12) (lR : R.length = 12) (R0 : R.getD 0 0 = 0) : iv AD a D m p (p f, 1, a f, S, B.set 0 0, R) := by
  obtain ⟨⟨q1, q2, q3⟩, q4, q5, q6, ⟨wl, w0, w⟩, q8⟩ := hi f hf hp
  refine ⟨by omega, by omega, lS, by rw [List.length_set]; exact lB, lR, R0, [f], rfl, 0, 0, ⟨hf, hp⟩, ?_, by omega, rfl, by omega, w0, Or.inl rfl⟩
  rw [getD_set (by show 0 < _; omega)]; rfl
/-- words written from a place on -/
def wrAt : List Int32 → Nat → List Int32 → List Int32
  | l, _, [] => l
  | l, a, w :: ws => wrAt (l.set a w) (a + 1) ws
theorem wrAt_len : ∀ (ws l : List Int32) (a : Nat), (wrAt l a ws).length = l.length := by
  intro ws
  induction ws with
  | nil => intro l a; rfl
  | cons w ws ih => intro l a; exact (ih _ _).trans List.length_set
theorem wrAt_at : ∀ (ws l : List Int32) (a : Nat), a + ws.length ≤ l.length → ∀ j, (wrAt l a ws).getD j 0 = if a ≤ j ∧ j < a + ws.length then ws.getD (j - a) 0 else l.getD j 0 := by
  intro ws
  induction ws with
  | nil => intro l a _ j; rw [if_neg (by simp)]; rfl
  | cons w ws ih =>
    intro l a ha j
    rw [List.length_cons] at ha ⊢
    show (wrAt (l.set a w) (a + 1) ws).getD j 0 = _
    rw [ih _ _ (by rw [List.length_set]; omega), getD_set (by omega)]
    by_cases h1 : j = a
    · subst h1
      rw [if_neg (by omega), if_pos rfl, if_pos (by omega), Nat.sub_self]; rfl
    · by_cases h2 : a ≤ j ∧ j < a + (ws.length + 1)
      · rw [if_pos (by omega), if_pos h2, show j - a = (j - (a + 1)) + 1 by omega]; rfl
      · rw [if_neg (by omega), if_neg h1, if_neg h2]
theorem wrAt_app : ∀ (ws vs l : List Int32) (a : Nat), wrAt l a (ws ++ vs) = wrAt (wrAt l a ws) (a + ws.length) vs := by
  intro ws
  induction ws with
  | nil => intro vs l a; rfl
  | cons w ws ih =>
    intro vs l a
    show wrAt (l.set a w) (a + 1) (ws ++ vs) = wrAt (wrAt (l.set a w) (a + 1) ws) (a + (ws.length + 1)) vs
    rw [ih, show a + 1 + ws.length = a + (ws.length + 1) by omega]
/-- sizes, addresses, the image's words -/
def hdC (l : List sU) : List Int32 := match l with
  | U :: _ => U.2.2.2
  | [] => []
def szL (sl : List Int32) (us : Nat → List sU) (f : Nat) : Nat := if sl.getD f 0 = -1 then 0 else (hdC (us f)).length
def adL (sl : List Int32) (us : Nat → List sU) : List Int32 := (List.range 8).map fun f => if sl.getD f 0 = -1 then -1 else nI (zN (szL sl us) f)
def wrL (sl : List Int32) (us : Nat → List sU) (W : List Int32) : Nat → List Int32
  | 0 => W
  | n + 1 => if sl.getD n 0 = -1 then wrL sl us W n else wrAt (wrL sl us W n) (zN (szL sl us) n) (lk (fun k => (adL sl us).getD k 0) (hdC (us n)))
theorem zN_mono {z : Nat → Nat} {f n : Nat} (h : f < n) : zN z f + z f ≤ zN z n := by
  induction n with
  | zero => omega
  | succ n ih =>
    show _ ≤ zN z n + z n
    by_cases e : f = n
    · subst e; exact Nat.le_refl _
    · have := ih (by omega); omega
theorem adL_at {sl : List Int32} {us : Nat → List sU} {f : Nat} (hf : f < 8) : (adL sl us).getD f 0 = if sl.getD f 0 = -1 then -1 else nI (zN (szL sl us) f) := by
  unfold adL
  rw [List.getD_eq_getElem?_getD, List.getElem?_map, List.getElem?_range hf]; rfl
theorem wrL_len (sl : List Int32) (us : Nat → List sU) (W : List Int32) : ∀ n, (wrL sl us W n).length = W.length := by
  intro n
  induction n with
  | zero => rfl
  | succ n ih =>
    unfold wrL
    split
    · exact ih
    · rw [wrAt_len]; exact ih
/-- every function that is there has a unit in front that fits -/
def lOk (sl : List Int32) (us : Nat → List sU) : Prop := ∀ f, f < 8 → ¬ sl.getD f 0 = -1 → ∃ U rs, us f = U :: rs ∧ uV f U ∧ ∃ t, uFit f sl t U = true
theorem wI.mono {par : Nat} {ar ar2 : Nat → Nat} {ok ok2 : Nat → Prop} {ad : Nat → Int32} (h : ∀ k, k < 8 → ok k → ok2 k ∧ ar k = ar2 k) {c : List Int32} {m : List Nat} {i j : Nat} (w : wI par ar ok ad c m i j) : wI par ar2 ok2 ad c m i j := by
  rcases w with w | w | w | w | w | ⟨w1, w2, w3, k, ⟨w4, w4'⟩, w5, w6, w7⟩
  · exact Or.inl w
  · exact Or.inr (Or.inl w)
  · exact Or.inr (Or.inr (Or.inl w))
  · exact Or.inr (Or.inr (Or.inr (Or.inl w)))
  · exact Or.inr (Or.inr (Or.inr (Or.inr (Or.inl w))))
  · obtain ⟨e1, e2⟩ := h k w4 w4'
    exact Or.inr (Or.inr (Or.inr (Or.inr (Or.inr ⟨w1, w2, w3, k, ⟨w4, e1⟩, w5, by rw [← e2]; exact w6, by rw [← e2]; exact w7⟩))))
theorem cWf.mono {par n : Nat} {ar ar2 : Nat → Nat} {ok ok2 : Nat → Prop} {ad : Nat → Int32} (h : ∀ k, k < 8 → ok k → ok2 k ∧ ar k = ar2 k) {c : List Int32} (w : cWf par ar ok ad n c) : cWf par ar2 ok2 ad n c := by
  refine ⟨w.1, fun j hj => ?_⟩
  obtain ⟨m, m1, m2, m3⟩ := w.2 j hj
  exact ⟨m, m1, m2, fun i h' hi hm => (m3 i h' hi hm).mono h⟩
theorem unit_wf {f : Nat} {sl t : List Int32} {U : sU} (hV : uV f U) (hF : uFit f sl t U = true) : ∃ c0, U.2.2.2 = c0 ++ [10, sPar (sl.getD f 0)] ∧ ∀ ad, cWf (sPar (sl.getD f 0)).toNatClampNeg (fun k => (sPar (sl.getD k 0)).toNatClampNeg) (fun k => ¬ sl.getD k 0 = -1) ad 1 c0 := by
  obtain ⟨sl0, ty, q, v1, v2, v3, v4, v5, v6, v7⟩ := hV
  obtain ⟨f1, f2, f3⟩ := (uFit_iff _ _ _ _).mp hF
  obtain ⟨c0, e, w⟩ := cAll_wf (ok := fun k => nI (k + 11) ∈ U.1) (fun k i hk hi he => by
    rw [← he, List.getD_eq_getElem?_getD, List.getElem?_eq_getElem hi]
    exact List.getElem_mem hi) v6
  have own : sl0.getD f 0 = sl.getD f 0 := by rw [← v4, f1]
  rw [own] at e w
  refine ⟨c0, e, fun ad => (w ad).mono fun k hk hin => ?_⟩
  have h1 := v3 k hk hin
  have h2 := f3 k hk
  rw [v5, calOf_at _ _ hk, if_pos hin] at h2
  rcases h2 with h2 | h2
  · exact absurd h2 h1
  · exact ⟨by rw [← h2]; exact h1, by rw [h2]⟩
theorem unit_sh {c0 : List Int32} {x : Int32} (h : cSh c0) : cSh (c0 ++ [10, x]) := cSh_app h (cSh_i2 (by decide) (fun e => absurd e (by decide)) True.intro)
theorem unit_lk {ad : Nat → Int32} {c0 : List Int32} {x : Int32} (h : cSh c0) : lk ad (c0 ++ [10, x]) = lk ad c0 ++ [10, x] := by
  rw [lk_app _ h, lk_two (by decide)]; rfl
theorem hdC_sh {sl : List Int32} {us : Nat → List sU} (h : lOk sl us) {f : Nat} (hf : f < 8) (hp : ¬ sl.getD f 0 = -1) : cSh (hdC (us f)) ∧ 3 ≤ (hdC (us f)).length ∧ (hdC (us f)).length ≤ 80 := by
  obtain ⟨U, rs, e, hV, t, hF⟩ := h f hf hp
  obtain ⟨c0, e2, w⟩ := unit_wf hV hF
  have h1 := cSh_ne (w fun _ => 0)
  have h2 := hV.len.2
  rw [e]
  show cSh U.2.2.2 ∧ 3 ≤ U.2.2.2.length ∧ U.2.2.2.length ≤ 80
  rw [e2] at h2 ⊢
  refine ⟨unit_sh (w fun _ => 0).1, ?_, h2⟩
  simp; omega
theorem wrL_at {sl : List Int32} {us : Nat → List sU} {W : List Int32} (h : lOk sl us) (hW : W.length = 300) (hL : zN (szL sl us) 8 ≤ 300) : ∀ n f, f < n → n ≤ 8 → ¬ sl.getD f 0 = -1 → ∀ i, i < (hdC (us f)).length → (wrL sl us W n).getD (zN (szL sl us) f + i) 0 = (lk (fun k => (adL sl us).getD k 0) (hdC (us f))).getD i 0 := by
  intro n
  induction n with
  | zero => intro f hf; omega
  | succ n ih =>
    intro f hf hn hp i hi
    have hsz : ∀ g, ¬ sl.getD g 0 = -1 → szL sl us g = (hdC (us g)).length := fun g hg => if_neg hg
    unfold wrL
    by_cases hfn : f = n
    · subst hfn
      obtain ⟨s1, s2, s3⟩ := hdC_sh h (show f < 8 by omega) hp
      have hz := zN_mono (z := szL sl us) (show f < 8 by omega)
      rw [hsz f hp] at hz
      rw [if_neg hp, wrAt_at _ _ _ (by rw [wrL_len, lk_len s1]; omega), lk_len s1, if_pos (by omega), Nat.add_sub_cancel_left]
    · have hz := zN_mono (z := szL sl us) (show f < n by omega)
      rw [hsz f hp] at hz
      by_cases hq : sl.getD n 0 = -1
      · rw [if_pos hq]
        exact ih f (by omega) (by omega) hp i hi
      · obtain ⟨s1, s2, s3⟩ := hdC_sh h (show n < 8 by omega) hq
        have hz2 := zN_mono (z := szL sl us) (show n < 8 by omega)
        rw [hsz n hq] at hz2
        rw [if_neg hq, wrAt_at _ _ _ (by rw [wrL_len, lk_len s1]; omega), if_neg (by omega)]
        exact ih f (by omega) (by omega) hp i hi
theorem link_ok {sl : List Int32} {us : Nat → List sU} {W PR : List Int32} (h : lOk sl us) (hW : W.length = 300) (hL : zN (szL sl us) 8 ≤ 300) (hP : PR.length = 8) (hP2 : ∀ f, f < 8 → ¬ sl.getD f 0 = -1 → PR.getD f 0 = sPar (sl.getD f 0)) : iOk (wrL sl us W 8) (adL sl us) PR (zN (szL sl us) 8) := by
  refine ⟨by rw [wrL_len]; exact hW, by simp [adL], hP, hL, ?_⟩
  have hsz : ∀ g, ¬ sl.getD g 0 = -1 → szL sl us g = (hdC (us g)).length := fun g hg => if_neg hg
  have hlt : ∀ f, f < 8 → zN (szL sl us) f ≤ 300 := fun f hf => by have := zN_mono (z := szL sl us) hf; omega
  have hm1 : ∀ f, f < 8 → ¬ nI (zN (szL sl us) f) = -1 := fun f hf e => by
    have := nI_pos (show zN (szL sl us) f < 2 ^ 31 by have := hlt f hf; omega)
    rw [e] at this
    exact this (by decide)
  have hpr : ∀ f, f < 8 → (¬ (adL sl us).getD f 0 = -1 ↔ ¬ sl.getD f 0 = -1) := by
    intro f hf
    rw [adL_at hf]
    by_cases e : sl.getD f 0 = -1
    · rw [if_pos e]; exact ⟨fun h => absurd rfl h, fun h => absurd e h⟩
    · rw [if_neg e]; exact ⟨fun _ => e, fun _ => hm1 f hf⟩
  have hall : ∀ f, ∃ D m, f < 8 → ¬ sl.getD f 0 = -1 → lk (fun k => (adL sl us).getD k 0) (hdC (us f)) = D ++ [10, sPar (sl.getD f 0)] ∧ (hdC (us f)).length = D.length + 2 ∧ wC (sPar (sl.getD f 0)).toNatClampNeg (fun k => (sPar (sl.getD k 0)).toNatClampNeg) (fun k => ¬ sl.getD k 0 = -1) (fun k => (adL sl us).getD k 0) D m (sPar (sl.getD f 0)).toNatClampNeg ((sPar (sl.getD f 0)).toNatClampNeg + 1) := by
    intro f
    by_cases hf : f < 8
    · by_cases hp : sl.getD f 0 = -1
      · exact ⟨[], [], fun _ h => absurd hp h⟩
      · obtain ⟨U, rs, e, hV, t, hF⟩ := h f hf hp
        obtain ⟨c0, e2, w⟩ := unit_wf hV hF
        obtain ⟨s1, w1⟩ := w (fun k => (adL sl us).getD k 0)
        obtain ⟨m, hm⟩ := w1 _ (Nat.le_refl _)
        refine ⟨lk (fun k => (adL sl us).getD k 0) c0, m, fun _ _ => ⟨?_, ?_, hm⟩⟩
        · rw [e]
          show lk _ U.2.2.2 = _
          rw [e2, unit_lk s1]
        · rw [e]
          show U.2.2.2.length = _
          rw [e2, lk_len s1, List.length_append]; rfl
    · exact ⟨[], [], fun h => absurd h hf⟩
  obtain ⟨D, hD⟩ := Classical.axiomOfChoice hall
  obtain ⟨m, hm⟩ := Classical.axiomOfChoice hD
  refine ⟨zN (szL sl us), D, m, fun k => (sPar (sl.getD k 0)).toNatClampNeg, fun f hf hp => ?_⟩
  have hp' := (hpr f hf).mp hp
  obtain ⟨d1, d2, d3⟩ := hm f hf hp'
  obtain ⟨j, hj, hj2, hj3⟩ := sPar_n (sl.getD f 0)
  have hz := zN_mono (z := szL sl us) hf
  rw [hsz f hp'] at hz
  have hat := wrL_at (W := W) h hW hL 8 f hf (Nat.le_refl _) hp'
  refine ⟨⟨by rw [adL_at hf, if_neg hp'], ?_, by show (sPar _).toNatClampNeg < 4; rw [hj3]; exact hj⟩, by omega, fun i hi => ?_, ?_, ?_, fun g hg hgf => ?_⟩
  · show _ = nI (sPar _).toNatClampNeg
    rw [hP2 f hf hp', hj3]; exact hj2
  · rw [hat i (by omega), d1]
    exact getD_app hi
  · rw [hat _ (by omega), d1, gI_r 0 (by omega)]; rfl
  · obtain ⟨m1, m2, m3⟩ := d3
    exact ⟨m1, m2, fun i h' hi hm => (m3 i h' hi hm).mono fun k hk hk2 => ⟨(hpr k hk).mpr hk2, rfl⟩⟩
  · have hg' : ¬ sl.getD g 0 = -1 := (hpr g hg).mp (by rw [hgf]; exact hp)
    rw [adL_at hf, adL_at hg, if_neg hp', if_neg hg'] at hgf
    have := (nI_eq (by have := hlt g hg; omega) (by have := hlt f hf; omega)).mp hgf
    have hs1 := (hdC_sh h hf hp').2.1
    have hs2 := (hdC_sh h hg hg').2.1
    rcases Nat.lt_trichotomy g f with hlt2 | he | hlt2
    · have := zN_mono (z := szL sl us) hlt2
      rw [hsz g hg'] at this
      omega
    · exact he
    · have := zN_mono (z := szL sl us) hlt2
      rw [hsz f hp'] at this
      omega
/-- after a build without faults -/
theorem rnU_fit {f : Nat} {sl t : List Int32} {us : List sU} (hp : ¬ sl.getD f 0 = -1) (h0 : (rnR f sl t us).1 = 0) (hk : ∀ k pl, cOf f t sl = .inl (k, pl) → ¬ k = 0) : ∃ U rs, rnU f sl t us = U :: rs ∧ uFit f sl t U = true := by
  unfold rnR at h0
  rw [if_neg hp] at h0
  unfold rnU
  rw [if_neg hp]
  cases hx : uIdx f sl t us with
  | some i =>
    obtain ⟨U, h1, h2⟩ := uIdx_spec hx
    simp only [h1]
    exact ⟨U, _, rfl, h2⟩
  | none =>
    rw [hx] at h0
    cases hc : cOf f t sl with
    | inl e =>
      obtain ⟨k, pl⟩ := e
      simp only [hc] at h0
      exact absurd h0 (hk k pl hc)
    | inr y =>
      obtain ⟨ty, q, c⟩ := y
      refine ⟨_, _, rfl, (uFit_iff _ _ _ _).mpr ⟨rfl, rfl, fun g hg => ?_⟩⟩
      show (calOf t sl).getD g 0 = -1 ∨ (calOf t sl).getD g 0 = sl.getD g 0
      rw [calOf_at _ _ hg]
      split
      · exact Or.inr rfl
      · exact Or.inl rfl
/-- the class's counts from the reference's -/
def upC (l : List Int32) : List Int32 := (l.set 3 (l.getD 3 0 + l.getD 0 0)).set 4 (l.getD 4 0 + l.getD 1 0)
theorem len5 {l : List Int32} (h : l.length = 5) : ∃ a b c d e, l = [a, b, c, d, e] := by
  match l, h with
  | [a, b, c, d, e], _ => exact ⟨a, b, c, d, e, rfl⟩
theorem ct_tie {r : Int32 × Int32 × Int32} {l : List Int32} (h : l.length = 5) : rnC r (upC l) = upC (rnM r l) := by
  obtain ⟨a, b, c, d, e, rfl⟩ := len5 h
  unfold rnC rnM
  by_cases h1 : r.2.2 = 0
  · rw [if_pos h1, if_pos h1]
  · rw [if_neg h1, if_neg h1]
    by_cases h2 : r.2.2 = 1
    · rw [if_pos h2, if_pos h2]
      show [a + 1, b, c, d + a + 1, e + b] = [a + 1, b, c, d + (a + 1), e + b]
      rw [Int32.add_assoc]
    · rw [if_neg h2, if_neg h2]
      by_cases h3 : r.1 = 0
      · rw [if_pos h3, if_pos h3]
        show [a, b + 1, c, d + a, e + b + 1] = [a, b + 1, c, d + a, e + (b + 1)]
        rw [Int32.add_assoc]
      · rw [if_neg h3, if_neg h3]
        show [a, b + 1, c + 1, d + a, e + b + 1] = [a, b + 1, c + 1, d + a, e + (b + 1)]
        rw [Int32.add_assoc]
theorem rnM_len {r : Int32 × Int32 × Int32} {l : List Int32} : (rnM r l).length = l.length := by
  unfold rnM
  split
  · rfl
  split
  · exact List.length_set
  split
  · exact List.length_set
  · rw [List.length_set, List.length_set]
theorem ctN_len {r : Nat → Int32 × Int32 × Int32} {l : List Int32} : ∀ n, (ctN rnM r n l).length = l.length := by
  intro n
  induction n with
  | zero => rfl
  | succ n ih => exact rnM_len.trans ih
theorem ctN_tie {r : Nat → Int32 × Int32 × Int32} {l : List Int32} (h : l.length = 5) : ∀ n, ctN rnC r n (upC l) = upC (ctN rnM r n l) := by
  intro n
  induction n with
  | zero => rfl
  | succ n ih =>
    show rnC (r n) (ctN rnC r n (upC l)) = upC (rnM (r n) (ctN rnM r n l))
    rw [ih, ct_tie (by rw [ctN_len]; exact h)]
theorem upC_0 {d e : Int32} : upC [0, 0, 0, d, e] = [0, 0, 0, d, e] := by
  show [0, 0, 0, d + 0, e + 0] = _
  rw [Int32.add_zero, Int32.add_zero]
/-- how many broke -/
def brk (r : Nat → Int32 × Int32 × Int32) : Nat → Nat
  | 0 => 0
  | n + 1 => brk r n + (if (r n).2.2 = 0 ∨ (r n).2.2 = 1 ∨ (r n).1 = 0 then 0 else 1)
theorem brk_le (r : Nat → Int32 × Int32 × Int32) : ∀ n, brk r n ≤ n := by
  intro n
  induction n with
  | zero => exact Nat.le_refl _
  | succ n ih =>
    show brk r n + _ ≤ _
    split <;> omega
theorem ctN_2 {r : Nat → Int32 × Int32 × Int32} {l : List Int32} (h : l.length = 5) (h2 : l.getD 2 0 = 0) : ∀ n, (ctN rnM r n l).getD 2 0 = nI (brk r n) := by
  intro n
  induction n with
  | zero => exact h2
  | succ n ih =>
    show (rnM (r n) (ctN rnM r n l)).getD 2 0 = nI (brk r n + _)
    have hl : (ctN rnM r n l).length = 5 := by rw [ctN_len]; exact h
    generalize ctN rnM r n l = y at ih hl ⊢
    unfold rnM
    by_cases e1 : (r n).2.2 = 0
    · rw [if_pos e1, if_pos (Or.inl e1)]; exact ih
    · rw [if_neg e1]
      by_cases e2 : (r n).2.2 = 1
      · rw [if_pos e2, if_pos (Or.inr (Or.inl e2)), getD_ne (by decide)]; exact ih
      · rw [if_neg e2]
        by_cases e3 : (r n).1 = 0
        · rw [if_pos e3, if_pos (Or.inr (Or.inr e3)), getD_ne (by decide)]; exact ih
        · rw [if_neg e3, if_neg (by rintro (h | h | h); exact e1 h; exact e2 h; exact e3 h), getD_set (by rw [List.length_set, hl]; decide), if_pos rfl, getD_ne (by decide), ih]
          exact nI_1 _
theorem brk_0 {r : Nat → Int32 × Int32 × Int32} : ∀ {n}, brk r n = 0 → ∀ f, f < n → (r f).2.2 = 0 ∨ (r f).2.2 = 1 ∨ (r f).1 = 0 := by
  intro n
  induction n with
  | zero => intro _ f hf; omega
  | succ n ih =>
    intro h f hf
    have h : brk r n + (if (r n).2.2 = 0 ∨ (r n).2.2 = 1 ∨ (r n).1 = 0 then 0 else 1) = 0 := h
    by_cases e : f = n
    · subst e
      apply Decidable.byContradiction
      intro hn
      rw [if_neg hn] at h
      omega
    · exact ih (by omega) f (by omega)
