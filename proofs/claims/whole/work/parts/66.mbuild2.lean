/-! The reference's build. -/
theorem mR.same {g g2 : Nat → Int32} {A A2 : Nat → List Int32} {sl : List Int32} {tx : Nat → List Int32} {us : Nat → List sU} {st : Nat} (h : mR g A sl tx us st) (hg : g2 11 = g 11) (hA : ∀ a, 211 ≤ a → a ≤ 220 → A2 a = A a) : mR g2 A2 sl tx us st := by
  obtain ⟨h1, h2, h3⟩ := h
  refine ⟨h1.congr fun a a1 a2 => hA a a1 (by omega), by rw [hg]; exact h2, fun f hf => ?_⟩
  obtain ⟨b1, qs, b2, b3⟩ := h3 f hf
  exact ⟨b1, qs, b2.congr (fun q hq => b1.1 _ (by rw [b3]; exact List.mem_map_of_mem hq)) (fun s _ _ => sSame_of (fun a a1 a2 => hA a (by omega) a2) s) (Nat.le_refl _), b3⟩
theorem zN_congr {z z2 : Nat → Nat} : ∀ n, (∀ f, f < n → z f = z2 f) → zN z n = zN z2 n := by
  intro n
  induction n with
  | zero => intro _; rfl
  | succ n ih =>
    intro h
    show zN z n + z n = zN z2 n + z2 n
    rw [ih (fun f hf => h f (by omega)), h n (by omega)]
theorem rnR_ab {f : Nat} {sl t : List Int32} {us : List sU} (h : sl.getD f 0 = -1) : rnR f sl t us = (0, -1, 0) := if_pos h
section MBD
variable {sc : List Int32} {d : Nat} {E0 E : ux_Ev} {g : Nat → Int32} {A : Nat → List Int32} {x z : Nat} {w : Bool} {K : ux_K1} {st : Nat} {sl : List Int32} {tx : Nat → List Int32} {us : Nat → List sU}
/-- the image of both sides after build -/
def iB (sl : List Int32) (tx : Nat → List Int32) (us : Nat → List sU) (y : Int32) (W AD W' AD' : List Int32) (L L' : Int32) : Prop :=
  (¬ brk (rB sl tx us) 8 = 0 ∧ y = -1 ∧ W' = W ∧ AD' = AD ∧ L' = L) ∨ (brk (rB sl tx us) 8 = 0 ∧ 300 < zN (szL sl (usN sl tx us 8)) 8 ∧ y = -2 ∧ W' = W ∧ AD' = AD ∧ L' = L) ∨ (brk (rB sl tx us) 8 = 0 ∧ zN (szL sl (usN sl tx us 8)) 8 ≤ 300 ∧ y = L' ∧ W' = wrL sl (usN sl tx us 8) W 8 ∧ AD' = adL sl (usN sl tx us 8) ∧ L' = nI (zN (szL sl (usN sl tx us 8)) 8))
theorem mo_build (hm : md E0 g A E) (hR : mR g A sl tx us st) (hok : sOk sl) (hst : st < 50000)
    (hK : ∀ E' w' g' A' st' y, md E0 g' A' E' → mR g' A' sl tx (usN sl tx us 8) st' → st' ≤ st + 8 → A' 221 = rwN (fun f => (rB sl tx us f).1) 8 (A 221) → A' 222 = rwN (fun f => (rB sl tx us f).2.1) 8 (A 222) → A' 223 = rwN (fun f => (rB sl tx us f).2.2) 8 (A 223) → A' 225 = upC (ctN rnM (rB sl tx us) 8 (ct0 (A 225))) → iB sl tx us y (A 226) (A 227) (A' 226) (A' 227) (g 17) (g' 17) → ((¬ brk (rB sl tx us) 8 = 0 ∨ 300 < zN (szL sl (usN sl tx us 8)) 8) → A' 228 = A 228) → ((brk (rB sl tx us) 8 = 0 ∧ zN (szL sl (usN sl tx us 8)) 8 ≤ 300) → A' 228 = (List.range 8).map (fun f => (A 212).getD f 0 &&& 3)) → (∀ a, 234 < a → A' a = A a) → g' 0 = 0 → (g' 31 = g 31 ∧ g' 32 = g 32) → K (.inr (some (.int y))) E' x z w') : ux_Bm uxP sc (d + 4) 88 [.ref 210] E x z K := by
  show ux_B uxP sc (d + 4) 88 0 [.ref 210, .null, .null] [] E x z false K
  have htx : ∀ f, f < 8 → (tx f).length ≤ 30 := fun f hf => (hR.1.2 f hf).1
  have hV : ∀ f, f < 8 → uO f (us f) := fun f hf => (hR.2.2 f hf).1
  refine ux_BN 2 rfl ?_
  refine mr_put hm rfl rfl rfl (by decide) rfl fun E1 m1 => ?_
  refine ux_BN 1 rfl ?_
  refine ux_Bget rfl rfl m1.1 rfl ?_
  refine ux_BN 2 rfl ?_
  refine mr_ist m1 225 0 rfl (by decide) (by decide) rfl fun E2 m2 => ?_
  refine ux_BN 1 rfl ?_
  refine ux_Bget rfl rfl m2.1 rfl ?_
  refine ux_BN 2 rfl ?_
  refine mr_ist m2 225 1 rfl (by decide) (by decide) rfl fun E3 m3 => ?_
  refine ux_BN 1 rfl ?_
  refine ux_Bget rfl rfl m3.1 rfl ?_
  refine ux_BN 2 rfl ?_
  refine mr_ist m3 225 2 rfl (by decide) (by decide) rfl fun E4 m4 => ?_
  have hA4 : ∃ A4, md E0 (fU g 0 0) A4 E4 ∧ A4 225 = ct0 (A 225) ∧ ∀ a, a ≠ 225 → A4 a = A a := by
    refine ⟨_, m4, ?_, fun a ha => ?_⟩
    · rw [fU_at, fU_at, fU_at]; rfl
    · rw [fU_ne _ _ ha, fU_ne _ _ ha, fU_ne _ _ ha]
  clear m4
  obtain ⟨A4, m4, hc4, ha4⟩ := hA4
  have hR4 : mR (fU g 0 0) A4 sl tx us st := hR.same (fU_ne _ _ (by decide)) (fun a a1 a2 => ha4 a (by omega))
  refine ux_BN 4 rfl ?_
  refine mo_loop (E0 := E0) (g := fU g 0 0) (A := A4) (st := st) (sl := sl) (tx := tx) (us := us) hok hst (fun E5 w5 g5 A5 st5 hB => ?_) 8 0 _ _ _ A4 st (by omega) ⟨m4, by rw [usN_0]; exact hR4, ⟨Nat.le_refl _, by omega⟩, rfl, rfl, rfl, rfl, fun f hf => by omega, fun _ _ => rfl, fun _ _ _ _ _ _ => rfl⟩ (Nat.zero_le _)
  obtain ⟨m5, R5, ⟨s1, s2⟩, b1, b2, b3, b4, b5, b6, b7⟩ := hB
  have hl5 : (ctN rnM (rB sl tx us) 8 (ct0 (A 225))).length = 5 := by
    rw [← hc4]
    have := m5.len 225 (by decide)
    rw [b4] at this
    exact this
  rw [hc4] at b4
  have hct2 : (ctN rnM (rB sl tx us) 8 (ct0 (A 225))).getD 2 0 = nI (brk (rB sl tx us) 8) := by
    obtain ⟨a, b, e⟩ := ct0_c (hm.len 225 (by decide))
    exact ctN_2 (by rw [e]; rfl) (by rw [e]; rfl) 8
  generalize hT : ctN rnM (rB sl tx us) 8 (ct0 (A 225)) = T at hK b4 hl5 hct2
  have b4 : A5 225 = T := b4
  refine ux_BN 1 rfl ?_
  refine ux_Bget rfl rfl m5.1 rfl ?_
  refine ux_BN 2 rfl ?_
  refine mr_ild m5 225 3 rfl (by decide) (by decide) rfl ?_
  refine ux_BN 1 rfl ?_
  refine ux_Bget rfl rfl m5.1 rfl ?_
  refine ux_BN 1 rfl ?_
  refine mr_ild m5 225 0 rfl (by decide) (by decide) rfl ?_
  refine ux_BN 1 rfl ?_
  refine mr_ist m5 225 3 rfl (by decide) (by decide) rfl fun E6 m6 => ?_
  refine ux_BN 1 rfl ?_
  refine ux_Bget rfl rfl m6.1 rfl ?_
  refine ux_BN 2 rfl ?_
  refine mr_ild m6 225 4 rfl (by decide) (by decide) rfl ?_
  refine ux_BN 1 rfl ?_
  refine ux_Bget rfl rfl m6.1 rfl ?_
  refine ux_BN 1 rfl ?_
  refine mr_ild m6 225 1 rfl (by decide) (by decide) rfl ?_
  refine ux_BN 1 rfl ?_
  refine mr_ist m6 225 4 rfl (by decide) (by decide) rfl fun E7 m7 => ?_
  have hA7 : ∃ A7, md E0 g5 A7 E7 ∧ A7 225 = upC T ∧ ∀ a, a ≠ 225 → A7 a = A5 a := by
    refine ⟨_, m7, ?_, fun a ha => ?_⟩
    · rw [fU_at, fU_at, b4]
      unfold upC
      show (T.set 3 (T.getD 3 0 + T.getD 0 0)).set 4 ((T.set 3 (T.getD 3 0 + T.getD 0 0)).getD 4 0 + (T.set 3 (T.getD 3 0 + T.getD 0 0)).getD 1 0) = _
      rw [getD_ne (by decide), getD_ne (by decide)]
    · rw [fU_ne _ _ ha, fU_ne _ _ ha]
  clear m7
  obtain ⟨A7, m7, hc7, ha7⟩ := hA7
  have R7 : mR g5 A7 sl tx (usN sl tx us 8) st5 := R5.same rfl fun a a1 a2 => ha7 a (by omega)
  have hold : ∀ a, (226 ≤ a ∧ a ≤ 228) ∨ 234 < a → A7 a = A a := fun a ha => by rw [ha7 a (by omega), b6 a (by omega), ha4 a (by omega)]
  have h221 : A7 221 = rwN (fun f => (rB sl tx us f).1) 8 (A 221) := by rw [ha7 221 (by decide), b1, ha4 221 (by decide)]
  have h222 : A7 222 = rwN (fun f => (rB sl tx us f).2.1) 8 (A 222) := by rw [ha7 222 (by decide), b2, ha4 222 (by decide)]
  have h223 : A7 223 = rwN (fun f => (rB sl tx us f).2.2) 8 (A 223) := by rw [ha7 223 (by decide), b3, ha4 223 (by decide)]
  have hg : ∀ j, j = 17 ∨ j = 31 ∨ j = 32 → g5 j = g j := fun j hj => by rw [b7 j (by omega) (by omega) (by omega) (by omega) (by omega), fU_ne _ _ (by omega)]
  have hg0 : g5 0 = 0 := by rw [b7 0 (by decide) (by decide) (by decide) (by decide) (by decide), fU_at]
  have hbr := brk_le (rB sl tx us) 8
  refine ux_BN 1 rfl ?_
  refine ux_Bget rfl rfl m7.1 rfl ?_
  refine ux_BN 1 rfl ?_
  refine mr_ild m7 225 2 rfl (by decide) (by decide) rfl ?_
  refine ux_Btop (nI (brk (rB sl tx us) 8)) (by rw [hc7]; unfold upC; rw [getD_ne (by decide), getD_ne (by decide)]; exact hct2) ?_
  refine ux_BN 1 rfl ?_
  refine ux_BleN (brk (rB sl tx us) 8) 0 rfl rfl (by omega) (by decide) (fun hle => ?_) (fun hlt => ?_)
  · have hb0 : brk (rB sl tx us) 8 = 0 := by omega
    have hl := lOk_of hok htx hV hb0
    have hus : ∀ f, f < 8 → usN sl tx us 8 f = rnU f sl (tx f) (us f) := fun f hf => if_pos hf
    have hin : ∀ f, f < 8 → ¬ sl.getD f 0 = -1 → ¬ rOut (rnR f sl (tx f) (us f)) := by
      intro f hf hp
      obtain ⟨h1, h2, _⟩ := rnU_V hok (htx f hf) (hV f hf).1 hp (brk_0 hb0 f hf)
      rintro (h | h)
      · exact h2 h
      · exact h h1
    have hzz : zN (fun f => zF (rnR f sl (tx f) (us f)) (rnU f sl (tx f) (us f))) 8 = zN (szL sl (usN sl tx us 8)) 8 := by
      refine zN_congr 8 fun f hf => ?_
      show zF (rnR f sl (tx f) (us f)) (rnU f sl (tx f) (us f)) = szL sl (usN sl tx us 8) f
      unfold szL
      by_cases hp : sl.getD f 0 = -1
      · rw [if_pos hp]
        exact zF_out (Or.inl (by rw [rnR_ab hp]))
      · rw [if_neg hp]
        obtain ⟨U, rs, e, _⟩ := hl f hf hp
        rw [e]
        rw [hus f hf] at e
        rw [e]
        exact zF_in (hin f hf hp)
    rw [hzz]
    have hz8 : zN (szL sl (usN sl tx us 8)) 8 ≤ 640 := by
      have hsz : ∀ f, f < 8 → szL sl (usN sl tx us 8) f ≤ 80 := by
        intro f hf
        unfold szL
        by_cases ha : sl.getD f 0 = -1
        · rw [if_pos ha]; omega
        · rw [if_neg ha]; exact (hdC_sh hl hf ha).2.2
      have : ∀ n, n ≤ 8 → zN (szL sl (usN sl tx us 8)) n ≤ 80 * n := by
        intro n
        induction n with
        | zero => intro _; exact Nat.le_refl _
        | succ n ih =>
          intro hn
          have := hsz n (by omega)
          have := ih (by omega)
          show zN _ n + szL sl (usN sl tx us 8) n ≤ _
          omega
      exact this 8 (Nat.le_refl _)
    refine ux_BN 3 rfl ?_
    refine ux_BleN (zN (szL sl (usN sl tx us 8)) 8) 300 rfl rfl (by omega) (by decide) (fun hle => ?_) (fun hlt => ?_)
    · refine ux_BN 1 rfl ?_
      refine ux_Bv rfl rfl rfl m7.1 rfl (by decide) rfl rfl ?_
      have hch : chL A7 sl (usN sl tx us 8) := by
        intro f hf
        obtain ⟨c1, c2⟩ := b5 f hf
        refine ⟨fun hp => by rw [ha7 224 (by decide)]; exact c1 (Or.inl (by rw [rnR_ab hp])), fun hp => ?_⟩
        obtain ⟨u, U, rs, d1, d2, d3, d4⟩ := c2 (hin f hf hp)
        exact ⟨u, U, rs, by rw [ha7 224 (by decide)]; exact d1, d2, by rw [hus f hf]; exact d3, d4.same fun a a1 a2 => ha7 a (by omega)⟩
      refine mo_link (d := d + 2) m7 hl hch hle fun E8 w8 g8 A8 m8 k1 k2 k3 k4 k5 k6 => ?_
      refine ux_BN 1 rfl ?_
      refine ux_Bget rfl rfl m8.1 rfl ?_
      refine ux_Bri rfl (Or.inl rfl) (hK _ _ _ _ st5 _ m8 (R7.same (k6 11 (by decide)) fun a a1 a2 => k4 a (by omega)) s2 (by rw [k4 221 (by decide)]; exact h221) (by rw [k4 222 (by decide)]; exact h222) (by rw [k4 223 (by decide)]; exact h223) (by rw [k4 225 (by decide)]; exact hc7) (Or.inr (Or.inr ⟨hb0, hle, rfl, by rw [k1, hold 226 (by decide)], k2, k5⟩)) (fun h => by rcases h with h | h; exact absurd hb0 h; omega) (fun _ => ?_) (fun a ha => by rw [k4 a (by omega)]; exact hold a (by omega)) (by rw [k6 0 (by decide)]; exact hg0) ⟨by rw [k6 31 (by decide)]; exact hg 31 (by decide), by rw [k6 32 (by decide)]; exact hg 32 (by decide)⟩)
      rw [k3, ha7 212 (by decide), b6 212 (by decide), ha4 212 (by decide)]
    · refine ux_BN 1 rfl ?_
      exact ux_Bri rfl (Or.inl rfl) (hK _ _ _ _ st5 _ m7 R7 s2 h221 h222 h223 hc7 (Or.inr (Or.inl ⟨hb0, hlt, rfl, hold 226 (by decide), hold 227 (by decide), hg 17 (by decide)⟩)) (fun _ => hold 228 (by decide)) (fun h => by omega) (fun a ha => hold a (by omega)) hg0 ⟨hg 31 (by decide), hg 32 (by decide)⟩)
  · refine ux_BN 1 rfl ?_
    exact ux_Bri rfl (Or.inl rfl) (hK _ _ _ _ st5 _ m7 R7 s2 h221 h222 h223 hc7 (Or.inl ⟨by omega, rfl, hold 226 (by decide), hold 227 (by decide), hg 17 (by decide)⟩) (fun _ => hold 228 (by decide)) (fun h => by omega) (fun a ha => hold a (by omega)) hg0 ⟨hg 31 (by decide), hg 32 (by decide)⟩)
end MBD
