/-! The start: both desks are new. -/
def h0L : List ux_C := (kD ++ kM) ++ [(102, [], [.long 0])]
def h0E : ux_Ev := fun a => match a with
  | 0 => none
  | k + 1 => h0L[k]?
theorem z0_at (n j : Nat) : (z0 n).getD j 0 = 0 := by
  unfold z0
  rw [List.getD_eq_getElem?_getD, List.getElem?_replicate]
  split <;> rfl
theorem z0_len (n : Nat) : (z0 n).length = n := List.length_replicate
set_option maxRecDepth 100000 in
theorem h0_chk : ((List.range 8).all fun f => heq ((h0L.drop (17 + 24 * f)).take 24) (kF f)) = true := by decide +kernel
set_option maxRecDepth 100000 in
theorem h0_F {f j : Nat} (hf : f < 8) (hj : j < 24) : h0E (18 + 24 * f + j) = (kF f)[j]? := by
  have h := heq_s (List.all_eq_true.mp h0_chk f (List.mem_range.mpr hf))
  rw [show 18 + 24 * f + j = (17 + 24 * f + j) + 1 by omega]
  show h0L[17 + 24 * f + j]? = _
  rw [← h, List.getElem?_take_of_lt hj, List.getElem?_drop]
set_option maxRecDepth 100000 in
theorem h0_D {k : Nat} (hk : k < 209) : h0E (k + 1) = kD[k]? := by
  show ((kD ++ kM) ++ _)[k]? = _
  rw [List.append_assoc, List.getElem?_append_left (by rw [kD_len]; exact hk)]
set_option maxRecDepth 100000 in
theorem h0_M {k : Nat} (hk : k < 28) : h0E (k + 210) = kM[k]? := by
  show ((kD ++ kM) ++ _)[k + 209]? = _
  rw [List.getElem?_append_left (by rw [List.length_append, kD_len, kM_len]; omega), List.getElem?_append_right (by rw [kD_len]; omega), kD_len, Nat.add_sub_cancel]
set_option maxRecDepth 100000 in
theorem h0_O : h0E 238 = some (102, [], [.long 0]) := by
  show ((kD ++ kM) ++ _)[237]? = _
  rw [List.getElem?_append_right (by rw [List.length_append, kD_len, kM_len]; decide), List.length_append, kD_len, kM_len]; rfl
set_option maxRecDepth 100000 in
theorem h0_len : h0L.length = 238 := by
  unfold h0L
  rw [List.length_append, List.length_append, kD_len, kM_len]; rfl
set_option maxRecDepth 100000 in
theorem h0_none : h0E 239 = none := List.getElem?_eq_none (by rw [h0_len]; exact Nat.le_refl _)
def a0 (a : Nat) : List Int32 := if a = 222 ∨ a = 227 then List.replicate 8 (-1) else z0 (md_sz a)
theorem m1_at {f : Nat} (hf : f < 8) : (List.replicate 8 (-1 : Int32)).getD f 0 = -1 := by
  rw [List.getD_eq_getElem?_getD, List.getElem?_replicate, if_pos hf]; rfl
set_option maxRecDepth 100000 in
theorem h0_md : md h0E (fun _ => 0) a0 h0E := by
  refine ⟨h0_M (k := 0) (by decide), fun a h1 h2 => ?_, fun _ _ => rfl⟩
  obtain ⟨k, rfl⟩ : ∃ k, a = 211 + k := ⟨a - 211, by omega⟩
  have hk : k < 27 := by omega
  refine ⟨?_, ?_⟩
  · rw [show 211 + k = (k + 1) + 210 by omega, h0_M (by omega)]
    show ((List.range 27).map _)[k]? = _
    rw [List.getElem?_map, List.getElem?_range hk]
    unfold a0
    rw [show k + 1 + 210 = 211 + k by omega]
    show some (md_k (211 + k), (if k = 11 ∨ k = 16 then List.replicate 8 (-1) else z0 (md_sz (211 + k))), []) = _
    by_cases e : k = 11 ∨ k = 16
    · rw [if_pos e, if_pos (by omega)]
    · rw [if_neg e, if_neg (by omega)]
  · unfold a0
    split
    · rename_i e
      rcases e with e | e
      · rw [e]; rfl
      · rw [e]; rfl
    · exact z0_len _
set_option maxRecDepth 100000 in
theorem h0_t {t : Nat} (h1 : h0E t = some (5, [], [.ref (t + 1), .int 0])) (h2 : h0E (t + 1) = some (100, z0 30, [])) : tS h0E t [] := ⟨h1, z0 30, h2, z0_len 30⟩
def u0 : sU := ([], -1, z0 8, [])
set_option maxRecDepth 100000 in
theorem h0_u {f k : Nat} (hf : f < 8) (hk : k < 4) : uS h0E (22 + 24 * f + 5 * k) u0 := by
  have hk4 : k = 0 ∨ k = 1 ∨ k = 2 ∨ k = 3 := by omega
  have hc : ∀ j, j < 5 → h0E (22 + 24 * f + 5 * k + j) = (kU (22 + 24 * f + 5 * k))[j]? := by
    intro j hj
    have := h0_F (f := f) (j := 4 + 5 * k + j) hf (by omega)
    rw [show 18 + 24 * f + (4 + 5 * k + j) = 22 + 24 * f + 5 * k + j by omega] at this
    rw [this]
    have hj5 : j = 0 ∨ j = 1 ∨ j = 2 ∨ j = 3 ∨ j = 4 := by omega
    have hf8 : f = 0 ∨ f = 1 ∨ f = 2 ∨ f = 3 ∨ f = 4 ∨ f = 5 ∨ f = 6 ∨ f = 7 := by omega
    rcases hf8 with rfl | rfl | rfl | rfl | rfl | rfl | rfl | rfl <;> rcases hk4 with rfl | rfl | rfl | rfl <;> rcases hj5 with rfl | rfl | rfl | rfl | rfl <;> rfl
  refine ⟨hc 0 (by decide), h0_t (hc 1 (by decide)) (hc 2 (by decide)), ⟨hc 3 (by decide), rfl⟩, z0 122, hc 4 (by decide), z0_len 122⟩
set_option maxRecDepth 100000 in
theorem h0_c : cS h0E (List.replicate 8 (-1)) (fun _ => []) (fun _ => []) (z0 8) (List.replicate 8 (-1)) (z0 8) (z0 5) := by
  refine ⟨h0_D (k := 0) (by decide), h0_D (k := 1) (by decide), ⟨rfl, fun h hh => Or.inl (m1_at hh)⟩, h0_D (k := 2) (by decide), h0_D (k := 3) (by decide), ⟨h0_D (k := 4) (by decide), rfl⟩, ⟨h0_D (k := 5) (by decide), rfl⟩, ⟨h0_D (k := 6) (by decide), rfl⟩, ⟨h0_D (k := 7) (by decide), rfl⟩, ⟨0, -1, 0, h0_D (k := 8) (by decide)⟩, fun f hf => ⟨?_, ?_⟩⟩
  · have hf8 : f = 0 ∨ f = 1 ∨ f = 2 ∨ f = 3 ∨ f = 4 ∨ f = 5 ∨ f = 6 ∨ f = 7 := by omega
    rcases hf8 with rfl | rfl | rfl | rfl | rfl | rfl | rfl | rfl <;> exact h0_t (h0_F (j := 0) hf (by decide)) (h0_F (j := 1) hf (by decide))
  · refine ⟨0, [(22 + 24 * f, u0), (27 + 24 * f, u0), (32 + 24 * f, u0), (37 + 24 * f, u0)], ⟨?_, ?_, rfl, by decide, ?_, ?_⟩, rfl⟩
    · have hf8 : f = 0 ∨ f = 1 ∨ f = 2 ∨ f = 3 ∨ f = 4 ∨ f = 5 ∨ f = 6 ∨ f = 7 := by omega
      rcases hf8 with rfl | rfl | rfl | rfl | rfl | rfl | rfl | rfl <;> exact h0_F (j := 2) hf (by decide)
    · have hf8 : f = 0 ∨ f = 1 ∨ f = 2 ∨ f = 3 ∨ f = 4 ∨ f = 5 ∨ f = 6 ∨ f = 7 := by omega
      rcases hf8 with rfl | rfl | rfl | rfl | rfl | rfl | rfl | rfl <;> exact h0_F (j := 3) hf (by decide)
    · simp only [List.map_cons, List.map_nil, List.nodup_cons, List.mem_cons, List.not_mem_nil, or_false, not_false_eq_true, List.nodup_nil, and_true]
      omega
    · intro v hv
      simp only [List.mem_cons, List.not_mem_nil, or_false] at hv
      have hu : ∀ k a, k < 4 → a = 22 + 24 * f + 5 * k → uS h0E a u0 ∧ ∃ k, k < 4 ∧ a = 22 + 24 * f + 5 * k := fun k a hk e => ⟨by rw [e]; exact h0_u hf hk, k, hk, e⟩
      rcases hv with rfl | rfl | rfl | rfl
      · exact hu 0 _ (by decide) rfl
      · exact hu 1 _ (by decide) (show 27 + 24 * f = _ by omega)
      · exact hu 2 _ (by decide) (show 32 + 24 * f = _ by omega)
      · exact hu 3 _ (by decide) (show 37 + 24 * f = _ by omega)
set_option maxRecDepth 100000 in
theorem h0_R : mR (fun _ => 0) a0 (List.replicate 8 (-1)) (fun _ => []) (fun _ => []) 0 := by
  refine ⟨⟨fun h hh => ⟨fun _ => m1_at hh, fun hn => absurd (z0_at _ _) hn⟩, fun f hf => ⟨Nat.zero_le _, z0_at _ _, fun k hk => absurd hk (Nat.not_lt_zero _)⟩⟩, rfl, fun f hf => ⟨⟨fun U hU => absurd hU (List.not_mem_nil), List.Pairwise.nil⟩, [], ⟨Nat.zero_le _, fun q hq => absurd hq (List.not_mem_nil), List.Pairwise.nil, fun s _ _ _ => z0_at _ _⟩, rfl⟩⟩
set_option maxRecDepth 100000 in
theorem h0_rl : RL 0 h0E := by
  refine ⟨List.replicate 8 (-1), fun _ => [], fun _ => [], z0 8, List.replicate 8 (-1), z0 8, z0 5, z0 300, List.replicate 8 (-1), z0 8, 0, 0, 0, 0, 0, 0, z0 40, z0 12, z0 12, fun _ => 0, a0, 0, 0, 0, h0_c, ⟨h0_D (k := 9) (by decide), h0_D (k := 10) (by decide), h0_D (k := 11) (by decide), h0_D (k := 12) (by decide)⟩, ⟨h0_D (k := 13) (by decide), h0_D (k := 14) (by decide), h0_D (k := 15) (by decide), h0_D (k := 16) (by decide)⟩, ⟨⟨z0_len 300, rfl, rfl, by decide, fun _ => 0, fun _ => [], fun _ => [], fun _ => 0, fun f hf hn => absurd (m1_at hf) hn⟩, z0_len 40, rfl, rfl, rfl⟩, h0_md, h0_R, Nat.le_refl _, ⟨⟨rfl, rfl, rfl, rfl⟩, ⟨rfl, rfl, fun f hf hn => absurd (m1_at hf) hn, rfl⟩, ⟨rfl, rfl⟩, rfl, rfl, rfl⟩, h0_O, h0_none⟩
set_option maxRecDepth 100000 in
/-- a constructor's run, for every script -/
theorem ctor_Y {sc : List Int32} {d j : Nat} {as ls : List Value} {h : ux_H} {l : List ux_C} {n : Nat} (hd : 20 ≤ d) (hls : as ++ List.replicate ((uxP.2.2.2.2.2.2 j).1 - as.length) .null = ls) (hc : ux_chk (ux_run (ux_noal uxP) [] 3000 20 j 0 ls [] (h.1, h.2.1, h.2.2.1, false)) l n = true) : ∃ w, ux_Y uxP sc d j as h (.inr none, (l, 0, n, w)) := by
  obtain ⟨w, hw⟩ := ux_chk_s hc
  refine ⟨w, 3000, ?_⟩
  rw [hls]
  exact ux_run_up _ _ _ _ _ _ _ _ (ux_run_sc _ _ _ _ _ _ _ _ hw) _ _ (Nat.le_refl _) hd
set_option maxRecDepth 100000 in
theorem ux_law : ux_Law := by
  intro sc hs
  obtain ⟨w1, c1⟩ := ctor_Y (sc := sc) (d := 109) (as := [.ref 1]) (h := ([(0, [], uxDv 0)], 0, 10, true)) (by decide) rfl ux_ctor1
  obtain ⟨w2, c2⟩ := ctor_Y (sc := sc) (d := 109) (as := [.ref 210]) (h := (kD ++ [(7, [], uxDv 7)], 0, 6142, true)) (by decide) rfl ux_ctor2
  have hB := lw_loop (sc := sc) (K := fun o E x z _ => o = .inr (some (.int 1)) ∧ x ≤ 512 ∧ z ≤ 9993 + 6 * 512 ∧ E 239 = none) hs 512 0 0 0 9993 h0E true .null .null h0_rl (by omega) (by omega) (by omega) (fun e E' w' N' he hR => by
    obtain ⟨_, _, _, _, _, _, _, _, _, _, _, _, _, _, _, _, _, _, _, _, _, _, _, _, _, _, _, _, _, _, _, _, _, h9⟩ := hR
    exact ⟨rfl, by omega, by omega, h9⟩)
  obtain ⟨o, h', E', hG, hV, ho, hx, hz, h9⟩ := hB (h0L, 0, 9993, true) (fun a => by cases a <;> rfl) rfl
  subst ho
  refine ⟨110, h', ?_, by decide, ?_, ?_⟩
  · show ux_G uxP sc 110 0 0 [.ref 0, .null, .null, .null, .null, .null, .null] [] ([], 0, 0, false) _
    refine ux_Gm (h' := ([(0, [], uxDv 0)], 0, 10, true)) (st' := [.ref 1]) rfl ?_
    refine ux_GN 1 rfl ?_
    refine ux_Gc (j := 1) (as := [.ref 1]) (r0 := [.ref 1]) rfl c1 ?_
    refine ux_GN 1 rfl ?_
    refine ux_Gm (h' := (kD ++ [(7, [], uxDv 7)], 0, 6142, true)) (st' := [.ref 210]) rfl ?_
    refine ux_GN 1 rfl ?_
    refine ux_Gc (j := 79) (as := [.ref 210]) (r0 := [.ref 210]) rfl c2 ?_
    refine ux_GN 2 rfl ?_
    refine ux_Gm (h' := (h0L, 0, 9993, true)) (st' := [.ref 238]) rfl ?_
    refine ux_GN 3 rfl ?_
    exact hG
  · have hc : ux_cell h' 239 = none := (hV 239).trans h9
    have hl : h'.1.length ≤ 238 := by
      have : h'.1[238]? = none := hc
      exact List.getElem?_eq_none_iff.mp this
    show h'.1.length + h'.2.1 ≤ 601024
    omega
  · show h'.2.2.1 ≤ 7293034
    omega
