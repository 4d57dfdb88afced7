/-! One instruction that touches memory. -/
section UXN
variable {p : Program} {l : Launch} {e : Env} {R : Room} {s : State} {m : MethodId} {args : Array Value} {below : List Frame} {meth : Method} {c : Code} {H : Heap} {locs : List Loc} {cells slots : Nat} {Q : State → Prop} {b n0 nL pc : Nat} {ls st st' : List Value}
variable {Tw : List Cond} {aty : Nat → Option FieldType} {D : va_G} {cl : List vw_C} {ca : Nat → ClassId} {sc : List Int32} {zs : List (String × String × String)} {hh hh' : ux_H} {ty : Nat → Nat → FieldType} {P : ux_P} {M : ux_M} {i : Nat}
set_option maxHeartbeats 4000000 in
theorem ux_memW (hF : ux_okF P M Tw cl ty) (hN : ux_okN P M Tw cl ty) (hA : ux_okA P M Tw cl aty) (hLb : ux_okL P M Tw) (hC : ux_okC Tw cl ty)
    (hx : p.tables.exec = Jvm.exec) (hb : c.code = (M i).2.1) (hown : s.vm.findClass (M i).1.cls = some m.cls) (hnme : meth.name = (M i).1.name) (hml : c.maxLocals = nL) (hK : ux_K Tw aty D cl ca s) {ins : Instr} {len len' : Nat} (hd : decode (M i).2.1 pc = .ok (ins, len)) (hl : ux_lok ins len = true)
    (h : ux_mem P sc i ins st hh = some (len', st', hh')) (hR : ux_R aty D cl ca b n0 sc zs s hh H) (hloc : ∀ x ∈ locs, n0 ≤ x.base) {nc0 ns0 : Nat} (hc0 : cells + nc0 = ux_nc hh) (hs0 : slots + ns0 = ux_ns hh) (hcR : ux_nc hh' ≤ nc0 + R.cells) (hsR : ux_ns hh' ≤ ns0 + R.slots) (hfr : 8 ≤ R.frames) (hlo : 200 ≤ R.locals)
    (k : ∀ (H' : Heap) (locs' : List Loc) (cells' slots' : Nat), cells' + nc0 = ux_nc hh' → slots' + ns0 = ux_ns hh' → ux_R aty D cl ca b n0 sc zs s hh' H' → (∀ x ∈ locs', n0 ≤ x.base) → (hh'.2.2.2 = false → hh.2.2.2 = false ∧ H' = H ∧ locs' = locs ∧ cells' = cells ∧ slots' = slots) → ux_V p l e R s m args below meth c H' locs' cells' slots' Q b n0 nL (pc + len') ls st') :
    ux_V p l e R s m args below meth c H locs cells slots Q b n0 nL pc ls st := by
  have same : hh' = hh → ux_V p l e R s m args below meth c H locs cells slots Q b n0 nL (pc + len') ls st' := by
    rintro rfl
    exact k H locs cells slots hc0 hs0 hR hloc (fun h => ⟨h, rfl, rfl, rfl, rfl⟩)
  have put : ∀ (a : Nat) (cx : ux_C), hh' = ux_set hh a cx → ∀ (H' : Heap) (locs' : List Loc), ux_R aty D cl ca b n0 sc zs s hh' H' → (∀ x ∈ locs', n0 ≤ x.base) → ux_V p l e R s m args below meth c H' locs' cells slots Q b n0 nL (pc + len') ls st' := by
    rintro a cx rfl H' locs' h1 h2
    exact k H' locs' cells slots (by rw [hc0]; simp [ux_nc, ux_set]) (by rw [hs0]; rfl) h1 h2 (fun h => by cases h)
  have mk : ∀ (cx : ux_C) (n : Nat), hh' = ux_new hh cx n → ∀ H' : Heap, ux_R aty D cl ca b n0 sc zs s hh' H' → ux_V p l e R s m args below meth c H' locs (cells + 1) (slots + n) Q b n0 nL (pc + len') ls st' := by
    rintro cx n rfl H' h1
    refine k H' locs (cells + 1) (slots + n) ?_ ?_ h1 hloc (fun h => by cases h)
    · simp [ux_nc, ux_new] at hc0 ⊢; omega
    · simp [ux_ns, ux_new] at hs0 ⊢; omega
  have room : ∀ (cx : ux_C) (n : Nat), hh' = ux_new hh cx n → cells + 1 ≤ R.cells ∧ slots + n ≤ R.slots := by
    rintro cx n rfl
    simp [ux_nc, ux_new] at hc0 hcR
    simp [ux_ns, ux_new] at hs0 hsR
    omega
  unfold ux_mem at h
  split at h
  case h_1 => -- getfield
    obtain rfl : len = 3 := by simpa [ux_lok] using hl
    split at h
    · rename_i ci j q a r hf
      cases hg : ux_get hh a ci j with
      | none => rw [hg] at h; cases h
      | some v =>
        rw [hg] at h; cases h
        obtain ⟨rr, q1, q2, q3, q4, -, -, -, -, q5⟩ := hF _ _ _ _ _ hf
        intro lsR hL
        exact ux_getW hx hb hown hK hC hR q1 q2 q3 q4 q5 hg hd (same rfl lsR hL)
    · cases h
  case h_2 => -- putfield
    obtain rfl : len = 3 := by simpa [ux_lok] using hl
    split at h
    · rename_i ci j q v a r hf
      split at h
      · rename_i hv
        cases hg : ux_put hh a ci j v with
        | none => rw [hg] at h; cases h
        | some h2 =>
          rw [hg] at h; cases h
          obtain ⟨rr, q1, q2, q3, q4, q5, q6, q70, q71, q8⟩ := hF _ _ _ _ _ hf
          have q7 : (rr.2.1 j).2.2.2 = true → (M i).1.name = "<init>" ∧ rr.1 = (M i).1.cls := fun hfl => by
            rcases hv.2 with h0 | ⟨h1, h4⟩
            · rw [q70 h0] at hfl; cases hfl
            · exact q71 h1 h4
          intro lsR hL
          have hp : ∃ cx, hh' = ux_set hh a cx := by
            unfold ux_put at hg
            split at hg
            · split at hg
              · cases hg; exact ⟨_, rfl⟩
              · cases hg
            · cases hg
          obtain ⟨cx, hcx⟩ := hp
          exact ux_putW hx hb hown hnme hK hC hR q1 q2 q3 q4 q5 q6 q7 q8 hv.1 hg hd hloc (fun H' locs' g1 g2 => put a cx hcx H' locs' g1 g2 lsR hL)
      · cases h
    · cases h
  case h_3 => -- iaload
    obtain rfl : len = 1 := by simpa [ux_lok] using hl
    split at h
    · rename_i j a r
      cases hg : ux_ld 100 sc hh a j with
      | none => rw [hg] at h; cases h
      | some v =>
        rw [hg] at h; cases h
        intro lsR hL
        exact ux_ialdW hx hb hK hA.1.1 hR hg hd (same rfl lsR hL)
    · cases h
  case h_4 => -- baload
    obtain rfl : len = 1 := by simpa [ux_lok] using hl
    split at h
    · rename_i j a r
      cases hg : ux_ld 101 sc hh a j with
      | none => rw [hg] at h; cases h
      | some v =>
        rw [hg] at h; cases h
        intro lsR hL
        exact ux_zaldW hx hb hK hA.1.2.1 hR hg hd (same rfl lsR hL)
    · cases h
  case h_5 => -- laload
    obtain rfl : len = 1 := by simpa [ux_lok] using hl
    split at h
    · split at h
      · rename_i hg
        cases h
        intro lsR hL
        exact ux_laldW hx hb hK hA.1.2.2 hR hg hd (same rfl lsR hL)
      · cases h
    · cases h
  case h_6 => -- aaload
    obtain rfl : len = 1 := by simpa [ux_lok] using hl
    split at h
    · split at h
      · rename_i hg
        split at h
        · rename_i ht
          cases h
          intro lsR hL
          exact ux_aaldW hx hb hK (fun t y h1 h2 => by obtain ⟨C, -, h3, -⟩ := hA.2.2.1 t y h1 h2; exact ⟨C, h3⟩) hR ht hg hd (same rfl lsR hL)
        · cases h
      · cases h
    · cases h
  case h_7 => -- iastore
    obtain rfl : len = 1 := by simpa [ux_lok] using hl
    split at h
    · rename_i x j a r
      cases hg : ux_st 100 hh a j x with
      | none => rw [hg] at h; cases h
      | some h2 =>
        rw [hg] at h; cases h
        obtain ⟨-, is, vs, -, -, hcx⟩ := ux_st_some hg
        intro lsR hL
        exact ux_iastW hx hb hK hA.1.1 hR hg hd hloc (fun H' locs' g1 g2 => put a _ hcx H' locs' g1 g2 lsR hL)
    · cases h
  case h_8 => -- bastore
    obtain rfl : len = 1 := by simpa [ux_lok] using hl
    split at h
    · rename_i x j a r
      split at h
      · rename_i h01
        cases hg : ux_st 101 hh a j x with
        | none => rw [hg] at h; cases h
        | some h2 =>
          rw [hg] at h; cases h
          obtain ⟨-, is, vs, -, -, hcx⟩ := ux_st_some hg
          intro lsR hL
          exact ux_zastW hx hb hK hA.1.2.1 hR h01 hg hd hloc (fun H' locs' g1 g2 => put a _ hcx H' locs' g1 g2 lsR hL)
      · cases h
    · cases h
  case h_9 => -- lastore
    obtain rfl : len = 1 := by simpa [ux_lok] using hl
    split at h
    · split at h
      · rename_i hg
        cases h
        obtain ⟨-, is, vs, -, -, hcx⟩ := ux_stv_some hg
        intro lsR hL
        exact ux_lastW hx hb hK hA.1.2.2 hR hg hd hloc (fun H' locs' g1 g2 => put _ _ hcx H' locs' g1 g2 lsR hL)
      · cases h
    · cases h
  case h_10 => -- aastore
    obtain rfl : len = 1 := by simpa [ux_lok] using hl
    split at h
    · split at h
      · rename_i hg hcv
        split at h
        · rename_i ht
          obtain ⟨ht, hci, hco⟩ := ht
          cases h
          obtain ⟨hj, is, vs, hcell, -, hcx⟩ := ux_stv_some hg
          obtain ⟨⟨y, hy⟩, -⟩ := (hR.cell hcell).arr (by show 100 ≤ _; omega)
          obtain ⟨C, rr, rfl, q2, q3⟩ := hA.2.2.1 _ y ht hy
          rw [hco] at q2
          intro lsR hL
          exact ux_aastW hx hb hK hR ht hy q2 q3 hci hcv hg hd hloc (fun H' locs' g1 g2 => put _ _ hcx H' locs' g1 g2 lsR hL)
        · cases h
      · cases h
    · cases h
  case h_11 => -- arraylength
    obtain rfl : len = 1 := by simpa [ux_lok] using hl
    split at h
    · rename_i a r
      cases hg : ux_len sc hh a with
      | none => rw [hg] at h; cases h
      | some n =>
        rw [hg] at h; cases h
        intro lsR hL
        exact ux_alenW hx hb hK hR hg hd (same rfl lsR hL)
    · cases h
  case h_12 => -- new
    obtain rfl : len = 3 := by simpa [ux_lok] using hl
    split at h
    · rename_i ci hf
      split at h
      · rename_i hci
        cases h
        obtain ⟨rr, q1, q2, q3, q4, q5, q6⟩ := hN _ _ _ hf hci.1
        intro lsR hL
        exact ux_newW hx hb hown hK hC hR q1 hci.1 q2 q3 q4 q5 q6 hci.2 hd (room _ _ rfl).1 (room _ _ rfl).2 (fun H' g1 => mk _ _ rfl H' g1 lsR hL)
      · cases h
    · cases h
  case h_13 => -- newarray
    obtain rfl : len = 2 := by simpa [ux_lok] using hl
    split at h
    · split at h
      · rename_i hn
        cases h
        intro lsR hL
        exact ux_newaW (atp := .int) (y := .int) (t := 100) hx hb hK hR rfl (fun C q => by cases q) hA.2.1.1 hA.1.1 (by decide) rfl (by simp [ux_sz]) (fun j hj => by simp [ux_val, hj, newarray.typeOf, defaultValue]) hn.1 hn.2.1 hn.2.2 hd (room _ _ rfl).1 (room _ _ rfl).2 (fun H' g1 => mk _ _ rfl H' g1 lsR hL)
      · cases h
    · split at h
      · rename_i hn
        cases h
        intro lsR hL
        exact ux_newaW (atp := .boolean) (y := .boolean) (t := 101) hx hb hK hR rfl (fun C q => by cases q) hA.2.1.2.1 hA.1.2.1 (by decide) rfl (by simp [ux_sz]) (fun j hj => by simp [ux_val, hj, newarray.typeOf, defaultValue]) hn.1 hn.2.1 hn.2.2 hd (room _ _ rfl).1 (room _ _ rfl).2 (fun H' g1 => mk _ _ rfl H' g1 lsR hL)
      · cases h
    · split at h
      · rename_i hn
        cases h
        intro lsR hL
        exact ux_newaW (atp := .long) (y := .long) (t := 102) hx hb hK hR rfl (fun C q => by cases q) hA.2.1.2.2 hA.1.2.2 (by decide) rfl (by simp [ux_sz]) (fun j hj => by simp [ux_val, hj, newarray.typeOf, defaultValue, ux_tr]) hn.1 hn.2.1 hn.2.2 hd (room _ _ rfl).1 (room _ _ rfl).2 (fun H' g1 => mk _ _ rfl H' g1 lsR hL)
      · cases h
    · cases h
  case h_14 => -- anewarray
    obtain rfl : len = 3 := by simpa [ux_lok] using hl
    split at h
    · rename_i t n r hf
      split at h
      · rename_i hn
        cases h
        obtain ⟨C, q1, q2, q3⟩ := hA.2.2.2 _ _ _ hf hn.1 hn.2.1
        intro lsR hL
        exact ux_anewW hx hb hown hK hR q1 hn.1 q2 q3 hn.2.2.1 hn.2.2.2.1 hn.2.2.2.2 hd (room _ _ rfl).1 (room _ _ rfl).2 (fun H' g1 => mk _ _ rfl H' g1 lsR hL)
      · cases h
    · cases h
  case h_15 => -- Object.<init>
    obtain rfl : len = 3 := by simpa [ux_lok] using hl
    split at h
    · rename_i j n a r hf
      split at h
      · rename_i hw
        cases h
        obtain ⟨q1, q2, q3⟩ := (hLb _ _ _ _ _ hf).1 rfl
        intro lsR hL
        refine W.objInit hx hb hown (hK.2.2 _ q1 args) (hK.2.2 _ q2 args) (hK.2.2 _ q3 args) rfl (by rw [hml]; exact hL.2.2.1) rfl hd (by omega) ?_ (same rfl lsR hL)
        have e1 : ((List.map (ux_tr b n0) st').map fun v => v.category).sum = (st'.map fun v => v.category).sum := by
          rw [List.map_map]; congr 1; exact List.map_congr_left fun v _ => ux_cat b n0 v
        show 2 * 0 + ((List.map (ux_tr b n0) st').map fun v => v.category).sum + 12 ≤ R.locals
        omega
      · cases h
    · cases h
  case h_16 => -- Math.max, Math.min
    obtain rfl : len = 3 := by simpa [ux_lok] using hl
    have e1 : ∀ r : List Value, ((List.map (ux_tr b n0) r).map fun v => v.category).sum = (r.map fun v => v.category).sum := by
      intro r
      rw [List.map_map]; congr 1; exact List.map_congr_left fun v _ => ux_cat b n0 v
    have hcc : cells ≤ R.cells := by
      have : hh' = hh := by
        split at h
        · split at h <;> cases h; rfl
        · split at h <;> cases h; rfl
        · cases h
      subst this; omega
    have hss : slots ≤ R.slots := by
      have : hh' = hh := by
        split at h
        · split at h <;> cases h; rfl
        · split at h <;> cases h; rfl
        · cases h
      subst this; omega
    split at h
    · rename_i j n y x r hf
      split at h
      · rename_i hw
        cases h
        obtain ⟨q1, q2, q3, q4⟩ := (hLb _ _ _ _ _ hf).2.1 rfl
        intro lsR hL
        exact va_mmax hx hb (by rw [hml]; exact hL.2.2.1.symm) hown (hK.2.2 _ q1 args) (hK.2.2 _ q2 args) (hK.2.2 _ q3 args) (hK.2.2 _ q4 args) (by omega) (by rw [e1]; omega) hcc hss hd (same rfl lsR hL)
      · cases h
    · rename_i j n y x r hf
      split at h
      · rename_i hw
        cases h
        obtain ⟨q1, q2, q3, q4⟩ := (hLb _ _ _ _ _ hf).2.2 rfl
        intro lsR hL
        exact va_mmin hx hb (by rw [hml]; exact hL.2.2.1.symm) hown (hK.2.2 _ q1 args) (hK.2.2 _ q2 args) (hK.2.2 _ q3 args) (hK.2.2 _ q4 args) (by omega) (by rw [e1]; omega) hcc hss hd (same rfl lsR hL)
      · cases h
    · cases h
  case h_17 => cases h
end UXN
