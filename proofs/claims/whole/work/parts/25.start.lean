/-! The law's start: the machine's side of the claim, out of the evaluator alone. -/
def ux_Law : Prop := ∀ sc : List Int32, sc.length ≤ 3072 → ∃ (d : Nat) (hh : ux_H), ux_Y uxP sc d 0 [.ref 0] ([], 0, 0, false) (.inr (some (.int 1)), hh) ∧ d ≤ 1000 ∧ ux_nc hh ≤ 601024 ∧ ux_ns hh ≤ 7293034
theorem ux_inst : ∀ q ∈ uxCl, ux_in (.instantiable q.1 q.2.2) = true := by decide +kernel
theorem ux_known {s : State} {args : Array Value} (hts : ∀ w ∈ uxTw, w.before args s = true) : ∃ D : va_G, ∀ (ci : Nat) (q : vw_C), uxCl[ci]? = some q → u_Kn s q.1 q.2.1 q.2.2 (D.1 ci) (D.2 ci) := by
  have h : ∀ ci : Nat, ∃ (cC : ClassId) (iS : Nat → Nat), ∀ q : vw_C, uxCl[ci]? = some q → u_Kn s q.1 q.2.1 q.2.2 cC iS := by
    intro ci
    cases hq : uxCl[ci]? with
    | none => exact ⟨0, fun _ => 0, fun q h => by cases h⟩
    | some q =>
      obtain ⟨cC, iS, h1⟩ := u_known hts (ux_ok_C ci q hq).1 (hts _ (ux_in_of (ux_inst q (List.mem_of_getElem? hq))))
      exact ⟨cC, iS, fun q' h' => by cases h'; exact h1⟩
  exact ⟨(fun ci => Classical.choose (h ci), fun ci => Classical.choose (Classical.choose_spec (h ci))), fun ci q hq => Classical.choose_spec (Classical.choose_spec (h ci)) q hq⟩
theorem ux_arr1 {s : State} {args : Array Value} {y : FieldType} (hp : ∀ C, y ≠ .object C) (h : (Cond.arrayClass y).before args s = true) : ∃ cA : ClassId, ArrOfT s cA y ∧ va_RA s cA y := by
  obtain ⟨c, k, comp, h1, h2, h3⟩ := Cond.arrayClass_spec h
  refine ⟨c, fun n z => ⟨(fun k h => by cases h), k, h2, comp, h3⟩, ?_⟩
  unfold va_RA
  split
  · rename_i C; exact absurd rfl (hp C)
  · exact h1
theorem ux_arr2 {s : State} {args : Array Value} {C : String} (h : (Cond.arrayOver (.object C)).before args s = true) : ∃ cA : ClassId, ArrOfT s cA (.object C) ∧ va_RA s cA (.object C) := by
  obtain ⟨comp, c, k, h1, -, h3, h4, h5⟩ := Cond.arrayOver_spec h
  exact ⟨c, fun n z => ⟨(fun k h => by cases h), k, h3, comp, h4⟩, k, comp, h3, h4, h1, h5⟩
theorem ux_ao1 : ux_in (.arrayOver (.object "UnitDesk$Text")) = true := by decide +kernel
theorem ux_ao2 : ux_in (.arrayOver (.object "UnitDesk$Shelf")) = true := by decide +kernel
theorem ux_ao3 : ux_in (.arrayOver (.object "UnitDesk$Unit")) = true := by decide +kernel
theorem ux_arrs {s : State} {args : Array Value} (hts : ∀ w ∈ uxTw, w.before args s = true) : ∃ ca : Nat → ClassId, ∀ (t : Nat) (y : FieldType), uxAty t = some y → ArrOfT s (ca t) y ∧ va_RA s (ca t) y := by
  have h : ∀ t : Nat, ∃ cA : ClassId, ∀ y : FieldType, uxAty t = some y → ArrOfT s cA y ∧ va_RA s cA y := by
    intro t
    cases hq : uxAty t with
    | none => exact ⟨0, fun y h => by cases h⟩
    | some y =>
      have key : ∃ cA : ClassId, ArrOfT s cA y ∧ va_RA s cA y := by
        unfold uxAty at hq
        split at hq
        · cases hq
        · rename_i ht
          obtain ⟨n, rfl⟩ : ∃ n, t = n + 100 := ⟨t - 100, by omega⟩
          rw [show n + 100 - 100 = n by omega] at hq
          match n, hq with
          | 0, hq => cases hq; exact ux_arr1 (fun C h => by cases h) (hts _ (ux_in_of ux_ac1))
          | 1, hq => cases hq; exact ux_arr1 (fun C h => by cases h) (hts _ (ux_in_of ux_ac2))
          | 2, hq => cases hq; exact ux_arr1 (fun C h => by cases h) (hts _ (ux_in_of ux_ac3))
          | 3, hq => cases hq; exact ux_arr2 (hts _ (ux_in_of ux_ao1))
          | 4, hq => cases hq; exact ux_arr2 (hts _ (ux_in_of ux_ao2))
          | 5, hq => cases hq; exact ux_arr2 (hts _ (ux_in_of ux_ao3))
          | n + 6, hq => cases hq
      obtain ⟨cA, h1⟩ := key
      exact ⟨cA, fun y' h' => by cases h'; exact h1⟩
  exact ⟨fun t => Classical.choose (h t), fun t y hy => Classical.choose_spec (h t) y hy⟩
theorem ux_stat {s : State} {args : Array Value} {z : String × String × String} (h1 : (Cond.laysStatic z.1 z.2.1 z.2.2).before args s = true) (h2 : (Cond.isRef (.static z.1 z.2.1 z.2.2)).before args s = true) : ux_Zs s.heap.size z s s.heap := by
  obtain ⟨c, k, i, f, a, cell, hc, hi, hst, ha, hcell, hs, hcls, hlt, hty⟩ := Cond.laysStatic_spec h1
  obtain ⟨u, hu⟩ := Cond.staticRefV hi hst ha hcell hs h2
  refine ⟨c, k, i, f, a, cell, u.v, hc, hi, hst, ha, hcell, hs, hcls, hlt, hty, (Array.getElem?_eq_some_iff.mp hcell).1, hu, ?_⟩
  have := u.ok
  cases hv : u.v with
  | null => exact Or.inl rfl
  | ref t => exact Or.inr ⟨t, rfl⟩
  | _ => rw [hv] at this; cases this
theorem ux_nc6 : ∀ j, j < 3 → ∀ k, k < 3 → j ≠ k → Cond.not (.castable (uxEx k).1 (uxEx j).1) ∈ flatC (Jvm.Cond.and given_1 narrow_1) := by decide +kernel
theorem ux_zr : ∀ z ∈ uxZs, Cond.isRef (.static z.1 z.2.1 z.2.2) ∈ flatC (Jvm.Cond.and given_1 narrow_1) := by decide +kernel
theorem ux_zl : ∀ z ∈ uxZs, Cond.laysStatic z.1 z.2.1 z.2.2 ∈ lw_tbl := by decide +kernel
/-- what holds at the law's entry -/
def uy_At (p : Program) (l : Launch) (s : State) (m : MethodId) (meth : Method) (c : Code) (b : Nat) (sc : List Int32) : Prop :=
  p.tables.exec = Jvm.exec ∧ c.code = code ∧ meth.sig.returnType = ret ∧ c.maxLocals = 7 ∧ s.vm.findClass "UnitDeskLaw" = some m.cls ∧ (∀ w ∈ lw_tbl, w.before #[Value.ref b] s = true) ∧ va_X b sc.length (fun j => sc.getD j 0) s s.heap ∧ b < s.heap.size ∧ meth.locks = false ∧ (Jvm.Cond.and given_1 narrow_1).before #[Value.ref b] s = true ∧ c.exceptionTable.toList = [] ∧ meth.name = "law" ∧ l.stackTraces = false
def uy_Q (s : State) (o : Outcome) (t : State) : Prop := o = .returned (some (.int 1)) ∧ Framed s o t [] 601024 7293034
theorem uy_start (hev : ux_Law) {p : Program} {e : Env} {s : State} {m : MethodId} {below : List Frame} {meth : Method} {c : Code} {l : Launch} {b : Nat} {sc : List Int32} (hL : sc.length ≤ 3072) (C0 : uy_At p l s m meth c b sc) :
    W p l e room_1 s m #[Value.ref b] below meth c s.heap [] 0 0 (fun t => ∃ o, t.status = .running ∧ Ended t below o ∧ uy_Q s o t) (entryFrame m ([Value.ref b] : List Value).toArray 7) := by
  obtain ⟨hx, hb, hr, hml, hown, hts0, hX, hbl, hlk, hgv, htab, hnm, htr⟩ := C0
  have hts : ∀ w ∈ uxTw, ∀ a : Array Value, w.before a s = true := fun w hw a => ux_okW_uxTw w hw s s #[Value.ref b] a (State.WarmedH.refl s) (hts0 w (List.mem_filter.mp hw).1)
  obtain ⟨D, hD⟩ := ux_known (args := #[Value.ref b]) (fun w hw => hts w hw _)
  obtain ⟨ca, hca⟩ := ux_arrs (args := #[Value.ref b]) (fun w hw => hts w hw _)
  have hK : ux_K uxTw uxAty D uxCl ca s := ⟨hD, hca, hts⟩
  have hfl := flat_of_before _ hgv
  have hE : ux_E uxEx s := fun j k h1 h2 h3 => va_Nc.of (hfl _ (ux_nc6 j h1 k h2 h3))
  have hZ : ∀ z ∈ uxZs, ux_Zs s.heap.size z s s.heap := fun z hz => ux_stat (hts0 _ (ux_zl z hz)) (hfl _ (ux_zr z hz))
  obtain ⟨d, hh, ⟨n, hrun⟩, hd, hnc, hns⟩ := hev sc hL
  have hR : ux_R uxAty D uxCl ca b s.heap.size sc uxZs s ([], 0, 0, false) s.heap := ⟨hbl, rfl, fun k c h => by simp at h, hX, hZ⟩
  have key := ux_sound ux_ok_all htr (e := e) hx n d 0 0 _ [] _ _ hh hrun room_1 s m #[Value.ref b] below meth c s.heap [] 0 0 0 0 hb hml hr hlk htab hown hnm hK hE hR (fun x h => by cases h) rfl rfl (by show ux_nc hh ≤ 0 + 601024; omega) (by show ux_ns hh ≤ 0 + 7293034; omega) (by show d + 8 ≤ 2048; omega) (by show 64 * d + 200 ≤ 84000; omega) (fun _ => ⟨rfl, rfl, rfl, rfl⟩)
  obtain ⟨lsR, hL2, hent⟩ := ux_entry b s.heap.size m [.ref 0] 7 (fun v hv => by rw [List.mem_singleton.mp hv]; rfl) (by decide)
  have hent2 : entryFrame m ([Value.ref b] : List Value).toArray 7 = F0 m 0 lsR [] := hent
  rw [hent2]
  refine ux_mono (key lsR hL2) ?_
  rintro t ⟨oc, L, C, S, q1, q2, q3, q4, q5, q6, q7, q8, q9, q10⟩
  have q10 : oc = .returned (some (.int 1)) := q10
  subst q10
  refine ⟨_, q1, q2, rfl, ⟨_, rfl⟩, q3, q4.weaken (fun y hy hlt => absurd hlt (Nat.not_lt.mpr (q7 y hy))) ?_ ?_⟩
  · simp at q5; omega
  · simp at q6; omega
