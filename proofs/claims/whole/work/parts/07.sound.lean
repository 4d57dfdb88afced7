/-! The evaluator tells the truth of the machine. -/
def ux_word (P : ux_P) (M : ux_M) (Tw : List Cond) (j : Nat) : Prop := ((M j).2.2.2 = [] ∧ Cond.code (M j).1 (M j).2.1 (P.2.2.2.2.2.2 j).1 (M j).2.2.1 ∈ Tw) ∨ Cond.codeWith (M j).1 (M j).2.1 (P.2.2.2.2.2.2 j).1 (M j).2.2.1 (M j).2.2.2 ∈ Tw
def ux_okG (P : ux_P) (M : ux_M) (Tw : List Cond) (cl : List vw_C) : Prop := ∀ (i k q j n : Nat), P.2.2.1 i k = some (q, j, n) → (q < 2 ∨ q = 4 ∨ q = 5 ∨ 100 ≤ q) →
  plainName (M j).1.cls = true ∧ ((M j).1.cls ≠ "java/lang/invoke/MethodHandle" ∧ (M j).1.cls ≠ "java/lang/invoke/VarHandle") ∧ (parseMethodDescriptor (M j).1.desc).map (fun d => d.parameters.length) = some n ∧ ux_word P M Tw j ∧
  (q = 0 → Cond.methodLink (M i).1.cls k (M j).1 ∈ Tw ∧ Cond.static (M j).1 ∈ Tw ∧ Cond.initialized (M j).1.cls ∈ Tw) ∧
  (q = 1 → (∃ host, Cond.methodLinkNest (M i).1.cls k (M j).1 host ∈ Tw) ∧ Cond.static (M j).1 ∈ Tw ∧ Cond.initialized (M j).1.cls ∈ Tw) ∧
  (q = 4 → (M j).1.name = "<init>" ∧ Cond.methodLink (M i).1.cls k (M j).1 ∈ Tw ∧ Cond.instanceMethod (M j).1 ∈ Tw ∧ Cond.code (M j).1 (M j).2.1 (P.2.2.2.2.2.2 j).1 none ∈ Tw) ∧
  (q = 5 → (M j).1.name = "<init>" ∧ (∃ host, Cond.methodLinkNest (M i).1.cls k (M j).1 host ∈ Tw) ∧ Cond.instanceMethod (M j).1 ∈ Tw ∧ Cond.code (M j).1 (M j).2.1 (P.2.2.2.2.2.2 j).1 none ∈ Tw) ∧
  (∀ ci, q = 100 + ci → ∃ r : vw_C, cl[ci]? = some r ∧ Cond.methodLink (M i).1.cls k (M j).1 ∈ Tw ∧ Cond.instanceMethod (M j).1 ∈ Tw ∧ Cond.selects r.1 (M j).1 (M j).1 ∈ Tw)
theorem ux_word_spec {P : ux_P} {M : ux_M} {Tw : List Cond} {j : Nat} {s : State} {mk : MethodId} (h : ux_word P M Tw j) (hts : ∀ w ∈ Tw, ∀ a : Array Value, w.before a s = true) (hn : s.methodNamed? (M j).1 = some mk) :
    ∃ methk ck, s.vm.method? mk = some methk ∧ methk.code = some ck ∧ ck.code = (M j).2.1 ∧ ck.maxLocals = (P.2.2.2.2.2.2 j).1 ∧ methk.sig.returnType = (M j).2.2.1 ∧ methk.locks = false ∧ ck.exceptionTable.toList = tableOf (M j).2.2.2 ∧ parseMethodDescriptor (M j).1.desc = some methk.sig := by
  rcases h with ⟨h0, h⟩ | h
  · obtain ⟨methk, ck, h1, h2, h3, h4, h5, h6, h7, h8⟩ := Cond.code_spec hn (hts _ h #[])
    refine ⟨methk, ck, h1, h2, h3, h4, h5, h6, ?_, h8⟩
    have h9 : ck.exceptionTable = #[] := by simpa using h7
    rw [h0, h9]
    rfl
  · obtain ⟨m', methk, ck, h0, h1, h2, h3, h4, h5, h6, h7, h8⟩ := Cond.codeWith_spec (hts _ h #[])
    cases hn.symm.trans h0
    exact ⟨methk, ck, h1, h2, h3, h4, h6, h7, by rw [← h5, table_eq], h8⟩
theorem ux_cal_some {P : ux_P} {i : Nat} {ins : Instr} {st as r : List Value} {hh : ux_H} {j : Nat} (h : ux_cal P i ins st hh = some (j, as, r)) :
    (∃ k q n, ins = .invokestatic k ∧ P.2.2.1 i k = some (q, j, n) ∧ q < 2 ∧ as.length = n ∧ st = as.reverse ++ r) ∨
    (∃ k q n a as' ci is vs, ins = .invokevirtual k ∧ P.2.2.1 i k = some (q, j, n) ∧ as = .ref a :: as' ∧ as'.length = n ∧ st = as'.reverse ++ .ref a :: r ∧ ux_cell hh a = some (ci, is, vs) ∧ q = 100 + ci ∧ ci < 100) ∨
    (∃ k q n a as', ins = .invokespecial k ∧ P.2.2.1 i k = some (q, j, n) ∧ as = .ref a :: as' ∧ as'.length = n ∧ st = as'.reverse ++ .ref a :: r ∧ (q = 4 ∨ q = 5)) := by
  have cut : ∀ (n a : Nat) (r' : List Value), st.drop n = .ref a :: r' → ((st.take n).reverse).length = n ∧ st = ((st.take n).reverse).reverse ++ .ref a :: r' := by
    intro n a r' hr
    have hlt : n < st.length := by
      have := congrArg List.length hr
      simp at this
      omega
    refine ⟨by simp; omega, ?_⟩
    rw [List.reverse_reverse, ← hr, List.take_append_drop]
  unfold ux_cal at h
  split at h
  · rename_i k
    split at h
    · rename_i q j' n hq
      split at h
      · rename_i hc
        cases h
        exact Or.inl ⟨k, q, n, rfl, hq, hc.1, by simp; omega, by rw [List.reverse_reverse, List.take_append_drop]⟩
      · cases h
    · cases h
  · rename_i k
    split at h
    · rename_i q j' n hq
      split at h
      · rename_i a r' hdr
        split at h
        · rename_i ci is vs hcell
          split at h
          · rename_i hc
            cases h
            obtain ⟨h1, h2⟩ := cut n a _ hdr
            exact Or.inr (Or.inl ⟨k, q, n, a, _, ci, is, vs, rfl, hq, rfl, h1, h2, hcell, hc.1, hc.2⟩)
          · cases h
        · cases h
      · cases h
    · cases h
  · rename_i k
    split at h
    · rename_i q j' n hq
      split at h
      · rename_i a r' hdr
        split at h
        · rename_i hc
          cases h
          obtain ⟨h1, h2⟩ := cut n a _ hdr
          exact Or.inr (Or.inr ⟨k, q, n, a, _, rfl, hq, rfl, h1, h2, hc⟩)
        · cases h
      · cases h
    · cases h
  · cases h
section UXI
variable {p : Program} {l : Launch} {e : Env} {R : Room} {s : State} {m : MethodId} {args : Array Value} {below : List Frame} {meth : Method} {c : Code} {H : Heap} {locs : List Loc} {cells slots : Nat} {Q : State → Prop} {b n0 nL pc : Nat} {ls st : List Value}
variable {Tw : List Cond} {aty : Nat → Option FieldType} {D : va_G} {cl : List vw_C} {ca : Nat → ClassId} {sc : List Int32} {zs : List (String × String × String)} {ex : Nat → String × List String} {hh hh' : ux_H} {ty : Nat → Nat → FieldType} {P : ux_P} {M : ux_M} {i : Nat}
/-- the invoking instruction: the callee is found, whatever was resolved before -/
theorem ux_invW (hG : ux_okG P M Tw cl) (hx : p.tables.exec = Jvm.exec) (hb : c.code = (M i).2.1) (hown : s.vm.findClass (M i).1.cls = some m.cls) (hK : ux_K Tw aty D cl ca s) {ins : Instr} {len : Nat} (hd : decode (M i).2.1 pc = .ok (ins, len)) (hl : ux_lok ins len = true) {j : Nat} {as r : List Value} (h : ux_cal P i ins st hh = some (j, as, r))
    (hR : ux_R aty D cl ca b n0 sc zs s hh H) {T : State} (hT : T.heap = H) (X : Stand p l e R s m args below meth c T locs cells slots) (lsR : Array Slot) :
    len = 3 ∧ plainName (M j).1.cls = true ∧ ux_word P M Tw j ∧ ∃ (vm₁ : Vm) (mk : MethodId), Stand p l e R s m args below meth c (T.setVm vm₁) locs cells slots ∧ s.methodNamed? (M j).1 = some mk ∧
      ∀ target, (∀ acts, Steps p.tables e below (doInvoke e ((T.setVm vm₁).setTop (F0 m pc lsR (r.map (ux_tr b n0)))) acts mk (as.map (ux_tr b n0)).toArray).1 target) → Steps p.tables e below (T.setTop (F0 m pc lsR (st.map (ux_tr b n0)))) target := by
  have hts : ∀ w ∈ Tw, w.before args s = true := fun w hw => hK.2.2 w hw args
  rcases ux_cal_some h with ⟨k, q, n, rfl, hq, hq2, hlen, hst⟩ | ⟨k, q, n, a, as', ci, is, vs, rfl, hq, rfl, hlen, hst, hcell, hqc, hci⟩ | ⟨k, q, n, a, as', rfl, hq, rfl, hlen, hst, hq45⟩
  · obtain rfl : len = 3 := by simpa [ux_lok] using hl
    obtain ⟨w1, w2, w3, w4, w5, w6, -, -, -⟩ := hG _ _ _ _ _ hq (Or.inl hq2)
    refine ⟨rfl, w1, w4, ?_⟩
    have hstat : Cond.static (M j).1 ∈ Tw ∧ Cond.initialized (M j).1.cls ∈ Tw := by
      by_cases h0 : q = 0
      · exact (w5 h0).2
      · exact (w6 (by omega)).2
    have hnm : ∃ mk, s.methodNamed? (M j).1 = some mk := by
      rcases w4 with ⟨-, h1⟩ | h1
      · exact Cond.code_named (hts _ h1)
      · obtain ⟨m', _, _, h0, -⟩ := Cond.codeWith_spec (hts _ h1)
        exact ⟨m', h0⟩
    obtain ⟨mk, hnamed⟩ := hnm
    obtain ⟨methk, ck, hmk, -, -, -, -, -, -, hsig⟩ := ux_word_spec w4 hK.2.2 hnamed
    have hstatic : methk.isStatic = true := Cond.static_spec hnamed hmk (hts _ hstat.1)
    obtain ⟨kP, hkP, -⟩ := className_of_methodNamed hnamed
    have hinitP : kP.init = .initialized := Cond.initialized_spec (findClass_of_methodNamed hnamed) hkP (hts _ hstat.2)
    have hpl : (as.map (ux_tr b n0)).length = methk.sig.parameters.length := by
      rw [hsig] at w3
      rw [List.length_map, hlen]
      exact (Option.some.inj w3).symm
    have hstk : (F0 m pc lsR (st.map (ux_tr b n0))).stack = (as.map (ux_tr b n0)).reverse ++ r.map (ux_tr b n0) := by
      show st.map (ux_tr b n0) = _
      rw [hst, List.map_append, List.map_reverse]
    by_cases h0 : q = 0
    · obtain ⟨vm₁, X₁, st1⟩ := X.invokestatic hx hown (hts _ (w5 h0).1) hnamed hmk hstatic hkP hinitP w2 (g := F0 m pc lsR (st.map (ux_tr b n0))) rfl hpl hstk (by rw [hb]; exact hd)
      exact ⟨vm₁, mk, X₁, hnamed, st1⟩
    · obtain ⟨host, hh0⟩ := (w6 (by omega)).1
      obtain ⟨vm₁, X₁, st1⟩ := X.invokestaticNest hx hown (hts _ hh0) hnamed hmk hstatic hkP hinitP w2 (g := F0 m pc lsR (st.map (ux_tr b n0))) rfl hpl hstk (by rw [hb]; exact hd)
      exact ⟨vm₁, mk, X₁, hnamed, st1⟩
  · obtain rfl : len = 3 := by simpa [ux_lok] using hl
    obtain ⟨w1, w2, w3, w4, -, -, -, -, w9⟩ := hG _ _ _ _ _ hq (by omega)
    refine ⟨rfl, w1, w4, ?_⟩
    obtain ⟨rc, hrc, v1, v2, v3⟩ := w9 ci hqc
    obtain ⟨mk, methM, hnamed, hmethM, hstM, habM⟩ := Cond.instanceMethod_spec (hts _ v2)
    obtain ⟨methk, ck, hmk, -, -, -, -, -, -, hsig⟩ := ux_word_spec w4 hK.2.2 hnamed
    cases hmethM.symm.trans hmk
    obtain ⟨r', hr', cellB, g1, g2, g3, -⟩ := (hR.cell hcell).obj hci
    cases hrc.symm.trans hr'
    have hfc : s.vm.findClass rc.1 = some cellB.cls := by rw [g2]; exact (hK.1 ci rc hrc).2.1
    obtain ⟨c2, r2, m2, q1, q2, q3, q4, kP, hkP, hkPi⟩ := Cond.selects_spec (hts _ v3)
    cases hfc.symm.trans q1
    cases (State.methodFound?_of_named hnamed w2).symm.trans q2
    cases hnamed.symm.trans q3
    have hselP : selectMethod e.platform s.vm cellB.cls mk = .method mk := by rw [Launch.admits_selectMethod X.admits]; exact q4
    have hpl : (as'.map (ux_tr b n0)).length = methM.sig.parameters.length := by
      rw [hsig] at w3
      rw [List.length_map, hlen]
      exact (Option.some.inj w3).symm
    have hstk : (F0 m pc lsR (st.map (ux_tr b n0))).stack = (as'.map (ux_tr b n0)).reverse ++ .ref (ux_ad b n0 a) :: r.map (ux_tr b n0) := by
      show st.map (ux_tr b n0) = _
      rw [hst, List.map_append, List.map_reverse]
      rfl
    obtain ⟨vm₁, X₁, st1⟩ := X.invokevirtual hx hown (hts _ v1) hnamed hmethM hstM hkP hkPi w2 (a := ux_ad b n0 a) (cell := cellB) (by rw [hT]; exact g1) (fun z hz => by rw [g3] at hz; cases hz) hselP hmethM habM hkP hkPi (g := F0 m pc lsR (st.map (ux_tr b n0))) rfl hpl hstk (by rw [hb]; exact hd)
    exact ⟨vm₁, mk, X₁, hnamed, st1⟩
  · obtain rfl : len = 3 := by simpa [ux_lok] using hl
    obtain ⟨w1, w2, w3, w4, -, -, w7, w8, -⟩ := hG _ _ _ _ _ hq (by omega)
    refine ⟨rfl, w1, w4, ?_⟩
    have hplm : e.platform.magicAccessors = ({} : Platform).magicAccessors := by rw [X.admits.platform]
    have hln : ∀ sig, parseMethodDescriptor (M j).1.desc = some sig → (as'.map (ux_tr b n0)).length = sig.parameters.length := by
      intro sig hs
      rw [hs] at w3
      rw [List.length_map, hlen]
      exact (Option.some.inj w3).symm
    have hstk : (F0 m pc lsR (st.map (ux_tr b n0))).stack = (as'.map (ux_tr b n0)).reverse ++ .ref (ux_ad b n0 a) :: r.map (ux_tr b n0) := by
      show st.map (ux_tr b n0) = _
      rw [hst, List.map_append, List.map_reverse]
      rfl
    rcases hq45 with h4 | h5
    · obtain ⟨u1, u2, u3, u4⟩ := w7 h4
      obtain ⟨mk, methM, cM, kP, vm₁, hnamed, hmethM, hcodeM, -, hlocalsM, -, hkP, -, hW₁, hstep₁⟩ := Steps.initColdArgs (e := e) X.here hx X.warmed hplm hown u1 w2 (hts _ u2) (hts _ u3) (hts _ u4) (f := F0 m pc lsR (st.map (ux_tr b n0))) rfl hln hstk (by rw [hb]; exact hd)
      exact ⟨vm₁, mk, X.noted hW₁, hnamed, hstep₁⟩
    · obtain ⟨u1, ⟨host, u2⟩, u3, u4⟩ := w8 h5
      obtain ⟨mk, methM, cM, kP, vm₁, hnamed, hmethM, hcodeM, -, hlocalsM, -, hkP, -, hW₁, hstep₁⟩ := Steps.initColdArgsNest (e := e) X.here hx X.warmed hplm hown u1 w2 (hts _ u2) (hts _ u3) (hts _ u4) (f := F0 m pc lsR (st.map (ux_tr b n0))) rfl hln hstk (by rw [hb]; exact hd)
      exact ⟨vm₁, mk, X.noted hW₁, hnamed, hstep₁⟩
end UXI
/-- nothing is unmade -/
theorem ux_mem_mono {P : ux_P} {sc : List Int32} {i : Nat} {ins : Instr} {st st' : List Value} {hh hh' : ux_H} {len : Nat} (h : ux_mem P sc i ins st hh = some (len, st', hh')) : ux_nc hh ≤ ux_nc hh' ∧ ux_ns hh ≤ ux_ns hh' := by
  have set : ∀ a cx, ux_nc hh ≤ ux_nc (ux_set hh a cx) ∧ ux_ns hh ≤ ux_ns (ux_set hh a cx) := fun a cx => by simp [ux_nc, ux_ns, ux_set]
  have new : ∀ cx n, ux_nc hh ≤ ux_nc (ux_new hh cx n) ∧ ux_ns hh ≤ ux_ns (ux_new hh cx n) := fun cx n => by simp [ux_nc, ux_ns, ux_new]
  have put : ∀ {a ci j v h2}, ux_put hh a ci j v = some h2 → ux_nc hh ≤ ux_nc h2 ∧ ux_ns hh ≤ ux_ns h2 := by
    intro a ci j v h2 hg
    unfold ux_put at hg
    split at hg
    · split at hg
      · cases hg; exact set _ _
      · cases hg
    · cases hg
  have stt : ∀ {t a j x h2}, ux_st t hh a j x = some h2 → ux_nc hh ≤ ux_nc h2 ∧ ux_ns hh ≤ ux_ns h2 := by
    intro t a j x h2 hg
    obtain ⟨-, is, vs, -, -, rfl⟩ := ux_st_some hg
    exact set _ _
  have stv : ∀ {t a j v h2}, ux_stv hh a j v = some (t, h2) → ux_nc hh ≤ ux_nc h2 ∧ ux_ns hh ≤ ux_ns h2 := by
    intro t a j x h2 hg
    obtain ⟨-, is, vs, -, -, rfl⟩ := ux_stv_some hg
    exact set _ _
  have rf : ux_nc hh ≤ ux_nc hh ∧ ux_ns hh ≤ ux_ns hh := ⟨Nat.le_refl _, Nat.le_refl _⟩
  unfold ux_mem at h
  split at h <;> (repeat' split at h) <;> first
    | (cases h; done)
    | (simp only [Option.map_eq_some_iff, Prod.mk.injEq] at h; obtain ⟨v, h1, -, -, rfl⟩ := h; first | exact rf | exact put h1 | exact stt h1)
    | (cases h; first | exact rf | exact new _ _ | (rename_i hg; exact stv hg) | (rename_i hg _; exact stv hg) | (rename_i hg _ _; exact stv hg))
theorem ux_run_mono {P : ux_P} {sc : List Int32} : ∀ (n d i pc : Nat) (ls st : List Value) (hh : ux_H) (o : ux_O) (hh' : ux_H), ux_run P sc n d i pc ls st hh = some (o, hh') → ux_nc hh ≤ ux_nc hh' ∧ ux_ns hh ≤ ux_ns hh' := by
  intro n
  induction n with
  | zero => intro d i pc ls st hh o hh' h; cases h
  | succ n ih =>
    intro d i pc ls st hh o hh' h
    unfold ux_run at h
    split at h
    · cases h
    · split at h
      · exact ih _ _ _ _ _ _ _ _ h
      · split at h
        · rename_i hm
          have h1 := ux_mem_mono hm
          have h2 := ih _ _ _ _ _ _ _ _ h
          omega
        · split at h
          · cases h; exact ⟨Nat.le_refl _, Nat.le_refl _⟩
          · split at h
            · cases h; simp [ux_nc, ux_ns]
            · split at h
              · split at h
                · split at h
                  · rename_i hc
                    have h1 := ih _ _ _ _ _ _ _ _ hc
                    have h2 := ih _ _ _ _ _ _ _ _ h
                    simp only [ux_nc, ux_ns] at h1 h2 ⊢
                    omega
                  · rename_i hc
                    have h1 := ih _ _ _ _ _ _ _ _ hc
                    split at h
                    · split at h
                      · cases h
                        simp only [ux_nc, ux_ns] at h1 ⊢
                        exact h1
                      · cases h
                    · split at h
                      · split at h
                        · have h2 := ih _ _ _ _ _ _ _ _ h
                          simp only [ux_nc, ux_ns] at h1 h2 ⊢
                          omega
                        · cases h
                      · cases h
                  · cases h
                · cases h
              · cases h
