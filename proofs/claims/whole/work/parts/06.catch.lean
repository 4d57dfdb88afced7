/-! A handler whose class may not have been resolved yet. -/
theorem ux_go_cold {E : CtlPost} {e : Env} {d : Bool} {acts : List Action} {s : State} {f : JFrame} {a : Addr} {Q : Handler → Pre} {x : ExceptionTableEntry} {t : List ExceptionTableEntry} {c : ClassId} {vm' : Vm} {cell : Cell} (hx : covers x f.pc = true) (h0 : x.catchType ≠ 0)
    (hg : (Jvm.resolveClass f.method.cls x.catchType).Gives e.toSetting s.vm (.ok c) vm') (hsz : vm'.classes.size ≤ s.vm.classes.size) (hcell : s.heap[a]? = some cell) (hobj : ∀ k, cell.vm ≠ .statics k) (hk : ∃ k, vm'.classes[cell.cls]? = some k) (hc : ∃ k, vm'.classes[c]? = some k) :
    Sem.wp (findHandler.go f a (x :: t)) Q E e d acts s ↔ if vm'.assignable cell.cls c = true then Q (.found x.handlerPc) d acts (s.setVm vm') else Sem.wp (findHandler.go f a t) Q E e d acts (s.setVm vm') := by
  simp only [covers] at hx
  obtain ⟨ha, ht⟩ := hg.op (op := VmOp.resolveClass f.method.cls x.catchType) rfl
  cases hfit : vm'.assignable cell.cls c <;>
    simp [findHandler.go, hx, h0, ha, ht, hsz, hcell, hobj, hk, hc, hfit, VmOp.dirties, VmOp.acts]
theorem ux_catchStep {e : Env} {s s' : State} {a : Addr} {f : JFrame} {r : List Frame} {pc : Nat} (hfind : ∀ (Q : Handler → Pre) (E : CtlPost) (d : Bool) (acts : List Action), Sem.wp (findHandler f a) Q E e d acts s ↔ Q (.found pc) d acts s') :
    (stepThrowing e s a (.java f :: r)).Is (s'.setFrames (.java { f with pc := pc, stack := [.ref a] } :: r)) [] := by
  simp only [stepThrowing, searchFrame, vmDo]
  generalize hr : Sem.go _ e false [] s = res
  obtain ⟨as, rfl, ha⟩ := Sem.eq_ok_of hr (a := Handler.found pc) (s' := s') (acts' := []) (by simp [hfind _ _ _ _])
  exact ⟨rfl, ha⟩
/-- the handlers as the evaluator has them: kinds in place of the classes' numbers -/
def ux_hs (ex : Nat → String × List String) (Tw : List Cond) (own : String) (hs hsR : List (Nat × Nat × Nat × Nat)) : Prop := hs.length = hsR.length ∧ ∀ (n : Nat) (q r : Nat × Nat × Nat × Nat), hs[n]? = some q → hsR[n]? = some r → q.1 = r.1 ∧ q.2.1 = r.2.1 ∧ q.2.2.1 = r.2.2.1 ∧ r.2.2.2 ≠ 0 ∧ q.2.2.2 < 3 ∧ Cond.classLink own r.2.2.2 (ex q.2.2.2).1 ∈ Tw
theorem ux_find {e : Env} {s : State} {own : String} {Tw : List Cond} {ex : Nat → String × List String} {f : JFrame} {a : Addr} {cell : Cell} {k tp : Nat} {args : Array Value} (hpl : e.platform.magicAccessors = ({} : Platform).magicAccessors) (hown : s.vm.findClass own = some f.method.cls) (hts : ∀ w ∈ Tw, w.before args s = true)
    (hex : ∀ j, j < 3 → j ≠ k → va_Nc (ex k).1 (ex j).1 s) (hself : s.vm.assignable cell.cls cell.cls = true) (hobj : cell.vm = .none) (hcls : s.vm.findClass (ex k).1 = some cell.cls) : ∀ (hsR hs : List (Nat × Nat × Nat × Nat)), ux_hs ex Tw own hs hsR → ux_hnd hs f.pc k = some tp → ∀ S : State, s.WarmedH S.vm → S.heap[a]? = some cell →
    ∃ vm', s.WarmedH vm' ∧ ∀ (Q : Handler → Pre) (E : CtlPost) (d : Bool) (acts : List Action), Sem.wp (findHandler.go f a (tableOf hsR)) Q E e d acts S ↔ Q (.found tp) d acts (S.setVm vm') := by
  intro hsR
  induction hsR with
  | nil =>
    intro hs hrel hnd
    have : hs = [] := List.eq_nil_of_length_eq_zero hrel.1
    subst this
    cases hnd
  | cons r rs ih =>
    intro hs hrel hnd S hW hS
    cases hs with
    | nil => exact absurd hrel.1 (by simp)
    | cons q qs =>
      have hrel' : ux_hs ex Tw own qs rs := ⟨by simpa using hrel.1, fun n q' r' h1 h2 => hrel.2 (n + 1) q' r' (by simpa using h1) (by simpa using h2)⟩
      obtain ⟨e1, e2, e3, e4, e6, e5⟩ := hrel.2 0 q r rfl rfl
      obtain ⟨qa, qb, qt, qk⟩ := q
      obtain ⟨ra, rb, rt, rk⟩ := r
      simp only at e1 e2 e3 e4 e5 e6
      subst e1; subst e2; subst e3
      show ∃ vm', _ ∧ ∀ (Q : Handler → Pre) (E : CtlPost) (d : Bool) (acts : List Action), Sem.wp (findHandler.go f a (⟨qa, qb, qt, rk⟩ :: tableOf rs)) Q E e d acts S ↔ _
      unfold ux_hnd at hnd
      by_cases hcov : qa ≤ f.pc ∧ f.pc < qb
      · have hx : covers ⟨qa, qb, qt, rk⟩ f.pc = true := by simp [covers, hcov.1, hcov.2]
        obtain ⟨c', hc', hcl⟩ := Cond.classLink_spec hown (hts _ e5) e.platform hpl
        obtain ⟨dk, _, _, kt, hd, _, _, _, _, hkt, _, hopen⟩ := hcl.here
        have hcl₀ := hW.classLinks hcl
        have hW' : s.WarmedH (S.vm.noted f.method.cls rk (.cls c')) := hW.noted hd hopen (State.rightAt_cls hcl)
        have hsz : (S.vm.noted f.method.cls rk (.cls c')).classes.size ≤ S.vm.classes.size := Nat.le_of_eq (Vm.size_noted _ _ _ _)
        obtain ⟨kk0, hkk0⟩ := Vm.classAt_of_findClass hcls
        obtain ⟨ks', hks', -⟩ := hW'.alike.2.2 _ _ hkk0
        obtain ⟨kt', hkt', -⟩ := hW'.alike.2.2 _ _ hkt
        have hgo := fun (Q : Handler → Pre) (E : CtlPost) (d : Bool) (acts : List Action) => ux_go_cold (E := E) (e := e) (d := d) (acts := acts) (s := S) (f := f) (a := a) (Q := Q) (x := ⟨qa, qb, qt, rk⟩) (t := tableOf rs) hx e4 (resolveClass_links e.toSetting hcl₀) hsz hS (fun z hz => by rw [hobj] at hz; cases hz) ⟨ks', hks'⟩ ⟨kt', hkt'⟩
        by_cases hqk : qk = k
        · subst hqk
          rw [if_pos ⟨hcov.1, hcov.2, rfl⟩] at hnd
          cases hnd
          cases hcls.symm.trans hc'
          refine ⟨_, hW', fun Q E d acts => ?_⟩
          rw [hgo, if_pos (by rw [hW'.alike.assignable]; exact hself)]
        · rw [if_neg (fun h => hqk h.2.2)] at hnd
          obtain ⟨c1, t1, g1, g2, g3⟩ := hex qk e6 hqk
          cases hcls.symm.trans g1
          cases hc'.symm.trans g2
          obtain ⟨vm', hv1, hv2⟩ := ih qs hrel' hnd (S.setVm (S.vm.noted f.method.cls rk (.cls c'))) hW' hS
          refine ⟨vm', hv1, fun Q E d acts => ?_⟩
          rw [hgo, if_neg (by rw [hW'.alike.assignable, g3]; decide), hv2]
          rfl
      · rw [if_neg (fun h => hcov ⟨h.1, h.2.1⟩)] at hnd
        have hx : covers ⟨qa, qb, qt, rk⟩ f.pc = false := by
          simp only [covers, Bool.and_eq_false_iff, decide_eq_false_iff_not]
          by_cases h1 : qa ≤ f.pc
          · exact Or.inr fun h2 => hcov ⟨h1, h2⟩
          · exact Or.inl h1
        obtain ⟨vm', hv1, hv2⟩ := ih qs hrel' hnd S hW hS
        refine ⟨vm', hv1, fun Q E d acts => ?_⟩
        rw [W.findHandler_go_skip hx, hv2]
theorem ux_weaken {tb : Tables} {e : Env} {g : Frame} {below : List Frame} {a b : State} (h : Steps tb e (g :: below) a b) : Steps tb e below a b := by
  obtain ⟨n, hn, w⟩ := h
  exact ⟨n, hn, fun k hk => Within.weaken (mid := [g]) (w k hk)⟩
/-- an exception that came out of a callee is caught -/
theorem ux_caught {p : Program} {l : Launch} {e : Env} {R : Room} {s : State} {m : MethodId} {args : Array Value} {below : List Frame} {meth : Method} {c : Code} {T : State} {locs : List Loc} {cells slots : Nat} (X : Stand p l e R s m args below meth c T locs cells slots) {own : String} {Tw : List Cond} {ex : Nat → String × List String} {g : JFrame} {a : Addr} {cell : Cell} {k tp : Nat} {hs hsR : List (Nat × Nat × Nat × Nat)}
    (hg : g.method = m) (hown : s.vm.findClass own = some m.cls) (hts : ∀ w ∈ Tw, w.before args s = true) (hex : ∀ j, j < 3 → j ≠ k → va_Nc (ex k).1 (ex j).1 s) (hself : s.vm.assignable cell.cls cell.cls = true) (hobj : cell.vm = .none) (hcls : s.vm.findClass (ex k).1 = some cell.cls) (hcell : T.heap[a]? = some cell)
    (htab : c.exceptionTable.toList = tableOf hsR) (hrel : ux_hs ex Tw own hs hsR) (hnd : ux_hnd hs g.pc k = some tp) :
    ∃ vm', Stand p l e R s m args below meth c (T.setVm vm') locs cells slots ∧ ∀ target, Steps p.tables e below ((T.setVm vm').setTop { g with pc := tp, stack := [.ref a] }) target → Steps p.tables e below ((T.setTop g).pushFrame (.throwing a)) target := by
  have hpl : e.platform.magicAccessors = ({} : Platform).magicAccessors := by rw [X.admits.platform]
  have hvm0 : ((T.setTop g).pushFrame (.throwing a)).vm = T.vm := Stand.throwing_vm T g a
  have hhp0 : ((T.setTop g).pushFrame (.throwing a)).heap = T.heap := Stand.throwing_heap T g a
  obtain ⟨vm', hW', hfind⟩ := ux_find (e := e) (f := g) (a := a) (cell := cell) hpl (by rw [hg]; exact hown) hts hex hself hobj hcls hsR hs hrel hnd ((T.setTop g).pushFrame (.throwing a)) (by rw [hvm0]; exact X.warmed) (by rw [hhp0]; exact hcell)
  refine ⟨vm', X.noted hW', fun target hrest => ?_⟩
  have h : At T g.method c below := by rw [hg]; exact X.here
  obtain ⟨hgo, hw⟩ := h.throwing a
  refine Steps.head hgo hw ?_
  have hm : ((T.setTop g).pushFrame (.throwing a)).vm.method? g.method = some meth := by rw [hvm0, hg]; exact X.method'
  have hfind2 : ∀ (Q : Handler → Pre) (E : CtlPost) (d : Bool) (acts : List Action), Sem.wp (findHandler g a) Q E e d acts ((T.setTop g).pushFrame (.throwing a)) ↔ Q (.found tp) d acts (((T.setTop g).pushFrame (.throwing a)).setVm vm') := by
    intro Q E d acts
    rw [W.findHandler_eq hm X.code, htab]
    exact hfind Q E d acts
  rw [stepThread_throwing (frames_entered h.top _), (ux_catchStep hfind2).1]
  obtain ⟨g₀, hg0⟩ := Option.isSome_iff_exists.mp h.top
  obtain ⟨r, hr⟩ := State.topJava?_eq_some.mp hg0
  have hr' : (T.setVm vm').frames = .java g₀ :: r := hr
  rw [State.setTop_of_frames _ hr'] at hrest
  have e1 : (((T.setTop g).pushFrame (.throwing a)).setVm vm').setFrames (.java { g with pc := tp, stack := [.ref a] } :: T.frames.tail) = (T.setVm vm').setFrames (.java { g with pc := tp, stack := [.ref a] } :: r) := by
    rw [State.pushFrame, State.setTop_of_frames _ hr, hr]
    show ((((T.setFrames (.java g :: r)).setFrames (.throwing a :: (T.setFrames (.java g :: r)).frames)).setFrames (.java { g with pc := tp, stack := [.ref a] } :: r)).setVm vm') = _
    rw [State.setFrames_setFrames, State.setFrames_setFrames]
    rfl
  rw [e1]
  exact hrest
