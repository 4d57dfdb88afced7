/-! Calls, ends, exceptions. -/
theorem ux_mono {p : Program} {l : Launch} {e : Env} {R : Room} {s : State} {m : MethodId} {args : Array Value} {below : List Frame} {meth : Method} {c : Code} {H : Heap} {locs : List Loc} {cells slots : Nat} {Q Q' : State → Prop} {g : JFrame} (h : W p l e R s m args below meth c H locs cells slots Q g) (k : ∀ t, Q t → Q' t) : W p l e R s m args below meth c H locs cells slots Q' g := by
  intro T hT X
  obtain ⟨t, a, b⟩ := h T hT X
  exact ⟨t, a, k t b⟩
def ux_okW (Tw : List Cond) : Prop := ∀ w ∈ Tw, ∀ (s U : State) (a a' : Array Value), s.WarmedH U.vm → w.before a s = true → w.before a' U = true
theorem ux_K.moved {Tw : List Cond} {aty : Nat → Option FieldType} {D : va_G} {cl : List vw_C} {ca : Nat → ClassId} {s U : State} (hW : ux_okW Tw) (h : ux_K Tw aty D cl ca s) (hw : s.WarmedH U.vm) : ux_K Tw aty D cl ca U :=
  ⟨fun ci q hq => u_Kn_moved hw.alike (h.1 ci q hq), fun t y hy => ⟨arrOfT_moved hw.alike (h.2.1 t y hy).1, (h.2.1 t y hy).2.moved hw.alike⟩, fun w hwm a => hW w hwm s U a a hw (h.2.2 w hwm a)⟩
theorem ux_R.moved {aty : Nat → Option FieldType} {D : va_G} {cl : List vw_C} {ca : Nat → ClassId} {b n0 : Nat} {sc : List Int32} {zs : List (String × String × String)} {s U : State} {hh : ux_H} {H : Heap} (h : ux_R aty D cl ca b n0 sc zs s hh H) (hvm : s.vm.Alike U.vm) : ux_R aty D cl ca b n0 sc zs U hh H :=
  ⟨h.1, h.2.1, h.2.2.1, h.2.2.2.1.moved hvm, fun z hz => (h.2.2.2.2 z hz).moved hvm⟩
theorem ux_R.like {aty : Nat → Option FieldType} {D : va_G} {cl : List vw_C} {ca : Nat → ClassId} {b n0 : Nat} {sc : List Int32} {zs : List (String × String × String)} {s : State} {hh hh2 : ux_H} {H : Heap} (h : ux_R aty D cl ca b n0 sc zs s hh H) (h1 : hh2.1 = hh.1) (h2 : hh2.2.1 = hh.2.1) : ux_R aty D cl ca b n0 sc zs s hh2 H :=
  ⟨h.1, by rw [h.2.1]; simp [ux_nc, h1, h2], by rw [h1]; exact h.2.2.1, h.2.2.2⟩
def ux_out (b n0 : Nat) (ex : Nat → String × List String) (s : State) (o : ux_O) (oc : Outcome) (H : Heap) : Prop := match o with
  | .inr v => oc = .returned (v.map (ux_tr b n0))
  | .inl k => k < 3 ∧ ∃ (a : Addr) (cell : Cell), oc = .threw a ∧ H[a]? = some cell ∧ cell.vm = .none ∧ s.vm.findClass (ex k).1 = some cell.cls ∧ s.vm.assignable cell.cls cell.cls = true
/-- the end of a frame, as the evaluator says it -/
def ux_Q (aty : Nat → Option FieldType) (D : va_G) (cl : List vw_C) (ca : Nat → ClassId) (b n0 : Nat) (sc : List Int32) (zs : List (String × String × String)) (ex : Nat → String × List String) (s : State) (below : List Frame) (nc0 ns0 : Nat) (o : ux_O) (hh : ux_H) : State → Prop := fun t =>
  ∃ (oc : Outcome) (L : List Loc) (C S : Nat), t.status = .running ∧ Ended t below oc ∧ s.WarmedH t.vm ∧ s.sameButNew ({ t with vm := s.vm } : State) L C S ∧ C + nc0 = ux_nc hh ∧ S + ns0 = ux_ns hh ∧ (∀ x ∈ L, n0 ≤ x.base) ∧ (hh.2.2.2 = false → L = [] ∧ t.heap = s.heap ∧ C = 0 ∧ S = 0) ∧ ux_R aty D cl ca b n0 sc zs s hh t.heap ∧ ux_out b n0 ex s o oc t.heap
def ux_okR (P : ux_P) (M : ux_M) : Prop := ∀ i, ((P.2.2.2.2.2.2 i).2.1 = 0 ∨ (P.2.2.2.2.2.2 i).2.1 = 4 → (M i).2.2.1 = none) ∧ ((P.2.2.2.2.2.2 i).2.1 = 1 → (M i).2.2.1 = some .int) ∧ ((P.2.2.2.2.2.2 i).2.1 = 2 → (M i).2.2.1 = some .boolean) ∧ ((P.2.2.2.2.2.2 i).2.1 = 3 → ∃ C, (M i).2.2.1 = some (.object C))
section UXE
variable {p : Program} {l : Launch} {e : Env} {R : Room} {s : State} {m : MethodId} {args : Array Value} {below : List Frame} {meth : Method} {c : Code} {H : Heap} {locs : List Loc} {cells slots : Nat} {Q : State → Prop} {b n0 nL pc : Nat} {ls st : List Value}
variable {Tw : List Cond} {aty : Nat → Option FieldType} {D : va_G} {cl : List vw_C} {ca : Nat → ClassId} {sc : List Int32} {zs : List (String × String × String)} {ex : Nat → String × List String} {hh hh' : ux_H} {ty : Nat → Nat → FieldType} {P : ux_P} {M : ux_M} {i : Nat}
set_option maxHeartbeats 4000000 in
theorem ux_retW (hok : ux_okR P M) (hx : p.tables.exec = Jvm.exec) (hb : c.code = (M i).2.1) (hr : meth.sig.returnType = (M i).2.2.1) (hlk : meth.locks = false) {ins : Instr} {len : Nat} (hd : decode (M i).2.1 pc = .ok (ins, len)) (hl : ux_lok ins len = true) {v : Option Value} (h : ux_ret (P.2.2.2.2.2.2 i).2.1 ins st = some v)
    (hR : ux_R aty D cl ca b n0 sc zs s hh H) (hloc : ∀ x ∈ locs, n0 ≤ x.base) {nc0 ns0 : Nat} (hc0 : cells + nc0 = ux_nc hh) (hs0 : slots + ns0 = ux_ns hh) (hw : hh.2.2.2 = false → locs = [] ∧ H = s.heap ∧ cells = 0 ∧ slots = 0) :
    ux_V p l e R s m args below meth c H locs cells slots (ux_Q aty D cl ca b n0 sc zs ex s below nc0 ns0 (.inr v) hh) b n0 nL pc ls st := by
  have key : ∀ t : State, MQ below (fun _ _ o t => o = .returned (v.map (ux_tr b n0)) ∧ t.heap = H) args s cells slots (fun q => ∃ x ∈ locs, x.base = q) t → ux_Q aty D cl ca b n0 sc zs ex s below nc0 ns0 (.inr v) hh t := by
    rintro t ⟨o, h1, h2, ⟨rfl, h4⟩, L, ⟨-, h5, h6⟩, h7⟩
    refine ⟨_, L, cells, slots, h1, h2, h5, h6, hc0, hs0, fun x hx => ?_, fun hf => ?_, by rw [h4]; exact hR, rfl⟩
    · obtain ⟨y, hy, hyx⟩ := h7 x hx
      rw [← hyx]; exact hloc y hy
    · obtain ⟨g1, g2, g3, g4⟩ := hw hf
      refine ⟨List.eq_nil_iff_forall_not_mem.mpr fun x hx => ?_, by rw [h4, g2], g3, g4⟩
      obtain ⟨y, hy, -⟩ := h7 x hx
      rw [g1] at hy
      cases hy
  have hf : ∀ q ∈ locs, ∃ x ∈ locs, x.base = q.base := fun q hq => ⟨q, hq, rfl⟩
  unfold ux_ret at h
  split at h
  · obtain rfl : len = 1 := by simpa [ux_lok] using hl
    split at h
    · rename_i x
      split at h
      · rename_i hk
        cases h
        intro lsR hL
        rcases hk with hk | ⟨hk, hx01⟩
        · exact ux_mono (W.zret (ty := .int) hx hb (hr.trans ((hok i).2.1 hk)) rfl (fun t ht _ => ⟨rfl, ht⟩) hf hd hlk) key
        · exact ux_mono (W.zret (ty := .boolean) hx hb (hr.trans ((hok i).2.2.1 hk)) (by rcases hx01 with rfl | rfl <;> rfl) (fun t ht _ => ⟨rfl, ht⟩) hf hd hlk) key
      · cases h
    · cases h
  · obtain rfl : len = 1 := by simpa [ux_lok] using hl
    split at h
    · split at h
      · rename_i hk
        cases h
        intro lsR hL
        obtain ⟨C, hC⟩ := (hok i).2.2.2 hk
        exact ux_mono (W.aret (rt := .object C) hx hb (hr.trans hC) (Or.inl ⟨C, rfl⟩) (Or.inr ⟨_, rfl⟩) (fun t ht _ => ⟨rfl, ht⟩) hf hd hlk) key
      · cases h
    · cases h
  · obtain rfl : len = 1 := by simpa [ux_lok] using hl
    split at h
    · split at h
      · rename_i hk
        cases h
        intro lsR hL
        exact ux_mono (W.vret hx hb (hr.trans ((hok i).1 hk)) (fun t ht _ => ⟨rfl, ht⟩) hf hd hlk) key
      · cases h
    · cases h
  · cases h
end UXE
/-! 'throw new X()' in a frame that has written nothing -/
theorem ux_same0 {s s' : State} {C S : Nat} (h : s.sameButNew s' [] C S) : ∀ q : Nat, q < s.heap.size → s'.heap[q]? = s.heap[q]? := by
  intro q hq
  obtain ⟨-, -, -, -, -, h6⟩ := h
  have hc : s.heap[q]? = some s.heap[q] := Array.getElem?_eq_getElem hq
  obtain ⟨c', h1, h2, h3, h4⟩ := h6 q _ hc
  rw [h1, hc]
  have hs : c'.slots = (s.heap[q]).slots := by
    apply Array.ext_getElem?
    intro i
    exact h4 i (by simp)
  rw [h2, hs]
theorem ux_isref {args : Array Value} {s : State} {n0 : Nat} {z : String × String × String} (h : ux_Zs n0 z s s.heap) : (Cond.isRef (.static z.1 z.2.1 z.2.2)).before args s = true ∧ (Cond.laysStatic z.1 z.2.1 z.2.2).before args s = true := by
  obtain ⟨c, k, i, f, a, cell, v, h1, h2, h3, h4, h5, h6, h7, h8, h9, h10, h11, h12⟩ := h
  refine ⟨?_, ?_⟩
  · rcases h12 with rfl | ⟨t, rfl⟩
    · simp [Cond.before, Cond.holds, Cond.value, Term.eval, State.fieldNamed?, h2, h3, h4, h5, h6, h11]
    · simp [Cond.before, Cond.holds, Cond.value, Term.eval, State.fieldNamed?, h2, h3, h4, h5, h6, h11]
  · simp [Cond.before, Cond.holds, Cond.value, h1, h2, h3, h4, h5, h6, h7, h8, h9]
def ux_okT (P : ux_P) (M : ux_M) (Tw : List Cond) (zs : List (String × String × String)) (ex : Nat → String × List String) : Prop := ∀ (i k k2 x : Nat), P.2.2.2.1 i k = some (1000 + x) → P.2.2.1 i k2 = some (9, 1000 + x, 0) →
  x < 3 ∧ Cond.classLink (M i).1.cls k (ex x).1 ∈ Tw ∧ Cond.initialized (ex x).1 ∈ Tw ∧ Bundle.fit (ex x).1 = true ∧ (∀ n ∈ (ex x).2, Bundle.fit n = true) ∧ (ex x).2.length ≤ 2 ∧
  (∀ w ∈ Bundle.ownAtoms0 (M i).1.cls k2 (ex x).1 (ex x).2, w ∈ Tw ∨ ∃ z ∈ zs, w = .isRef (.static z.1 z.2.1 z.2.2) ∨ w = .laysStatic z.1 z.2.1 z.2.2)
def ux_okH (P : ux_P) (M : ux_M) : Prop := ∀ i, (P.2.2.2.2.2.2 i).2.2 = [] → (M i).2.2.2 = []
section UXT
variable {p : Program} {l : Launch} {e : Env} {R : Room} {s : State} {m : MethodId} {args : Array Value} {below : List Frame} {meth : Method} {c : Code} {H : Heap} {locs : List Loc} {cells slots : Nat} {Q : State → Prop} {b n0 nL pc : Nat} {ls st : List Value}
variable {Tw : List Cond} {aty : Nat → Option FieldType} {D : va_G} {cl : List vw_C} {ca : Nat → ClassId} {sc : List Int32} {zs : List (String × String × String)} {ex : Nat → String × List String} {hh hh' : ux_H} {ty : Nat → Nat → FieldType} {P : ux_P} {M : ux_M} {i : Nat}
set_option maxHeartbeats 4000000 in
theorem ux_thrW (hI : ux_okI P M) (hT : ux_okT P M Tw zs ex) (hH : ux_okH P M) (hx : p.tables.exec = Jvm.exec) (hb : c.code = (M i).2.1) (hown : s.vm.findClass (M i).1.cls = some m.cls) (hml : c.maxLocals = nL) (htab : c.exceptionTable.toList = tableOf (M i).2.2.2) (hlk : meth.locks = false) (htr : l.stackTraces = false) (hK : ux_K Tw aty D cl ca s) {ins : Instr} {len : Nat} (hd : decode (M i).2.1 pc = .ok (ins, len)) (hl : ux_lok ins len = true) {k : Nat} (h : ux_thr P i pc ins st hh = some k)
    (hR : ux_R aty D cl ca b n0 sc zs s hh H) {nc0 ns0 : Nat} (hc0 : cells + nc0 = ux_nc hh) (hs0 : slots + ns0 = ux_ns hh) (hcR : ux_nc hh + 1 ≤ nc0 + R.cells) (hsR : ux_ns hh + 6 ≤ ns0 + R.slots) (hfr : 8 ≤ R.frames) (hlo : 200 ≤ R.locals) (hw : hh.2.2.2 = false → locs = [] ∧ H = s.heap ∧ cells = 0 ∧ slots = 0) :
    ux_V p l e R s m args below meth c H locs cells slots (ux_Q aty D cl ca b n0 sc zs ex s below nc0 ns0 (.inl k) (hh.1, hh.2.1 + 1, hh.2.2.1 + 6, true)) b n0 nL pc ls st := by
  unfold ux_thr at h
  split at h
  · rename_i k1
    obtain rfl : len = 3 := by simpa [ux_lok] using hl
    split at h
    · rename_i q k2 hq h3 h4 h7
      split at h
      · rename_i hcond
        obtain ⟨hq1, hq2, rfl, hq4, hq5⟩ := hcond
        have hkq := Option.some.inj h
        obtain ⟨x, rfl⟩ : ∃ x, q = 1000 + x := ⟨q - 1000, by omega⟩
        obtain rfl : x = k := by omega
        obtain ⟨w0, w1, w2, w3, w4, w5, w6⟩ := hT _ _ _ _ hq hq2
        obtain ⟨rfl, rfl, rfl, rfl⟩ := hw hq4
        have hts : ∀ w ∈ Tw, w.before args s = true := fun w hw => hK.2.2 w hw args
        have hat : ∀ w ∈ Bundle.ownAtoms0 (M i).1.cls k2 (ex x).1 (ex x).2, w.before args s = true := by
          intro w hw
          rcases w6 w hw with h1 | ⟨z, hz, rfl | rfl⟩
          · exact hts w h1
          · exact (ux_isref (hR.2.2.2.2 z hz)).1
          · exact (ux_isref (hR.2.2.2.2 z hz)).2
        have hins : (Cond.instantiable (ex x).1 6).before args s = true := hat _ (by simp [Bundle.ownAtoms0])
        obtain ⟨cX, kX0, hfX, -⟩ := Cond.instantiable_spec hins
        have hnt : c.exceptionTable.toList = [] := by rw [htab, hH i hq5]; rfl
        intro lsR hL
        refine W.newcK hx hb hown (hts _ w1) hins (hts _ w2) rfl hd (by simp [ux_nc] at hc0 hcR; omega) (by simp [ux_ns] at hs0 hsR; omega) hfX rfl fun H1 kX hkX e1 z1 o1 => ?_
        refine lv_dup hx hb (hI _ _ _ _ h3).1 rfl ?_
        intro T hT2 X
        have hcell : T.heap[s.heap.size]? = some (freshCell cX kX) := by rw [hT2]; exact e1
        obtain ⟨U, g1, g2, g3, g4, g5, ce, g6, g7⟩ := X.ctorThrow0 hx (by have hq9 := X.admits.2.2.2.2.1; rw [hq9]; exact htr) (own := (M i).1.cls) (cls := (ex x).1) (names := (ex x).2) (ic := k2) hown w3 w4 hat (fun y hy => by cases hy) hfX hkX hcell (Nat.le_refl _)
          (g := F0 m (pc + 3 + 1) lsR [.ref s.heap.size, .ref s.heap.size]) rfl (by rw [hml]; exact hL.2.2.1) rfl rfl (rest := []) rfl (by rw [hb]; exact (hI _ _ _ _ h4).1) (by rw [hb]; exact (hI _ _ _ _ h7).1) (fun y hy => by rw [hnt] at hy; cases hy) (by omega) (by show 2 * 0 + 1 + (13 * ((ex x).2.length + 1) + 41) ≤ R.locals; omega) hlk
        refine ⟨U, g1, .threw s.heap.size, [], _, _, g2, g3, g4, g5, ?_, ?_, (fun y hy => by cases hy), (fun hf => by cases hf), ?_, ⟨w0, _, ce, rfl, g6, g7.vm, g7.cls, g7.self⟩⟩
        · simp [ux_nc] at hc0 ⊢; omega
        · simp [ux_ns] at hs0 ⊢; omega
        · have hsame : ∀ q : Nat, q < s.heap.size → U.heap[q]? = s.heap[q]? := fun q hq => ux_same0 g5 q hq
          have hz2 : U.heap.size = s.heap.size + 1 := by
            have h1 : U.heap.size ≤ s.heap.size + (0 + 1) := g5.2.2.1
            have h2 := (Array.getElem?_eq_some_iff.mp g6).1
            omega
          obtain ⟨r1, r2, r3, r4, r5⟩ := hR
          refine ⟨r1, ?_, fun j d hj => ?_, r4.kept (hsame b (by omega)), fun z hz => (r5 z hz).kept fun q hq => hsame q (by omega)⟩
          · rw [hz2, r2]; simp [ux_nc]; omega
          · have hlt : j < hh.1.length := (List.getElem?_eq_some_iff.mp hj).1
            exact (r3 j d hj).kept (hsame _ (by rw [r2]; simp [ux_nc]; omega))
      · cases h
    · cases h
  · cases h
end UXT
