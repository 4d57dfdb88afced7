/-! Memory: the evaluator's cells beside the machine's heap. -/
def ux_nc (h : ux_H) : Nat := h.1.length + h.2.1
def ux_ns (h : ux_H) : Nat := h.2.2.1
def ux_sz (c : ux_C) : Nat := if c.1 < 102 then c.2.1.length else c.2.2.length
def ux_val (b n0 : Nat) (c : ux_C) (j : Nat) : Value := if c.1 < 102 then .int (c.2.1.getD j 0) else ux_tr b n0 (c.2.2.getD j .null)
def ux_at (aty : Nat → Option FieldType) (D : va_G) (cl : List vw_C) (ca : Nat → ClassId) (b n0 a : Nat) (c : ux_C) (H : Heap) : Prop :=
  (c.1 < 100 ∧ ∃ r : vw_C, cl[c.1]? = some r ∧ t_OB a (D.1 c.1) r.2.2 (D.2 c.1) H (fun j => ux_tr b n0 (vp_V c.2.2 j))) ∨
  (100 ≤ c.1 ∧ (∃ ty : FieldType, aty c.1 = some ty) ∧ H[a]? = some (arrV (ca c.1) (ux_sz c) (ux_val b n0 c)))
theorem ux_at.kept {aty : Nat → Option FieldType} {D : va_G} {cl : List vw_C} {ca : Nat → ClassId} {b n0 a : Nat} {c : ux_C} {H H1 : Heap} (h : ux_at aty D cl ca b n0 a c H) (he : H1[a]? = H[a]?) : ux_at aty D cl ca b n0 a c H1 := by
  rcases h with ⟨h1, r, h2, h3⟩ | ⟨h1, h2, h3⟩
  · exact Or.inl ⟨h1, r, h2, h3.kept he⟩
  · exact Or.inr ⟨h1, h2, by rw [he]; exact h3⟩
theorem ux_at.obj {aty : Nat → Option FieldType} {D : va_G} {cl : List vw_C} {ca : Nat → ClassId} {b n0 a : Nat} {c : ux_C} {H : Heap} (h : ux_at aty D cl ca b n0 a c H) (hc : c.1 < 100) : ∃ r : vw_C, cl[c.1]? = some r ∧ t_OB a (D.1 c.1) r.2.2 (D.2 c.1) H (fun j => ux_tr b n0 (vp_V c.2.2 j)) := by
  rcases h with ⟨_, h⟩ | ⟨h, _⟩
  · exact h
  · omega
theorem ux_at.arr {aty : Nat → Option FieldType} {D : va_G} {cl : List vw_C} {ca : Nat → ClassId} {b n0 a : Nat} {c : ux_C} {H : Heap} (h : ux_at aty D cl ca b n0 a c H) (hc : 100 ≤ c.1) : (∃ ty : FieldType, aty c.1 = some ty) ∧ H[a]? = some (arrV (ca c.1) (ux_sz c) (ux_val b n0 c)) := by
  rcases h with ⟨h, _⟩ | ⟨_, h⟩
  · omega
  · exact h
def ux_Zs (n0 : Nat) (z : String × String × String) (s : State) (H : Heap) : Prop := ∃ (c : ClassId) (k : Class) (i : Nat) (f : Field) (a : Nat) (cell : Cell) (v : Value), s.vm.findClass z.1 = some c ∧ s.fieldFound? z.1 z.2.1 z.2.2 = some (c, k, i, f) ∧ f.isStatic = true ∧ k.statics = some a ∧ H[a]? = some cell ∧ cell.vm.isStatics = true ∧ cell.cls = c ∧ f.slot < cell.slots.size ∧ k.staticTypes[f.slot]? = some f.type ∧ a < n0 ∧ cell.slots[f.slot]? = some v ∧ (v = .null ∨ ∃ t, v = .ref t)
theorem ux_Zs.moved {n0 : Nat} {z : String × String × String} {s U : State} {H : Heap} (hvm : s.vm.Alike U.vm) (h : ux_Zs n0 z s H) : ux_Zs n0 z U H := by
  obtain ⟨c, k, i, f, a, cell, v, h1, h2, h3, h4, h5, h6, h7, h8, h9, h10⟩ := h
  obtain ⟨k', hi', he⟩ := State.fieldFound?_setVm hvm h2
  exact ⟨c, k', i, f, a, cell, v, by rw [hvm.findClass]; exact h1, hi', h3, by rw [he]; exact h4, h5, h6, h7, h8, by rw [he]; exact h9, h10⟩
theorem ux_Zs.kept {n0 : Nat} {z : String × String × String} {s : State} {H H1 : Heap} (h : ux_Zs n0 z s H) (hq : ∀ q, q < n0 → H1[q]? = H[q]?) : ux_Zs n0 z s H1 := by
  obtain ⟨c, k, i, f, a, cell, v, h1, h2, h3, h4, h5, h6, h7, h8, h9, h10, h11⟩ := h
  exact ⟨c, k, i, f, a, cell, v, h1, h2, h3, h4, by rw [hq a h10]; exact h5, h6, h7, h8, h9, h10, h11⟩
def ux_R (aty : Nat → Option FieldType) (D : va_G) (cl : List vw_C) (ca : Nat → ClassId) (b n0 : Nat) (sc : List Int32) (zs : List (String × String × String)) (s : State) (h : ux_H) (H : Heap) : Prop :=
  b < n0 ∧ H.size = n0 + ux_nc h ∧ (∀ (k : Nat) (c : ux_C), h.1[k]? = some c → ux_at aty D cl ca b n0 (n0 + k) c H) ∧ va_X b sc.length (fun j => sc.getD j 0) s H ∧ ∀ z ∈ zs, ux_Zs n0 z s H
theorem ux_ad_succ (b n0 k : Nat) : ux_ad b n0 (k + 1) = n0 + k := by simp [ux_ad]
theorem ux_nin {j : Int32} {n : Nat} (hj : ¬ j < 0) (h : j.toNatClampNeg < n) : ¬ (j < 0 ∨ n ≤ j.toNatClampNeg) := fun h' => h'.elim hj (fun h2 => absurd h (Nat.not_lt.mpr h2))
section UXR
variable {aty : Nat → Option FieldType} {D : va_G} {cl : List vw_C} {ca : Nat → ClassId} {b n0 : Nat} {sc : List Int32} {zs : List (String × String × String)} {s : State} {hh : ux_H} {H : Heap}
theorem ux_cell_some {a : Nat} {c : ux_C} (h : ux_cell hh a = some c) : ∃ k, a = k + 1 ∧ hh.1[k]? = some c := by
  cases a with
  | zero => cases h
  | succ k => exact ⟨k, rfl, h⟩
theorem ux_R.cell (hR : ux_R aty D cl ca b n0 sc zs s hh H) {a : Nat} {c : ux_C} (h : ux_cell hh a = some c) : ux_at aty D cl ca b n0 (ux_ad b n0 a) c H := by
  obtain ⟨k, rfl, hk⟩ := ux_cell_some h
  rw [ux_ad_succ]
  exact hR.2.2.1 k c hk
theorem ux_R.set (hR : ux_R aty D cl ca b n0 sc zs s hh H) {a : Nat} {c c' : ux_C} (h : ux_cell hh a = some c) {H1 : Heap} (hz : H1.size = H.size) (ho : ∀ q, q ≠ ux_ad b n0 a → H1[q]? = H[q]?) (hat : ux_at aty D cl ca b n0 (ux_ad b n0 a) c' H1) : ux_R aty D cl ca b n0 sc zs s (ux_set hh a c') H1 := by
  obtain ⟨k, rfl, hk⟩ := ux_cell_some h
  rw [ux_ad_succ] at ho hat
  obtain ⟨h1, h2, h3, h4, h5⟩ := hR
  refine ⟨h1, ?_, fun j d hj => ?_, h4.kept (ho b (by omega)), fun z hzm => (h5 z hzm).kept fun q hq => ho q (by omega)⟩
  · rw [hz, h2]; simp [ux_nc, ux_set]
  · have hj' : (hh.1.set k c')[j]? = some d := hj
    by_cases hjk : j = k
    · subst hjk
      rw [List.getElem?_set_self (List.getElem?_eq_some_iff.mp hk).1] at hj'
      cases hj'
      exact hat
    · rw [List.getElem?_set_ne (Ne.symm hjk)] at hj'
      exact (h3 j d hj').kept (ho _ (by omega))
theorem ux_R.push (hR : ux_R aty D cl ca b n0 sc zs s hh H) (hx : hh.2.1 = 0) {c : ux_C} {n : Nat} {H1 : Heap} (hz : H1.size = H.size + 1) (ho : ∀ q, q < H.size → H1[q]? = H[q]?) (hat : ux_at aty D cl ca b n0 H.size c H1) : ux_R aty D cl ca b n0 sc zs s (ux_new hh c n) H1 := by
  obtain ⟨h1, h2, h3, h4, h5⟩ := hR
  have hn : ux_nc hh = hh.1.length := by simp [ux_nc, hx]
  refine ⟨h1, ?_, fun j d hj => ?_, h4.kept (ho b (by omega)), fun z hzm => (h5 z hzm).kept fun q hq => ho q (by omega)⟩
  · rw [hz, h2]; simp [ux_nc, ux_new]; omega
  · have hj' : (hh.1 ++ [c])[j]? = some d := hj
    by_cases hjk : j < hh.1.length
    · rw [List.getElem?_append_left hjk] at hj'
      exact (h3 j d hj').kept (ho _ (by omega))
    · rw [List.getElem?_append_right (by omega)] at hj'
      have hz2 : j - hh.1.length < 1 := (List.getElem?_eq_some_iff.mp hj').1
      rw [show j - hh.1.length = 0 by omega] at hj'
      cases hj'
      rw [show n0 + j = H.size by omega]
      exact hat
theorem ux_R.ref (hR : ux_R aty D cl ca b n0 sc zs s hh H) (hx : hh.2.1 = 0) : ux_ad b n0 (hh.1.length + 1) = H.size := by
  rw [ux_ad_succ, hR.2.1]; simp [ux_nc, hx]
theorem ux_arr_eq {cA : ClassId} {n : Nat} {f g : Nat → Value} (h : ∀ j, j < n → f j = g j) : arrV cA n f = arrV cA n g := by
  unfold arrV
  congr 1
  apply Array.ext
  · simp
  · intro j h1 h2
    simp only [Array.getElem_ofFn]
    exact h j (by simpa using h1)
end UXR
/-! what the tables must say; what is known of a frame's method -/
abbrev ux_M : Type := Nat → MethodName × ByteArray × Option FieldType × List (Nat × Nat × Nat × Nat)
def ux_okI (P : ux_P) (M : ux_M) : Prop := ∀ (i pc : Nat) (ins : Instr) (len : Nat), P.1 i pc = some (ins, len) → decode (M i).2.1 pc = .ok (ins, len) ∧ ux_lok ins len = true
def ux_okC (Tw : List Cond) (cl : List vw_C) (ty : Nat → Nat → FieldType) : Prop := ∀ (ci : Nat) (q : vw_C), cl[ci]? = some q → (∀ w ∈ u_ws q.1 q.2.1 q.2.2, w ∈ Tw) ∧ (∀ k, k < q.2.2 → parseFieldDescriptor (q.2.1 k).2.2.1 = some (ty ci k)) ∧ ∀ a, a < q.2.2 → ∀ b, b < q.2.2 → a ≠ b → (q.2.1 a).2.1 ≠ (q.2.1 b).2.1
def ux_okF (P : ux_P) (M : ux_M) (Tw : List Cond) (cl : List vw_C) (ty : Nat → Nat → FieldType) : Prop := ∀ (i k ci j : Nat) (q : Bool), P.2.1 i k = some (ci, j, q) → ∃ r : vw_C, cl[ci]? = some r ∧ j < r.2.2 ∧ (r.2.1 j).1 = r.1 ∧ Cond.fieldLink (M i).1.cls k r.1 (r.2.1 j).2.1 (r.2.1 j).2.2.1 ∈ Tw ∧ (q = false → ty ci j = .int) ∧ (q = true → (ty ci j).isReference = true) ∧ (P.2.2.2.1 i (200000 + k) = some 2000 → (r.2.1 j).2.2.2 = false) ∧ (P.2.2.2.1 i (200000 + k) = some 2001 → (P.2.2.2.2.2.2 i).2.1 = 4 → (M i).1.name = "<init>" ∧ r.1 = (M i).1.cls) ∧ ci < 100
def ux_okN (P : ux_P) (M : ux_M) (Tw : List Cond) (cl : List vw_C) (ty : Nat → Nat → FieldType) : Prop := ∀ (i k ci : Nat), P.2.2.2.1 i k = some ci → ci < 100 → ∃ r : vw_C, cl[ci]? = some r ∧ Cond.classLink (M i).1.cls k r.1 ∈ Tw ∧ Cond.instantiable r.1 r.2.2 ∈ Tw ∧ Cond.initialized r.1 ∈ Tw ∧ (P.2.2.2.2.1 ci).length = r.2.2 ∧ ∀ j, j < r.2.2 → (P.2.2.2.2.1 ci)[j]? = some (defaultValue (ty ci j))
def ux_okA (P : ux_P) (M : ux_M) (Tw : List Cond) (cl : List vw_C) (aty : Nat → Option FieldType) : Prop :=
  (aty 100 = some .int ∧ aty 101 = some .boolean ∧ aty 102 = some .long) ∧ (Cond.arrayClass .int ∈ Tw ∧ Cond.arrayClass .boolean ∈ Tw ∧ Cond.arrayClass .long ∈ Tw) ∧
  (∀ (t : Nat) (y : FieldType), 102 < t → aty t = some y → ∃ (C : String) (r : vw_C), y = .object C ∧ cl[P.2.2.2.2.2.1 t]? = some r ∧ r.1 = C) ∧
  ∀ (i k t : Nat), P.2.2.2.1 i (100000 + k) = some t → 102 < t → t < 1000 → ∃ C : String, aty t = some (.object C) ∧ Cond.classLink (M i).1.cls k C ∈ Tw ∧ Cond.arrayOver (.object C) ∈ Tw
def ux_okL (P : ux_P) (M : ux_M) (Tw : List Cond) : Prop := ∀ (i k q j n : Nat), P.2.2.1 i k = some (q, j, n) →
  (q = 6 → Cond.methodLink (M i).1.cls k Lib.objectInit ∈ Tw ∧ Cond.instanceMethod Lib.objectInit ∈ Tw ∧ Cond.code Lib.objectInit ⟨#[0xb1]⟩ 1 none ∈ Tw) ∧
  (q = 7 → Cond.methodLink (M i).1.cls k Lib.Math.max.name ∈ Tw ∧ Cond.static Lib.Math.max.name ∈ Tw ∧ Cond.initialized "java/lang/Math" ∈ Tw ∧ Cond.code Lib.Math.max.name Lib.Math.max.code 2 (some .int) ∈ Tw) ∧
  (q = 8 → Cond.methodLink (M i).1.cls k Lib.Math.min.name ∈ Tw ∧ Cond.static Lib.Math.min.name ∈ Tw ∧ Cond.initialized "java/lang/Math" ∈ Tw ∧ Cond.code Lib.Math.min.name Lib.Math.min.code 2 (some .int) ∈ Tw)
def ux_K (Tw : List Cond) (aty : Nat → Option FieldType) (D : va_G) (cl : List vw_C) (ca : Nat → ClassId) (s : State) : Prop :=
  (∀ (ci : Nat) (q : vw_C), cl[ci]? = some q → u_Kn s q.1 q.2.1 q.2.2 (D.1 ci) (D.2 ci)) ∧ (∀ (t : Nat) (y : FieldType), aty t = some y → ArrOfT s (ca t) y ∧ va_RA s (ca t) y) ∧ ∀ w ∈ Tw, ∀ a : Array Value, w.before a s = true
theorem ux_isr_int {v : Value} (h : ux_isr v = some false) : ∃ x, v = .int x := by cases v <;> simp [ux_isr] at h; exact ⟨_, rfl⟩
theorem ux_isr_ref {v : Value} (h : ux_isr v = some true) : ∃ x, v = .ref x := by cases v <;> simp [ux_isr] at h; exact ⟨_, rfl⟩
theorem ux_fit_ref {y : FieldType} (h : y.isReference = true) (a : Nat) : narrow y (.ref a) = .ref a ∧ fits y (.ref a) = true := by cases y <;> simp [FieldType.isReference, narrow, fits] at h ⊢
theorem ux_tr_dflt (b n0 : Nat) (y : FieldType) : ux_tr b n0 (defaultValue y) = defaultValue y := by cases y <;> rfl
theorem ux_updV {b n0 : Nat} {vs : List Value} {k : Nat} (hk : k < vs.length) (v : Value) (j : Nat) : updV (fun j => ux_tr b n0 (vp_V vs j)) k (ux_tr b n0 v) j = ux_tr b n0 (vp_V (vs.set k v) j) := by
  rw [← vp_updV_set hk v j]
  unfold updV
  split <;> rfl
section UXM
variable {p : Program} {l : Launch} {e : Env} {R : Room} {s : State} {m : MethodId} {args : Array Value} {below : List Frame} {meth : Method} {c : Code} {H : Heap} {locs : List Loc} {cells slots : Nat} {Q : State → Prop} {cc : ByteArray} {b n0 nL pc : Nat} {ls rest : List Value} {lsR : Array Slot}
variable {Tw : List Cond} {aty : Nat → Option FieldType} {D : va_G} {cl : List vw_C} {ca : Nat → ClassId} {sc : List Int32} {zs : List (String × String × String)} {hh : ux_H} {ty : Nat → Nat → FieldType} {own : String}
theorem ux_getW (hx : p.tables.exec = Jvm.exec) (hb : c.code = cc) (hown : s.vm.findClass own = some m.cls) (hK : ux_K Tw aty D cl ca s) (hC : ux_okC Tw cl ty) (hR : ux_R aty D cl ca b n0 sc zs s hh H) {k ci j a : Nat} {r : vw_C} (hr : cl[ci]? = some r) (hj : j < r.2.2) (ho : (r.2.1 j).1 = r.1) (hlk : Cond.fieldLink own k r.1 (r.2.1 j).2.1 (r.2.1 j).2.2.1 ∈ Tw) (hci : ci < 100)
    {v : Value} (hg : ux_get hh a ci j = some v) (hdg : decode cc pc = .ok (.getfield k, 3)) (kk : W p l e R s m args below meth c H locs cells slots Q (F0 m (pc + 3) lsR (ux_tr b n0 v :: rest))) : W p l e R s m args below meth c H locs cells slots Q (F0 m pc lsR (.ref (ux_ad b n0 a) :: rest)) := by
  unfold ux_get at hg
  split at hg
  · rename_i t is vs hcell
    split at hg
    · rename_i ht
      subst ht
      obtain ⟨r', h1, cell, q1, q2, q3, q4⟩ := (hR.cell hcell).obj hci
      cases hr.symm.trans h1
      obtain ⟨hin, hty, hnm⟩ := hC _ _ hr
      obtain ⟨hS, hfc, kC, hkC, hkind⟩ := hK.1 _ _ hr
      obtain ⟨cf, kf, fi, f, hi, hsl⟩ := hS j hj
      rw [ho] at hi
      have hts : ∀ w ∈ Tw, w.before args s = true := fun w hw => hK.2.2 w hw args
      have hf := (u_facts hfc hkC (u_lays hts hin hj) (by rw [ho]; exact hi)).1
      refine W.getf hx hb hown (hts _ hlk) hi hf q1 (by rw [q3]; exact fun h => by cases h) (v := ux_tr b n0 v) ?_ rfl rfl hdg kk
      rw [hsl, q4 j hj]
      simp [vp_V, hg]
    · cases hg
  · cases hg
theorem ux_putW (hx : p.tables.exec = Jvm.exec) (hb : c.code = cc) (hown : s.vm.findClass own = some m.cls) {nm : String} (hnme : meth.name = nm) (hK : ux_K Tw aty D cl ca s) (hC : ux_okC Tw cl ty) (hR : ux_R aty D cl ca b n0 sc zs s hh H) {k ci j a : Nat} {r : vw_C} {q : Bool} (hr : cl[ci]? = some r) (hj : j < r.2.2) (ho : (r.2.1 j).1 = r.1) (hlk : Cond.fieldLink own k r.1 (r.2.1 j).2.1 (r.2.1 j).2.2.1 ∈ Tw) (hq0 : q = false → ty ci j = .int) (hq1 : q = true → (ty ci j).isReference = true) (hfin : (r.2.1 j).2.2.2 = true → nm = "<init>" ∧ r.1 = own) (hci : ci < 100)
    {v : Value} (hv : ux_isr v = some q) {hh' : ux_H} (hg : ux_put hh a ci j v = some hh') (hdg : decode cc pc = .ok (.putfield k, 3)) (hloc : ∀ x ∈ locs, n0 ≤ x.base)
    (kk : ∀ (H' : Heap) (locs' : List Loc), ux_R aty D cl ca b n0 sc zs s hh' H' → (∀ x ∈ locs', n0 ≤ x.base) → W p l e R s m args below meth c H' locs' cells slots Q (F0 m (pc + 3) lsR rest)) : W p l e R s m args below meth c H locs cells slots Q (F0 m pc lsR (ux_tr b n0 v :: .ref (ux_ad b n0 a) :: rest)) := by
  unfold ux_put at hg
  split at hg
  · rename_i t is vs hcell
    split at hg
    · rename_i ht
      obtain ⟨ht, hlen⟩ := ht
      subst ht
      cases hg
      obtain ⟨r', h1, cell, q1, q2, q3, q4⟩ := (hR.cell hcell).obj hci
      cases hr.symm.trans h1
      obtain ⟨hin, hty, hnm⟩ := hC _ _ hr
      have hts : ∀ w ∈ Tw, w.before args s = true := fun w hw => hK.2.2 w hw args
      have hap : ∀ x y, x < r.2.2 → y < r.2.2 → x ≠ y → (D.2 t) x ≠ (D.2 t) y := va_apart (own := own) (cl := cl) (tys := []) hts hin (ty t) hty hnm ⟨hK.1, fun k q h => by simp at h⟩ hr
      obtain ⟨hS, hfc, kC, hkC, hkind⟩ := hK.1 _ _ hr
      obtain ⟨cf, kf, fi, f, hi, hsl⟩ := hS j hj
      have hlay := hts _ (hin _ (u_in_lay hj))
      have hst := (u_facts hfc hkC (u_lays hts hin hj) hi).1
      have hnf : narrow (ty t j) (ux_tr b n0 v) = ux_tr b n0 v ∧ fits (ty t j) (ux_tr b n0 v) = true := by
        cases q with
        | false => obtain ⟨x, rfl⟩ := ux_isr_int hv; rw [hq0 rfl]; exact ⟨rfl, rfl⟩
        | true => obtain ⟨x, rfl⟩ := ux_isr_ref hv; exact ux_fit_ref (hq1 rfl) _
      have hlt : f.slot < cell.slots.size := by rw [hsl]; exact k2_hasslot (q4 j hj)
      have key : ∀ (H' : Heap) (locs' : List Loc), H'[ux_ad b n0 a]? = some (cell.setSlot f.slot (ux_tr b n0 v)) → H'.size = H.size → (∀ q, q ≠ ux_ad b n0 a → H'[q]? = H[q]?) → (∀ x ∈ locs', n0 ≤ x.base) → W p l e R s m args below meth c H' locs' cells slots Q (F0 m (pc + 3) lsR rest) := by
        intro H' locs' e1 e2 e3 hl'
        refine kk H' locs' (hR.set hcell e2 e3 (Or.inl ⟨hci, r, hr, ?_⟩)) hl'
        rw [hsl] at e1
        exact t_OB.to (V := updV (fun j => ux_tr b n0 (vp_V vs j)) j (ux_tr b n0 v)) ⟨_, e1, q2, q3, t_set q4 hap hj (ux_tr b n0 v)⟩ (fun i _ => ux_updV hlen v i)
      have hl2 : ∀ x ∈ locs ++ [(⟨ux_ad b n0 a, f.slot⟩ : Loc)], n0 ≤ x.base := by
        intro x hx2
        rcases List.mem_append.mp hx2 with h2 | h2
        · exact hloc x h2
        · rw [List.mem_singleton.mp h2]
          obtain ⟨kq, rfl, -⟩ := ux_cell_some hcell
          show n0 ≤ ux_ad b n0 (kq + 1)
          rw [ux_ad_succ]; omega
      rw [ho] at hi
      unfold u_lay at hlay
      cases hfl : (r.2.1 j).2.2.2 with
      | false =>
        rw [if_neg (by rw [hfl]; decide)] at hlay
        have h6 := u_store hfc hkC hkind hlay (by rw [ho]; exact hi) (hty j hj) hnf.1 hnf.2
        exact W.putK hx hb (f := f) ⟨hown, hts _ hlk, ⟨_, _, _, hi⟩, hst⟩ (by rw [q2]; exact h6) q1 q3 hlt rfl rfl hdg fun H' e1 e2 e3 => key H' _ e1 e2 e3 hl2
      | true =>
        rw [if_pos hfl] at hlay
        obtain ⟨hn1, hn2⟩ := hfin hfl
        have hcf : m.cls = cf := by
          obtain ⟨_, _, c', _, _, _, -, -, hf', -, -, -, hown2, -⟩ := Cond.laysFinal_spec hlay
          have e1 : c' = cf := by
            rw [ho] at hf'
            have := hi.symm.trans hf'
            simp at this
            exact this.1.symm
          rw [ho, hn2] at hown2
          rw [← e1]; exact Option.some.inj (hown.symm.trans hown2)
        have h6 := u_fits hfc hkC hkind (Or.inr hlay) (by rw [ho]; exact hi) (hty j hj) hnf.1 hnf.2
        exact W.putFinK hx hb hown (hts _ hlk) hi hst hcf (hnme.trans hn1) (by rw [q2]; exact h6) q1 q3 hlt rfl rfl hdg fun H' e1 e2 e3 => key H' _ e1 e2 e3 hl2
    · cases hg
  · cases hg
/-! arrays of ints and booleans -/
theorem ux_ld_some {t a : Nat} {j x : Int32} (hg : ux_ld t sc hh a j = some x) : ¬ j < 0 ∧ ((a = 0 ∧ t = 100 ∧ sc[j.toNatClampNeg]? = some x) ∨ ∃ is vs, ux_cell hh a = some (t, is, vs) ∧ is[j.toNatClampNeg]? = some x) := by
  unfold ux_ld at hg
  split at hg
  · cases hg
  · rename_i hj
    refine ⟨hj, ?_⟩
    split at hg
    · split at hg
      · rename_i ht; exact Or.inl ⟨rfl, ht, hg⟩
      · cases hg
    · split at hg
      · rename_i t' is vs hcell
        split at hg
        · rename_i ht; subst ht; exact Or.inr ⟨is, vs, hcell, hg⟩
        · cases hg
      · cases hg
theorem ux_ialdW (hx : p.tables.exec = Jvm.exec) (hb : c.code = cc) (hK : ux_K Tw aty D cl ca s) (hA : aty 100 = some .int) (hR : ux_R aty D cl ca b n0 sc zs s hh H) {a : Nat} {j x : Int32} (hg : ux_ld 100 sc hh a j = some x) (hdg : decode cc pc = .ok (.iaload, 1))
    (kk : W p l e R s m args below meth c H locs cells slots Q (F0 m (pc + 1) lsR (.int x :: rest))) : W p l e R s m args below meth c H locs cells slots Q (F0 m pc lsR (.int j :: .ref (ux_ad b n0 a) :: rest)) := by
  obtain ⟨hj, h | h⟩ := ux_ld_some hg
  · obtain ⟨rfl, -, h1⟩ := h
    obtain ⟨scr, g1, g2, g3, g4, g5⟩ := hR.2.2.2.1
    have hlt : j.toNatClampNeg < sc.length := (List.getElem?_eq_some_iff.mp h1).1
    refine W.iald (v := .int x) hx hb (cell := scr) g1 g2 g3 (by rw [g4]; exact ux_nin hj hlt) ?_ rfl rfl hdg kk
    rw [g5 _ hlt]
    simp [h1]
  · obtain ⟨is, vs, hcell, h1⟩ := h
    have hat := ((hR.cell hcell).arr (Nat.le_refl _)).2
    have hlt : j.toNatClampNeg < is.length := (List.getElem?_eq_some_iff.mp h1).1
    refine W.iald (v := .int x) hx hb hat ((hK.2.1 _ _ hA).1 _ _) (fun q => by cases q) (by rw [arrV_size]; exact ux_nin hj hlt) ?_ rfl rfl hdg kk
    rw [arrV_read _ _ (show j.toNatClampNeg < ux_sz (100, is, vs) from hlt)]
    simp [ux_val, h1]
theorem ux_zaldW (hx : p.tables.exec = Jvm.exec) (hb : c.code = cc) (hK : ux_K Tw aty D cl ca s) (hA : aty 101 = some .boolean) (hR : ux_R aty D cl ca b n0 sc zs s hh H) {a : Nat} {j x : Int32} (hg : ux_ld 101 sc hh a j = some x) (hdg : decode cc pc = .ok (.baload, 1))
    (kk : W p l e R s m args below meth c H locs cells slots Q (F0 m (pc + 1) lsR (.int x :: rest))) : W p l e R s m args below meth c H locs cells slots Q (F0 m pc lsR (.int j :: .ref (ux_ad b n0 a) :: rest)) := by
  obtain ⟨hj, h | h⟩ := ux_ld_some hg
  · obtain ⟨-, h0, -⟩ := h
    cases h0
  · obtain ⟨is, vs, hcell, h1⟩ := h
    have hat := ((hR.cell hcell).arr (show 100 ≤ 101 by decide)).2
    have hlt : j.toNatClampNeg < is.length := (List.getElem?_eq_some_iff.mp h1).1
    refine W.zald (v := .int x) hx hb hat ((hK.2.1 _ _ hA).1 _ _) (fun q => by cases q) (by rw [arrV_size]; exact ux_nin hj hlt) ?_ rfl rfl hdg kk
    rw [arrV_read _ _ (show j.toNatClampNeg < ux_sz (101, is, vs) from hlt)]
    simp [ux_val, h1]
theorem ux_loc {a k : Nat} {cx : ux_C} (hcell : ux_cell hh a = some cx) (hloc : ∀ x ∈ locs, n0 ≤ x.base) : ∀ x ∈ locs ++ [(⟨ux_ad b n0 a, k⟩ : Loc)], n0 ≤ x.base := by
  intro x hx
  rcases List.mem_append.mp hx with h2 | h2
  · exact hloc x h2
  · rw [List.mem_singleton.mp h2]
    obtain ⟨kq, rfl, -⟩ := ux_cell_some hcell
    show n0 ≤ ux_ad b n0 (kq + 1)
    rw [ux_ad_succ]; omega
theorem ux_at_ints {t a : Nat} {is : List Int32} {vs : List Value} {jn : Nat} {x : Int32} {H' : Heap} (ht : t = 100 ∨ t = 101) (hy : ∃ y : FieldType, aty t = some y) (hlt : jn < is.length) (e1 : H'[a]? = some ((arrV (ca t) (ux_sz (t, is, vs)) (ux_val b n0 (t, is, vs))).setSlot jn (.int x))) : ux_at aty D cl ca b n0 a (t, is.set jn x, vs) H' := by
  refine Or.inr ⟨by rcases ht with rfl | rfl <;> show (100 : Nat) ≤ _ <;> omega, hy, ?_⟩
  have ht2 : t < 102 := by omega
  rw [e1, arrV_store]
  show some (arrV (ca t) _ _) = some (arrV (ca t) _ _)
  have hs : ux_sz (t, is.set jn x, vs) = ux_sz (t, is, vs) := by simp [ux_sz, ht2]
  rw [hs]
  congr 1
  refine ux_arr_eq fun i hi => ?_
  have hi' : i < is.length := by simpa [ux_sz, ht2] using hi
  by_cases hij : i = jn
  · subst hij
    simp [updV, ux_val, ht2, hlt]
  · simp [updV, ux_val, ht2, hij, List.getElem?_set, Ne.symm hij]
theorem ux_st_some {t a : Nat} {j x : Int32} {hh' : ux_H} (hg : ux_st t hh a j x = some hh') : ¬ j < 0 ∧ ∃ is vs, ux_cell hh a = some (t, is, vs) ∧ j.toNatClampNeg < is.length ∧ hh' = ux_set hh a (t, is.set j.toNatClampNeg x, vs) := by
  unfold ux_st at hg
  split at hg
  · cases hg
  · rename_i hj
    refine ⟨hj, ?_⟩
    split at hg
    · rename_i t' is vs hcell
      split at hg
      · rename_i ht
        obtain ⟨rfl, h2⟩ := ht
        cases hg
        exact ⟨is, vs, hcell, h2, rfl⟩
      · cases hg
    · cases hg
theorem ux_iastW (hx : p.tables.exec = Jvm.exec) (hb : c.code = cc) (hK : ux_K Tw aty D cl ca s) (hA : aty 100 = some .int) (hR : ux_R aty D cl ca b n0 sc zs s hh H) {a : Nat} {j x : Int32} {hh' : ux_H} (hg : ux_st 100 hh a j x = some hh') (hdg : decode cc pc = .ok (.iastore, 1)) (hloc : ∀ x ∈ locs, n0 ≤ x.base)
    (kk : ∀ (H' : Heap) (locs' : List Loc), ux_R aty D cl ca b n0 sc zs s hh' H' → (∀ x ∈ locs', n0 ≤ x.base) → W p l e R s m args below meth c H' locs' cells slots Q (F0 m (pc + 1) lsR rest)) : W p l e R s m args below meth c H locs cells slots Q (F0 m pc lsR (.int x :: .int j :: .ref (ux_ad b n0 a) :: rest)) := by
  obtain ⟨hj, is, vs, hcell, hlt, rfl⟩ := ux_st_some hg
  obtain ⟨hy, hat⟩ := (hR.cell hcell).arr (Nat.le_refl _)
  refine W.iast hx hb hat ((hK.2.1 _ _ hA).1 _ _) (fun q => by cases q) (by rw [arrV_size]; exact ux_nin hj hlt) rfl rfl hdg fun H' e1 e2 e3 => ?_
  exact kk H' _ (hR.set hcell e2 e3 (ux_at_ints (Or.inl rfl) hy hlt e1)) (ux_loc hcell hloc)
theorem ux_zastW (hx : p.tables.exec = Jvm.exec) (hb : c.code = cc) (hK : ux_K Tw aty D cl ca s) (hA : aty 101 = some .boolean) (hR : ux_R aty D cl ca b n0 sc zs s hh H) {a : Nat} {j x : Int32} {hh' : ux_H} (hx01 : x = 0 ∨ x = 1) (hg : ux_st 101 hh a j x = some hh') (hdg : decode cc pc = .ok (.bastore, 1)) (hloc : ∀ x ∈ locs, n0 ≤ x.base)
    (kk : ∀ (H' : Heap) (locs' : List Loc), ux_R aty D cl ca b n0 sc zs s hh' H' → (∀ x ∈ locs', n0 ≤ x.base) → W p l e R s m args below meth c H' locs' cells slots Q (F0 m (pc + 1) lsR rest)) : W p l e R s m args below meth c H locs cells slots Q (F0 m pc lsR (.int x :: .int j :: .ref (ux_ad b n0 a) :: rest)) := by
  obtain ⟨hj, is, vs, hcell, hlt, rfl⟩ := ux_st_some hg
  obtain ⟨hy, hat⟩ := (hR.cell hcell).arr (show 100 ≤ 101 by decide)
  refine W.zast hx hb hat ((hK.2.1 _ _ hA).1 _ _) (fun q => by cases q) (by rw [arrV_size]; exact ux_nin hj hlt) rfl rfl hdg fun H' e1 e2 e3 => ?_
  have hn : narrow .boolean (.int x) = .int x := by rcases hx01 with rfl | rfl <;> rfl
  rw [hn] at e1
  exact kk H' _ (hR.set hcell e2 e3 (ux_at_ints (Or.inr rfl) hy hlt e1)) (ux_loc hcell hloc)
/-! arrays of longs and of references -/
theorem ux_ldv_some {t a : Nat} {j : Int32} {v : Value} (hg : ux_ldv hh a j = some (t, v)) : ¬ j < 0 ∧ ∃ is vs, ux_cell hh a = some (t, is, vs) ∧ vs[j.toNatClampNeg]? = some v := by
  unfold ux_ldv at hg
  split at hg
  · cases hg
  · rename_i hj
    refine ⟨hj, ?_⟩
    split at hg
    · rename_i t' is vs hcell
      cases hv : vs[j.toNatClampNeg]? with
      | none => rw [hv] at hg; cases hg
      | some w => rw [hv] at hg; cases hg; exact ⟨is, vs, hcell, hv⟩
    · cases hg
theorem ux_stv_some {t a : Nat} {j : Int32} {v : Value} {hh' : ux_H} (hg : ux_stv hh a j v = some (t, hh')) : ¬ j < 0 ∧ ∃ is vs, ux_cell hh a = some (t, is, vs) ∧ j.toNatClampNeg < vs.length ∧ hh' = ux_set hh a (t, is, vs.set j.toNatClampNeg v) := by
  unfold ux_stv at hg
  split at hg
  · cases hg
  · rename_i hj
    refine ⟨hj, ?_⟩
    split at hg
    · rename_i t' is vs hcell
      split at hg
      · rename_i h2
        cases hg
        exact ⟨is, vs, hcell, h2, rfl⟩
      · cases hg
    · cases hg
theorem ux_at_vals {t a : Nat} {is : List Int32} {vs : List Value} {jn : Nat} {v : Value} {H' : Heap} (ht : 102 ≤ t) (hy : ∃ y : FieldType, aty t = some y) (hlt : jn < vs.length) (e1 : H'[a]? = some ((arrV (ca t) (ux_sz (t, is, vs)) (ux_val b n0 (t, is, vs))).setSlot jn (ux_tr b n0 v))) : ux_at aty D cl ca b n0 a (t, is, vs.set jn v) H' := by
  refine Or.inr ⟨by show 100 ≤ t; omega, hy, ?_⟩
  have ht2 : ¬ t < 102 := by omega
  rw [e1, arrV_store]
  have hs : ux_sz (t, is, vs.set jn v) = ux_sz (t, is, vs) := by simp [ux_sz, ht2]
  show some (arrV (ca t) _ _) = some (arrV (ca t) _ _)
  rw [hs]
  congr 1
  refine ux_arr_eq fun i hi => ?_
  by_cases hij : i = jn
  · subst hij
    simp [updV, ux_val, ht2, hlt]
  · simp [updV, ux_val, ht2, hij, List.getElem?_set, Ne.symm hij]
theorem ux_laldW (hx : p.tables.exec = Jvm.exec) (hb : c.code = cc) (hK : ux_K Tw aty D cl ca s) (hA : aty 102 = some .long) (hR : ux_R aty D cl ca b n0 sc zs s hh H) {a : Nat} {j : Int32} {v : Value} (hg : ux_ldv hh a j = some (102, v)) (hdg : decode cc pc = .ok (.laload, 1))
    (kk : W p l e R s m args below meth c H locs cells slots Q (F0 m (pc + 1) lsR (ux_tr b n0 v :: rest))) : W p l e R s m args below meth c H locs cells slots Q (F0 m pc lsR (.int j :: .ref (ux_ad b n0 a) :: rest)) := by
  obtain ⟨hj, is, vs, hcell, h1⟩ := ux_ldv_some hg
  have hat := ((hR.cell hcell).arr (show 100 ≤ 102 by decide)).2
  have hlt : j.toNatClampNeg < vs.length := (List.getElem?_eq_some_iff.mp h1).1
  refine W.lald (v := ux_tr b n0 v) hx hb hat ((hK.2.1 _ _ hA).1 _ _) (fun q => by cases q) (by rw [arrV_size]; exact ux_nin hj hlt) ?_ rfl rfl hdg kk
  rw [arrV_read _ _ (show j.toNatClampNeg < ux_sz (102, is, vs) from hlt)]
  simp [ux_val, h1]
theorem ux_aaldW (hx : p.tables.exec = Jvm.exec) (hb : c.code = cc) (hK : ux_K Tw aty D cl ca s) (hA : ∀ (t : Nat) (y : FieldType), 102 < t → aty t = some y → ∃ C, y = .object C) (hR : ux_R aty D cl ca b n0 sc zs s hh H) {t a : Nat} {j : Int32} {v : Value} (ht : 102 < t) (hg : ux_ldv hh a j = some (t, v)) (hdg : decode cc pc = .ok (.aaload, 1))
    (kk : W p l e R s m args below meth c H locs cells slots Q (F0 m (pc + 1) lsR (ux_tr b n0 v :: rest))) : W p l e R s m args below meth c H locs cells slots Q (F0 m pc lsR (.int j :: .ref (ux_ad b n0 a) :: rest)) := by
  obtain ⟨hj, is, vs, hcell, h1⟩ := ux_ldv_some hg
  obtain ⟨⟨y, hy⟩, hat⟩ := (hR.cell hcell).arr (by show 100 ≤ t; omega)
  obtain ⟨C, rfl⟩ := hA t y ht hy
  have ht2 : ¬ t < 102 := by omega
  have hlt : j.toNatClampNeg < vs.length := (List.getElem?_eq_some_iff.mp h1).1
  have hsz : ux_sz (t, is, vs) = vs.length := by simp [ux_sz, ht2]
  refine W.aald (v := ux_tr b n0 v) (ty := .object C) hx hb hat ((hK.2.1 _ _ hy).1 _ _) rfl (fun q => by cases q) (by rw [arrV_size, hsz]; exact ux_nin hj hlt) ?_ rfl rfl hdg kk
  rw [arrV_read _ _ (by rw [hsz]; exact hlt)]
  simp [ux_val, ht2, h1]
theorem ux_lastW (hx : p.tables.exec = Jvm.exec) (hb : c.code = cc) (hK : ux_K Tw aty D cl ca s) (hA : aty 102 = some .long) (hR : ux_R aty D cl ca b n0 sc zs s hh H) {a : Nat} {j : Int32} {x : Int64} {hh' : ux_H} (hg : ux_stv hh a j (.long x) = some (102, hh')) (hdg : decode cc pc = .ok (.lastore, 1)) (hloc : ∀ x ∈ locs, n0 ≤ x.base)
    (kk : ∀ (H' : Heap) (locs' : List Loc), ux_R aty D cl ca b n0 sc zs s hh' H' → (∀ x ∈ locs', n0 ≤ x.base) → W p l e R s m args below meth c H' locs' cells slots Q (F0 m (pc + 1) lsR rest)) : W p l e R s m args below meth c H locs cells slots Q (F0 m pc lsR (.long x :: .int j :: .ref (ux_ad b n0 a) :: rest)) := by
  obtain ⟨hj, is, vs, hcell, hlt, rfl⟩ := ux_stv_some hg
  obtain ⟨hy, hat⟩ := (hR.cell hcell).arr (show 100 ≤ 102 by decide)
  refine W.last hx hb hat ((hK.2.1 _ _ hA).1 _ _) (fun q => by cases q) (by rw [arrV_size]; exact ux_nin hj hlt) rfl rfl hdg fun H' e1 e2 e3 => ?_
  exact kk H' _ (hR.set hcell e2 e3 (ux_at_vals (v := .long x) (Nat.le_refl _) hy hlt e1)) (ux_loc hcell hloc)
theorem ux_aastW (hx : p.tables.exec = Jvm.exec) (hb : c.code = cc) (hK : ux_K Tw aty D cl ca s) (hR : ux_R aty D cl ca b n0 sc zs s hh H) {t a v ci : Nat} {j : Int32} {hh' : ux_H} {C : String} {r : vw_C} {is0 : List Int32} {vs0 : List Value} (ht : 102 < t) (hy : aty t = some (.object C)) (hr : cl[ci]? = some r) (hrC : r.1 = C) (hci : ci < 100) (hcv : ux_cell hh v = some (ci, is0, vs0))
    (hg : ux_stv hh a j (.ref v) = some (t, hh')) (hdg : decode cc pc = .ok (.aastore, 1)) (hloc : ∀ x ∈ locs, n0 ≤ x.base)
    (kk : ∀ (H' : Heap) (locs' : List Loc), ux_R aty D cl ca b n0 sc zs s hh' H' → (∀ x ∈ locs', n0 ≤ x.base) → W p l e R s m args below meth c H' locs' cells slots Q (F0 m (pc + 1) lsR rest)) : W p l e R s m args below meth c H locs cells slots Q (F0 m pc lsR (.ref (ux_ad b n0 v) :: .int j :: .ref (ux_ad b n0 a) :: rest)) := by
  obtain ⟨hj, is, vs, hcell, hlt, rfl⟩ := ux_stv_some hg
  obtain ⟨hy', hat⟩ := (hR.cell hcell).arr (by show 100 ≤ t; omega)
  obtain ⟨r', h1, cellV, g1, g2, g3, -⟩ := (hR.cell hcv).obj hci
  cases hr.symm.trans h1
  have hcls := (hK.1 ci r hr).2
  obtain ⟨kA, comp, k1, k2, k3, -⟩ := (hK.2.1 _ _ hy).2
  rw [← hrC] at k3
  have hcomp : comp = D.1 ci := Option.some.inj (k3.symm.trans hcls.1)
  subst hcomp
  obtain ⟨kC, hkC, -⟩ := hcls.2
  have ht2 : ¬ t < 102 := by omega
  have hsz : ux_sz (t, is, vs) = vs.length := by simp [ux_sz, ht2]
  refine W.aast hx hb hat (fun q h => by cases h) (fun h => by cases h) k1 k2 rfl hkC ⟨hj, by rw [arrV_size, hsz]; exact hlt⟩ g1 (fun q h => by rw [g3] at h; cases h) (by rw [g2]; exact hkC) (by rw [g2]; exact va_assign hcls) rfl rfl hdg fun H' e1 e2 e3 => ?_
  exact kk H' _ (hR.set hcell e2 e3 (ux_at_vals (v := .ref v) (by omega) hy' hlt e1)) (ux_loc hcell hloc)
theorem ux_alenW (hx : p.tables.exec = Jvm.exec) (hb : c.code = cc) (hK : ux_K Tw aty D cl ca s) (hR : ux_R aty D cl ca b n0 sc zs s hh H) {a n : Nat} (hg : ux_len sc hh a = some n) (hdg : decode cc pc = .ok (.arraylength, 1))
    (kk : W p l e R s m args below meth c H locs cells slots Q (F0 m (pc + 1) lsR (.int (Int32.ofNat n) :: rest))) : W p l e R s m args below meth c H locs cells slots Q (F0 m pc lsR (.ref (ux_ad b n0 a) :: rest)) := by
  unfold ux_len at hg
  split at hg
  · cases hg
    obtain ⟨scr, g1, g2, g3, g4, g5⟩ := hR.2.2.2.1
    exact W.alen (n := Int32.ofNat sc.length) hx hb (cell := scr) g1 g2 (by rw [g4]) rfl rfl hdg kk
  · split at hg
    · rename_i t is vs hcell
      split at hg
      · cases hg
      · rename_i h100
        obtain ⟨⟨y, hy⟩, hat⟩ := (hR.cell hcell).arr (by show 100 ≤ t; omega)
        refine W.alen (n := Int32.ofNat n) hx hb hat ((hK.2.1 _ _ hy).1 _ _) ?_ rfl rfl hdg kk
        rw [arrV_size]
        split at hg
        · rename_i h102
          cases hg
          simp [ux_sz, h102]
        · rename_i h102
          cases hg
          simp [ux_sz, h102]
    · cases hg
/-! making -/
theorem ux_newW (hx : p.tables.exec = Jvm.exec) (hb : c.code = cc) (hown : s.vm.findClass own = some m.cls) (hK : ux_K Tw aty D cl ca s) (hC : ux_okC Tw cl ty) (hR : ux_R aty D cl ca b n0 sc zs s hh H) {k ci : Nat} {r : vw_C} {dv : List Value} (hr : cl[ci]? = some r) (hci : ci < 100) (h1 : Cond.classLink own k r.1 ∈ Tw) (h2 : Cond.instantiable r.1 r.2.2 ∈ Tw) (h3 : Cond.initialized r.1 ∈ Tw) (h4 : dv.length = r.2.2) (h5 : ∀ j, j < r.2.2 → dv[j]? = some (defaultValue (ty ci j)))
    (h0 : hh.2.1 = 0) (hdg : decode cc pc = .ok (.new k, 3)) (hcells : cells + 1 ≤ R.cells) (hslots : slots + dv.length ≤ R.slots)
    (kk : ∀ (H' : Heap), ux_R aty D cl ca b n0 sc zs s (ux_new hh (ci, [], dv) dv.length) H' → W p l e R s m args below meth c H' locs (cells + 1) (slots + dv.length) Q (F0 m (pc + 3) lsR (.ref (ux_ad b n0 (hh.1.length + 1)) :: rest))) : W p l e R s m args below meth c H locs cells slots Q (F0 m pc lsR rest) := by
  have hKn := hK.1 ci _ hr
  obtain ⟨hin, hty, hnm⟩ := hC _ _ hr
  have hts : ∀ w ∈ Tw, w.before args s = true := fun w hw => hK.2.2 w hw args
  rw [h4] at hslots kk
  refine W.newcK hx hb hown (hts _ h1) (hts _ h2) (hts _ h3) rfl hdg hcells hslots hKn.2.1 rfl fun H1 kC hkC e1 z1 o1 => ?_
  have hb2 := (u_born (ty ci) hts hin hKn hkC e1 hty).to (V' := fun j => ux_tr b n0 (vp_V dv j)) (fun j hj => by
    have := h5 j hj
    simp [vp_V, this, ux_tr_dflt])
  have hk := kk H1 (hR.push h0 z1 o1 (Or.inl ⟨hci, r, hr, hb2⟩))
  rw [hR.ref h0] at hk
  exact hk
theorem ux_newaW (hx : p.tables.exec = Jvm.exec) (hb : c.code = cc) (hK : ux_K Tw aty D cl ca s) (hR : ux_R aty D cl ca b n0 sc zs s hh H) {atp : ArrayType} {y : FieldType} (hty : newarray.typeOf atp = y) (hp : ∀ C, y ≠ .object C) (hw : Cond.arrayClass y ∈ Tw) {t : Nat} (hy : aty t = some y) (ht : 100 ≤ t) {c0 : ux_C} (hc0 : c0.1 = t) {n : Int32} (hcs : ux_sz c0 = n.toNatClampNeg) (hcv : ∀ j, j < n.toNatClampNeg → ux_val b n0 c0 j = defaultValue y)
    (hn : ¬ n < 0) (hnb : n.toNatClampNeg ≤ 100000) (h0 : hh.2.1 = 0) (hdg : decode cc pc = .ok (.newarray atp, 2)) (hcells : cells + 1 ≤ R.cells) (hslots : slots + n.toNatClampNeg ≤ R.slots)
    (kk : ∀ (H' : Heap), ux_R aty D cl ca b n0 sc zs s (ux_new hh c0 n.toNatClampNeg) H' → W p l e R s m args below meth c H' locs (cells + 1) (slots + n.toNatClampNeg) Q (F0 m (pc + 2) lsR (.ref (ux_ad b n0 (hh.1.length + 1)) :: rest))) : W p l e R s m args below meth c H locs cells slots Q (F0 m pc lsR (.int n :: rest)) := by
  subst hty
  have hcb : n.toNatClampNeg * componentBytes (newarray.typeOf atp) ≤ 536870912 := by
    have : componentBytes (newarray.typeOf atp) ≤ 8 := by cases atp <;> decide
    calc n.toNatClampNeg * componentBytes (newarray.typeOf atp) ≤ 100000 * 8 := Nat.mul_le_mul hnb this
      _ ≤ 536870912 := by decide
  refine va_newaK hx hb (hK.2.2 _ hw args) rfl hdg rfl hn rfl hcb hcells hslots rfl fun H1 cA e1 z1 o1 hAr hNm => ?_
  have hcA : cA = ca t := by
    have h := (hK.2.1 _ _ hy).2
    unfold va_RA at h
    split at h
    · rename_i C hC; exact absurd hC (hp C)
    · exact Option.some.inj (hNm.symm.trans h)
  subst hcA
  have hk := kk H1 (hR.push h0 z1 o1 (Or.inr ⟨by rw [hc0]; exact ht, ⟨_, by rw [hc0]; exact hy⟩, by
    rw [e1, hc0, hcs]
    exact congrArg some (ux_arr_eq fun j hj => (hcv j hj).symm)⟩))
  rw [hR.ref h0] at hk
  exact hk
theorem ux_anewW (hx : p.tables.exec = Jvm.exec) (hb : c.code = cc) (hown : s.vm.findClass own = some m.cls) (hK : ux_K Tw aty D cl ca s) (hR : ux_R aty D cl ca b n0 sc zs s hh H) {k t : Nat} {C : String} (hy : aty t = some (.object C)) (ht : 102 < t) (h1 : Cond.classLink own k C ∈ Tw) (h2 : Cond.arrayOver (.object C) ∈ Tw) {n : Int32}
    (hn : ¬ n < 0) (hnb : n.toNatClampNeg ≤ 100000) (h0 : hh.2.1 = 0) (hdg : decode cc pc = .ok (.anewarray k, 3)) (hcells : cells + 1 ≤ R.cells) (hslots : slots + n.toNatClampNeg ≤ R.slots)
    (kk : ∀ (H' : Heap), ux_R aty D cl ca b n0 sc zs s (ux_new hh (t, [], List.replicate n.toNatClampNeg .null) n.toNatClampNeg) H' → W p l e R s m args below meth c H' locs (cells + 1) (slots + n.toNatClampNeg) Q (F0 m (pc + 3) lsR (.ref (ux_ad b n0 (hh.1.length + 1)) :: rest))) : W p l e R s m args below meth c H locs cells slots Q (F0 m pc lsR (.int n :: rest)) := by
  refine W.anew hx hb hown (hK.2.2 _ h1 args) (hK.2.2 _ h2 args) rfl hdg rfl hn (by omega) hcells hslots fun cA kA comp f1 f2 f3 f4 => ?_
  have hcA : cA = ca t := by
    obtain ⟨kA', comp', -, -, -, h4⟩ := (hK.2.1 _ _ hy).2
    exact Option.some.inj (f1.symm.trans h4)
  subst hcA
  have ht2 : ¬ t < 102 := by omega
  have hk := kk (H.push ({ cls := ca t, slots := Array.replicate n.toNatClampNeg .null, vm := .none } : Cell)) (hR.push h0 (by simp) (fun q hq => by rw [Array.getElem?_push, if_neg (Nat.ne_of_lt hq)]) (Or.inr ⟨by show 100 ≤ t; omega, ⟨_, hy⟩, by
    rw [Array.getElem?_push_size, arrV_new]
    have hs : ux_sz (t, [], List.replicate n.toNatClampNeg Value.null) = n.toNatClampNeg := by simp [ux_sz, ht2]
    show some (arrV (ca t) _ _) = some (arrV (ca t) _ _)
    rw [hs]
    exact congrArg some (ux_arr_eq fun j hj => by simp [ux_val, ht2, hj, ux_tr])⟩))
  rw [hR.ref h0] at hk
  exact hk
end UXM
