/-! Rows for memory, goal first; a cell by what is known of it. -/
section UXH
variable {P : ux_P} {sc : List Int32} {d i pc : Nat} {ls st : List Value} {h : ux_H} {r : ux_O × ux_H}
theorem ux_cell_set {a a2 : Nat} {c c0 : ux_C} (h0 : ux_cell h a = some c0) : ux_cell (ux_set h a c) a2 = if a2 = a then some c else ux_cell h a2 := by
  obtain ⟨k, rfl, hk⟩ := ux_cell_some h0
  have hlt := (List.getElem?_eq_some_iff.mp hk).1
  cases a2 with
  | zero => simp [ux_cell]
  | succ k2 =>
    show (h.1.set k c)[k2]? = _
    by_cases e : k2 = k
    · subst e
      rw [List.getElem?_set_self hlt]
      simp
    · rw [List.getElem?_set_ne (Ne.symm e), if_neg (by omega)]
      rfl
theorem ux_cell_self {a : Nat} {c c0 : ux_C} (h0 : ux_cell h a = some c0) : ux_cell (ux_set h a c) a = some c := by rw [ux_cell_set h0, if_pos rfl]
theorem ux_cell_ne {a a2 : Nat} {c c0 : ux_C} (h0 : ux_cell h a = some c0) (hne : a2 ≠ a) : ux_cell (ux_set h a c) a2 = ux_cell h a2 := by rw [ux_cell_set h0, if_neg hne]
theorem ux_Gget {k ci j a : Nat} {q : Bool} {is : List Int32} {vs : List Value} {v : Value} (hi : P.1 i pc = some (.getfield k, 3)) (hf : P.2.1 i k = some (ci, j, q)) (hc : ux_cell h a = some (ci, is, vs)) (hv : vs[j]? = some v)
    (kk : ux_G P sc d i (pc + 3) ls (v :: st) h r) : ux_G P sc d i pc ls (.ref a :: st) h r := by
  refine ux_Gm (pc' := pc + 3) ?_ kk
  simp [ux_m1, hi, ux_sim, ux_mem, hf, ux_get, hc, hv]
theorem ux_Gput {k ci j a : Nat} {q : Bool} {is : List Int32} {vs : List Value} {v : Value} (hi : P.1 i pc = some (.putfield k, 3)) (hf : P.2.1 i k = some (ci, j, q)) (hw : P.2.2.2.1 i (200000 + k) = some 2000 ∨ (P.2.2.2.1 i (200000 + k) = some 2001 ∧ (P.2.2.2.2.2.2 i).2.1 = 4)) (hc : ux_cell h a = some (ci, is, vs)) (hr : ux_isr v = some q) (hj : j < vs.length)
    (kk : ux_G P sc d i (pc + 3) ls st (ux_set h a (ci, is, vs.set j v)) r) : ux_G P sc d i pc ls (v :: .ref a :: st) h r := by
  refine ux_Gm (pc' := pc + 3) ?_ kk
  simp only [ux_m1, hi, ux_sim, ux_mem, hf]
  rw [if_pos ⟨hr, hw⟩]
  simp [ux_put, hc, hj]
theorem ux_Gild {a : Nat} {j x : Int32} {is : List Int32} {vs : List Value} (hi : P.1 i pc = some (.iaload, 1)) (hc : ux_cell h a = some (100, is, vs)) (hj : ¬ j < 0) (hx : is[j.toNatClampNeg]? = some x)
    (kk : ux_G P sc d i (pc + 1) ls (.int x :: st) h r) : ux_G P sc d i pc ls (.int j :: .ref a :: st) h r := by
  obtain ⟨k, rfl, -⟩ := ux_cell_some hc
  refine ux_Gm (pc' := pc + 1) ?_ kk
  simp [ux_m1, hi, ux_sim, ux_mem, ux_ld, hc, hj, hx]
theorem ux_Gsld {j x : Int32} (hi : P.1 i pc = some (.iaload, 1)) (hj : ¬ j < 0) (hx : sc[j.toNatClampNeg]? = some x)
    (kk : ux_G P sc d i (pc + 1) ls (.int x :: st) h r) : ux_G P sc d i pc ls (.int j :: .ref 0 :: st) h r := by
  refine ux_Gm (pc' := pc + 1) ?_ kk
  simp [ux_m1, hi, ux_sim, ux_mem, ux_ld, hj, hx]
theorem ux_Gist {a : Nat} {j x : Int32} {is : List Int32} {vs : List Value} (hi : P.1 i pc = some (.iastore, 1)) (hc : ux_cell h a = some (100, is, vs)) (hj : ¬ j < 0) (hx : j.toNatClampNeg < is.length)
    (kk : ux_G P sc d i (pc + 1) ls st (ux_set h a (100, is.set j.toNatClampNeg x, vs)) r) : ux_G P sc d i pc ls (.int x :: .int j :: .ref a :: st) h r := by
  refine ux_Gm (pc' := pc + 1) ?_ kk
  simp [ux_m1, hi, ux_sim, ux_mem, ux_st, hc, hj, hx]
theorem ux_Gzld {a : Nat} {j x : Int32} {is : List Int32} {vs : List Value} (hi : P.1 i pc = some (.baload, 1)) (hc : ux_cell h a = some (101, is, vs)) (hj : ¬ j < 0) (hx : is[j.toNatClampNeg]? = some x)
    (kk : ux_G P sc d i (pc + 1) ls (.int x :: st) h r) : ux_G P sc d i pc ls (.int j :: .ref a :: st) h r := by
  obtain ⟨k, rfl, -⟩ := ux_cell_some hc
  refine ux_Gm (pc' := pc + 1) ?_ kk
  simp [ux_m1, hi, ux_sim, ux_mem, ux_ld, hc, hj, hx]
theorem ux_Gzst {a : Nat} {j x : Int32} {is : List Int32} {vs : List Value} (hi : P.1 i pc = some (.bastore, 1)) (hc : ux_cell h a = some (101, is, vs)) (hj : ¬ j < 0) (hx : j.toNatClampNeg < is.length) (h01 : x = 0 ∨ x = 1)
    (kk : ux_G P sc d i (pc + 1) ls st (ux_set h a (101, is.set j.toNatClampNeg x, vs)) r) : ux_G P sc d i pc ls (.int x :: .int j :: .ref a :: st) h r := by
  refine ux_Gm (pc' := pc + 1) ?_ kk
  simp [ux_m1, hi, ux_sim, ux_mem, ux_st, hc, hj, hx, h01]
theorem ux_Gald {a t : Nat} {j : Int32} {v : Value} {is : List Int32} {vs : List Value} (hi : P.1 i pc = some (.aaload, 1)) (hc : ux_cell h a = some (t, is, vs)) (ht : 102 < t) (hj : ¬ j < 0) (hx : vs[j.toNatClampNeg]? = some v)
    (kk : ux_G P sc d i (pc + 1) ls (v :: st) h r) : ux_G P sc d i pc ls (.int j :: .ref a :: st) h r := by
  refine ux_Gm (pc' := pc + 1) ?_ kk
  simp [ux_m1, hi, ux_sim, ux_mem, ux_ldv, hc, hj, hx, ht]
theorem ux_Gast {a t v ci : Nat} {j : Int32} {is is2 : List Int32} {vs vs2 : List Value} (hi : P.1 i pc = some (.aastore, 1)) (hc : ux_cell h a = some (t, is, vs)) (hv : ux_cell h v = some (ci, is2, vs2)) (ht : 102 < t) (hci : ci < 100) (hco : P.2.2.2.2.2.1 t = ci) (hj : ¬ j < 0) (hx : j.toNatClampNeg < vs.length)
    (kk : ux_G P sc d i (pc + 1) ls st (ux_set h a (t, is, vs.set j.toNatClampNeg (.ref v))) r) : ux_G P sc d i pc ls (.ref v :: .int j :: .ref a :: st) h r := by
  refine ux_Gm (pc' := pc + 1) ?_ kk
  simp [ux_m1, hi, ux_sim, ux_mem, ux_stv, hc, hj, hx, ht, hv, hco, hci]
theorem ux_Glld {a : Nat} {j : Int32} {v : Value} {is : List Int32} {vs : List Value} (hi : P.1 i pc = some (.laload, 1)) (hc : ux_cell h a = some (102, is, vs)) (hj : ¬ j < 0) (hx : vs[j.toNatClampNeg]? = some v)
    (kk : ux_G P sc d i (pc + 1) ls (v :: st) h r) : ux_G P sc d i pc ls (.int j :: .ref a :: st) h r := by
  refine ux_Gm (pc' := pc + 1) ?_ kk
  simp [ux_m1, hi, ux_sim, ux_mem, ux_ldv, hc, hj, hx]
theorem ux_Glst {a : Nat} {j : Int32} {x : Int64} {is : List Int32} {vs : List Value} (hi : P.1 i pc = some (.lastore, 1)) (hc : ux_cell h a = some (102, is, vs)) (hj : ¬ j < 0) (hx : j.toNatClampNeg < vs.length)
    (kk : ux_G P sc d i (pc + 1) ls st (ux_set h a (102, is, vs.set j.toNatClampNeg (.long x))) r) : ux_G P sc d i pc ls (.long x :: .int j :: .ref a :: st) h r := by
  refine ux_Gm (pc' := pc + 1) ?_ kk
  simp [ux_m1, hi, ux_sim, ux_mem, ux_stv, hc, hj, hx]
end UXH
