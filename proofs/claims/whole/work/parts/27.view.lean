/-! Memory as a function: ux_B .. K: from here the method ends, and K holds of how it ends. -/
abbrev ux_Ev : Type := Nat → Option ux_C
abbrev ux_K1 : Type := ux_O → ux_Ev → Nat → Nat → Bool → Prop
def ux_up (E : ux_Ev) (a : Nat) (c : ux_C) : ux_Ev := fun b => if b = a then some c else E b
def ux_Vw (h : ux_H) (E : ux_Ev) : Prop := ∀ a, ux_cell h a = E a
def ux_B (P : ux_P) (sc : List Int32) (d i pc : Nat) (ls st : List Value) (E : ux_Ev) (x z : Nat) (w : Bool) (K : ux_K1) : Prop :=
  ∀ h : ux_H, ux_Vw h E → h.2 = (x, z, w) → ∃ (o : ux_O) (h' : ux_H) (E' : ux_Ev), ux_G P sc d i pc ls st h (o, h') ∧ ux_Vw h' E' ∧ K o E' h'.2.1 h'.2.2.1 h'.2.2.2
def ux_Bm (P : ux_P) (sc : List Int32) (d j : Nat) (as : List Value) (E : ux_Ev) (x z : Nat) (K : ux_K1) : Prop :=
  ux_B P sc d j 0 (as ++ List.replicate ((P.2.2.2.2.2.2 j).1 - as.length) .null) [] E x z false K
section UXB
variable {P : ux_P} {sc : List Int32} {d i pc : Nat} {ls st : List Value} {E : ux_Ev} {x z : Nat} {w : Bool} {K : ux_K1}
theorem ux_Vw.up {h : ux_H} (hv : ux_Vw h E) {a : Nat} {c c0 : ux_C} (h0 : E a = some c0) : ux_Vw (ux_set h a c) (ux_up E a c) := by
  intro b
  rw [ux_cell_set (by rw [hv a]; exact h0), hv b]
  rfl
theorem ux_BN (n : Nat) {pc' : Nat} {ls' st' : List Value} (hs : ux_sN P i n pc ls st = some (pc', ls', st')) (k : ux_B P sc d i pc' ls' st' E x z w K) : ux_B P sc d i pc ls st E x z w K := by
  intro h hv h2
  obtain ⟨o, h', E', g1, g2⟩ := k h hv h2
  exact ⟨o, h', E', ux_GN n hs g1, g2⟩
theorem ux_Bs {pc' : Nat} {ls' st' : List Value} (hs : ux_s1 P i pc ls st = some (pc', ls', st')) (k : ux_B P sc d i pc' ls' st' E x z w K) : ux_B P sc d i pc ls st E x z w K := by
  intro h hv h2
  obtain ⟨o, h', E', g1, g2⟩ := k h hv h2
  exact ⟨o, h', E', ux_Gs hs g1, g2⟩
theorem ux_Bif {c : Prop} {_ : Decidable c} {a b' : Nat} (ka : c → ux_B P sc d i a ls st E x z w K) (kb : ¬ c → ux_B P sc d i b' ls st E x z w K) : ux_B P sc d i (if decide c = true then a else b') ls st E x z w K := by
  by_cases hc : c
  · rw [if_pos (decide_eq_true hc)]; exact ka hc
  · rw [if_neg (by simpa using hc)]; exact kb hc
theorem ux_Bget {k ci j a : Nat} {q : Bool} {is : List Int32} {vs : List Value} {v : Value} (hi : P.1 i pc = some (.getfield k, 3)) (hf : P.2.1 i k = some (ci, j, q)) (hc : E a = some (ci, is, vs)) (hv : vs[j]? = some v)
    (kk : ux_B P sc d i (pc + 3) ls (v :: st) E x z w K) : ux_B P sc d i pc ls (.ref a :: st) E x z w K := by
  intro h hw h2
  obtain ⟨o, h', E', g1, g2⟩ := kk h hw h2
  exact ⟨o, h', E', ux_Gget hi hf (by rw [hw a]; exact hc) hv g1, g2⟩
theorem ux_Bput {k ci j a : Nat} {q : Bool} {is : List Int32} {vs : List Value} {v : Value} (hi : P.1 i pc = some (.putfield k, 3)) (hf : P.2.1 i k = some (ci, j, q)) (hp : P.2.2.2.1 i (200000 + k) = some 2000) (hc : E a = some (ci, is, vs)) (hr : ux_isr v = some q) (hj : j < vs.length)
    (kk : ux_B P sc d i (pc + 3) ls st (ux_up E a (ci, is, vs.set j v)) x z true K) : ux_B P sc d i pc ls (v :: .ref a :: st) E x z w K := by
  intro h hw h2
  obtain ⟨o, h', E', g1, g2⟩ := kk (ux_set h a (ci, is, vs.set j v)) (hw.up hc) (by rw [show (ux_set h a (ci, is, vs.set j v)).2 = (h.2.1, h.2.2.1, true) from rfl, h2])
  exact ⟨o, h', E', ux_Gput hi hf (Or.inl hp) (by rw [hw a]; exact hc) hr hj g1, g2⟩
theorem ux_Bild {a : Nat} {j y : Int32} {is : List Int32} {vs : List Value} (hi : P.1 i pc = some (.iaload, 1)) (hc : E a = some (100, is, vs)) (hj : ¬ j < 0) (hx : is[j.toNatClampNeg]? = some y)
    (kk : ux_B P sc d i (pc + 1) ls (.int y :: st) E x z w K) : ux_B P sc d i pc ls (.int j :: .ref a :: st) E x z w K := by
  intro h hw h2
  obtain ⟨o, h', E', g1, g2⟩ := kk h hw h2
  exact ⟨o, h', E', ux_Gild hi (by rw [hw a]; exact hc) hj hx g1, g2⟩
theorem ux_Bsld {j y : Int32} (hi : P.1 i pc = some (.iaload, 1)) (hj : ¬ j < 0) (hx : sc[j.toNatClampNeg]? = some y)
    (kk : ux_B P sc d i (pc + 1) ls (.int y :: st) E x z w K) : ux_B P sc d i pc ls (.int j :: .ref 0 :: st) E x z w K := by
  intro h hw h2
  obtain ⟨o, h', E', g1, g2⟩ := kk h hw h2
  exact ⟨o, h', E', ux_Gsld hi hj hx g1, g2⟩
theorem ux_Bist {a : Nat} {j y : Int32} {is : List Int32} {vs : List Value} (hi : P.1 i pc = some (.iastore, 1)) (hc : E a = some (100, is, vs)) (hj : ¬ j < 0) (hx : j.toNatClampNeg < is.length)
    (kk : ux_B P sc d i (pc + 1) ls st (ux_up E a (100, is.set j.toNatClampNeg y, vs)) x z true K) : ux_B P sc d i pc ls (.int y :: .int j :: .ref a :: st) E x z w K := by
  intro h hw h2
  obtain ⟨o, h', E', g1, g2⟩ := kk (ux_set h a (100, is.set j.toNatClampNeg y, vs)) (hw.up hc) (by rw [show (ux_set h a (100, is.set j.toNatClampNeg y, vs)).2 = (h.2.1, h.2.2.1, true) from rfl, h2])
  exact ⟨o, h', E', ux_Gist hi (by rw [hw a]; exact hc) hj hx g1, g2⟩
theorem ux_Bzld {a : Nat} {j y : Int32} {is : List Int32} {vs : List Value} (hi : P.1 i pc = some (.baload, 1)) (hc : E a = some (101, is, vs)) (hj : ¬ j < 0) (hx : is[j.toNatClampNeg]? = some y)
    (kk : ux_B P sc d i (pc + 1) ls (.int y :: st) E x z w K) : ux_B P sc d i pc ls (.int j :: .ref a :: st) E x z w K := by
  intro h hw h2
  obtain ⟨o, h', E', g1, g2⟩ := kk h hw h2
  exact ⟨o, h', E', ux_Gzld hi (by rw [hw a]; exact hc) hj hx g1, g2⟩
theorem ux_Bzst {a : Nat} {j y : Int32} {is : List Int32} {vs : List Value} (hi : P.1 i pc = some (.bastore, 1)) (hc : E a = some (101, is, vs)) (hj : ¬ j < 0) (hx : j.toNatClampNeg < is.length) (h01 : y = 0 ∨ y = 1)
    (kk : ux_B P sc d i (pc + 1) ls st (ux_up E a (101, is.set j.toNatClampNeg y, vs)) x z true K) : ux_B P sc d i pc ls (.int y :: .int j :: .ref a :: st) E x z w K := by
  intro h hw h2
  obtain ⟨o, h', E', g1, g2⟩ := kk (ux_set h a (101, is.set j.toNatClampNeg y, vs)) (hw.up hc) (by rw [show (ux_set h a (101, is.set j.toNatClampNeg y, vs)).2 = (h.2.1, h.2.2.1, true) from rfl, h2])
  exact ⟨o, h', E', ux_Gzst hi (by rw [hw a]; exact hc) hj hx h01 g1, g2⟩
theorem ux_Bald {a t : Nat} {j : Int32} {v : Value} {is : List Int32} {vs : List Value} (hi : P.1 i pc = some (.aaload, 1)) (hc : E a = some (t, is, vs)) (ht : 102 < t) (hj : ¬ j < 0) (hx : vs[j.toNatClampNeg]? = some v)
    (kk : ux_B P sc d i (pc + 1) ls (v :: st) E x z w K) : ux_B P sc d i pc ls (.int j :: .ref a :: st) E x z w K := by
  intro h hw h2
  obtain ⟨o, h', E', g1, g2⟩ := kk h hw h2
  exact ⟨o, h', E', ux_Gald hi (by rw [hw a]; exact hc) ht hj hx g1, g2⟩
theorem ux_Bast {a t v ci : Nat} {j : Int32} {is is2 : List Int32} {vs vs2 : List Value} (hi : P.1 i pc = some (.aastore, 1)) (hc : E a = some (t, is, vs)) (hv : E v = some (ci, is2, vs2)) (ht : 102 < t) (hci : ci < 100) (hco : P.2.2.2.2.2.1 t = ci) (hj : ¬ j < 0) (hx : j.toNatClampNeg < vs.length)
    (kk : ux_B P sc d i (pc + 1) ls st (ux_up E a (t, is, vs.set j.toNatClampNeg (.ref v))) x z true K) : ux_B P sc d i pc ls (.ref v :: .int j :: .ref a :: st) E x z w K := by
  intro h hw h2
  obtain ⟨o, h', E', g1, g2⟩ := kk (ux_set h a (t, is, vs.set j.toNatClampNeg (.ref v))) (hw.up hc) (by rw [show (ux_set h a (t, is, vs.set j.toNatClampNeg (.ref v))).2 = (h.2.1, h.2.2.1, true) from rfl, h2])
  exact ⟨o, h', E', ux_Gast hi (by rw [hw a]; exact hc) (by rw [hw v]; exact hv) ht hci hco hj hx g1, g2⟩
theorem ux_Blld {a : Nat} {j : Int32} {v : Value} {is : List Int32} {vs : List Value} (hi : P.1 i pc = some (.laload, 1)) (hc : E a = some (102, is, vs)) (hj : ¬ j < 0) (hx : vs[j.toNatClampNeg]? = some v)
    (kk : ux_B P sc d i (pc + 1) ls (v :: st) E x z w K) : ux_B P sc d i pc ls (.int j :: .ref a :: st) E x z w K := by
  intro h hw h2
  obtain ⟨o, h', E', g1, g2⟩ := kk h hw h2
  exact ⟨o, h', E', ux_Glld hi (by rw [hw a]; exact hc) hj hx g1, g2⟩
theorem ux_Blst {a : Nat} {j : Int32} {y : Int64} {is : List Int32} {vs : List Value} (hi : P.1 i pc = some (.lastore, 1)) (hc : E a = some (102, is, vs)) (hj : ¬ j < 0) (hx : j.toNatClampNeg < vs.length)
    (kk : ux_B P sc d i (pc + 1) ls st (ux_up E a (102, is, vs.set j.toNatClampNeg (.long y))) x z true K) : ux_B P sc d i pc ls (.long y :: .int j :: .ref a :: st) E x z w K := by
  intro h hw h2
  obtain ⟨o, h', E', g1, g2⟩ := kk (ux_set h a (102, is, vs.set j.toNatClampNeg (.long y))) (hw.up hc) (by rw [show (ux_set h a (102, is, vs.set j.toNatClampNeg (.long y))).2 = (h.2.1, h.2.2.1, true) from rfl, h2])
  exact ⟨o, h', E', ux_Glst hi (by rw [hw a]; exact hc) hj hx g1, g2⟩
theorem ux_Bslen (hi : P.1 i pc = some (.arraylength, 1)) (kk : ux_B P sc d i (pc + 1) ls (.int (Int32.ofNat sc.length) :: st) E x z w K) : ux_B P sc d i pc ls (.ref 0 :: st) E x z w K := by
  intro h hw h2
  obtain ⟨o, h', E', g1, g2⟩ := kk h hw h2
  refine ⟨o, h', E', ux_Gm (pc' := pc + 1) ?_ g1, g2⟩
  simp [ux_m1, hi, ux_sim, ux_mem, ux_len]
/-- a return; the instruction's place: the stack alone decides -/
def ux_rr (P : ux_P) (i pc : Nat) (st : List Value) : Option (Option Value) := match P.1 i pc with
  | some (.ireturn, _) => ux_ret (P.2.2.2.2.2.2 i).2.1 .ireturn st
  | some (.areturn, _) => ux_ret (P.2.2.2.2.2.2 i).2.1 .areturn st
  | some (.return_, _) => ux_ret (P.2.2.2.2.2.2 i).2.1 .return_ st
  | _ => none
theorem ux_Br {v : Option Value} (hs : ux_rr P i pc st = some v) (hk : K (.inr v) E x z w) : ux_B P sc d i pc ls st E x z w K := by
  intro h hw h2
  refine ⟨.inr v, h, E, ux_Gr ?_, hw, by rw [h2]; exact hk⟩
  unfold ux_rr at hs
  unfold ux_r1
  split at hs
  · rename_i hi; rw [hi]; exact hs
  · rename_i hi; rw [hi]; exact hs
  · rename_i hi; rw [hi]; exact hs
  · cases hs
/-- an int is answered -/
theorem ux_Bri {l9 : Nat} {y : Int32} (hi : P.1 i pc = some (.ireturn, l9)) (hr : (P.2.2.2.2.2.2 i).2.1 = 1 ∨ ((P.2.2.2.2.2.2 i).2.1 = 2 ∧ (y = 0 ∨ y = 1))) (hk : K (.inr (some (.int y))) E x z w) : ux_B P sc d i pc ls [.int y] E x z w K := by
  refine ux_Br (v := some (.int y)) ?_ hk
  unfold ux_rr
  rw [hi]
  simp only [ux_ret]
  rw [if_pos hr]
/-- 'throw new X()' -/
theorem ux_Bt {k : Nat} (hs : ux_t1 P sc i pc ls st ([], 0, 0, false) = some k) (hi : ∃ q, P.1 i pc = some (.new q, 3)) (hk : K (.inl k) E (x + 1) (z + 6) true) : ux_B P sc d i pc ls st E x z false K := by
  intro h hw h2
  have hthr : ux_t1 P sc i pc ls st h = some k := by
    obtain ⟨q, hi⟩ := hi
    unfold ux_t1 at hs ⊢
    rw [hi] at hs ⊢
    simp only [ux_sim, ux_ret] at hs ⊢
    have hm : ux_mem P sc i (.new q) st ([], 0, 0, false) = none := by
      cases hm : ux_mem P sc i (.new q) st ([], 0, 0, false) with
      | none => rfl
      | some y => rw [hm] at hs; cases hs
    have hm2 : ux_mem P sc i (.new q) st h = none := by
      unfold ux_mem at hm ⊢
      simp only at hm ⊢
      split at hm
      · split at hm
        · cases hm
        · rename_i ci _ hn
          have hn2 : ¬ (ci < 100 ∧ h.2.1 = 0) := fun hc => hn ⟨hc.1, trivial⟩
          rw [if_neg hn2]
      · rfl
    rw [hm] at hs
    rw [hm2]
    simp only at hs ⊢
    unfold ux_thr at hs ⊢
    simp only at hs ⊢
    split at hs
    · split at hs
      · rename_i hc
        rw [if_pos ⟨hc.1, hc.2.1, hc.2.2.1, by rw [h2], hc.2.2.2.2⟩]
        exact hs
      · cases hs
    · cases hs
  refine ⟨.inl k, _, E, ux_Gt hthr, hw, ?_⟩
  rw [h2]
  exact hk
/-- a call -/
def ux_cc (P : ux_P) (i pc : Nat) (st : List Value) (E : ux_Ev) : Option (Nat × List Value × List Value) := match P.1 i pc with
  | some (.invokestatic k, _) => (match P.2.2.1 i k with
    | some (q, j, n) => if q < 2 ∧ n ≤ st.length then some (j, (st.take n).reverse, st.drop n) else none
    | none => none)
  | some (.invokevirtual k, _) => (match P.2.2.1 i k with
    | some (q, j, n) => (match st.drop n with
      | .ref a :: r => (match E a with
        | some (ci, _, _) => if q = 100 + ci ∧ ci < 100 then some (j, .ref a :: (st.take n).reverse, r) else none
        | none => none)
      | _ => none)
    | none => none)
  | _ => none
theorem ux_cc_c1 {h : ux_H} (hw : ux_Vw h E) {j : Nat} {as r0 : List Value} (hs : ux_cc P i pc st E = some (j, as, r0)) (hc : (r0.map fun v => v.category).sum ≤ 16 ∧ as.length ≤ (P.2.2.2.2.2.2 j).1 ∧ (P.2.2.2.2.2.2 j).1 ≤ 30 ∧ (as.all fun v => v.category == 1) = true) : ux_c1 P sc i pc ls st h = some (j, as, r0) := by
  unfold ux_cc at hs
  split at hs
  · rename_i k l9 hi
    split at hs
    · rename_i q j' n hq
      split at hs
      · rename_i hq2
        cases hs
        unfold ux_c1
        rw [hi]
        have hm : ux_mem P sc i (.invokestatic k) st h = none := by
          unfold ux_mem
          simp only [hq]
          split
          · rename_i h7; injection h7 with h7; injection h7 with h7 _; omega
          · rename_i h7; injection h7 with h7; injection h7 with h7 _; omega
          · rfl
        simp only [ux_sim, hm, ux_ret, ux_thr, ux_cal, hq, if_pos hq2]
        rw [if_pos hc]
      · cases hs
    · cases hs
  · rename_i k l9 hi
    split at hs
    · rename_i q j' n hq
      split at hs
      · rename_i a r' hdr
        split at hs
        · rename_i ci is vs hE
          split at hs
          · rename_i hq2
            cases hs
            unfold ux_c1
            rw [hi]
            have hm : ux_mem P sc i (.invokevirtual k) st h = none := rfl
            have hcl : ux_cell h a = some (ci, is, vs) := by rw [hw a]; exact hE
            simp only [ux_sim, hm, ux_ret, ux_thr, ux_cal, hq, hdr, hcl, if_pos hq2]
            rw [if_pos hc]
          · cases hs
        · cases hs
      · cases hs
    · cases hs
  · cases hs
theorem ux_Bc {j : Nat} {as r0 : List Value} (hs : ux_cc P i pc st E = some (j, as, r0)) (hc : (r0.map fun v => v.category).sum ≤ 16 ∧ as.length ≤ (P.2.2.2.2.2.2 j).1 ∧ (P.2.2.2.2.2.2 j).1 ≤ 30 ∧ (as.all fun v => v.category == 1) = true)
    (hm : ux_Bm P sc d j as E x z (fun o E1 x1 z1 w1 => match o with
      | .inr v => ux_B P sc (d + 1) i (pc + 3) ls (v.toList ++ r0) E1 x1 z1 (w || w1) K
      | .inl k => (P.2.2.2.2.2.2 i).2.2 = [] ∧ K (.inl k) E1 x1 z1 true)) : ux_B P sc (d + 1) i pc ls st E x z w K := by
  intro h hw h2
  have hc1 := ux_cc_c1 (sc := sc) (ls := ls) hw hs hc
  obtain ⟨o, h', E', g1, g2, g3⟩ := hm (h.1, h.2.1, h.2.2.1, false) (fun a => hw a) (by rw [h2])
  cases o with
  | inr v =>
    obtain ⟨o2, h3, E3, k1, k2, k3⟩ := g3 (h'.1, h'.2.1, h'.2.2.1, h.2.2.2 || h'.2.2.2) (fun a => g2 a) (by rw [h2])
    exact ⟨o2, h3, E3, ux_Gc hc1 g1 k1, k2, k3⟩
  | inl k => exact ⟨.inl k, _, E', ux_Gx hc1 g1 g3.1, (fun a => g2 a), g3.2⟩
/-- a call under a handler -/
theorem ux_Bh {j : Nat} {as r0 : List Value} (hs : ux_cc P i pc st E = some (j, as, r0)) (hc : (r0.map fun v => v.category).sum ≤ 16 ∧ as.length ≤ (P.2.2.2.2.2.2 j).1 ∧ (P.2.2.2.2.2.2 j).1 ≤ 30 ∧ (as.all fun v => v.category == 1) = true)
    (hm : ux_Bm P sc d j as E x z (fun o E1 x1 z1 w1 => match o with
      | .inr v => ux_B P sc (d + 1) i (pc + 3) ls (v.toList ++ r0) E1 x1 z1 (w || w1) K
      | .inl k => ∃ t q len, ux_hnd (P.2.2.2.2.2.2 i).2.2 pc k = some t ∧ (P.1 i t).bind (fun y => ux_lay y.1) = some (q, len) ∧ q < ls.length ∧ ux_B P sc (d + 1) i (t + len) (ls.set q .null) [] E1 x1 z1 true K)) : ux_B P sc (d + 1) i pc ls st E x z w K := by
  intro h hw h2
  have hc1 := ux_cc_c1 (sc := sc) (ls := ls) hw hs hc
  obtain ⟨o, h', E', g1, g2, g3⟩ := hm (h.1, h.2.1, h.2.2.1, false) (fun a => hw a) (by rw [h2])
  cases o with
  | inr v =>
    obtain ⟨o2, h3, E3, k1, k2, k3⟩ := g3 (h'.1, h'.2.1, h'.2.2.1, h.2.2.2 || h'.2.2.2) (fun a => g2 a) (by rw [h2])
    exact ⟨o2, h3, E3, ux_Gc hc1 g1 k1, k2, k3⟩
  | inl k =>
    obtain ⟨t, q, len, a1, a2, a3, a4⟩ := g3
    obtain ⟨o2, h3, E3, k1, k2, k3⟩ := a4 (h'.1, h'.2.1, h'.2.2.1, true) (fun a => g2 a) rfl
    exact ⟨o2, h3, E3, ux_Gh hc1 g1 a1 a2 a3 k1, k2, k3⟩
theorem ux_B.mono {K2 : ux_K1} (hb : ux_B P sc d i pc ls st E x z w K) (hk : ∀ o E x z w, K o E x z w → K2 o E x z w) : ux_B P sc d i pc ls st E x z w K2 := by
  intro h hw h2
  obtain ⟨o, h', E', g1, g2, g3⟩ := hb h hw h2
  exact ⟨o, h', E', g1, g2, hk _ _ _ _ _ g3⟩
theorem ux_B.view {E2 : ux_Ev} (hb : ux_B P sc d i pc ls st E x z w K) (he : E2 = E) : ux_B P sc d i pc ls st E2 x z w K := by rw [he]; exact hb
end UXB
