/-! The constructors: the evaluator's run of them, once, without a script. -/
def ux_noal (P : ux_P) : ux_P := (fun i pc => match P.1 i pc with
  | some (.arraylength, _) => none
  | some (.iaload, _) => none
  | some (.baload, _) => none
  | y => y, P.2)
theorem ux_noal_at {P : ux_P} {i pc : Nat} {ins : Instr} {len : Nat} (h : (ux_noal P).1 i pc = some (ins, len)) : P.1 i pc = some (ins, len) ∧ ins ≠ .arraylength ∧ ins ≠ .iaload ∧ ins ≠ .baload := by
  unfold ux_noal at h
  simp only at h
  split at h
  · cases h
  · cases h
  · cases h
  · rename_i h1 h2 h3
    refine ⟨h, fun e => ?_, fun e => ?_, fun e => ?_⟩
    · subst e; exact h1 _ h
    · subst e; exact h2 _ h
    · subst e; exact h3 _ h
theorem ux_noal_mem {P : ux_P} {sc : List Int32} {i : Nat} {ins : Instr} (h1 : ins ≠ .arraylength) (h2 : ins ≠ .iaload) (h3 : ins ≠ .baload) (st : List Value) (h : ux_H) : ux_mem (ux_noal P) [] i ins st h = ux_mem P sc i ins st h := by
  cases ins <;> first | rfl | exact absurd rfl h1 | exact absurd rfl h2 | exact absurd rfl h3
theorem ux_noal_thr {P : ux_P} {i pc : Nat} {ins : Instr} {st : List Value} {h : ux_H} {k : Nat} (ht : ux_thr (ux_noal P) i pc ins st h = some k) : ux_thr P i pc ins st h = some k := by
  cases ins <;> first | exact ht | skip
  rename_i q
  unfold ux_thr at ht ⊢
  simp only at ht ⊢
  split at ht
  · rename_i g1 g2 g3 g4
    rw [show P.2.2.2.1 i q = some _ from g1, (ux_noal_at g2).1, (ux_noal_at g3).1, (ux_noal_at g4).1]
    exact ht
  · cases ht
theorem ux_cal_thr {P : ux_P} {i pc : Nat} {ins : Instr} {st : List Value} {h : ux_H} {y : Nat × List Value × List Value} (hc : ux_cal P i ins st h = some y) : ux_thr P i pc ins st h = none := by
  cases ins <;> first | rfl | cases hc
theorem ux_run_sc {P : ux_P} {sc : List Int32} : ∀ (n d i pc : Nat) (ls st : List Value) (h : ux_H) (r : ux_O × ux_H), ux_run (ux_noal P) [] n d i pc ls st h = some r → ux_run P sc n d i pc ls st h = some r := by
  intro n
  induction n with
  | zero => intro d i pc ls st h r hr; cases hr
  | succ n ih =>
    intro d i pc ls st h r hr
    unfold ux_run at hr ⊢
    split at hr
    · cases hr
    · rename_i ins len hins
      obtain ⟨q1, q2, q3, q4⟩ := ux_noal_at hins
      rw [q1]
      try simp only
      split at hr
      · rename_i hsim
        try rw [hsim]
        exact ih _ _ _ _ _ _ _ hr
      · rename_i hsim
        try rw [hsim]
        try simp only
        rw [ux_noal_mem (sc := sc) q2 q3 q4] at hr
        split at hr
        · rename_i hmem
          try rw [hmem]
          exact ih _ _ _ _ _ _ _ hr
        · rename_i hmem
          try rw [hmem]
          try simp only
          split at hr
          · rename_i hret
            try rw [show ux_ret (P.2.2.2.2.2.2 i).2.1 ins st = some _ from hret]
            exact hr
          · rename_i hret
            try rw [show ux_ret (P.2.2.2.2.2.2 i).2.1 ins st = none from hret]
            try simp only
            split at hr
            · rename_i hthr
              rw [ux_noal_thr hthr]
              exact hr
            · rename_i hthr
              split at hr
              · rename_i j as r0 d0 hcal
                rw [ux_cal_thr (show ux_cal P i ins st h = some _ from hcal), show ux_cal P i ins st h = some _ from hcal]
                try simp only
                split at hr
                · rename_i hcond
                  rw [if_pos (show (r0.map fun v => v.category).sum ≤ 16 ∧ as.length ≤ (P.2.2.2.2.2.2 j).1 ∧ (P.2.2.2.2.2.2 j).1 ≤ 30 ∧ (as.all fun v => v.category == 1) = true from hcond)]
                  split at hr
                  · rename_i v h1 hin
                    have hin' := ih _ _ _ _ _ _ _ hin
                    rw [show ux_run P sc n d0 j 0 (as ++ List.replicate ((P.2.2.2.2.2.2 j).1 - as.length) .null) [] (h.1, h.2.1, h.2.2.1, false) = _ from hin']
                    exact ih _ _ _ _ _ _ _ hr
                  · rename_i k h1 hin
                    have hin' := ih _ _ _ _ _ _ _ hin
                    rw [show ux_run P sc n d0 j 0 (as ++ List.replicate ((P.2.2.2.2.2.2 j).1 - as.length) .null) [] (h.1, h.2.1, h.2.2.1, false) = _ from hin']
                    try simp only
                    split at hr
                    · rename_i hnd
                      try rw [show ux_hnd (P.2.2.2.2.2.2 i).2.2 pc k = none from hnd]
                      exact hr
                    · rename_i t hnd
                      try rw [show ux_hnd (P.2.2.2.2.2.2 i).2.2 pc k = some t from hnd]
                      try simp only
                      split at hr
                      · rename_i q len2 hlay
                        have hl2 : (P.1 i t).bind (fun x => ux_lay x.1) = some (q, len2) := by
                          cases hp : (ux_noal P).1 i t with
                          | none => rw [hp] at hlay; cases hlay
                          | some y =>
                            obtain ⟨y1, y2⟩ := y
                            rw [hp] at hlay
                            rw [(ux_noal_at hp).1]
                            exact hlay
                        rw [hl2]
                        try simp only
                        split at hr
                        · rename_i hq
                          rw [if_pos hq]
                          exact ih _ _ _ _ _ _ _ hr
                        · cases hr
                      · cases hr
                  · cases hr
                · cases hr
              · cases hr
/-! comparing heaps -/
def veq (a b : Value) : Bool := match a, b with
  | .int x, .int y => decide (x = y)
  | .ref x, .ref y => decide (x = y)
  | .null, .null => true
  | _, _ => false
def vseq : List Value → List Value → Bool
  | [], [] => true
  | a :: l, b :: r => veq a b && vseq l r
  | _, _ => false
def ieq : List Int32 → List Int32 → Bool
  | [], [] => true
  | a :: l, b :: r => decide (a = b) && ieq l r
  | _, _ => false
def heq : List ux_C → List ux_C → Bool
  | [], [] => true
  | a :: l, b :: r => (Nat.beq a.1 b.1 && (ieq a.2.1 b.2.1 && vseq a.2.2 b.2.2)) && heq l r
  | _, _ => false
theorem veq_s {a b : Value} (h : veq a b = true) : a = b := by
  unfold veq at h
  split at h
  · rw [of_decide_eq_true h]
  · rw [of_decide_eq_true h]
  · rfl
  · cases h
theorem vseq_s : ∀ {a b : List Value}, vseq a b = true → a = b := by
  intro a
  induction a with
  | nil => intro b h; cases b with
    | nil => rfl
    | cons _ _ => cases h
  | cons x a ih => intro b h; cases b with
    | nil => cases h
    | cons y b =>
      have h : (veq x y && vseq a b) = true := h
      rw [Bool.and_eq_true] at h
      rw [veq_s h.1, ih h.2]
theorem ieq_s : ∀ {a b : List Int32}, ieq a b = true → a = b := by
  intro a
  induction a with
  | nil => intro b h; cases b with
    | nil => rfl
    | cons _ _ => cases h
  | cons x a ih => intro b h; cases b with
    | nil => cases h
    | cons y b =>
      have h : (decide (x = y) && ieq a b) = true := h
      rw [Bool.and_eq_true] at h
      rw [of_decide_eq_true h.1, ih h.2]
theorem heq_s : ∀ {a b : List ux_C}, heq a b = true → a = b := by
  intro a
  induction a with
  | nil => intro b h; cases b with
    | nil => rfl
    | cons _ _ => cases h
  | cons x a ih => intro b h; cases b with
    | nil => cases h
    | cons y b =>
      have h : ((Nat.beq x.1 y.1 && (ieq x.2.1 y.2.1 && vseq x.2.2 y.2.2)) && heq a b) = true := h
      rw [Bool.and_eq_true, Bool.and_eq_true, Bool.and_eq_true] at h
      obtain ⟨⟨h1, h2, h3⟩, h4⟩ := h
      obtain ⟨x1, x2, x3⟩ := x
      obtain ⟨y1, y2, y3⟩ := y
      have e1 : x1 = y1 := Nat.eq_of_beq_eq_true h1
      have e2 : x2 = y2 := ieq_s h2
      have e3 : x3 = y3 := vseq_s h3
      rw [e1, e2, e3, ih h4]
/-! the first heap -/
def z0 (n : Nat) : List Int32 := List.replicate n 0
def kU (a : Nat) : List ux_C := [(6, [], [.ref (a + 1), .ref (a + 3), .ref (a + 4), .int (-1), .int 0]), (5, [], [.ref (a + 2), .int 0]), (100, z0 30, []), (100, z0 8, []), (100, z0 122, [])]
def kF (f : Nat) : List ux_C := [(5, [], [.ref (19 + 24 * f), .int 0]), (100, z0 30, []), (4, [], [.ref (21 + 24 * f), .int 0]), (105, [], [.ref (22 + 24 * f), .ref (27 + 24 * f), .ref (32 + 24 * f), .ref (37 + 24 * f)])] ++ (kU (22 + 24 * f) ++ (kU (27 + 24 * f) ++ (kU (32 + 24 * f) ++ kU (37 + 24 * f))))
def kD : List ux_C := [(0, [], [.ref 2, .ref 3, .ref 4, .ref 5, .ref 6, .ref 7, .ref 8, .ref 9, .ref 10, .ref 14]), (100, List.replicate 8 (-1), []), (103, [], (List.range 8).map fun f => .ref (18 + 24 * f)), (104, [], (List.range 8).map fun f => .ref (20 + 24 * f)), (100, z0 8, []), (100, List.replicate 8 (-1), []), (100, z0 8, []), (100, z0 5, []), (1, [], [.int 0, .int (-1), .int 0]), (2, [], [.ref 11, .ref 12, .ref 13, .int 0]), (100, z0 300, []), (100, List.replicate 8 (-1), []), (100, z0 8, []), (3, [], [.int 0, .int 0, .ref 15, .ref 16, .ref 17, .int 0, .int 0, .int 0]), (100, z0 40, []), (100, z0 12, []), (100, z0 12, [])] ++ (kF 0 ++ (kF 1 ++ (kF 2 ++ (kF 3 ++ (kF 4 ++ (kF 5 ++ (kF 6 ++ kF 7)))))))
def kM : List ux_C := (7, [], md_F fun _ => 0) :: (List.range 27).map fun k => (md_k (211 + k), if k = 11 ∨ k = 16 then List.replicate 8 (-1) else z0 (md_sz (211 + k)), [])
