/-! The evaluator's judgement, goal first: ux_G .. r: from here the method ends so. -/
theorem ux_run_up {P : ux_P} {sc : List Int32} : ∀ (n d i pc : Nat) (ls st : List Value) (h : ux_H) (r : ux_O × ux_H), ux_run P sc n d i pc ls st h = some r → ∀ (n' d' : Nat), n ≤ n' → d ≤ d' → ux_run P sc n' d' i pc ls st h = some r := by
  intro n
  induction n with
  | zero => intro d i pc ls st h r hr; cases hr
  | succ n ih =>
    intro d i pc ls st h r hr n' d' hn hd
    obtain ⟨n2, rfl⟩ : ∃ k, n' = k + 1 := ⟨n' - 1, by omega⟩
    have hn2 : n ≤ n2 := by omega
    unfold ux_run at hr ⊢
    split at hr
    · cases hr
    · rename_i ins len hins
      try rw [hins]
      try simp only
      split at hr
      · rename_i hsim
        try rw [hsim]
        exact ih _ _ _ _ _ _ _ hr _ _ hn2 hd
      · rename_i hsim
        try rw [hsim]
        try simp only
        split at hr
        · rename_i hmem
          try rw [hmem]
          exact ih _ _ _ _ _ _ _ hr _ _ hn2 hd
        · rename_i hmem
          try rw [hmem]
          try simp only
          split at hr
          · rename_i hret
            try rw [hret]
            exact hr
          · rename_i hret
            try rw [hret]
            try simp only
            split at hr
            · rename_i hthr
              try rw [hthr]
              exact hr
            · rename_i hthr
              try rw [hthr]
              try simp only
              split at hr
              · rename_i j as r0 d0 hcal
                obtain ⟨d1, rfl⟩ : ∃ k, d' = k + 1 := ⟨d' - 1, by omega⟩
                try rw [hcal]
                try simp only
                split at hr
                · rename_i hcond
                  rw [if_pos hcond]
                  split at hr
                  · rename_i v h1 hin
                    rw [ih _ _ _ _ _ _ _ hin n2 d1 hn2 (by omega)]
                    exact ih _ _ _ _ _ _ _ hr _ _ hn2 (by omega)
                  · rename_i k h1 hin
                    rw [ih _ _ _ _ _ _ _ hin n2 d1 hn2 (by omega)]
                    simp only
                    split at hr
                    · rename_i hnd
                      try rw [hnd]
                      exact hr
                    · rename_i t hnd
                      try rw [hnd]
                      try simp only
                      split at hr
                      · rename_i hlay
                        try rw [hlay]
                        try simp only
                        split at hr
                        · rename_i hq
                          rw [if_pos hq]
                          exact ih _ _ _ _ _ _ _ hr _ _ hn2 (by omega)
                        · cases hr
                      · cases hr
                  · cases hr
                · cases hr
              · cases hr
def ux_G (P : ux_P) (sc : List Int32) (d i pc : Nat) (ls st : List Value) (h : ux_H) (r : ux_O × ux_H) : Prop := ∃ n, ux_run P sc n d i pc ls st h = some r
/-- a whole method -/
def ux_Y (P : ux_P) (sc : List Int32) (d j : Nat) (as : List Value) (h : ux_H) (r : ux_O × ux_H) : Prop := ux_G P sc d j 0 (as ++ List.replicate ((P.2.2.2.2.2.2 j).1 - as.length) .null) [] (h.1, h.2.1, h.2.2.1, false) r
section UXG
variable {P : ux_P} {sc : List Int32} {d i pc : Nat} {ls st : List Value} {h : ux_H} {r : ux_O × ux_H}
theorem ux_G.up {d' : Nat} (hG : ux_G P sc d i pc ls st h r) (hd : d ≤ d') : ux_G P sc d' i pc ls st h r := by
  obtain ⟨n, hn⟩ := hG
  exact ⟨n, ux_run_up n d i pc ls st h r hn n d' (Nat.le_refl _) hd⟩
theorem ux_Y.up {d' j : Nat} {as : List Value} (hG : ux_Y P sc d j as h r) (hd : d ≤ d') : ux_Y P sc d' j as h r := ux_G.up hG hd
def ux_s1 (P : ux_P) (i pc : Nat) (ls st : List Value) : Option (Nat × List Value × List Value) := match P.1 i pc with
  | some (ins, _) => ux_sim ins pc ls st
  | none => none
theorem ux_Gs {pc' : Nat} {ls' st' : List Value} (hs : ux_s1 P i pc ls st = some (pc', ls', st')) (k : ux_G P sc d i pc' ls' st' h r) : ux_G P sc d i pc ls st h r := by
  obtain ⟨n, hn⟩ := k
  refine ⟨n + 1, ?_⟩
  unfold ux_s1 at hs
  split at hs
  · rename_i ins len hins
    unfold ux_run
    rw [hins]
    simp only [hs]
    exact hn
  · cases hs
def ux_sN (P : ux_P) (i : Nat) : Nat → Nat → List Value → List Value → Option (Nat × List Value × List Value)
  | 0, pc, ls, st => some (pc, ls, st)
  | n + 1, pc, ls, st => match ux_s1 P i pc ls st with
    | some (pc', ls', st') => ux_sN P i n pc' ls' st'
    | none => none
theorem ux_GN (n : Nat) {pc' : Nat} {ls' st' : List Value} (hs : ux_sN P i n pc ls st = some (pc', ls', st')) (k : ux_G P sc d i pc' ls' st' h r) : ux_G P sc d i pc ls st h r := by
  induction n generalizing pc ls st with
  | zero => cases hs; exact k
  | succ n ih =>
    unfold ux_sN at hs
    split at hs
    · rename_i h1
      exact ux_Gs h1 (ih hs)
    · cases hs
def ux_m1 (P : ux_P) (sc : List Int32) (i pc : Nat) (ls st : List Value) (h : ux_H) : Option (Nat × List Value × ux_H) := match P.1 i pc with
  | some (ins, _) => match ux_sim ins pc ls st with
    | some _ => none
    | none => (ux_mem P sc i ins st h).map fun q => (pc + q.1, q.2.1, q.2.2)
  | none => none
theorem ux_Gm {pc' : Nat} {st' : List Value} {h' : ux_H} (hs : ux_m1 P sc i pc ls st h = some (pc', st', h')) (k : ux_G P sc d i pc' ls st' h' r) : ux_G P sc d i pc ls st h r := by
  obtain ⟨n, hn⟩ := k
  refine ⟨n + 1, ?_⟩
  unfold ux_m1 at hs
  split at hs
  · rename_i ins len hins
    split at hs
    · cases hs
    · rename_i hsim
      cases hmem : ux_mem P sc i ins st h with
      | none => rw [hmem] at hs; cases hs
      | some q =>
        obtain ⟨q1, q2, q3⟩ := q
        rw [hmem] at hs
        cases hs
        unfold ux_run
        rw [hins]
        simp only [hsim, hmem]
        exact hn
  · cases hs
def ux_r1 (P : ux_P) (sc : List Int32) (i pc : Nat) (ls st : List Value) (h : ux_H) : Option (Option Value) := match P.1 i pc with
  | some (ins, _) => match ux_sim ins pc ls st, ux_mem P sc i ins st h with
    | none, none => ux_ret (P.2.2.2.2.2.2 i).2.1 ins st
    | _, _ => none
  | none => none
theorem ux_Gr {v : Option Value} (hs : ux_r1 P sc i pc ls st h = some v) : ux_G P sc d i pc ls st h (.inr v, h) := by
  refine ⟨1, ?_⟩
  unfold ux_r1 at hs
  split at hs
  · rename_i ins len hins
    split at hs
    · rename_i h1 h2
      unfold ux_run
      rw [hins]
      simp only [h1, h2, hs]
    · cases hs
  · cases hs
def ux_t1 (P : ux_P) (sc : List Int32) (i pc : Nat) (ls st : List Value) (h : ux_H) : Option Nat := match P.1 i pc with
  | some (ins, _) => match ux_sim ins pc ls st, ux_mem P sc i ins st h, ux_ret (P.2.2.2.2.2.2 i).2.1 ins st with
    | none, none, none => ux_thr P i pc ins st h
    | _, _, _ => none
  | none => none
theorem ux_Gt {k : Nat} (hs : ux_t1 P sc i pc ls st h = some k) : ux_G P sc d i pc ls st h (.inl k, (h.1, h.2.1 + 1, h.2.2.1 + 6, true)) := by
  refine ⟨1, ?_⟩
  unfold ux_t1 at hs
  split at hs
  · rename_i ins len hins
    split at hs
    · rename_i h1 h2 h3
      unfold ux_run
      rw [hins]
      simp only [h1, h2, h3, hs]
    · cases hs
  · cases hs
/-- a call: the callee, its arguments, what stays -/
def ux_c1 (P : ux_P) (sc : List Int32) (i pc : Nat) (ls st : List Value) (h : ux_H) : Option (Nat × List Value × List Value) := match P.1 i pc with
  | some (ins, _) => match ux_sim ins pc ls st, ux_mem P sc i ins st h, ux_ret (P.2.2.2.2.2.2 i).2.1 ins st, ux_thr P i pc ins st h with
    | none, none, none, none => match ux_cal P i ins st h with
      | some (j, as, r0) => if (r0.map fun v => v.category).sum ≤ 16 ∧ as.length ≤ (P.2.2.2.2.2.2 j).1 ∧ (P.2.2.2.2.2.2 j).1 ≤ 30 ∧ (as.all fun v => v.category == 1) then some (j, as, r0) else none
      | none => none
    | _, _, _, _ => none
  | none => none
theorem ux_c1_run {j : Nat} {as r0 : List Value} (hs : ux_c1 P sc i pc ls st h = some (j, as, r0)) (n d : Nat) : ux_run P sc (n + 1) (d + 1) i pc ls st h = (match ux_run P sc n d j 0 (as ++ List.replicate ((P.2.2.2.2.2.2 j).1 - as.length) .null) [] (h.1, h.2.1, h.2.2.1, false) with
                  | some (.inr v, h') => ux_run P sc n (d + 1) i (pc + 3) ls (v.toList ++ r0) (h'.1, h'.2.1, h'.2.2.1, h.2.2.2 || h'.2.2.2)
                  | some (.inl k, h') => (match ux_hnd (P.2.2.2.2.2.2 i).2.2 pc k with
                    | none => if (P.2.2.2.2.2.2 i).2.2 = [] then some (.inl k, (h'.1, h'.2.1, h'.2.2.1, true)) else none
                    | some t => (match (P.1 i t).bind fun x => ux_lay x.1 with
                      | some (q, len) => if q < ls.length then ux_run P sc n (d + 1) i (t + len) (ls.set q .null) [] (h'.1, h'.2.1, h'.2.2.1, true) else none
                      | none => none))
                  | none => none) := by
  unfold ux_c1 at hs
  split at hs
  · rename_i ins len hins
    split at hs
    · rename_i h1 h2 h3 h4
      split at hs
      · rename_i j' as' r' hcal
        split at hs
        · rename_i hcond
          cases hs
          rw [ux_run, hins]
          simp only [h1, h2, h3, h4, hcal]
          rw [if_pos hcond]
          rfl
        · cases hs
      · cases hs
    · cases hs
  · cases hs
theorem ux_Gc {j : Nat} {as r0 : List Value} {v : Option Value} {h' : ux_H} (hs : ux_c1 P sc i pc ls st h = some (j, as, r0)) (hc : ux_Y P sc d j as h (.inr v, h'))
    (k : ux_G P sc (d + 1) i (pc + 3) ls (v.toList ++ r0) (h'.1, h'.2.1, h'.2.2.1, h.2.2.2 || h'.2.2.2) r) : ux_G P sc (d + 1) i pc ls st h r := by
  obtain ⟨n1, h1⟩ := hc
  obtain ⟨n2, h2⟩ := k
  refine ⟨max n1 n2 + 1, ?_⟩
  rw [ux_c1_run hs, ux_run_up _ _ _ _ _ _ _ _ h1 (max n1 n2) d (by omega) (Nat.le_refl _)]
  exact ux_run_up _ _ _ _ _ _ _ _ h2 _ _ (by omega) (Nat.le_refl _)
/-- a call that throws on -/
theorem ux_Gx {j k : Nat} {as r0 : List Value} {h' : ux_H} (hs : ux_c1 P sc i pc ls st h = some (j, as, r0)) (hc : ux_Y P sc d j as h (.inl k, h')) (hn : (P.2.2.2.2.2.2 i).2.2 = []) : ux_G P sc (d + 1) i pc ls st h (.inl k, (h'.1, h'.2.1, h'.2.2.1, true)) := by
  obtain ⟨n1, h1⟩ := hc
  refine ⟨n1 + 1, ?_⟩
  rw [ux_c1_run hs, h1]
  simp only [hn, ux_hnd, if_pos]
/-- a call whose exception is caught -/
theorem ux_Gh {j k t q len : Nat} {as r0 : List Value} {h' : ux_H} (hs : ux_c1 P sc i pc ls st h = some (j, as, r0)) (hc : ux_Y P sc d j as h (.inl k, h')) (hn : ux_hnd (P.2.2.2.2.2.2 i).2.2 pc k = some t) (hl : (P.1 i t).bind (fun x => ux_lay x.1) = some (q, len)) (hq : q < ls.length)
    (kk : ux_G P sc (d + 1) i (t + len) (ls.set q .null) [] (h'.1, h'.2.1, h'.2.2.1, true) r) : ux_G P sc (d + 1) i pc ls st h r := by
  obtain ⟨n1, h1⟩ := hc
  obtain ⟨n2, h2⟩ := kk
  refine ⟨max n1 n2 + 1, ?_⟩
  rw [ux_c1_run hs, ux_run_up _ _ _ _ _ _ _ _ h1 (max n1 n2) d (by omega) (Nat.le_refl _)]
  simp only [hn, hl]
  rw [if_pos hq]
  exact ux_run_up _ _ _ _ _ _ _ _ h2 _ _ (by omega) (Nat.le_refl _)
/-- a branch -/
theorem ux_Gif {c : Prop} {_ : Decidable c} {a b' : Nat} (ka : c → ux_G P sc d i a ls st h r) (kb : ¬ c → ux_G P sc d i b' ls st h r) : ux_G P sc d i (if decide c = true then a else b') ls st h r := by
  by_cases hc : c
  · rw [if_pos (decide_eq_true hc)]; exact ka hc
  · rw [if_neg (by simpa using hc)]; exact kb hc
end UXG
