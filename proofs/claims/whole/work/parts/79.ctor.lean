/-! The constructors' runs. -/
def ux_chk (r : Option (ux_O × ux_H)) (l : List ux_C) (n : Nat) : Bool := match r with
  | some (.inr none, h) => heq h.1 l && (Nat.beq h.2.1 0 && Nat.beq h.2.2.1 n)
  | _ => false
theorem ux_chk_s {r : Option (ux_O × ux_H)} {l : List ux_C} {n : Nat} (h : ux_chk r l n = true) : ∃ w, r = some (.inr none, (l, 0, n, w)) := by
  unfold ux_chk at h
  split at h
  · rename_i h'
    rw [Bool.and_eq_true, Bool.and_eq_true] at h
    obtain ⟨h1, h2, h3⟩ := h
    obtain ⟨a, b, c, w⟩ := h'
    have e1 : a = l := heq_s h1
    have e2 : b = 0 := Nat.eq_of_beq_eq_true h2
    have e3 : c = n := Nat.eq_of_beq_eq_true h3
    exact ⟨w, by rw [e1, e2, e3]⟩
  · cases h
set_option maxRecDepth 100000 in
theorem ux_ctor1 : ux_chk (ux_run (ux_noal uxP) [] 3000 20 1 0 [.ref 1, .null] [] ([(0, [], uxDv 0)], 0, 10, false)) kD 6106 = true := by decide +kernel
set_option maxRecDepth 100000 in
theorem ux_ctor2 : ux_chk (ux_run (ux_noal uxP) [] 3000 20 79 0 [.ref 210, .null] [] (kD ++ [(7, [], uxDv 7)], 0, 6142, false)) (kD ++ kM) 9992 = true := by decide +kernel
theorem kD_len : kD.length = 209 := by decide +kernel
theorem kM_len : kM.length = 28 := by decide +kernel
