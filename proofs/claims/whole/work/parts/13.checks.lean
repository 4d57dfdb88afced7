/-! The tables are those of the Statement: checks by program, and what they give. -/
def ux_in (w : Cond) : Bool := decide (w ∈ uxTw)
theorem ux_in_of {w : Cond} (h : ux_in w = true) : w ∈ uxTw := of_decide_eq_true h
def ux_pos (n : Nat) (w : Cond) : Bool := decide (lw_tbl[n]? = some w) && uxGood w
theorem ux_pos_mem {n : Nat} {w : Cond} (h : ux_pos n w = true) : w ∈ uxTw := by
  unfold ux_pos at h
  rw [Bool.and_eq_true, decide_eq_true_eq] at h
  exact List.mem_filter.mpr ⟨List.mem_of_getElem? h.1, h.2⟩
theorem ux_okW_uxTw : ux_okW uxTw := by
  intro w hw s U a a' hW h
  have hg := (List.mem_filter.mp hw).2
  unfold uxGood at hg
  split at hg
  · exact va_Nw.use rfl (va_Nw.warmM hW (va_Nw.of rfl h))
  · exact va_AO.use (va_AO.moved hW.alike (va_AO.of h))
  · exact va_Nw.use rfl (va_Nw.warmD hW (va_Nw.of rfl h))
  · exact va_Nw.use rfl (va_tabs rfl (rfl : (s.setVm U.vm).vm = U.vm) (by rw [Cond.castable_setVm hW.alike]; exact va_Nw.of rfl h))
  · exact word_at hW (good_of_word hg) h
def ux_chkI (b : ByteArray) : Nat → List (Option (Instr × Nat)) → Bool
  | _, [] => true
  | pc, o :: r => (match o with
    | none => true
    | some q => decide (decode b pc = .ok q) && ux_lok q.1 q.2) && ux_chkI b (pc + 1) r
theorem ux_chkI_at {b : ByteArray} : ∀ (l : List (Option (Instr × Nat))) (pc n : Nat) (q : Instr × Nat), ux_chkI b pc l = true → ux_nth l n = some (some q) → decode b (pc + n) = .ok q ∧ ux_lok q.1 q.2 = true := by
  intro l
  induction l with
  | nil => intro pc n q _ h; cases h
  | cons o r ih =>
    intro pc n q hc h
    unfold ux_chkI at hc
    rw [Bool.and_eq_true] at hc
    cases n with
    | zero =>
      cases h
      have h1 := hc.1
      simp only [Bool.and_eq_true, decide_eq_true_eq] at h1
      exact h1
    | succ n =>
      have := ih (pc + 1) n q hc.2 h
      rw [show pc + 1 + n = pc + (n + 1) by omega] at this
      exact this
def ux_all2 {α β : Type} (f : α → β → Bool) : List α → List β → Bool
  | [], [] => true
  | a :: l, b :: r => f a b && ux_all2 f l r
  | _, _ => false
theorem ux_all2_at {α β : Type} {f : α → β → Bool} : ∀ (l : List α) (r : List β) (n : Nat) (a : α), ux_all2 f l r = true → ux_nth l n = some a → ∃ b, ux_nth r n = some b ∧ f a b = true := by
  intro l
  induction l with
  | nil => intro r n a _ h; cases h
  | cons x l ih =>
    intro r n a hc h
    cases r with
    | nil => cases hc
    | cons y r =>
      unfold ux_all2 at hc
      rw [Bool.and_eq_true] at hc
      cases n with
      | zero => cases h; exact ⟨y, rfl, hc.1⟩
      | succ n => exact ih r n a hc.2 h
def ux_chkH (own : String) (q r : Nat × Nat × Nat × Nat) : Bool := decide (q.1 = r.1 ∧ q.2.1 = r.2.1 ∧ q.2.2.1 = r.2.2.1 ∧ r.2.2.2 ≠ 0 ∧ q.2.2.2 < 3) && ux_in (.classLink own r.2.2.2 (uxEx q.2.2.2).1)
def ux_chk2 (q : ux_J) (m : ux_Ms) : Bool :=
  decide (ux_nth uxOn q.2.1 = some m.1.cls) && decide (q.2.2.2.1 = 0 ∨ q.2.2.2.1 = 4 → m.2.2.1 = none) && decide (q.2.2.2.1 = 1 → m.2.2.1 = some .int) && decide (q.2.2.2.1 = 2 → m.2.2.1 = some .boolean) && (!decide (q.2.2.2.1 = 3) || (match m.2.2.1 with
    | some (.object _) => true
    | _ => false)) && decide (q.2.2.2.1 = 4 → m.1.name = "<init>") && ux_all2 (ux_chkH m.1.cls) q.2.2.2.2 m.2.2.2
def ux_fN (news : List (Nat × Nat)) (own : String) (e : Nat × Nat × Nat × Bool) : Bool := match uxCl[e.2.1]? with
  | none => false
  | some r => decide (e.2.2.1 < r.2.2 ∧ (r.2.1 e.2.2.1).1 = r.1) && ux_in (.fieldLink own e.1 r.1 (r.2.1 e.2.2.1).2.1 (r.2.1 e.2.2.1).2.2.1) && decide (e.2.2.2 = false → uxTy e.2.1 e.2.2.1 = .int) && decide (e.2.2.2 = true → (uxTy e.2.1 e.2.2.1).isReference = true) && decide (ux_key news (200000 + e.1) = some 2000 → (r.2.1 e.2.2.1).2.2.2 = false) && decide (ux_key news (200000 + e.1) = some 2001 → r.1 = own) && decide (e.2.1 < 100)
def ux_nN (own : String) (e : Nat × Nat) : Bool :=
  if e.2 < 100 then (match uxCl[e.2]? with
    | none => false
    | some r => ux_in (.classLink own e.1 r.1) && ux_in (.instantiable r.1 r.2.2) && ux_in (.initialized r.1) && decide ((uxDv e.2).length = r.2.2) && decide (∀ j, j < r.2.2 → (uxDv e.2)[j]? = some (defaultValue (uxTy e.2 j))))
  else if e.2 < 1000 then decide (100000 ≤ e.1) && (match uxAty e.2 with
    | some (.object C) => ux_in (.classLink own (e.1 - 100000) C) && ux_in (.arrayOver (.object C))
    | _ => false)
  else if e.2 < 1003 then ux_in (.classLink own e.1 (uxEx (e.2 - 1000)).1) && ux_in (.initialized (uxEx (e.2 - 1000)).1)
  else decide (2000 ≤ e.2)
def ux_isZ (w : Cond) : Bool := uxZs.any fun z => decide (w = .isRef (.static z.1 z.2.1 z.2.2)) || decide (w = .laysStatic z.1 z.2.1 z.2.2)
def ux_gN (own : String) (e : Nat × Nat × Nat × Nat) : Bool :=
  if e.2.1 = 6 then ux_in (.methodLink own e.1 Lib.objectInit) && ux_in (.instanceMethod Lib.objectInit) && ux_in (.code Lib.objectInit ⟨#[0xb1]⟩ 1 none)
  else if e.2.1 = 7 then ux_in (.methodLink own e.1 Lib.Math.max.name) && ux_in (.static Lib.Math.max.name) && ux_in (.initialized "java/lang/Math") && ux_in (.code Lib.Math.max.name Lib.Math.max.code 2 (some .int))
  else if e.2.1 = 8 then ux_in (.methodLink own e.1 Lib.Math.min.name) && ux_in (.static Lib.Math.min.name) && ux_in (.initialized "java/lang/Math") && ux_in (.code Lib.Math.min.name Lib.Math.min.code 2 (some .int))
  else if e.2.1 = 9 then decide (1000 ≤ e.2.2.1 ∧ e.2.2.1 < 1003) && (Bundle.ownAtoms0 own e.1 (uxEx (e.2.2.1 - 1000)).1 (uxEx (e.2.2.1 - 1000)).2).all (fun w => ux_isZ w || ux_in w)
  else (match ux_nth uxMs e.2.2.1 with
    | none => false
    | some m => plainName m.1.cls && decide (m.1.cls ≠ "java/lang/invoke/MethodHandle" ∧ m.1.cls ≠ "java/lang/invoke/VarHandle" ∧ (parseMethodDescriptor m.1.desc).map (fun d => d.parameters.length) = some e.2.2.2) && decide (0 < e.2.2.1 ∧ e.2.2.1 < 119) &&
      (if e.2.1 = 0 then ux_in (.methodLink own e.1 m.1) && ux_in (.static m.1) && ux_in (.initialized m.1.cls)
       else if e.2.1 = 1 then ux_in (.methodLinkNest own e.1 m.1 "UnitDesk") && ux_in (.static m.1) && ux_in (.initialized m.1.cls)
       else if e.2.1 = 4 then decide (m.1.name = "<init>") && ux_in (.methodLink own e.1 m.1) && ux_in (.instanceMethod m.1) && decide (m.2.2.1 = none ∧ m.2.2.2 = [])
       else if e.2.1 = 5 then decide (m.1.name = "<init>") && ux_in (.methodLinkNest own e.1 m.1 "UnitDesk") && ux_in (.instanceMethod m.1) && decide (m.2.2.1 = none ∧ m.2.2.2 = [])
       else decide (100 ≤ e.2.1) && (match uxCl[e.2.1 - 100]? with
         | none => false
         | some r => ux_in (.methodLink own e.1 m.1) && ux_in (.instanceMethod m.1) && ux_in (.selects r.1 m.1 m.1))))
def ux_chkF (c : ux_Po) (own : String) : Bool := c.1.all (ux_fN c.2.2 own)
def ux_chkG (c : ux_Po) (own : String) : Bool := c.2.1.all (ux_gN own)
def ux_chkN (c : ux_Po) (own : String) : Bool := c.2.2.all (ux_nN own)
def ux_chkC : Nat → List vw_C → Bool
  | _, [] => true
  | ci, r :: l => (u_ws r.1 r.2.1 r.2.2).all ux_in && decide (∀ k, k < r.2.2 → parseFieldDescriptor (r.2.1 k).2.2.1 = some (uxTy ci k)) && decide (∀ a, a < r.2.2 → ∀ b, b < r.2.2 → a ≠ b → (r.2.1 a).2.1 ≠ (r.2.1 b).2.1) && ux_chkC (ci + 1) l
set_option maxRecDepth 20000 in
theorem uxC_chk : ux_chkC 0 uxCl = true := by decide +kernel
set_option maxRecDepth 20000 in
theorem uxF_chk : ux_all2 ux_chkF uxL uxOn = true := by decide +kernel
set_option maxRecDepth 20000 in
theorem uxN_chk : ux_all2 ux_chkN uxL uxOn = true := by decide +kernel
set_option maxRecDepth 20000 in
theorem ux2_chk : ux_all2 ux_chk2 uxJ uxMs = true := by decide +kernel
