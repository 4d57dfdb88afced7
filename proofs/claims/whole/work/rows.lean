section
/-! ONE EVALUATOR for the class, the reference and the law: ux_run. A cell: its kind (a class's number; 100 and on: an array), its ints, its values; an address: 0 is the script, k+1 the k-th cell that was made. A heap: the cells, how many exceptions were made, how many slots, whether the frame on top has written. -/
abbrev ux_C : Type := Nat × List Int32 × List Value
abbrev ux_H : Type := List ux_C × Nat × Nat × Bool
abbrev ux_O : Type := Nat ⊕ Option Value
/-- tables: instructions; fields (class, number, is it a reference); calls (kind, callee, arguments); classes; a class's first values; an array's component; a method's locals, its answer (0 none, 1 an int, 2 a boolean, 3 a reference), its handlers -/
abbrev ux_P : Type := (Nat → Nat → Option (Instr × Nat)) × (Nat → Nat → Option (Nat × Nat × Bool)) × (Nat → Nat → Option (Nat × Nat × Nat)) × (Nat → Nat → Option Nat) × (Nat → List Value) × (Nat → Nat) × (Nat → Nat × Nat × List (Nat × Nat × Nat × Nat))
def ux_ad (b n0 k : Nat) : Nat := if k = 0 then b else n0 + (k - 1)
def ux_tr (b n0 : Nat) (v : Value) : Value := match v with
  | .ref k => .ref (ux_ad b n0 k)
  | v => v
def ux_ii (f : Int32 → Int32 → Int32) (pc : Nat) (ls st : List Value) : Option (Nat × List Value × List Value) := match st with
  | .int y :: .int x :: r => some (pc + 1, ls, .int (f x y) :: r)
  | _ => none
def ux_br (c : Bool) (off : Int) (pc : Nat) (ls st : List Value) : Option (Nat × List Value × List Value) :=
  if 0 ≤ (pc : Int) + off then some (if c then ((pc : Int) + off).toNat else pc + 3, ls, st) else none
def ux_i1 (q : Int32 → Bool) (off : Int) (pc : Nat) (ls st : List Value) : Option (Nat × List Value × List Value) := match st with
  | .int x :: r => ux_br (q x) off pc ls r
  | _ => none
def ux_i2 (q : Int32 → Int32 → Bool) (off : Int) (pc : Nat) (ls st : List Value) : Option (Nat × List Value × List Value) := match st with
  | .int y :: .int x :: r => ux_br (q x y) off pc ls r
  | _ => none
def ux_ldi (len i pc : Nat) (ls st : List Value) : Option (Nat × List Value × List Value) := match ls[i]? with
  | some (.int x) => some (pc + len, ls, .int x :: st)
  | _ => none
def ux_lda (len i pc : Nat) (ls st : List Value) : Option (Nat × List Value × List Value) := match ls[i]? with
  | some (.ref x) => some (pc + len, ls, .ref x :: st)
  | _ => none
def ux_sti (len i pc : Nat) (ls st : List Value) : Option (Nat × List Value × List Value) := match st with
  | .int x :: r => if i < ls.length then some (pc + len, ls.set i (.int x), r) else none
  | _ => none
def ux_sta (len i pc : Nat) (ls st : List Value) : Option (Nat × List Value × List Value) := match st with
  | .ref x :: r => if i < ls.length then some (pc + len, ls.set i (.ref x), r) else none
  | _ => none
def ux_inc (i : Nat) (n : Int) (pc : Nat) (ls st : List Value) : Option (Nat × List Value × List Value) := match ls[i]? with
  | some (.int x) => some (pc + 3, ls.set i (.int (x + Int32.ofInt n)), st)
  | _ => none
def ux_dup (pc : Nat) (ls st : List Value) : Option (Nat × List Value × List Value) := match st with
  | v :: r => if v.category = 1 then some (pc + 1, ls, v :: v :: r) else none
  | _ => none
def ux_pop (pc : Nat) (ls st : List Value) : Option (Nat × List Value × List Value) := match st with
  | v :: r => if v.category = 1 then some (pc + 1, ls, r) else none
  | _ => none
def ux_dup2 (pc : Nat) (ls st : List Value) : Option (Nat × List Value × List Value) := match st with
  | v :: w :: r => if v.category = 1 ∧ w.category = 1 then some (pc + 1, ls, v :: w :: v :: w :: r) else none
  | _ => none
def ux_dupx1 (pc : Nat) (ls st : List Value) : Option (Nat × List Value × List Value) := match st with
  | v :: w :: r => if v.category = 1 ∧ w.category = 1 then some (pc + 1, ls, v :: w :: v :: r) else none
  | _ => none
def ux_i2l (pc : Nat) (ls st : List Value) : Option (Nat × List Value × List Value) := match st with
  | .int x :: r => some (pc + 1, ls, .long x.toInt64 :: r)
  | _ => none
def ux_lcmp (pc : Nat) (ls st : List Value) : Option (Nat × List Value × List Value) := match st with
  | .long y :: .long x :: r => some (pc + 1, ls, .int (lg_cmp x y) :: r)
  | _ => none
def ux_go (off : Int) (pc : Nat) (ls st : List Value) : Option (Nat × List Value × List Value) :=
  if 0 ≤ (pc : Int) + off then some (((pc : Int) + off).toNat, ls, st) else none
def ux_tsw (dflt lo hi : Int) (offs : Array Int) (pc : Nat) (ls st : List Value) : Option (Nat × List Value × List Value) := match st with
  | .int x :: r => if x.toInt < lo ∨ hi < x.toInt then ux_go dflt pc ls r else (match offs[(x.toInt - lo).toNat]? with
      | some off => ux_go off pc ls r
      | none => none)
  | _ => none
def ux_lsw (dflt : Int) (ps : Array (Int × Int)) (pc : Nat) (ls st : List Value) : Option (Nat × List Value × List Value) := match st with
  | .int x :: r => if (ps.toList.zip (ps.toList.drop 1)).all (fun (a, next) => a.1 < next.1) = true then ux_go (Op.lookupswitch.offset ps.toList dflt x.toInt) pc ls r else none
  | _ => none
/-- instructions that touch the frame alone -/
def ux_sim (ins : Instr) (pc : Nat) (ls st : List Value) : Option (Nat × List Value × List Value) := match ins with
  | .iconst n => some (pc + 1, ls, .int (Int32.ofInt n) :: st)
  | .bipush n => some (pc + 2, ls, .int (Int8.ofInt n).toInt32 :: st)
  | .sipush n => some (pc + 3, ls, .int (Int16.ofInt n).toInt32 :: st)
  | .lconst n => some (pc + 1, ls, .long (Int64.ofNat (n : Nat)) :: st)
  | .iload i => ux_ldi 2 i pc ls st
  | .iload_n i => ux_ldi 1 i pc ls st
  | .aload i => ux_lda 2 i pc ls st
  | .aload_n i => ux_lda 1 i pc ls st
  | .istore i => ux_sti 2 i pc ls st
  | .istore_n i => ux_sti 1 i pc ls st
  | .astore i => ux_sta 2 i pc ls st
  | .astore_n i => ux_sta 1 i pc ls st
  | .iinc i n => ux_inc i n pc ls st
  | .iadd => ux_ii (fun x y => x + y) pc ls st
  | .isub => ux_ii (fun x y => x - y) pc ls st
  | .imul => ux_ii (fun x y => x * y) pc ls st
  | .iand => ux_ii (fun x y => x &&& y) pc ls st
  | .ior => ux_ii (fun x y => x ||| y) pc ls st
  | .ishl => ux_ii (fun x y => x <<< (y &&& 31)) pc ls st
  | .ishr => ux_ii (fun x y => x >>> (y &&& 31)) pc ls st
  | .i2l => ux_i2l pc ls st
  | .lcmp => ux_lcmp pc ls st
  | .dup => ux_dup pc ls st
  | .dup2 => ux_dup2 pc ls st
  | .dup_x1 => ux_dupx1 pc ls st
  | .pop => ux_pop pc ls st
  | .ifCond .eq off => ux_i1 (fun x => decide (x = 0)) off pc ls st
  | .ifCond .ne off => ux_i1 (fun x => decide (¬ x = 0)) off pc ls st
  | .ifCond .lt off => ux_i1 (fun x => decide (x < 0)) off pc ls st
  | .ifCond .ge off => ux_i1 (fun x => decide (0 ≤ x)) off pc ls st
  | .ifCond .gt off => ux_i1 (fun x => decide (0 < x)) off pc ls st
  | .ifCond .le off => ux_i1 (fun x => decide (x ≤ 0)) off pc ls st
  | .if_icmp .eq off => ux_i2 (fun x y => decide (x = y)) off pc ls st
  | .if_icmp .ne off => ux_i2 (fun x y => decide (¬ x = y)) off pc ls st
  | .if_icmp .lt off => ux_i2 (fun x y => decide (x < y)) off pc ls st
  | .if_icmp .ge off => ux_i2 (fun x y => decide (y ≤ x)) off pc ls st
  | .if_icmp .gt off => ux_i2 (fun x y => decide (y < x)) off pc ls st
  | .if_icmp .le off => ux_i2 (fun x y => decide (x ≤ y)) off pc ls st
  | .goto off => ux_go off pc ls st
  | .tableswitch dflt lo hi offs => ux_tsw dflt lo hi offs pc ls st
  | .lookupswitch dflt ps => ux_lsw dflt ps pc ls st
  | _ => none
/-- an instruction's length -/
def ux_lok (ins : Instr) (len : Nat) : Bool := match ins with
  | .tableswitch _ _ _ _ => true
  | .lookupswitch _ _ => true
  | .bipush _ => len == 2
  | .sipush _ => len == 3
  | .iload _ => len == 2
  | .aload _ => len == 2
  | .istore _ => len == 2
  | .astore _ => len == 2
  | .iinc _ _ => len == 3
  | .ifCond _ _ => len == 3
  | .if_icmp _ _ => len == 3
  | .goto _ => len == 3
  | .getfield _ => len == 3
  | .putfield _ => len == 3
  | .new _ => len == 3
  | .newarray _ => len == 2
  | .anewarray _ => len == 3
  | .invokevirtual _ => len == 3
  | .invokespecial _ => len == 3
  | .invokestatic _ => len == 3
  | _ => len == 1
/-! memory -/
def ux_cell (h : ux_H) (a : Nat) : Option ux_C := match a with
  | 0 => none
  | k + 1 => h.1[k]?
def ux_set (h : ux_H) (a : Nat) (c : ux_C) : ux_H := (h.1.set (a - 1) c, h.2.1, h.2.2.1, true)
def ux_get (h : ux_H) (a ci j : Nat) : Option Value := match ux_cell h a with
  | some (t, _, vs) => if t = ci then vs[j]? else none
  | none => none
def ux_put (h : ux_H) (a ci j : Nat) (v : Value) : Option ux_H := match ux_cell h a with
  | some (t, is, vs) => if t = ci ∧ j < vs.length then some (ux_set h a (t, is, vs.set j v)) else none
  | none => none
/-- an array of ints (100) or booleans (101) -/
def ux_ld (t : Nat) (sc : List Int32) (h : ux_H) (a : Nat) (j : Int32) : Option Int32 :=
  if j < 0 then none else match a with
  | 0 => if t = 100 then sc[j.toNatClampNeg]? else none
  | _ + 1 => match ux_cell h a with
    | some (t', is, _) => if t' = t then is[j.toNatClampNeg]? else none
    | none => none
def ux_st (t : Nat) (h : ux_H) (a : Nat) (j x : Int32) : Option ux_H :=
  if j < 0 then none else match ux_cell h a with
    | some (t', is, vs) => if t' = t ∧ j.toNatClampNeg < is.length then some (ux_set h a (t', is.set j.toNatClampNeg x, vs)) else none
    | none => none
/-- an array of longs (102) or of references (103 and on) -/
def ux_ldv (h : ux_H) (a : Nat) (j : Int32) : Option (Nat × Value) :=
  if j < 0 then none else match ux_cell h a with
    | some (t, _, vs) => (vs[j.toNatClampNeg]?).map fun v => (t, v)
    | none => none
def ux_stv (h : ux_H) (a : Nat) (j : Int32) (v : Value) : Option (Nat × ux_H) :=
  if j < 0 then none else match ux_cell h a with
    | some (t, is, vs) => if j.toNatClampNeg < vs.length then some (t, ux_set h a (t, is, vs.set j.toNatClampNeg v)) else none
    | none => none
def ux_len (sc : List Int32) (h : ux_H) (a : Nat) : Option Nat := match a with
  | 0 => some sc.length
  | _ + 1 => match ux_cell h a with
    | some (t, is, vs) => if t < 100 then none else if t < 102 then some is.length else some vs.length
    | none => none
def ux_new (h : ux_H) (c : ux_C) (n : Nat) : ux_H := (h.1 ++ [c], h.2.1, h.2.2.1 + n, true)
def ux_isr (v : Value) : Option Bool := match v with
  | .int _ => some false
  | .ref _ => some true
  | _ => none
/-- instructions that touch memory; and the library's three methods -/
def ux_mem (P : ux_P) (sc : List Int32) (i : Nat) (ins : Instr) (st : List Value) (h : ux_H) : Option (Nat × List Value × ux_H) := match ins with
  | .getfield k => (match P.2.1 i k, st with
    | some (ci, j, _), .ref a :: r => (ux_get h a ci j).map fun v => (3, v :: r, h)
    | _, _ => none)
  | .putfield k => (match P.2.1 i k, st with
    | some (ci, j, q), v :: .ref a :: r => if ux_isr v = some q then (ux_put h a ci j v).map fun h' => (3, r, h') else none
    | _, _ => none)
  | .iaload => (match st with
    | .int j :: .ref a :: r => (ux_ld 100 sc h a j).map fun x => (1, .int x :: r, h)
    | _ => none)
  | .baload => (match st with
    | .int j :: .ref a :: r => (ux_ld 101 sc h a j).map fun x => (1, .int x :: r, h)
    | _ => none)
  | .laload => (match st with
    | .int j :: .ref a :: r => (match ux_ldv h a j with
      | some (102, v) => some (1, v :: r, h)
      | _ => none)
    | _ => none)
  | .aaload => (match st with
    | .int j :: .ref a :: r => (match ux_ldv h a j with
      | some (t, v) => if 102 < t then some (1, v :: r, h) else none
      | _ => none)
    | _ => none)
  | .iastore => (match st with
    | .int x :: .int j :: .ref a :: r => (ux_st 100 h a j x).map fun h' => (1, r, h')
    | _ => none)
  | .bastore => (match st with
    | .int x :: .int j :: .ref a :: r => if x = 0 ∨ x = 1 then (ux_st 101 h a j x).map fun h' => (1, r, h') else none
    | _ => none)
  | .lastore => (match st with
    | .long x :: .int j :: .ref a :: r => (match ux_stv h a j (.long x) with
      | some (102, h') => some (1, r, h')
      | _ => none)
    | _ => none)
  | .aastore => (match st with
    | .ref v :: .int j :: .ref a :: r => (match ux_stv h a j (.ref v), ux_cell h v with
      | some (t, h'), some (ci, _, _) => if 102 < t ∧ ci < 100 ∧ P.2.2.2.2.2.1 t = ci then some (1, r, h') else none
      | _, _ => none)
    | _ => none)
  | .arraylength => (match st with
    | .ref a :: r => (ux_len sc h a).map fun n => (1, .int (Int32.ofNat n) :: r, h)
    | _ => none)
  | .new k => (match P.2.2.2.1 i k with
    | some ci => if ci < 100 ∧ h.2.1 = 0 then some (3, .ref (h.1.length + 1) :: st, ux_new h (ci, [], P.2.2.2.2.1 ci) (P.2.2.2.2.1 ci).length) else none
    | none => none)
  | .newarray t => (match t, st with
    | .int, .int n :: r => if ¬ n < 0 ∧ n.toNatClampNeg ≤ 100000 ∧ h.2.1 = 0 then some (2, .ref (h.1.length + 1) :: r, ux_new h (100, List.replicate n.toNatClampNeg 0, []) n.toNatClampNeg) else none
    | .boolean, .int n :: r => if ¬ n < 0 ∧ n.toNatClampNeg ≤ 100000 ∧ h.2.1 = 0 then some (2, .ref (h.1.length + 1) :: r, ux_new h (101, List.replicate n.toNatClampNeg 0, []) n.toNatClampNeg) else none
    | .long, .int n :: r => if ¬ n < 0 ∧ n.toNatClampNeg ≤ 100000 ∧ h.2.1 = 0 then some (2, .ref (h.1.length + 1) :: r, ux_new h (102, [], List.replicate n.toNatClampNeg (.long 0)) n.toNatClampNeg) else none
    | _, _ => none)
  | .anewarray k => (match P.2.2.2.1 i (100000 + k), st with
    | some t, .int n :: r => if 102 < t ∧ t < 1000 ∧ ¬ n < 0 ∧ n.toNatClampNeg ≤ 100000 ∧ h.2.1 = 0 then some (3, .ref (h.1.length + 1) :: r, ux_new h (t, [], List.replicate n.toNatClampNeg .null) n.toNatClampNeg) else none
    | _, _ => none)
  | .invokespecial k => (match P.2.2.1 i k, st with
    | some (6, _, _), .ref _ :: r => if (r.map fun v => v.category).sum ≤ 16 then some (3, r, h) else none
    | _, _ => none)
  | .invokestatic k => (match P.2.2.1 i k, st with
    | some (7, _, _), .int y :: .int x :: r => if (r.map fun v => v.category).sum ≤ 16 then some (3, .int (if x < y then y else x) :: r, h) else none
    | some (8, _, _), .int y :: .int x :: r => if (r.map fun v => v.category).sum ≤ 16 then some (3, .int (if y < x then y else x) :: r, h) else none
    | _, _ => none)
  | _ => none
/-- the end of a method -/
def ux_ret (rk : Nat) (ins : Instr) (st : List Value) : Option (Option Value) := match ins with
  | .ireturn => (match st with
    | [.int x] => if rk = 1 ∨ (rk = 2 ∧ (x = 0 ∨ x = 1)) then some (some (.int x)) else none
    | _ => none)
  | .areturn => (match st with
    | [.ref x] => if rk = 3 then some (some (.ref x)) else none
    | _ => none)
  | .return_ => (match st with
    | [] => if rk = 0 then some none else none
    | _ => none)
  | _ => none
/-- 'throw new X()' -/
def ux_thr (P : ux_P) (i pc : Nat) (ins : Instr) (st : List Value) (h : ux_H) : Option Nat := match ins with
  | .new k => (match P.2.2.2.1 i k, P.1 i (pc + 3), P.1 i (pc + 4), P.1 i (pc + 7) with
    | some q, some (.dup, 1), some (.invokespecial k2, 3), some (.athrow, 1) => if 1000 ≤ q ∧ P.2.2.1 i k2 = some (9, q, 0) ∧ st = [] ∧ h.2.2.2 = false ∧ (P.2.2.2.2.2.2 i).2.2 = [] then some (q - 1000) else none
    | _, _, _, _ => none)
  | _ => none
/-- a call: the callee, its arguments, what stays on the stack -/
def ux_cal (P : ux_P) (i : Nat) (ins : Instr) (st : List Value) (h : ux_H) : Option (Nat × List Value × List Value) := match ins with
  | .invokestatic k => (match P.2.2.1 i k with
    | some (q, j, n) => if q < 2 ∧ n ≤ st.length then some (j, (st.take n).reverse, st.drop n) else none
    | none => none)
  | .invokevirtual k => (match P.2.2.1 i k with
    | some (q, j, n) => (match st.drop n with
      | .ref a :: r => (match ux_cell h a with
        | some (ci, _, _) => if q = 100 + ci ∧ ci < 100 then some (j, .ref a :: (st.take n).reverse, r) else none
        | none => none)
      | _ => none)
    | none => none)
  | .invokespecial k => (match P.2.2.1 i k with
    | some (q, j, n) => (match st.drop n with
      | .ref a :: r => if q = 4 ∨ q = 5 then some (j, .ref a :: (st.take n).reverse, r) else none
      | _ => none)
    | none => none)
  | _ => none
/-- where an exception of this kind is caught: not at all; at a place -/
def ux_hnd (hs : List (Nat × Nat × Nat × Nat)) (pc k : Nat) : Option Nat := match hs with
  | [] => none
  | (a, b, t, q) :: r => if a ≤ pc ∧ pc < b ∧ q = k then some t else ux_hnd r pc k
/-- the handler's first instruction: it lays the exception by -/
def ux_lay (ins : Instr) : Option (Nat × Nat) := match ins with
  | .astore i => some (i, 2)
  | .astore_n i => some (i, 1)
  | _ => none
def ux_run (P : ux_P) (sc : List Int32) : Nat → Nat → Nat → Nat → List Value → List Value → ux_H → Option (ux_O × ux_H)
  | 0, _, _, _, _, _, _ => none
  | n + 1, d, i, pc, ls, st, h => match P.1 i pc with
    | none => none
    | some (ins, _) => match ux_sim ins pc ls st with
      | some (pc', ls', st') => ux_run P sc n d i pc' ls' st' h
      | none => match ux_mem P sc i ins st h with
        | some (len, st', h') => ux_run P sc n d i (pc + len) ls st' h'
        | none => match ux_ret (P.2.2.2.2.2.2 i).2.1 ins st with
          | some v => some (.inr v, h)
          | none => match ux_thr P i pc ins st h with
            | some k => some (.inl k, (h.1, h.2.1 + 1, h.2.2.1 + 6, true))
            | none => match ux_cal P i ins st h, d with
              | some (j, as, r), d' + 1 => if (r.map fun v => v.category).sum ≤ 16 ∧ as.length ≤ (P.2.2.2.2.2.2 j).1 ∧ (P.2.2.2.2.2.2 j).1 ≤ 30 ∧ (as.all fun v => v.category == 1) then
                  match ux_run P sc n d' j 0 (as ++ List.replicate ((P.2.2.2.2.2.2 j).1 - as.length) .null) [] (h.1, h.2.1, h.2.2.1, false) with
                  | some (.inr v, h') => ux_run P sc n (d' + 1) i (pc + 3) ls (v.toList ++ r) (h'.1, h'.2.1, h'.2.2.1, h.2.2.2 || h'.2.2.2)
                  | some (.inl k, h') => (match ux_hnd (P.2.2.2.2.2.2 i).2.2 pc k with
                    | none => if (P.2.2.2.2.2.2 i).2.2 = [] then some (.inl k, (h'.1, h'.2.1, h'.2.2.1, true)) else none
                    | some t => (match (P.1 i t).bind fun x => ux_lay x.1 with
                      | some (q, len) => if q < ls.length then ux_run P sc n (d' + 1) i (t + len) (ls.set q .null) [] (h'.1, h'.2.1, h'.2.2.1, true) else none
                      | none => none))
                  | none => none
                else none
              | _, _ => none
end
section
/-! The frame: the evaluator's locals and stack beside the machine's. -/
theorem ux_cat (b n0 : Nat) (v : Value) : (ux_tr b n0 v).category = v.category := by cases v <;> rfl
def ux_pr (b n0 : Nat) : Nat → List Value → List (Nat × Value)
  | _, [] => []
  | i, v :: r => if v = .null then ux_pr b n0 (i + 1) r else (i, ux_tr b n0 v) :: ux_pr b n0 (i + 1) r
theorem ux_pr_in {b n0 : Nat} : ∀ (ls : List Value) (i : Nat) (q : Nat × Value), q ∈ ux_pr b n0 i ls ↔ ∃ (j : Nat) (v : Value), ls[j]? = some v ∧ v ≠ .null ∧ q = (i + j, ux_tr b n0 v) := by
  intro ls
  induction ls with
  | nil => intro i q; simp [ux_pr]
  | cons w r ih =>
    intro i q
    unfold ux_pr
    constructor
    · intro h
      split at h
      · obtain ⟨j, v, h1, h2, h3⟩ := (ih (i + 1) q).mp h
        exact ⟨j + 1, v, by simpa using h1, h2, by rw [h3, show i + 1 + j = i + (j + 1) by omega]⟩
      · rename_i hw
        rcases List.mem_cons.mp h with h | h
        · exact ⟨0, w, rfl, hw, h⟩
        · obtain ⟨j, v, h1, h2, h3⟩ := (ih (i + 1) q).mp h
          exact ⟨j + 1, v, by simpa using h1, h2, by rw [h3, show i + 1 + j = i + (j + 1) by omega]⟩
    · rintro ⟨j, v, h1, h2, rfl⟩
      cases j with
      | zero =>
        have h3 : w = v := by simpa using h1
        subst h3
        rw [if_neg h2]
        exact List.mem_cons_self
      | succ j =>
        have h3 : (i + (j + 1), ux_tr b n0 v) ∈ ux_pr b n0 (i + 1) r := (ih (i + 1) _).mpr ⟨j, v, by simpa using h1, h2, by rw [show i + 1 + j = i + (j + 1) by omega]⟩
        split
        · exact h3
        · exact List.mem_cons_of_mem _ h3
def ux_L (b n0 nL : Nat) (ls : List Value) (lsR : Array Slot) : Prop := ls.length = nL ∧ (∀ v ∈ ls, v.category = 1) ∧ lv_has lsR nL (ux_pr b n0 0 ls)
theorem ux_L.val {b n0 nL : Nat} {ls : List Value} {lsR : Array Slot} (h : ux_L b n0 nL ls lsR) {i : Nat} {v : Value} (hi : ls[i]? = some v) (hv : v ≠ .null) : lsR[i]? = some (.val (ux_tr b n0 v)) := by
  have h1 := h.2.2.2.2 (0 + i, ux_tr b n0 v) ((ux_pr_in ls 0 _).mpr ⟨i, v, hi, hv, rfl⟩)
  simpa using h1
theorem ux_L.lt {b n0 nL : Nat} {ls : List Value} {lsR : Array Slot} (h : ux_L b n0 nL ls lsR) {i : Nat} (hi : i < ls.length) : i < nL := by rw [← h.1]; exact hi
theorem ux_L.put {b n0 nL : Nat} {ls : List Value} {lsR lsR' : Array Slot} (h : ux_L b n0 nL ls lsR) {i : Nat} {v w : Value} (hc : v.category = 1) (hvw : v ≠ .null → w = ux_tr b n0 v)
    (h' : lv_has lsR' nL ((i, w) :: (ux_pr b n0 0 ls).filter (fun q => !(q.1 == i) && !(q.1 + 1 == i && q.2.category == 2)))) : ux_L b n0 nL (ls.set i v) lsR' := by
  refine ⟨by rw [List.length_set]; exact h.1, fun x hx => ?_, h'.1, h'.2.1, fun q hq => ?_⟩
  · rcases List.mem_or_eq_of_mem_set hx with h1 | h1
    · exact h.2.1 x h1
    · rw [h1]; exact hc
  · obtain ⟨j, x, h1, h2, rfl⟩ := (ux_pr_in _ 0 q).mp hq
    by_cases hj : j = i
    · subst hj
      have hlt : j < ls.length := by
        have := (List.getElem?_eq_some_iff.mp h1).1
        simpa using this
      rw [List.getElem?_set_self hlt] at h1
      cases h1
      have h3 := h'.2.2 (j, w) List.mem_cons_self
      rw [hvw h2] at h3
      simpa using h3
    · rw [List.getElem?_set_ne (Ne.symm hj)] at h1
      refine h'.2.2 (0 + j, ux_tr b n0 x) (List.mem_cons_of_mem _ (List.mem_filter.mpr ⟨(ux_pr_in ls 0 _).mpr ⟨j, x, h1, h2, rfl⟩, ?_⟩))
      have hc2 : x.category = 1 := h.2.1 x (List.mem_of_getElem? h1)
      simp [ux_cat, hc2, hj]
theorem ux_args_in (vs : List Value) (hc : ∀ v ∈ vs, v.category = 1) : ∀ (i j : Nat) (v : Value), vs[j]? = some v → (i + j, v) ∈ lv_args i vs := by
  induction vs with
  | nil => intro i j v h; simp at h
  | cons w r ih =>
    intro i j v h
    have hw : ¬ w.category = 2 := by rw [hc w List.mem_cons_self]; decide
    unfold lv_args
    rw [if_neg hw]
    cases j with
    | zero =>
      have h3 : w = v := by simpa using h
      subst h3
      exact List.mem_cons_self
    | succ j =>
      have := ih (fun x hx => hc x (List.mem_cons_of_mem _ hx)) (i + 1) j v (by simpa using h)
      rw [show i + 1 + j = i + (j + 1) by omega] at this
      exact List.mem_cons_of_mem _ this
theorem ux_sl (vs : List Value) (hc : ∀ v ∈ vs, v.category = 1) : (lg_sl vs).length = vs.length := by
  induction vs with
  | nil => rfl
  | cons w r ih =>
    have hw : ¬ w.category = 2 := by rw [hc w List.mem_cons_self]; decide
    have e : lg_sl (w :: r) = [.val w] ++ lg_sl r := by simp [lg_sl, hw]
    rw [e, List.length_append, ih (fun x hx => hc x (List.mem_cons_of_mem _ hx))]
    simp; omega
theorem ux_entry (b n0 : Nat) (m : MethodId) (vs : List Value) (n : Nat) (hc : ∀ v ∈ vs, v.category = 1) (hn : vs.length ≤ n) : ∃ lsR, ux_L b n0 n (vs ++ List.replicate (n - vs.length) .null) lsR ∧ entryFrame m (vs.map (ux_tr b n0)).toArray n = F0 m 0 lsR [] := by
  have hc' : ∀ v ∈ vs.map (ux_tr b n0), v.category = 1 := by
    intro v hv
    obtain ⟨w, hw, rfl⟩ := List.mem_map.mp hv
    rw [ux_cat]; exact hc w hw
  have hl : (lg_sl (vs.map (ux_tr b n0))).length ≤ n := by rw [ux_sl _ hc', List.length_map]; exact hn
  have h := lv_entry (vs.map (ux_tr b n0)) hl
  refine ⟨_, ⟨by simp; omega, fun v hv => ?_, h.1, h.2.1, fun q hq => ?_⟩, lg_entry_eq m _ n⟩
  · rcases List.mem_append.mp hv with h1 | h1
    · exact hc v h1
    · rw [(List.mem_replicate.mp h1).2]; rfl
  · obtain ⟨j, v, h1, h2, rfl⟩ := (ux_pr_in _ 0 q).mp hq
    have hj : vs[j]? = some v := by
      by_cases hlt : j < vs.length
      · rwa [List.getElem?_append_left hlt] at h1
      · rw [List.getElem?_append_right (by omega)] at h1
        exact absurd (List.mem_replicate.mp (List.mem_of_getElem? h1)).2 h2
    have := h.2.2 (0 + j, ux_tr b n0 v) (ux_args_in _ hc' 0 j _ (by rw [List.getElem?_map, hj]; rfl))
    exact this
/-- the machine at the evaluator's frame -/
def ux_V (p : Program) (l : Launch) (e : Env) (R : Room) (s : State) (m : MethodId) (args : Array Value) (below : List Frame) (meth : Method) (c : Code) (H : Heap) (locs : List Loc) (cells slots : Nat) (Q : State → Prop) (b n0 nL pc : Nat) (ls st : List Value) : Prop :=
  ∀ lsR : Array Slot, ux_L b n0 nL ls lsR → W p l e R s m args below meth c H locs cells slots Q (F0 m pc lsR (st.map (ux_tr b n0)))
section UXS
variable {p : Program} {l : Launch} {e : Env} {R : Room} {s : State} {m : MethodId} {args : Array Value} {below : List Frame} {meth : Method} {c : Code} {H : Heap} {locs : List Loc} {cells slots : Nat} {Q : State → Prop} {cc : ByteArray} {b n0 nL pc : Nat} {ls st ls' st' : List Value} {pc' : Nat}
theorem ux_iiW {f : Int32 → Int32 → Int32} (row : ∀ (x y : Int32) (lsR : Array Slot) (rest : List Value), W p l e R s m args below meth c H locs cells slots Q (F0 m (pc + 1) lsR (.int (f x y) :: rest)) → W p l e R s m args below meth c H locs cells slots Q (F0 m pc lsR (.int y :: .int x :: rest)))
    (h : ux_ii f pc ls st = some (pc', ls', st')) (k : ux_V p l e R s m args below meth c H locs cells slots Q b n0 nL pc' ls' st') : ux_V p l e R s m args below meth c H locs cells slots Q b n0 nL pc ls st := by
  unfold ux_ii at h
  split at h
  · cases h
    intro lsR hL
    exact row _ _ _ _ (k lsR hL)
  · cases h
theorem ux_brW {q : Bool} {off : Int} {lsR : Array Slot} {r : List Value} (hL : ux_L b n0 nL ls lsR)
    (h : ux_br q off pc ls r = some (pc', ls', st')) (k : ux_V p l e R s m args below meth c H locs cells slots Q b n0 nL pc' ls' st') :
    ∃ tgt : Nat, (pc : Int) + off = (tgt : Int) ∧ (q = true → W p l e R s m args below meth c H locs cells slots Q (F0 m tgt lsR (r.map (ux_tr b n0)))) ∧ (q = false → W p l e R s m args below meth c H locs cells slots Q (F0 m (pc + 3) lsR (r.map (ux_tr b n0)))) := by
  unfold ux_br at h
  split at h
  · rename_i h0
    cases h
    have hk := k lsR hL
    refine ⟨((pc : Int) + off).toNat, (Int.toNat_of_nonneg h0).symm, fun hq => ?_, fun hq => ?_⟩
    · rw [if_pos hq] at hk; exact hk
    · rw [if_neg (by rw [hq]; decide)] at hk; exact hk
  · cases h
theorem ux_i1W {q : Int32 → Bool} {off : Int} (row : ∀ (x : Int32) (lsR : Array Slot) (rest : List Value) (tgt : Nat), (pc : Int) + off = (tgt : Int) → (q x = true → W p l e R s m args below meth c H locs cells slots Q (F0 m tgt lsR rest)) → (q x = false → W p l e R s m args below meth c H locs cells slots Q (F0 m (pc + 3) lsR rest)) → W p l e R s m args below meth c H locs cells slots Q (F0 m pc lsR (.int x :: rest)))
    (h : ux_i1 q off pc ls st = some (pc', ls', st')) (k : ux_V p l e R s m args below meth c H locs cells slots Q b n0 nL pc' ls' st') : ux_V p l e R s m args below meth c H locs cells slots Q b n0 nL pc ls st := by
  unfold ux_i1 at h
  split at h
  · intro lsR hL
    obtain ⟨tgt, h1, h2, h3⟩ := ux_brW hL h k
    exact row _ _ _ tgt h1 h2 h3
  · cases h
theorem ux_i2W {q : Int32 → Int32 → Bool} {off : Int} (row : ∀ (x y : Int32) (lsR : Array Slot) (rest : List Value) (tgt : Nat), (pc : Int) + off = (tgt : Int) → (q x y = true → W p l e R s m args below meth c H locs cells slots Q (F0 m tgt lsR rest)) → (q x y = false → W p l e R s m args below meth c H locs cells slots Q (F0 m (pc + 3) lsR rest)) → W p l e R s m args below meth c H locs cells slots Q (F0 m pc lsR (.int y :: .int x :: rest)))
    (h : ux_i2 q off pc ls st = some (pc', ls', st')) (k : ux_V p l e R s m args below meth c H locs cells slots Q b n0 nL pc' ls' st') : ux_V p l e R s m args below meth c H locs cells slots Q b n0 nL pc ls st := by
  unfold ux_i2 at h
  split at h
  · intro lsR hL
    obtain ⟨tgt, h1, h2, h3⟩ := ux_brW hL h k
    exact row _ _ _ _ tgt h1 h2 h3
  · cases h
theorem ux_goW {off : Int} {r : List Value} {lsR : Array Slot} (hL : ux_L b n0 nL ls lsR) (h : ux_go off pc ls r = some (pc', ls', st')) (k : ux_V p l e R s m args below meth c H locs cells slots Q b n0 nL pc' ls' st') :
    ∃ tgt : Nat, (pc : Int) + off = (tgt : Int) ∧ W p l e R s m args below meth c H locs cells slots Q (F0 m tgt lsR (r.map (ux_tr b n0))) := by
  unfold ux_go at h
  split at h
  · rename_i h0
    cases h
    exact ⟨_, (Int.toNat_of_nonneg h0).symm, k lsR hL⟩
  · cases h
theorem ux_ldiW {len i : Nat} (row : ∀ (x : Int32) (lsR : Array Slot) (rest : List Value), lsR[i]? = some (.val (.int x)) → W p l e R s m args below meth c H locs cells slots Q (F0 m (pc + len) lsR (.int x :: rest)) → W p l e R s m args below meth c H locs cells slots Q (F0 m pc lsR rest))
    (h : ux_ldi len i pc ls st = some (pc', ls', st')) (k : ux_V p l e R s m args below meth c H locs cells slots Q b n0 nL pc' ls' st') : ux_V p l e R s m args below meth c H locs cells slots Q b n0 nL pc ls st := by
  unfold ux_ldi at h
  split at h
  · rename_i x hx
    cases h
    intro lsR hL
    exact row x lsR _ (hL.val hx (fun q => by cases q)) (k lsR hL)
  · cases h
theorem ux_ldaW {len i : Nat} (row : ∀ (x : Nat) (lsR : Array Slot) (rest : List Value), lsR[i]? = some (.val (.ref x)) → W p l e R s m args below meth c H locs cells slots Q (F0 m (pc + len) lsR (.ref x :: rest)) → W p l e R s m args below meth c H locs cells slots Q (F0 m pc lsR rest))
    (h : ux_lda len i pc ls st = some (pc', ls', st')) (k : ux_V p l e R s m args below meth c H locs cells slots Q b n0 nL pc' ls' st') : ux_V p l e R s m args below meth c H locs cells slots Q b n0 nL pc ls st := by
  unfold ux_lda at h
  split at h
  · rename_i x hx
    cases h
    intro lsR hL
    exact row (ux_ad b n0 x) lsR _ (hL.val hx (fun q => by cases q)) (k lsR hL)
  · cases h
theorem ux_stiW {len i : Nat} (row : ∀ (x : Int32) (lsR : Array Slot) (rest : List Value) (lv : List (Nat × Value)), lv_has lsR nL lv → i < nL → (∀ ls' : Array Slot, lv_has ls' nL ((i, Value.int x) :: lv.filter (fun q => !(q.1 == i) && !(q.1 + 1 == i && q.2.category == 2))) → W p l e R s m args below meth c H locs cells slots Q (F0 m (pc + len) ls' rest)) → W p l e R s m args below meth c H locs cells slots Q (F0 m pc lsR (.int x :: rest)))
    (h : ux_sti len i pc ls st = some (pc', ls', st')) (k : ux_V p l e R s m args below meth c H locs cells slots Q b n0 nL pc' ls' st') : ux_V p l e R s m args below meth c H locs cells slots Q b n0 nL pc ls st := by
  unfold ux_sti at h
  split at h
  · split at h
    · rename_i hi
      cases h
      intro lsR hL
      exact row _ lsR _ _ hL.2.2 (hL.lt hi) fun lsR' h' => k lsR' (hL.put rfl (fun _ => rfl) h')
    · cases h
  · cases h
theorem ux_staW {len i : Nat} (row : ∀ (x : Nat) (lsR : Array Slot) (rest : List Value) (lv : List (Nat × Value)), lv_has lsR nL lv → i < nL → (∀ ls' : Array Slot, lv_has ls' nL ((i, Value.ref x) :: lv.filter (fun q => !(q.1 == i) && !(q.1 + 1 == i && q.2.category == 2))) → W p l e R s m args below meth c H locs cells slots Q (F0 m (pc + len) ls' rest)) → W p l e R s m args below meth c H locs cells slots Q (F0 m pc lsR (.ref x :: rest)))
    (h : ux_sta len i pc ls st = some (pc', ls', st')) (k : ux_V p l e R s m args below meth c H locs cells slots Q b n0 nL pc' ls' st') : ux_V p l e R s m args below meth c H locs cells slots Q b n0 nL pc ls st := by
  unfold ux_sta at h
  split at h
  · split at h
    · rename_i hi
      cases h
      intro lsR hL
      exact row _ lsR _ _ hL.2.2 (hL.lt hi) fun lsR' h' => k lsR' (hL.put rfl (fun _ => rfl) h')
    · cases h
  · cases h
set_option maxHeartbeats 4000000 in
theorem ux_simW (hx : p.tables.exec = Jvm.exec) (hb : c.code = cc) {ins : Instr} {len : Nat} (hd : decode cc pc = .ok (ins, len)) (hl : ux_lok ins len = true) (h : ux_sim ins pc ls st = some (pc', ls', st'))
    (k : ux_V p l e R s m args below meth c H locs cells slots Q b n0 nL pc' ls' st') : ux_V p l e R s m args below meth c H locs cells slots Q b n0 nL pc ls st := by
  unfold ux_sim at h
  split at h
  case h_1 => obtain rfl : len = 1 := by simpa [ux_lok] using hl
              cases h; intro lsR hL; exact lv_iconst hx hb hd rfl (k lsR hL)
  case h_2 => obtain rfl : len = 2 := by simpa [ux_lok] using hl
              cases h; intro lsR hL; exact lv_bipush hx hb hd rfl (k lsR hL)
  case h_3 => obtain rfl : len = 3 := by simpa [ux_lok] using hl
              cases h; intro lsR hL; exact lv_sipush hx hb hd rfl (k lsR hL)
  case h_4 => obtain rfl : len = 1 := by simpa [ux_lok] using hl
              cases h; intro lsR hL; exact lv_lconst hx hb hd rfl (k lsR hL)
  case h_5 => obtain rfl : len = 2 := by simpa [ux_lok] using hl
              exact ux_ldiW (fun x lsR rest h1 h2 => lv_iload hx hb hd h1 h2) h k
  case h_6 => obtain rfl : len = 1 := by simpa [ux_lok] using hl
              exact ux_ldiW (fun x lsR rest h1 h2 => lv_iload_n hx hb hd rfl h1 h2) h k
  case h_7 => obtain rfl : len = 2 := by simpa [ux_lok] using hl
              exact ux_ldaW (fun x lsR rest h1 h2 => lv_aload hx hb hd h1 h2) h k
  case h_8 => obtain rfl : len = 1 := by simpa [ux_lok] using hl
              exact ux_ldaW (fun x lsR rest h1 h2 => lv_aload_n hx hb hd rfl h1 h2) h k
  case h_9 => obtain rfl : len = 2 := by simpa [ux_lok] using hl
              exact ux_stiW (fun x lsR rest lv h1 h2 h3 => lv_istore hx hb hd h1 h2 rfl h3) h k
  case h_10 => obtain rfl : len = 1 := by simpa [ux_lok] using hl
               exact ux_stiW (fun x lsR rest lv h1 h2 h3 => lv_istore_n hx hb hd rfl h1 h2 rfl h3) h k
  case h_11 => obtain rfl : len = 2 := by simpa [ux_lok] using hl
               exact ux_staW (fun x lsR rest lv h1 h2 h3 => lv_astore hx hb hd h1 h2 rfl h3) h k
  case h_12 => obtain rfl : len = 1 := by simpa [ux_lok] using hl
               exact ux_staW (fun x lsR rest lv h1 h2 h3 => lv_astore_n hx hb hd rfl h1 h2 rfl h3) h k
  case h_13 => obtain rfl : len = 3 := by simpa [ux_lok] using hl
               unfold ux_inc at h
               split at h
               · rename_i i n _ x hx2
                 cases h
                 intro lsR hL
                 have hi : i < ls.length := (List.getElem?_eq_some_iff.mp hx2).1
                 obtain ⟨kk, hkk⟩ := List.getElem?_of_mem ((ux_pr_in (b := b) (n0 := n0) ls 0 (0 + i, .int x)).mpr ⟨i, .int x, hx2, (fun q => by cases q), rfl⟩)
                 rw [Nat.zero_add] at hkk
                 exact lv_iinc hx hb hd hL.2.2 hkk rfl (hL.lt hi) rfl fun lsR' h' => k lsR' (hL.put rfl (fun _ => rfl) h')
               · cases h
  case h_14 => obtain rfl : len = 1 := by simpa [ux_lok] using hl
               exact ux_iiW (fun x y lsR rest h1 => lv_iadd hx hb hd h1) h k
  case h_15 => obtain rfl : len = 1 := by simpa [ux_lok] using hl
               exact ux_iiW (fun x y lsR rest h1 => lv_isub hx hb hd h1) h k
  case h_16 => obtain rfl : len = 1 := by simpa [ux_lok] using hl
               exact ux_iiW (fun x y lsR rest h1 => lv_imul hx hb hd h1) h k
  case h_17 => obtain rfl : len = 1 := by simpa [ux_lok] using hl
               exact ux_iiW (fun x y lsR rest h1 => lv_iand hx hb hd h1) h k
  case h_18 => obtain rfl : len = 1 := by simpa [ux_lok] using hl
               exact ux_iiW (fun x y lsR rest h1 => lv_ior hx hb hd h1) h k
  case h_19 => obtain rfl : len = 1 := by simpa [ux_lok] using hl
               exact ux_iiW (fun x y lsR rest h1 => lv_ishl hx hb hd h1) h k
  case h_20 => obtain rfl : len = 1 := by simpa [ux_lok] using hl
               exact ux_iiW (fun x y lsR rest h1 => lv_ishr hx hb hd h1) h k
  case h_21 => obtain rfl : len = 1 := by simpa [ux_lok] using hl
               unfold ux_i2l at h
               split at h
               · cases h; intro lsR hL; exact lv_i2l hx hb hd rfl (k lsR hL)
               · cases h
  case h_22 => obtain rfl : len = 1 := by simpa [ux_lok] using hl
               unfold ux_lcmp at h
               split at h
               · cases h; intro lsR hL; exact W.lcmp hx hb hd (k lsR hL)
               · cases h
  case h_23 => obtain rfl : len = 1 := by simpa [ux_lok] using hl
               unfold ux_dup at h
               split at h
               · split at h
                 · rename_i hv
                   cases h; intro lsR hL; exact lv_dup hx hb hd (by rw [ux_cat]; exact hv) (k lsR hL)
                 · cases h
               · cases h
  case h_24 => obtain rfl : len = 1 := by simpa [ux_lok] using hl
               unfold ux_dup2 at h
               split at h
               · split at h
                 · rename_i hv
                   cases h; intro lsR hL; exact lv_dup2_11 hx hb hd (by rw [ux_cat]; exact hv.1) (by rw [ux_cat]; exact hv.2) (k lsR hL)
                 · cases h
               · cases h
  case h_25 => obtain rfl : len = 1 := by simpa [ux_lok] using hl
               unfold ux_dupx1 at h
               split at h
               · split at h
                 · rename_i hv
                   cases h; intro lsR hL; exact lv_dup_x1 hx hb hd (by rw [ux_cat]; exact hv.1) (by rw [ux_cat]; exact hv.2) (k lsR hL)
                 · cases h
               · cases h
  case h_26 => obtain rfl : len = 1 := by simpa [ux_lok] using hl
               unfold ux_pop at h
               split at h
               · split at h
                 · rename_i hv
                   cases h; intro lsR hL; exact lv_pop hx hb hd (by rw [ux_cat]; exact hv) (k lsR hL)
                 · cases h
               · cases h
  case h_27 => obtain rfl : len = 3 := by simpa [ux_lok] using hl
               exact ux_i1W (fun x lsR rest tgt ht kt kf => lv_if_eq hx hb hd ht (fun z => kt (decide_eq_true z)) (fun z => kf (decide_eq_false z))) h k
  case h_28 => obtain rfl : len = 3 := by simpa [ux_lok] using hl
               exact ux_i1W (fun x lsR rest tgt ht kt kf => lv_if_ne hx hb hd ht (fun z => kt (decide_eq_true z)) (fun z => kf (decide_eq_false (fun q => q z)))) h k
  case h_29 => obtain rfl : len = 3 := by simpa [ux_lok] using hl
               exact ux_i1W (fun x lsR rest tgt ht kt kf => lv_if_lt hx hb hd ht (fun z => kt (decide_eq_true z)) (fun z => kf (decide_eq_false z))) h k
  case h_30 => obtain rfl : len = 3 := by simpa [ux_lok] using hl
               exact ux_i1W (fun x lsR rest tgt ht kt kf => lv_if_ge hx hb hd ht (fun z => kt (decide_eq_true z)) (fun z => kf (decide_eq_false z))) h k
  case h_31 => obtain rfl : len = 3 := by simpa [ux_lok] using hl
               exact ux_i1W (fun x lsR rest tgt ht kt kf => lv_if_gt hx hb hd ht (fun z => kt (decide_eq_true z)) (fun z => kf (decide_eq_false z))) h k
  case h_32 => obtain rfl : len = 3 := by simpa [ux_lok] using hl
               exact ux_i1W (fun x lsR rest tgt ht kt kf => lv_if_le hx hb hd ht (fun z => kt (decide_eq_true z)) (fun z => kf (decide_eq_false z))) h k
  case h_33 => obtain rfl : len = 3 := by simpa [ux_lok] using hl
               exact ux_i2W (fun x y lsR rest tgt ht kt kf => lv_icmp_eq hx hb hd ht (fun z => kt (decide_eq_true z)) (fun z => kf (decide_eq_false z))) h k
  case h_34 => obtain rfl : len = 3 := by simpa [ux_lok] using hl
               exact ux_i2W (fun x y lsR rest tgt ht kt kf => lv_icmp_ne hx hb hd ht (fun z => kt (decide_eq_true z)) (fun z => kf (decide_eq_false (fun q => q z)))) h k
  case h_35 => obtain rfl : len = 3 := by simpa [ux_lok] using hl
               exact ux_i2W (fun x y lsR rest tgt ht kt kf => lv_icmp_lt hx hb hd ht (fun z => kt (decide_eq_true z)) (fun z => kf (decide_eq_false z))) h k
  case h_36 => obtain rfl : len = 3 := by simpa [ux_lok] using hl
               exact ux_i2W (fun x y lsR rest tgt ht kt kf => lv_icmp_ge hx hb hd ht (fun z => kt (decide_eq_true z)) (fun z => kf (decide_eq_false z))) h k
  case h_37 => obtain rfl : len = 3 := by simpa [ux_lok] using hl
               exact ux_i2W (fun x y lsR rest tgt ht kt kf => lv_icmp_gt hx hb hd ht (fun z => kt (decide_eq_true z)) (fun z => kf (decide_eq_false z))) h k
  case h_38 => obtain rfl : len = 3 := by simpa [ux_lok] using hl
               exact ux_i2W (fun x y lsR rest tgt ht kt kf => lv_icmp_le hx hb hd ht (fun z => kt (decide_eq_true z)) (fun z => kf (decide_eq_false z))) h k
  case h_39 => obtain rfl : len = 3 := by simpa [ux_lok] using hl
               intro lsR hL
               obtain ⟨tgt, h1, h2⟩ := ux_goW hL h k
               exact lv_goto hx hb hd h1 h2
  case h_40 => unfold ux_tsw at h
               split at h
               · intro lsR hL
                 split at h
                 · rename_i ho
                   obtain ⟨tgt, h1, h2⟩ := ux_goW hL h k
                   exact lv_tableOut hx hb hd ho h1 h2
                 · rename_i ho
                   split at h
                   · rename_i off hof
                     obtain ⟨tgt, h1, h2⟩ := ux_goW hL h k
                     exact lv_tableIn hx hb hd (fun q => ho (Or.inl q)) (fun q => ho (Or.inr q)) hof h1 h2
                   · cases h
               · cases h
  case h_41 => unfold ux_lsw at h
               split at h
               · intro lsR hL
                 split at h
                 · rename_i hp
                   obtain ⟨tgt, h1, h2⟩ := ux_goW hL h k
                   exact lv_lookup hx hb hd hp rfl h1 h2
                 · cases h
               · cases h
  case h_42 => cases h
end UXS
end
section
/-! Memory: the evaluator's cells beside the machine's heap. -/
def ux_nc (h : ux_H) : Nat := h.1.length + h.2.1
def ux_ns (h : ux_H) : Nat := h.2.2.1
def ux_sz (c : ux_C) : Nat := if c.1 < 102 then c.2.1.length else c.2.2.length
def ux_val (b n0 : Nat) (c : ux_C) (j : Nat) : Value := if c.1 < 102 then .int (c.2.1.getD j 0) else ux_tr b n0 (c.2.2.getD j .null)
def ux_at (aty : Nat → Option FieldType) (D : va_G) (cl : List vw_C) (ca : Nat → ClassId) (b n0 a : Nat) (c : ux_C) (H : Heap) : Prop :=
  (c.1 < 100 ∧ ∃ r : vw_C, cl[c.1]? = some r ∧ t_OB a (D.1 c.1) r.2.2 (D.2 c.1) H (fun j => ux_tr b n0 (vp_V c.2.2 j))) ∨
  (100 ≤ c.1 ∧ (∃ ty : FieldType, aty c.1 = some ty) ∧ H[a]? = some (arrV (ca c.1) (ux_sz c) (ux_val b n0 c)))
theorem ux_at.kept {aty : Nat → Option FieldType} {D : va_G} {cl : List vw_C} {ca : Nat → ClassId} {b n0 a : Nat} {c : ux_C} {H H1 : Heap} (h : ux_at aty D cl ca b n0 a c H) (he : H1[a]? = H[a]?) : ux_at aty D cl ca b n0 a c H1 := by
  rcases h with ⟨h1, r, h2, h3⟩ | ⟨h1, h2, h3⟩
  · exact Or.inl ⟨h1, r, h2, h3.kept he⟩
  · exact Or.inr ⟨h1, h2, by rw [he]; exact h3⟩
theorem ux_at.obj {aty : Nat → Option FieldType} {D : va_G} {cl : List vw_C} {ca : Nat → ClassId} {b n0 a : Nat} {c : ux_C} {H : Heap} (h : ux_at aty D cl ca b n0 a c H) (hc : c.1 < 100) : ∃ r : vw_C, cl[c.1]? = some r ∧ t_OB a (D.1 c.1) r.2.2 (D.2 c.1) H (fun j => ux_tr b n0 (vp_V c.2.2 j)) := by
  rcases h with ⟨_, h⟩ | ⟨h, _⟩
  · exact h
  · omega
theorem ux_at.arr {aty : Nat → Option FieldType} {D : va_G} {cl : List vw_C} {ca : Nat → ClassId} {b n0 a : Nat} {c : ux_C} {H : Heap} (h : ux_at aty D cl ca b n0 a c H) (hc : 100 ≤ c.1) : (∃ ty : FieldType, aty c.1 = some ty) ∧ H[a]? = some (arrV (ca c.1) (ux_sz c) (ux_val b n0 c)) := by
  rcases h with ⟨h, _⟩ | ⟨_, h⟩
  · omega
  · exact h
def ux_R (aty : Nat → Option FieldType) (D : va_G) (cl : List vw_C) (ca : Nat → ClassId) (b n0 : Nat) (sc : List Int32) (zs : List (String × String × String)) (s : State) (h : ux_H) (H : Heap) : Prop :=
  b < n0 ∧ H.size = n0 + ux_nc h ∧ (∀ (k : Nat) (c : ux_C), h.1[k]? = some c → ux_at aty D cl ca b n0 (n0 + k) c H) ∧ va_X b sc.length (fun j => sc.getD j 0) s H ∧ ∀ z ∈ zs, va_Zq z.1 z.2.1 z.2.2 (fun q => n0 ≤ q) s H
theorem ux_ad_succ (b n0 k : Nat) : ux_ad b n0 (k + 1) = n0 + k := by simp [ux_ad]
theorem ux_nin {j : Int32} {n : Nat} (hj : ¬ j < 0) (h : j.toNatClampNeg < n) : ¬ (j < 0 ∨ n ≤ j.toNatClampNeg) := fun h' => h'.elim hj (fun h2 => absurd h (Nat.not_lt.mpr h2))
section UXR
variable {aty : Nat → Option FieldType} {D : va_G} {cl : List vw_C} {ca : Nat → ClassId} {b n0 : Nat} {sc : List Int32} {zs : List (String × String × String)} {s : State} {hh : ux_H} {H : Heap}
theorem ux_cell_some {a : Nat} {c : ux_C} (h : ux_cell hh a = some c) : ∃ k, a = k + 1 ∧ hh.1[k]? = some c := by
  cases a with
  | zero => cases h
  | succ k => exact ⟨k, rfl, h⟩
theorem ux_R.cell (hR : ux_R aty D cl ca b n0 sc zs s hh H) {a : Nat} {c : ux_C} (h : ux_cell hh a = some c) : ux_at aty D cl ca b n0 (ux_ad b n0 a) c H := by
  obtain ⟨k, rfl, hk⟩ := ux_cell_some h
  rw [ux_ad_succ]
  exact hR.2.2.1 k c hk
theorem ux_R.set (hR : ux_R aty D cl ca b n0 sc zs s hh H) {a : Nat} {c c' : ux_C} (h : ux_cell hh a = some c) {H1 : Heap} (hz : H1.size = H.size) (ho : ∀ q, q ≠ ux_ad b n0 a → H1[q]? = H[q]?) (hat : ux_at aty D cl ca b n0 (ux_ad b n0 a) c' H1) : ux_R aty D cl ca b n0 sc zs s (ux_set hh a c') H1 := by
  obtain ⟨k, rfl, hk⟩ := ux_cell_some h
  rw [ux_ad_succ] at ho hat
  obtain ⟨h1, h2, h3, h4, h5⟩ := hR
  refine ⟨h1, ?_, fun j d hj => ?_, h4.kept (ho b (by omega)), fun z hzm => (h5 z hzm).kept fun q _ hq => ho q (by omega)⟩
  · rw [hz, h2]; simp [ux_nc, ux_set]
  · have hj' : (hh.1.set k c')[j]? = some d := hj
    by_cases hjk : j = k
    · subst hjk
      rw [List.getElem?_set_self (List.getElem?_eq_some_iff.mp hk).1] at hj'
      cases hj'
      exact hat
    · rw [List.getElem?_set_ne (Ne.symm hjk)] at hj'
      exact (h3 j d hj').kept (ho _ (by omega))
theorem ux_R.push (hR : ux_R aty D cl ca b n0 sc zs s hh H) (hx : hh.2.1 = 0) {c : ux_C} {n : Nat} {H1 : Heap} (hz : H1.size = H.size + 1) (ho : ∀ q, q < H.size → H1[q]? = H[q]?) (hat : ux_at aty D cl ca b n0 H.size c H1) : ux_R aty D cl ca b n0 sc zs s (ux_new hh c n) H1 := by
  obtain ⟨h1, h2, h3, h4, h5⟩ := hR
  have hn : ux_nc hh = hh.1.length := by simp [ux_nc, hx]
  refine ⟨h1, ?_, fun j d hj => ?_, h4.kept (ho b (by omega)), fun z hzm => (h5 z hzm).kept fun q hq _ => ho q hq⟩
  · rw [hz, h2]; simp [ux_nc, ux_new]; omega
  · have hj' : (hh.1 ++ [c])[j]? = some d := hj
    by_cases hjk : j < hh.1.length
    · rw [List.getElem?_append_left hjk] at hj'
      exact (h3 j d hj').kept (ho _ (by omega))
    · rw [List.getElem?_append_right (by omega)] at hj'
      have hz2 : j - hh.1.length < 1 := (List.getElem?_eq_some_iff.mp hj').1
      rw [show j - hh.1.length = 0 by omega] at hj'
      cases hj'
      rw [show n0 + j = H.size by omega]
      exact hat
theorem ux_R.ref (hR : ux_R aty D cl ca b n0 sc zs s hh H) (hx : hh.2.1 = 0) : ux_ad b n0 (hh.1.length + 1) = H.size := by
  rw [ux_ad_succ, hR.2.1]; simp [ux_nc, hx]
theorem ux_arr_eq {cA : ClassId} {n : Nat} {f g : Nat → Value} (h : ∀ j, j < n → f j = g j) : arrV cA n f = arrV cA n g := by
  unfold arrV
  congr 1
  apply Array.ext
  · simp
  · intro j h1 h2
    simp only [Array.getElem_ofFn]
    exact h j (by simpa using h1)
end UXR
/-! what the tables must say; what is known of a frame's method -/
abbrev ux_M : Type := Nat → MethodName × ByteArray × Option FieldType × List (Nat × Nat × Nat × Nat)
def ux_okI (P : ux_P) (M : ux_M) : Prop := ∀ (i pc : Nat) (ins : Instr) (len : Nat), P.1 i pc = some (ins, len) → decode (M i).2.1 pc = .ok (ins, len) ∧ ux_lok ins len = true
def ux_okC (Tw : List Cond) (cl : List vw_C) (ty : Nat → Nat → FieldType) : Prop := ∀ (ci : Nat) (q : vw_C), cl[ci]? = some q → (∀ w ∈ u_ws q.1 q.2.1 q.2.2, w ∈ Tw) ∧ (∀ k, k < q.2.2 → parseFieldDescriptor (q.2.1 k).2.2.1 = some (ty ci k)) ∧ ∀ a, a < q.2.2 → ∀ b, b < q.2.2 → a ≠ b → (q.2.1 a).2.1 ≠ (q.2.1 b).2.1
def ux_okF (P : ux_P) (M : ux_M) (Tw : List Cond) (cl : List vw_C) (ty : Nat → Nat → FieldType) : Prop := ∀ (i k ci j : Nat) (q : Bool), P.2.1 i k = some (ci, j, q) → ∃ r : vw_C, cl[ci]? = some r ∧ j < r.2.2 ∧ (r.2.1 j).1 = r.1 ∧ Cond.fieldLink (M i).1.cls k r.1 (r.2.1 j).2.1 (r.2.1 j).2.2.1 ∈ Tw ∧ (q = false → ty ci j = .int) ∧ (q = true → (ty ci j).isReference = true) ∧ ((r.2.1 j).2.2.2 = true → (M i).1.name = "<init>" ∧ r.1 = (M i).1.cls) ∧ ci < 100
def ux_okN (P : ux_P) (M : ux_M) (Tw : List Cond) (cl : List vw_C) (ty : Nat → Nat → FieldType) : Prop := ∀ (i k ci : Nat), P.2.2.2.1 i k = some ci → ci < 100 → ∃ r : vw_C, cl[ci]? = some r ∧ Cond.classLink (M i).1.cls k r.1 ∈ Tw ∧ Cond.instantiable r.1 r.2.2 ∈ Tw ∧ Cond.initialized r.1 ∈ Tw ∧ (P.2.2.2.2.1 ci).length = r.2.2 ∧ ∀ j, j < r.2.2 → (P.2.2.2.2.1 ci)[j]? = some (defaultValue (ty ci j))
def ux_okA (P : ux_P) (M : ux_M) (Tw : List Cond) (cl : List vw_C) (aty : Nat → Option FieldType) : Prop :=
  (aty 100 = some .int ∧ aty 101 = some .boolean ∧ aty 102 = some .long) ∧ (Cond.arrayClass .int ∈ Tw ∧ Cond.arrayClass .boolean ∈ Tw ∧ Cond.arrayClass .long ∈ Tw) ∧
  (∀ (t : Nat) (y : FieldType), 102 < t → aty t = some y → ∃ (C : String) (r : vw_C), y = .object C ∧ cl[P.2.2.2.2.2.1 t]? = some r ∧ r.1 = C) ∧
  ∀ (i k t : Nat), P.2.2.2.1 i (100000 + k) = some t → 102 < t → t < 1000 → ∃ C : String, aty t = some (.object C) ∧ Cond.classLink (M i).1.cls k C ∈ Tw ∧ Cond.arrayOver (.object C) ∈ Tw
def ux_okL (P : ux_P) (M : ux_M) (Tw : List Cond) : Prop := ∀ (i k q j n : Nat), P.2.2.1 i k = some (q, j, n) →
  (q = 6 → Cond.methodLink (M i).1.cls k Lib.objectInit ∈ Tw ∧ Cond.instanceMethod Lib.objectInit ∈ Tw ∧ Cond.code Lib.objectInit ⟨#[0xb1]⟩ 1 none ∈ Tw) ∧
  (q = 7 → Cond.methodLink (M i).1.cls k Lib.Math.max.name ∈ Tw ∧ Cond.static Lib.Math.max.name ∈ Tw ∧ Cond.initialized "java/lang/Math" ∈ Tw ∧ Cond.code Lib.Math.max.name Lib.Math.max.code 2 (some .int) ∈ Tw) ∧
  (q = 8 → Cond.methodLink (M i).1.cls k Lib.Math.min.name ∈ Tw ∧ Cond.static Lib.Math.min.name ∈ Tw ∧ Cond.initialized "java/lang/Math" ∈ Tw ∧ Cond.code Lib.Math.min.name Lib.Math.min.code 2 (some .int) ∈ Tw)
def ux_K (Tw : List Cond) (aty : Nat → Option FieldType) (D : va_G) (cl : List vw_C) (ca : Nat → ClassId) (s : State) : Prop :=
  (∀ (ci : Nat) (q : vw_C), cl[ci]? = some q → u_Kn s q.1 q.2.1 q.2.2 (D.1 ci) (D.2 ci)) ∧ (∀ (t : Nat) (y : FieldType), aty t = some y → ArrOfT s (ca t) y ∧ va_RA s (ca t) y) ∧ ∀ w ∈ Tw, ∀ a : Array Value, w.before a s = true
theorem ux_isr_int {v : Value} (h : ux_isr v = some false) : ∃ x, v = .int x := by cases v <;> simp [ux_isr] at h; exact ⟨_, rfl⟩
theorem ux_isr_ref {v : Value} (h : ux_isr v = some true) : ∃ x, v = .ref x := by cases v <;> simp [ux_isr] at h; exact ⟨_, rfl⟩
theorem ux_fit_ref {y : FieldType} (h : y.isReference = true) (a : Nat) : narrow y (.ref a) = .ref a ∧ fits y (.ref a) = true := by cases y <;> simp [FieldType.isReference, narrow, fits] at h ⊢
theorem ux_tr_dflt (b n0 : Nat) (y : FieldType) : ux_tr b n0 (defaultValue y) = defaultValue y := by cases y <;> rfl
theorem ux_updV {b n0 : Nat} {vs : List Value} {k : Nat} (hk : k < vs.length) (v : Value) (j : Nat) : updV (fun j => ux_tr b n0 (vp_V vs j)) k (ux_tr b n0 v) j = ux_tr b n0 (vp_V (vs.set k v) j) := by
  rw [← vp_updV_set hk v j]
  unfold updV
  split <;> rfl
section UXM
variable {p : Program} {l : Launch} {e : Env} {R : Room} {s : State} {m : MethodId} {args : Array Value} {below : List Frame} {meth : Method} {c : Code} {H : Heap} {locs : List Loc} {cells slots : Nat} {Q : State → Prop} {cc : ByteArray} {b n0 nL pc : Nat} {ls rest : List Value} {lsR : Array Slot}
variable {Tw : List Cond} {aty : Nat → Option FieldType} {D : va_G} {cl : List vw_C} {ca : Nat → ClassId} {sc : List Int32} {zs : List (String × String × String)} {hh : ux_H} {ty : Nat → Nat → FieldType} {own : String}
theorem ux_getW (hx : p.tables.exec = Jvm.exec) (hb : c.code = cc) (hown : s.vm.findClass own = some m.cls) (hK : ux_K Tw aty D cl ca s) (hC : ux_okC Tw cl ty) (hR : ux_R aty D cl ca b n0 sc zs s hh H) {k ci j a : Nat} {r : vw_C} (hr : cl[ci]? = some r) (hj : j < r.2.2) (ho : (r.2.1 j).1 = r.1) (hlk : Cond.fieldLink own k r.1 (r.2.1 j).2.1 (r.2.1 j).2.2.1 ∈ Tw) (hci : ci < 100)
    {v : Value} (hg : ux_get hh a ci j = some v) (hdg : decode cc pc = .ok (.getfield k, 3)) (kk : W p l e R s m args below meth c H locs cells slots Q (F0 m (pc + 3) lsR (ux_tr b n0 v :: rest))) : W p l e R s m args below meth c H locs cells slots Q (F0 m pc lsR (.ref (ux_ad b n0 a) :: rest)) := by
  unfold ux_get at hg
  split at hg
  · rename_i t is vs hcell
    split at hg
    · rename_i ht
      subst ht
      obtain ⟨r', h1, cell, q1, q2, q3, q4⟩ := (hR.cell hcell).obj hci
      cases hr.symm.trans h1
      obtain ⟨hin, hty, hnm⟩ := hC _ _ hr
      obtain ⟨hS, hfc, kC, hkC, hkind⟩ := hK.1 _ _ hr
      obtain ⟨cf, kf, fi, f, hi, hsl⟩ := hS j hj
      rw [ho] at hi
      have hts : ∀ w ∈ Tw, w.before args s = true := fun w hw => hK.2.2 w hw args
      have hf := (u_facts hfc hkC (u_lays hts hin hj) (by rw [ho]; exact hi)).1
      refine W.getf hx hb hown (hts _ hlk) hi hf q1 (by rw [q3]; exact fun h => by cases h) (v := ux_tr b n0 v) ?_ rfl rfl hdg kk
      rw [hsl, q4 j hj]
      simp [vp_V, hg]
    · cases hg
  · cases hg
theorem ux_putW (hx : p.tables.exec = Jvm.exec) (hb : c.code = cc) (hown : s.vm.findClass own = some m.cls) {nm : String} (hnme : meth.name = nm) (hK : ux_K Tw aty D cl ca s) (hC : ux_okC Tw cl ty) (hR : ux_R aty D cl ca b n0 sc zs s hh H) {k ci j a : Nat} {r : vw_C} {q : Bool} (hr : cl[ci]? = some r) (hj : j < r.2.2) (ho : (r.2.1 j).1 = r.1) (hlk : Cond.fieldLink own k r.1 (r.2.1 j).2.1 (r.2.1 j).2.2.1 ∈ Tw) (hq0 : q = false → ty ci j = .int) (hq1 : q = true → (ty ci j).isReference = true) (hfin : (r.2.1 j).2.2.2 = true → nm = "<init>" ∧ r.1 = own) (hci : ci < 100)
    {v : Value} (hv : ux_isr v = some q) {hh' : ux_H} (hg : ux_put hh a ci j v = some hh') (hdg : decode cc pc = .ok (.putfield k, 3)) (hloc : ∀ x ∈ locs, n0 ≤ x.base)
    (kk : ∀ (H' : Heap) (locs' : List Loc), ux_R aty D cl ca b n0 sc zs s hh' H' → (∀ x ∈ locs', n0 ≤ x.base) → W p l e R s m args below meth c H' locs' cells slots Q (F0 m (pc + 3) lsR rest)) : W p l e R s m args below meth c H locs cells slots Q (F0 m pc lsR (ux_tr b n0 v :: .ref (ux_ad b n0 a) :: rest)) := by
  unfold ux_put at hg
  split at hg
  · rename_i t is vs hcell
    split at hg
    · rename_i ht
      obtain ⟨ht, hlen⟩ := ht
      subst ht
      cases hg
      obtain ⟨r', h1, cell, q1, q2, q3, q4⟩ := (hR.cell hcell).obj hci
      cases hr.symm.trans h1
      obtain ⟨hin, hty, hnm⟩ := hC _ _ hr
      have hts : ∀ w ∈ Tw, w.before args s = true := fun w hw => hK.2.2 w hw args
      have hap : ∀ x y, x < r.2.2 → y < r.2.2 → x ≠ y → (D.2 t) x ≠ (D.2 t) y := va_apart (own := own) (cl := cl) (tys := []) hts hin (ty t) hty hnm ⟨hK.1, fun k q h => by simp at h⟩ hr
      obtain ⟨hS, hfc, kC, hkC, hkind⟩ := hK.1 _ _ hr
      obtain ⟨cf, kf, fi, f, hi, hsl⟩ := hS j hj
      have hlay := hts _ (hin _ (u_in_lay hj))
      have hst := (u_facts hfc hkC (u_lays hts hin hj) hi).1
      have hnf : narrow (ty t j) (ux_tr b n0 v) = ux_tr b n0 v ∧ fits (ty t j) (ux_tr b n0 v) = true := by
        cases q with
        | false => obtain ⟨x, rfl⟩ := ux_isr_int hv; rw [hq0 rfl]; exact ⟨rfl, rfl⟩
        | true => obtain ⟨x, rfl⟩ := ux_isr_ref hv; exact ux_fit_ref (hq1 rfl) _
      have hlt : f.slot < cell.slots.size := by rw [hsl]; exact k2_hasslot (q4 j hj)
      have key : ∀ (H' : Heap) (locs' : List Loc), H'[ux_ad b n0 a]? = some (cell.setSlot f.slot (ux_tr b n0 v)) → H'.size = H.size → (∀ q, q ≠ ux_ad b n0 a → H'[q]? = H[q]?) → (∀ x ∈ locs', n0 ≤ x.base) → W p l e R s m args below meth c H' locs' cells slots Q (F0 m (pc + 3) lsR rest) := by
        intro H' locs' e1 e2 e3 hl'
        refine kk H' locs' (hR.set hcell e2 e3 (Or.inl ⟨hci, r, hr, ?_⟩)) hl'
        rw [hsl] at e1
        exact t_OB.to (V := updV (fun j => ux_tr b n0 (vp_V vs j)) j (ux_tr b n0 v)) ⟨_, e1, q2, q3, t_set q4 hap hj (ux_tr b n0 v)⟩ (fun i _ => ux_updV hlen v i)
      have hl2 : ∀ x ∈ locs ++ [(⟨ux_ad b n0 a, f.slot⟩ : Loc)], n0 ≤ x.base := by
        intro x hx2
        rcases List.mem_append.mp hx2 with h2 | h2
        · exact hloc x h2
        · rw [List.mem_singleton.mp h2]
          obtain ⟨kq, rfl, -⟩ := ux_cell_some hcell
          show n0 ≤ ux_ad b n0 (kq + 1)
          rw [ux_ad_succ]; omega
      rw [ho] at hi
      unfold u_lay at hlay
      cases hfl : (r.2.1 j).2.2.2 with
      | false =>
        rw [if_neg (by rw [hfl]; decide)] at hlay
        have h6 := u_store hfc hkC hkind hlay (by rw [ho]; exact hi) (hty j hj) hnf.1 hnf.2
        exact W.putK hx hb (f := f) ⟨hown, hts _ hlk, ⟨_, _, _, hi⟩, hst⟩ (by rw [q2]; exact h6) q1 q3 hlt rfl rfl hdg fun H' e1 e2 e3 => key H' _ e1 e2 e3 hl2
      | true =>
        rw [if_pos hfl] at hlay
        obtain ⟨hn1, hn2⟩ := hfin hfl
        have hcf : m.cls = cf := by
          obtain ⟨_, _, c', _, _, _, -, -, hf', -, -, -, hown2, -⟩ := Cond.laysFinal_spec hlay
          have e1 : c' = cf := by
            rw [ho] at hf'
            have := hi.symm.trans hf'
            simp at this
            exact this.1.symm
          rw [ho, hn2] at hown2
          rw [← e1]; exact Option.some.inj (hown.symm.trans hown2)
        have h6 := u_fits hfc hkC hkind (Or.inr hlay) (by rw [ho]; exact hi) (hty j hj) hnf.1 hnf.2
        exact W.putFinK hx hb hown (hts _ hlk) hi hst hcf (hnme.trans hn1) (by rw [q2]; exact h6) q1 q3 hlt rfl rfl hdg fun H' e1 e2 e3 => key H' _ e1 e2 e3 hl2
    · cases hg
  · cases hg
/-! arrays of ints and booleans -/
theorem ux_ld_some {t a : Nat} {j x : Int32} (hg : ux_ld t sc hh a j = some x) : ¬ j < 0 ∧ ((a = 0 ∧ t = 100 ∧ sc[j.toNatClampNeg]? = some x) ∨ ∃ is vs, ux_cell hh a = some (t, is, vs) ∧ is[j.toNatClampNeg]? = some x) := by
  unfold ux_ld at hg
  split at hg
  · cases hg
  · rename_i hj
    refine ⟨hj, ?_⟩
    split at hg
    · split at hg
      · rename_i ht; exact Or.inl ⟨rfl, ht, hg⟩
      · cases hg
    · split at hg
      · rename_i t' is vs hcell
        split at hg
        · rename_i ht; subst ht; exact Or.inr ⟨is, vs, hcell, hg⟩
        · cases hg
      · cases hg
theorem ux_ialdW (hx : p.tables.exec = Jvm.exec) (hb : c.code = cc) (hK : ux_K Tw aty D cl ca s) (hA : aty 100 = some .int) (hR : ux_R aty D cl ca b n0 sc zs s hh H) {a : Nat} {j x : Int32} (hg : ux_ld 100 sc hh a j = some x) (hdg : decode cc pc = .ok (.iaload, 1))
    (kk : W p l e R s m args below meth c H locs cells slots Q (F0 m (pc + 1) lsR (.int x :: rest))) : W p l e R s m args below meth c H locs cells slots Q (F0 m pc lsR (.int j :: .ref (ux_ad b n0 a) :: rest)) := by
  obtain ⟨hj, h | h⟩ := ux_ld_some hg
  · obtain ⟨rfl, -, h1⟩ := h
    obtain ⟨scr, g1, g2, g3, g4, g5⟩ := hR.2.2.2.1
    have hlt : j.toNatClampNeg < sc.length := (List.getElem?_eq_some_iff.mp h1).1
    refine W.iald (v := .int x) hx hb (cell := scr) g1 g2 g3 (by rw [g4]; exact ux_nin hj hlt) ?_ rfl rfl hdg kk
    rw [g5 _ hlt]
    simp [h1]
  · obtain ⟨is, vs, hcell, h1⟩ := h
    have hat := ((hR.cell hcell).arr (Nat.le_refl _)).2
    have hlt : j.toNatClampNeg < is.length := (List.getElem?_eq_some_iff.mp h1).1
    refine W.iald (v := .int x) hx hb hat ((hK.2.1 _ _ hA).1 _ _) (fun q => by cases q) (by rw [arrV_size]; exact ux_nin hj hlt) ?_ rfl rfl hdg kk
    rw [arrV_read _ _ (show j.toNatClampNeg < ux_sz (100, is, vs) from hlt)]
    simp [ux_val, h1]
theorem ux_zaldW (hx : p.tables.exec = Jvm.exec) (hb : c.code = cc) (hK : ux_K Tw aty D cl ca s) (hA : aty 101 = some .boolean) (hR : ux_R aty D cl ca b n0 sc zs s hh H) {a : Nat} {j x : Int32} (hg : ux_ld 101 sc hh a j = some x) (hdg : decode cc pc = .ok (.baload, 1))
    (kk : W p l e R s m args below meth c H locs cells slots Q (F0 m (pc + 1) lsR (.int x :: rest))) : W p l e R s m args below meth c H locs cells slots Q (F0 m pc lsR (.int j :: .ref (ux_ad b n0 a) :: rest)) := by
  obtain ⟨hj, h | h⟩ := ux_ld_some hg
  · obtain ⟨-, h0, -⟩ := h
    cases h0
  · obtain ⟨is, vs, hcell, h1⟩ := h
    have hat := ((hR.cell hcell).arr (show 100 ≤ 101 by decide)).2
    have hlt : j.toNatClampNeg < is.length := (List.getElem?_eq_some_iff.mp h1).1
    refine W.zald (v := .int x) hx hb hat ((hK.2.1 _ _ hA).1 _ _) (fun q => by cases q) (by rw [arrV_size]; exact ux_nin hj hlt) ?_ rfl rfl hdg kk
    rw [arrV_read _ _ (show j.toNatClampNeg < ux_sz (101, is, vs) from hlt)]
    simp [ux_val, h1]
theorem ux_loc {a k : Nat} {cx : ux_C} (hcell : ux_cell hh a = some cx) (hloc : ∀ x ∈ locs, n0 ≤ x.base) : ∀ x ∈ locs ++ [(⟨ux_ad b n0 a, k⟩ : Loc)], n0 ≤ x.base := by
  intro x hx
  rcases List.mem_append.mp hx with h2 | h2
  · exact hloc x h2
  · rw [List.mem_singleton.mp h2]
    obtain ⟨kq, rfl, -⟩ := ux_cell_some hcell
    show n0 ≤ ux_ad b n0 (kq + 1)
    rw [ux_ad_succ]; omega
theorem ux_at_ints {t a : Nat} {is : List Int32} {vs : List Value} {jn : Nat} {x : Int32} {H' : Heap} (ht : t = 100 ∨ t = 101) (hy : ∃ y : FieldType, aty t = some y) (hlt : jn < is.length) (e1 : H'[a]? = some ((arrV (ca t) (ux_sz (t, is, vs)) (ux_val b n0 (t, is, vs))).setSlot jn (.int x))) : ux_at aty D cl ca b n0 a (t, is.set jn x, vs) H' := by
  refine Or.inr ⟨by rcases ht with rfl | rfl <;> show (100 : Nat) ≤ _ <;> omega, hy, ?_⟩
  have ht2 : t < 102 := by omega
  rw [e1, arrV_store]
  show some (arrV (ca t) _ _) = some (arrV (ca t) _ _)
  have hs : ux_sz (t, is.set jn x, vs) = ux_sz (t, is, vs) := by simp [ux_sz, ht2]
  rw [hs]
  congr 1
  refine ux_arr_eq fun i hi => ?_
  have hi' : i < is.length := by simpa [ux_sz, ht2] using hi
  by_cases hij : i = jn
  · subst hij
    simp [updV, ux_val, ht2, hlt]
  · simp [updV, ux_val, ht2, hij, List.getElem?_set, Ne.symm hij]
theorem ux_st_some {t a : Nat} {j x : Int32} {hh' : ux_H} (hg : ux_st t hh a j x = some hh') : ¬ j < 0 ∧ ∃ is vs, ux_cell hh a = some (t, is, vs) ∧ j.toNatClampNeg < is.length ∧ hh' = ux_set hh a (t, is.set j.toNatClampNeg x, vs) := by
  unfold ux_st at hg
  split at hg
  · cases hg
  · rename_i hj
    refine ⟨hj, ?_⟩
    split at hg
    · rename_i t' is vs hcell
      split at hg
      · rename_i ht
        obtain ⟨rfl, h2⟩ := ht
        cases hg
        exact ⟨is, vs, hcell, h2, rfl⟩
      · cases hg
    · cases hg
theorem ux_iastW (hx : p.tables.exec = Jvm.exec) (hb : c.code = cc) (hK : ux_K Tw aty D cl ca s) (hA : aty 100 = some .int) (hR : ux_R aty D cl ca b n0 sc zs s hh H) {a : Nat} {j x : Int32} {hh' : ux_H} (hg : ux_st 100 hh a j x = some hh') (hdg : decode cc pc = .ok (.iastore, 1)) (hloc : ∀ x ∈ locs, n0 ≤ x.base)
    (kk : ∀ (H' : Heap) (locs' : List Loc), ux_R aty D cl ca b n0 sc zs s hh' H' → (∀ x ∈ locs', n0 ≤ x.base) → W p l e R s m args below meth c H' locs' cells slots Q (F0 m (pc + 1) lsR rest)) : W p l e R s m args below meth c H locs cells slots Q (F0 m pc lsR (.int x :: .int j :: .ref (ux_ad b n0 a) :: rest)) := by
  obtain ⟨hj, is, vs, hcell, hlt, rfl⟩ := ux_st_some hg
  obtain ⟨hy, hat⟩ := (hR.cell hcell).arr (Nat.le_refl _)
  refine W.iast hx hb hat ((hK.2.1 _ _ hA).1 _ _) (fun q => by cases q) (by rw [arrV_size]; exact ux_nin hj hlt) rfl rfl hdg fun H' e1 e2 e3 => ?_
  exact kk H' _ (hR.set hcell e2 e3 (ux_at_ints (Or.inl rfl) hy hlt e1)) (ux_loc hcell hloc)
theorem ux_zastW (hx : p.tables.exec = Jvm.exec) (hb : c.code = cc) (hK : ux_K Tw aty D cl ca s) (hA : aty 101 = some .boolean) (hR : ux_R aty D cl ca b n0 sc zs s hh H) {a : Nat} {j x : Int32} {hh' : ux_H} (hx01 : x = 0 ∨ x = 1) (hg : ux_st 101 hh a j x = some hh') (hdg : decode cc pc = .ok (.bastore, 1)) (hloc : ∀ x ∈ locs, n0 ≤ x.base)
    (kk : ∀ (H' : Heap) (locs' : List Loc), ux_R aty D cl ca b n0 sc zs s hh' H' → (∀ x ∈ locs', n0 ≤ x.base) → W p l e R s m args below meth c H' locs' cells slots Q (F0 m (pc + 1) lsR rest)) : W p l e R s m args below meth c H locs cells slots Q (F0 m pc lsR (.int x :: .int j :: .ref (ux_ad b n0 a) :: rest)) := by
  obtain ⟨hj, is, vs, hcell, hlt, rfl⟩ := ux_st_some hg
  obtain ⟨hy, hat⟩ := (hR.cell hcell).arr (show 100 ≤ 101 by decide)
  refine W.zast hx hb hat ((hK.2.1 _ _ hA).1 _ _) (fun q => by cases q) (by rw [arrV_size]; exact ux_nin hj hlt) rfl rfl hdg fun H' e1 e2 e3 => ?_
  have hn : narrow .boolean (.int x) = .int x := by rcases hx01 with rfl | rfl <;> rfl
  rw [hn] at e1
  exact kk H' _ (hR.set hcell e2 e3 (ux_at_ints (Or.inr rfl) hy hlt e1)) (ux_loc hcell hloc)
/-! arrays of longs and of references -/
theorem ux_ldv_some {t a : Nat} {j : Int32} {v : Value} (hg : ux_ldv hh a j = some (t, v)) : ¬ j < 0 ∧ ∃ is vs, ux_cell hh a = some (t, is, vs) ∧ vs[j.toNatClampNeg]? = some v := by
  unfold ux_ldv at hg
  split at hg
  · cases hg
  · rename_i hj
    refine ⟨hj, ?_⟩
    split at hg
    · rename_i t' is vs hcell
      cases hv : vs[j.toNatClampNeg]? with
      | none => rw [hv] at hg; cases hg
      | some w => rw [hv] at hg; cases hg; exact ⟨is, vs, hcell, hv⟩
    · cases hg
theorem ux_stv_some {t a : Nat} {j : Int32} {v : Value} {hh' : ux_H} (hg : ux_stv hh a j v = some (t, hh')) : ¬ j < 0 ∧ ∃ is vs, ux_cell hh a = some (t, is, vs) ∧ j.toNatClampNeg < vs.length ∧ hh' = ux_set hh a (t, is, vs.set j.toNatClampNeg v) := by
  unfold ux_stv at hg
  split at hg
  · cases hg
  · rename_i hj
    refine ⟨hj, ?_⟩
    split at hg
    · rename_i t' is vs hcell
      split at hg
      · rename_i h2
        cases hg
        exact ⟨is, vs, hcell, h2, rfl⟩
      · cases hg
    · cases hg
theorem ux_at_vals {t a : Nat} {is : List Int32} {vs : List Value} {jn : Nat} {v : Value} {H' : Heap} (ht : 102 ≤ t) (hy : ∃ y : FieldType, aty t = some y) (hlt : jn < vs.length) (e1 : H'[a]? = some ((arrV (ca t) (ux_sz (t, is, vs)) (ux_val b n0 (t, is, vs))).setSlot jn (ux_tr b n0 v))) : ux_at aty D cl ca b n0 a (t, is, vs.set jn v) H' := by
  refine Or.inr ⟨by show 100 ≤ t; omega, hy, ?_⟩
  have ht2 : ¬ t < 102 := by omega
  rw [e1, arrV_store]
  have hs : ux_sz (t, is, vs.set jn v) = ux_sz (t, is, vs) := by simp [ux_sz, ht2]
  show some (arrV (ca t) _ _) = some (arrV (ca t) _ _)
  rw [hs]
  congr 1
  refine ux_arr_eq fun i hi => ?_
  by_cases hij : i = jn
  · subst hij
    simp [updV, ux_val, ht2, hlt]
  · simp [updV, ux_val, ht2, hij, List.getElem?_set, Ne.symm hij]
theorem ux_laldW (hx : p.tables.exec = Jvm.exec) (hb : c.code = cc) (hK : ux_K Tw aty D cl ca s) (hA : aty 102 = some .long) (hR : ux_R aty D cl ca b n0 sc zs s hh H) {a : Nat} {j : Int32} {v : Value} (hg : ux_ldv hh a j = some (102, v)) (hdg : decode cc pc = .ok (.laload, 1))
    (kk : W p l e R s m args below meth c H locs cells slots Q (F0 m (pc + 1) lsR (ux_tr b n0 v :: rest))) : W p l e R s m args below meth c H locs cells slots Q (F0 m pc lsR (.int j :: .ref (ux_ad b n0 a) :: rest)) := by
  obtain ⟨hj, is, vs, hcell, h1⟩ := ux_ldv_some hg
  have hat := ((hR.cell hcell).arr (show 100 ≤ 102 by decide)).2
  have hlt : j.toNatClampNeg < vs.length := (List.getElem?_eq_some_iff.mp h1).1
  refine W.lald (v := ux_tr b n0 v) hx hb hat ((hK.2.1 _ _ hA).1 _ _) (fun q => by cases q) (by rw [arrV_size]; exact ux_nin hj hlt) ?_ rfl rfl hdg kk
  rw [arrV_read _ _ (show j.toNatClampNeg < ux_sz (102, is, vs) from hlt)]
  simp [ux_val, h1]
theorem ux_aaldW (hx : p.tables.exec = Jvm.exec) (hb : c.code = cc) (hK : ux_K Tw aty D cl ca s) (hA : ∀ (t : Nat) (y : FieldType), 102 < t → aty t = some y → ∃ C, y = .object C) (hR : ux_R aty D cl ca b n0 sc zs s hh H) {t a : Nat} {j : Int32} {v : Value} (ht : 102 < t) (hg : ux_ldv hh a j = some (t, v)) (hdg : decode cc pc = .ok (.aaload, 1))
    (kk : W p l e R s m args below meth c H locs cells slots Q (F0 m (pc + 1) lsR (ux_tr b n0 v :: rest))) : W p l e R s m args below meth c H locs cells slots Q (F0 m pc lsR (.int j :: .ref (ux_ad b n0 a) :: rest)) := by
  obtain ⟨hj, is, vs, hcell, h1⟩ := ux_ldv_some hg
  obtain ⟨⟨y, hy⟩, hat⟩ := (hR.cell hcell).arr (by show 100 ≤ t; omega)
  obtain ⟨C, rfl⟩ := hA t y ht hy
  have ht2 : ¬ t < 102 := by omega
  have hlt : j.toNatClampNeg < vs.length := (List.getElem?_eq_some_iff.mp h1).1
  have hsz : ux_sz (t, is, vs) = vs.length := by simp [ux_sz, ht2]
  refine W.aald (v := ux_tr b n0 v) (ty := .object C) hx hb hat ((hK.2.1 _ _ hy).1 _ _) rfl (fun q => by cases q) (by rw [arrV_size, hsz]; exact ux_nin hj hlt) ?_ rfl rfl hdg kk
  rw [arrV_read _ _ (by rw [hsz]; exact hlt)]
  simp [ux_val, ht2, h1]
theorem ux_lastW (hx : p.tables.exec = Jvm.exec) (hb : c.code = cc) (hK : ux_K Tw aty D cl ca s) (hA : aty 102 = some .long) (hR : ux_R aty D cl ca b n0 sc zs s hh H) {a : Nat} {j : Int32} {x : Int64} {hh' : ux_H} (hg : ux_stv hh a j (.long x) = some (102, hh')) (hdg : decode cc pc = .ok (.lastore, 1)) (hloc : ∀ x ∈ locs, n0 ≤ x.base)
    (kk : ∀ (H' : Heap) (locs' : List Loc), ux_R aty D cl ca b n0 sc zs s hh' H' → (∀ x ∈ locs', n0 ≤ x.base) → W p l e R s m args below meth c H' locs' cells slots Q (F0 m (pc + 1) lsR rest)) : W p l e R s m args below meth c H locs cells slots Q (F0 m pc lsR (.long x :: .int j :: .ref (ux_ad b n0 a) :: rest)) := by
  obtain ⟨hj, is, vs, hcell, hlt, rfl⟩ := ux_stv_some hg
  obtain ⟨hy, hat⟩ := (hR.cell hcell).arr (show 100 ≤ 102 by decide)
  refine W.last hx hb hat ((hK.2.1 _ _ hA).1 _ _) (fun q => by cases q) (by rw [arrV_size]; exact ux_nin hj hlt) rfl rfl hdg fun H' e1 e2 e3 => ?_
  exact kk H' _ (hR.set hcell e2 e3 (ux_at_vals (v := .long x) (Nat.le_refl _) hy hlt e1)) (ux_loc hcell hloc)
theorem ux_aastW (hx : p.tables.exec = Jvm.exec) (hb : c.code = cc) (hK : ux_K Tw aty D cl ca s) (hR : ux_R aty D cl ca b n0 sc zs s hh H) {t a v ci : Nat} {j : Int32} {hh' : ux_H} {C : String} {r : vw_C} {is0 : List Int32} {vs0 : List Value} (ht : 102 < t) (hy : aty t = some (.object C)) (hr : cl[ci]? = some r) (hrC : r.1 = C) (hci : ci < 100) (hcv : ux_cell hh v = some (ci, is0, vs0))
    (hg : ux_stv hh a j (.ref v) = some (t, hh')) (hdg : decode cc pc = .ok (.aastore, 1)) (hloc : ∀ x ∈ locs, n0 ≤ x.base)
    (kk : ∀ (H' : Heap) (locs' : List Loc), ux_R aty D cl ca b n0 sc zs s hh' H' → (∀ x ∈ locs', n0 ≤ x.base) → W p l e R s m args below meth c H' locs' cells slots Q (F0 m (pc + 1) lsR rest)) : W p l e R s m args below meth c H locs cells slots Q (F0 m pc lsR (.ref (ux_ad b n0 v) :: .int j :: .ref (ux_ad b n0 a) :: rest)) := by
  obtain ⟨hj, is, vs, hcell, hlt, rfl⟩ := ux_stv_some hg
  obtain ⟨hy', hat⟩ := (hR.cell hcell).arr (by show 100 ≤ t; omega)
  obtain ⟨r', h1, cellV, g1, g2, g3, -⟩ := (hR.cell hcv).obj hci
  cases hr.symm.trans h1
  have hcls := (hK.1 ci r hr).2
  obtain ⟨kA, comp, k1, k2, k3, -⟩ := (hK.2.1 _ _ hy).2
  rw [← hrC] at k3
  have hcomp : comp = D.1 ci := Option.some.inj (k3.symm.trans hcls.1)
  subst hcomp
  obtain ⟨kC, hkC, -⟩ := hcls.2
  have ht2 : ¬ t < 102 := by omega
  have hsz : ux_sz (t, is, vs) = vs.length := by simp [ux_sz, ht2]
  refine W.aast hx hb hat (fun q h => by cases h) (fun h => by cases h) k1 k2 rfl hkC ⟨hj, by rw [arrV_size, hsz]; exact hlt⟩ g1 (fun q h => by rw [g3] at h; cases h) (by rw [g2]; exact hkC) (by rw [g2]; exact va_assign hcls) rfl rfl hdg fun H' e1 e2 e3 => ?_
  exact kk H' _ (hR.set hcell e2 e3 (ux_at_vals (v := .ref v) (by omega) hy' hlt e1)) (ux_loc hcell hloc)
theorem ux_alenW (hx : p.tables.exec = Jvm.exec) (hb : c.code = cc) (hK : ux_K Tw aty D cl ca s) (hR : ux_R aty D cl ca b n0 sc zs s hh H) {a n : Nat} (hg : ux_len sc hh a = some n) (hdg : decode cc pc = .ok (.arraylength, 1))
    (kk : W p l e R s m args below meth c H locs cells slots Q (F0 m (pc + 1) lsR (.int (Int32.ofNat n) :: rest))) : W p l e R s m args below meth c H locs cells slots Q (F0 m pc lsR (.ref (ux_ad b n0 a) :: rest)) := by
  unfold ux_len at hg
  split at hg
  · cases hg
    obtain ⟨scr, g1, g2, g3, g4, g5⟩ := hR.2.2.2.1
    exact W.alen (n := Int32.ofNat sc.length) hx hb (cell := scr) g1 g2 (by rw [g4]) rfl rfl hdg kk
  · split at hg
    · rename_i t is vs hcell
      split at hg
      · cases hg
      · rename_i h100
        obtain ⟨⟨y, hy⟩, hat⟩ := (hR.cell hcell).arr (by show 100 ≤ t; omega)
        refine W.alen (n := Int32.ofNat n) hx hb hat ((hK.2.1 _ _ hy).1 _ _) ?_ rfl rfl hdg kk
        rw [arrV_size]
        split at hg
        · rename_i h102
          cases hg
          simp [ux_sz, h102]
        · rename_i h102
          cases hg
          simp [ux_sz, h102]
    · cases hg
/-! making -/
theorem ux_newW (hx : p.tables.exec = Jvm.exec) (hb : c.code = cc) (hown : s.vm.findClass own = some m.cls) (hK : ux_K Tw aty D cl ca s) (hC : ux_okC Tw cl ty) (hR : ux_R aty D cl ca b n0 sc zs s hh H) {k ci : Nat} {r : vw_C} {dv : List Value} (hr : cl[ci]? = some r) (hci : ci < 100) (h1 : Cond.classLink own k r.1 ∈ Tw) (h2 : Cond.instantiable r.1 r.2.2 ∈ Tw) (h3 : Cond.initialized r.1 ∈ Tw) (h4 : dv.length = r.2.2) (h5 : ∀ j, j < r.2.2 → dv[j]? = some (defaultValue (ty ci j)))
    (h0 : hh.2.1 = 0) (hdg : decode cc pc = .ok (.new k, 3)) (hcells : cells + 1 ≤ R.cells) (hslots : slots + dv.length ≤ R.slots)
    (kk : ∀ (H' : Heap), ux_R aty D cl ca b n0 sc zs s (ux_new hh (ci, [], dv) dv.length) H' → W p l e R s m args below meth c H' locs (cells + 1) (slots + dv.length) Q (F0 m (pc + 3) lsR (.ref (ux_ad b n0 (hh.1.length + 1)) :: rest))) : W p l e R s m args below meth c H locs cells slots Q (F0 m pc lsR rest) := by
  have hKn := hK.1 ci _ hr
  obtain ⟨hin, hty, hnm⟩ := hC _ _ hr
  have hts : ∀ w ∈ Tw, w.before args s = true := fun w hw => hK.2.2 w hw args
  rw [h4] at hslots kk
  refine W.newcK hx hb hown (hts _ h1) (hts _ h2) (hts _ h3) rfl hdg hcells hslots hKn.2.1 rfl fun H1 kC hkC e1 z1 o1 => ?_
  have hb2 := (u_born (ty ci) hts hin hKn hkC e1 hty).to (V' := fun j => ux_tr b n0 (vp_V dv j)) (fun j hj => by
    have := h5 j hj
    simp [vp_V, this, ux_tr_dflt])
  have hk := kk H1 (hR.push h0 z1 o1 (Or.inl ⟨hci, r, hr, hb2⟩))
  rw [hR.ref h0] at hk
  exact hk
theorem ux_newaW (hx : p.tables.exec = Jvm.exec) (hb : c.code = cc) (hK : ux_K Tw aty D cl ca s) (hR : ux_R aty D cl ca b n0 sc zs s hh H) {atp : ArrayType} {y : FieldType} (hty : newarray.typeOf atp = y) (hp : ∀ C, y ≠ .object C) (hw : Cond.arrayClass y ∈ Tw) {t : Nat} (hy : aty t = some y) (ht : 100 ≤ t) {c0 : ux_C} (hc0 : c0.1 = t) {n : Int32} (hcs : ux_sz c0 = n.toNatClampNeg) (hcv : ∀ j, j < n.toNatClampNeg → ux_val b n0 c0 j = defaultValue y)
    (hn : ¬ n < 0) (hnb : n.toNatClampNeg ≤ 100000) (h0 : hh.2.1 = 0) (hdg : decode cc pc = .ok (.newarray atp, 2)) (hcells : cells + 1 ≤ R.cells) (hslots : slots + n.toNatClampNeg ≤ R.slots)
    (kk : ∀ (H' : Heap), ux_R aty D cl ca b n0 sc zs s (ux_new hh c0 n.toNatClampNeg) H' → W p l e R s m args below meth c H' locs (cells + 1) (slots + n.toNatClampNeg) Q (F0 m (pc + 2) lsR (.ref (ux_ad b n0 (hh.1.length + 1)) :: rest))) : W p l e R s m args below meth c H locs cells slots Q (F0 m pc lsR (.int n :: rest)) := by
  subst hty
  have hcb : n.toNatClampNeg * componentBytes (newarray.typeOf atp) ≤ 536870912 := by
    have : componentBytes (newarray.typeOf atp) ≤ 8 := by cases atp <;> decide
    calc n.toNatClampNeg * componentBytes (newarray.typeOf atp) ≤ 100000 * 8 := Nat.mul_le_mul hnb this
      _ ≤ 536870912 := by decide
  refine va_newaK hx hb (hK.2.2 _ hw args) rfl hdg rfl hn rfl hcb hcells hslots rfl fun H1 cA e1 z1 o1 hAr hNm => ?_
  have hcA : cA = ca t := by
    have h := (hK.2.1 _ _ hy).2
    unfold va_RA at h
    split at h
    · rename_i C hC; exact absurd hC (hp C)
    · exact Option.some.inj (hNm.symm.trans h)
  subst hcA
  have hk := kk H1 (hR.push h0 z1 o1 (Or.inr ⟨by rw [hc0]; exact ht, ⟨_, by rw [hc0]; exact hy⟩, by
    rw [e1, hc0, hcs]
    exact congrArg some (ux_arr_eq fun j hj => (hcv j hj).symm)⟩))
  rw [hR.ref h0] at hk
  exact hk
theorem ux_anewW (hx : p.tables.exec = Jvm.exec) (hb : c.code = cc) (hown : s.vm.findClass own = some m.cls) (hK : ux_K Tw aty D cl ca s) (hR : ux_R aty D cl ca b n0 sc zs s hh H) {k t : Nat} {C : String} (hy : aty t = some (.object C)) (ht : 102 < t) (h1 : Cond.classLink own k C ∈ Tw) (h2 : Cond.arrayOver (.object C) ∈ Tw) {n : Int32}
    (hn : ¬ n < 0) (hnb : n.toNatClampNeg ≤ 100000) (h0 : hh.2.1 = 0) (hdg : decode cc pc = .ok (.anewarray k, 3)) (hcells : cells + 1 ≤ R.cells) (hslots : slots + n.toNatClampNeg ≤ R.slots)
    (kk : ∀ (H' : Heap), ux_R aty D cl ca b n0 sc zs s (ux_new hh (t, [], List.replicate n.toNatClampNeg .null) n.toNatClampNeg) H' → W p l e R s m args below meth c H' locs (cells + 1) (slots + n.toNatClampNeg) Q (F0 m (pc + 3) lsR (.ref (ux_ad b n0 (hh.1.length + 1)) :: rest))) : W p l e R s m args below meth c H locs cells slots Q (F0 m pc lsR (.int n :: rest)) := by
  refine W.anew hx hb hown (hK.2.2 _ h1 args) (hK.2.2 _ h2 args) rfl hdg rfl hn (by omega) hcells hslots fun cA kA comp f1 f2 f3 f4 => ?_
  have hcA : cA = ca t := by
    obtain ⟨kA', comp', -, -, -, h4⟩ := (hK.2.1 _ _ hy).2
    exact Option.some.inj (f1.symm.trans h4)
  subst hcA
  have ht2 : ¬ t < 102 := by omega
  have hk := kk (H.push ({ cls := ca t, slots := Array.replicate n.toNatClampNeg .null, vm := .none } : Cell)) (hR.push h0 (by simp) (fun q hq => by rw [Array.getElem?_push, if_neg (Nat.ne_of_lt hq)]) (Or.inr ⟨by show 100 ≤ t; omega, ⟨_, hy⟩, by
    rw [Array.getElem?_push_size, arrV_new]
    have hs : ux_sz (t, [], List.replicate n.toNatClampNeg Value.null) = n.toNatClampNeg := by simp [ux_sz, ht2]
    show some (arrV (ca t) _ _) = some (arrV (ca t) _ _)
    rw [hs]
    exact congrArg some (ux_arr_eq fun j hj => by simp [ux_val, ht2, hj, ux_tr])⟩))
  rw [hR.ref h0] at hk
  exact hk
end UXM
end
section
/-! One instruction that touches memory. -/
section UXN
variable {p : Program} {l : Launch} {e : Env} {R : Room} {s : State} {m : MethodId} {args : Array Value} {below : List Frame} {meth : Method} {c : Code} {H : Heap} {locs : List Loc} {cells slots : Nat} {Q : State → Prop} {b n0 nL pc : Nat} {ls st st' : List Value}
variable {Tw : List Cond} {aty : Nat → Option FieldType} {D : va_G} {cl : List vw_C} {ca : Nat → ClassId} {sc : List Int32} {zs : List (String × String × String)} {hh hh' : ux_H} {ty : Nat → Nat → FieldType} {P : ux_P} {M : ux_M} {i : Nat}
set_option maxHeartbeats 4000000 in
theorem ux_memW (hF : ux_okF P M Tw cl ty) (hN : ux_okN P M Tw cl ty) (hA : ux_okA P M Tw cl aty) (hLb : ux_okL P M Tw) (hC : ux_okC Tw cl ty)
    (hx : p.tables.exec = Jvm.exec) (hb : c.code = (M i).2.1) (hown : s.vm.findClass (M i).1.cls = some m.cls) (hnme : meth.name = (M i).1.name) (hml : c.maxLocals = nL) (hK : ux_K Tw aty D cl ca s) {ins : Instr} {len len' : Nat} (hd : decode (M i).2.1 pc = .ok (ins, len)) (hl : ux_lok ins len = true)
    (h : ux_mem P sc i ins st hh = some (len', st', hh')) (hR : ux_R aty D cl ca b n0 sc zs s hh H) (hloc : ∀ x ∈ locs, n0 ≤ x.base) {nc0 ns0 : Nat} (hc0 : cells + nc0 = ux_nc hh) (hs0 : slots + ns0 = ux_ns hh) (hcR : ux_nc hh' ≤ nc0 + R.cells) (hsR : ux_ns hh' ≤ ns0 + R.slots) (hfr : 8 ≤ R.frames) (hlo : 200 ≤ R.locals)
    (k : ∀ (H' : Heap) (locs' : List Loc) (cells' slots' : Nat), cells' + nc0 = ux_nc hh' → slots' + ns0 = ux_ns hh' → ux_R aty D cl ca b n0 sc zs s hh' H' → (∀ x ∈ locs', n0 ≤ x.base) → (hh'.2.2.2 = false → hh.2.2.2 = false ∧ H' = H ∧ locs' = locs ∧ cells' = cells ∧ slots' = slots) → ux_V p l e R s m args below meth c H' locs' cells' slots' Q b n0 nL (pc + len') ls st') :
    ux_V p l e R s m args below meth c H locs cells slots Q b n0 nL pc ls st := by
  have same : hh' = hh → ux_V p l e R s m args below meth c H locs cells slots Q b n0 nL (pc + len') ls st' := by
    rintro rfl
    exact k H locs cells slots hc0 hs0 hR hloc (fun h => ⟨h, rfl, rfl, rfl, rfl⟩)
  have put : ∀ (a : Nat) (cx : ux_C), hh' = ux_set hh a cx → ∀ (H' : Heap) (locs' : List Loc), ux_R aty D cl ca b n0 sc zs s hh' H' → (∀ x ∈ locs', n0 ≤ x.base) → ux_V p l e R s m args below meth c H' locs' cells slots Q b n0 nL (pc + len') ls st' := by
    rintro a cx rfl H' locs' h1 h2
    exact k H' locs' cells slots (by rw [hc0]; simp [ux_nc, ux_set]) (by rw [hs0]; rfl) h1 h2 (fun h => by cases h)
  have mk : ∀ (cx : ux_C) (n : Nat), hh' = ux_new hh cx n → ∀ H' : Heap, ux_R aty D cl ca b n0 sc zs s hh' H' → ux_V p l e R s m args below meth c H' locs (cells + 1) (slots + n) Q b n0 nL (pc + len') ls st' := by
    rintro cx n rfl H' h1
    refine k H' locs (cells + 1) (slots + n) ?_ ?_ h1 hloc (fun h => by cases h)
    · simp [ux_nc, ux_new] at hc0 ⊢; omega
    · simp [ux_ns, ux_new] at hs0 ⊢; omega
  have room : ∀ (cx : ux_C) (n : Nat), hh' = ux_new hh cx n → cells + 1 ≤ R.cells ∧ slots + n ≤ R.slots := by
    rintro cx n rfl
    simp [ux_nc, ux_new] at hc0 hcR
    simp [ux_ns, ux_new] at hs0 hsR
    omega
  unfold ux_mem at h
  split at h
  case h_1 => -- getfield
    obtain rfl : len = 3 := by simpa [ux_lok] using hl
    split at h
    · rename_i ci j q a r hf
      cases hg : ux_get hh a ci j with
      | none => rw [hg] at h; cases h
      | some v =>
        rw [hg] at h; cases h
        obtain ⟨rr, q1, q2, q3, q4, -, -, -, q5⟩ := hF _ _ _ _ _ hf
        intro lsR hL
        exact ux_getW hx hb hown hK hC hR q1 q2 q3 q4 q5 hg hd (same rfl lsR hL)
    · cases h
  case h_2 => -- putfield
    obtain rfl : len = 3 := by simpa [ux_lok] using hl
    split at h
    · rename_i ci j q v a r hf
      split at h
      · rename_i hv
        cases hg : ux_put hh a ci j v with
        | none => rw [hg] at h; cases h
        | some h2 =>
          rw [hg] at h; cases h
          obtain ⟨rr, q1, q2, q3, q4, q5, q6, q7, q8⟩ := hF _ _ _ _ _ hf
          intro lsR hL
          have hp : ∃ cx, hh' = ux_set hh a cx := by
            unfold ux_put at hg
            split at hg
            · split at hg
              · cases hg; exact ⟨_, rfl⟩
              · cases hg
            · cases hg
          obtain ⟨cx, hcx⟩ := hp
          exact ux_putW hx hb hown hnme hK hC hR q1 q2 q3 q4 q5 q6 q7 q8 hv hg hd hloc (fun H' locs' g1 g2 => put a cx hcx H' locs' g1 g2 lsR hL)
      · cases h
    · cases h
  case h_3 => -- iaload
    obtain rfl : len = 1 := by simpa [ux_lok] using hl
    split at h
    · rename_i j a r
      cases hg : ux_ld 100 sc hh a j with
      | none => rw [hg] at h; cases h
      | some v =>
        rw [hg] at h; cases h
        intro lsR hL
        exact ux_ialdW hx hb hK hA.1.1 hR hg hd (same rfl lsR hL)
    · cases h
  case h_4 => -- baload
    obtain rfl : len = 1 := by simpa [ux_lok] using hl
    split at h
    · rename_i j a r
      cases hg : ux_ld 101 sc hh a j with
      | none => rw [hg] at h; cases h
      | some v =>
        rw [hg] at h; cases h
        intro lsR hL
        exact ux_zaldW hx hb hK hA.1.2.1 hR hg hd (same rfl lsR hL)
    · cases h
  case h_5 => -- laload
    obtain rfl : len = 1 := by simpa [ux_lok] using hl
    split at h
    · split at h
      · rename_i hg
        cases h
        intro lsR hL
        exact ux_laldW hx hb hK hA.1.2.2 hR hg hd (same rfl lsR hL)
      · cases h
    · cases h
  case h_6 => -- aaload
    obtain rfl : len = 1 := by simpa [ux_lok] using hl
    split at h
    · split at h
      · rename_i hg
        split at h
        · rename_i ht
          cases h
          intro lsR hL
          exact ux_aaldW hx hb hK (fun t y h1 h2 => by obtain ⟨C, -, h3, -⟩ := hA.2.2.1 t y h1 h2; exact ⟨C, h3⟩) hR ht hg hd (same rfl lsR hL)
        · cases h
      · cases h
    · cases h
  case h_7 => -- iastore
    obtain rfl : len = 1 := by simpa [ux_lok] using hl
    split at h
    · rename_i x j a r
      cases hg : ux_st 100 hh a j x with
      | none => rw [hg] at h; cases h
      | some h2 =>
        rw [hg] at h; cases h
        obtain ⟨-, is, vs, -, -, hcx⟩ := ux_st_some hg
        intro lsR hL
        exact ux_iastW hx hb hK hA.1.1 hR hg hd hloc (fun H' locs' g1 g2 => put a _ hcx H' locs' g1 g2 lsR hL)
    · cases h
  case h_8 => -- bastore
    obtain rfl : len = 1 := by simpa [ux_lok] using hl
    split at h
    · rename_i x j a r
      split at h
      · rename_i h01
        cases hg : ux_st 101 hh a j x with
        | none => rw [hg] at h; cases h
        | some h2 =>
          rw [hg] at h; cases h
          obtain ⟨-, is, vs, -, -, hcx⟩ := ux_st_some hg
          intro lsR hL
          exact ux_zastW hx hb hK hA.1.2.1 hR h01 hg hd hloc (fun H' locs' g1 g2 => put a _ hcx H' locs' g1 g2 lsR hL)
      · cases h
    · cases h
  case h_9 => -- lastore
    obtain rfl : len = 1 := by simpa [ux_lok] using hl
    split at h
    · split at h
      · rename_i hg
        cases h
        obtain ⟨-, is, vs, -, -, hcx⟩ := ux_stv_some hg
        intro lsR hL
        exact ux_lastW hx hb hK hA.1.2.2 hR hg hd hloc (fun H' locs' g1 g2 => put _ _ hcx H' locs' g1 g2 lsR hL)
      · cases h
    · cases h
  case h_10 => -- aastore
    obtain rfl : len = 1 := by simpa [ux_lok] using hl
    split at h
    · split at h
      · rename_i hg hcv
        split at h
        · rename_i ht
          obtain ⟨ht, hci, hco⟩ := ht
          cases h
          obtain ⟨hj, is, vs, hcell, -, hcx⟩ := ux_stv_some hg
          obtain ⟨⟨y, hy⟩, -⟩ := (hR.cell hcell).arr (by show 100 ≤ _; omega)
          obtain ⟨C, rr, rfl, q2, q3⟩ := hA.2.2.1 _ y ht hy
          rw [hco] at q2
          intro lsR hL
          exact ux_aastW hx hb hK hR ht hy q2 q3 hci hcv hg hd hloc (fun H' locs' g1 g2 => put _ _ hcx H' locs' g1 g2 lsR hL)
        · cases h
      · cases h
    · cases h
  case h_11 => -- arraylength
    obtain rfl : len = 1 := by simpa [ux_lok] using hl
    split at h
    · rename_i a r
      cases hg : ux_len sc hh a with
      | none => rw [hg] at h; cases h
      | some n =>
        rw [hg] at h; cases h
        intro lsR hL
        exact ux_alenW hx hb hK hR hg hd (same rfl lsR hL)
    · cases h
  case h_12 => -- new
    obtain rfl : len = 3 := by simpa [ux_lok] using hl
    split at h
    · rename_i ci hf
      split at h
      · rename_i hci
        cases h
        obtain ⟨rr, q1, q2, q3, q4, q5, q6⟩ := hN _ _ _ hf hci.1
        intro lsR hL
        exact ux_newW hx hb hown hK hC hR q1 hci.1 q2 q3 q4 q5 q6 hci.2 hd (room _ _ rfl).1 (room _ _ rfl).2 (fun H' g1 => mk _ _ rfl H' g1 lsR hL)
      · cases h
    · cases h
  case h_13 => -- newarray
    obtain rfl : len = 2 := by simpa [ux_lok] using hl
    split at h
    · split at h
      · rename_i hn
        cases h
        intro lsR hL
        exact ux_newaW (atp := .int) (y := .int) (t := 100) hx hb hK hR rfl (fun C q => by cases q) hA.2.1.1 hA.1.1 (by decide) rfl (by simp [ux_sz]) (fun j hj => by simp [ux_val, hj, newarray.typeOf, defaultValue]) hn.1 hn.2.1 hn.2.2 hd (room _ _ rfl).1 (room _ _ rfl).2 (fun H' g1 => mk _ _ rfl H' g1 lsR hL)
      · cases h
    · split at h
      · rename_i hn
        cases h
        intro lsR hL
        exact ux_newaW (atp := .boolean) (y := .boolean) (t := 101) hx hb hK hR rfl (fun C q => by cases q) hA.2.1.2.1 hA.1.2.1 (by decide) rfl (by simp [ux_sz]) (fun j hj => by simp [ux_val, hj, newarray.typeOf, defaultValue]) hn.1 hn.2.1 hn.2.2 hd (room _ _ rfl).1 (room _ _ rfl).2 (fun H' g1 => mk _ _ rfl H' g1 lsR hL)
      · cases h
    · split at h
      · rename_i hn
        cases h
        intro lsR hL
        exact ux_newaW (atp := .long) (y := .long) (t := 102) hx hb hK hR rfl (fun C q => by cases q) hA.2.1.2.2 hA.1.2.2 (by decide) rfl (by simp [ux_sz]) (fun j hj => by simp [ux_val, hj, newarray.typeOf, defaultValue, ux_tr]) hn.1 hn.2.1 hn.2.2 hd (room _ _ rfl).1 (room _ _ rfl).2 (fun H' g1 => mk _ _ rfl H' g1 lsR hL)
      · cases h
    · cases h
  case h_14 => -- anewarray
    obtain rfl : len = 3 := by simpa [ux_lok] using hl
    split at h
    · rename_i t n r hf
      split at h
      · rename_i hn
        cases h
        obtain ⟨C, q1, q2, q3⟩ := hA.2.2.2 _ _ _ hf hn.1 hn.2.1
        intro lsR hL
        exact ux_anewW hx hb hown hK hR q1 hn.1 q2 q3 hn.2.2.1 hn.2.2.2.1 hn.2.2.2.2 hd (room _ _ rfl).1 (room _ _ rfl).2 (fun H' g1 => mk _ _ rfl H' g1 lsR hL)
      · cases h
    · cases h
  case h_15 => -- Object.<init>
    obtain rfl : len = 3 := by simpa [ux_lok] using hl
    split at h
    · rename_i j n a r hf
      split at h
      · rename_i hw
        cases h
        obtain ⟨q1, q2, q3⟩ := (hLb _ _ _ _ _ hf).1 rfl
        intro lsR hL
        refine W.objInit hx hb hown (hK.2.2 _ q1 args) (hK.2.2 _ q2 args) (hK.2.2 _ q3 args) rfl (by rw [hml]; exact hL.2.2.1) rfl hd (by omega) ?_ (same rfl lsR hL)
        have e1 : ((List.map (ux_tr b n0) st').map fun v => v.category).sum = (st'.map fun v => v.category).sum := by
          rw [List.map_map]; congr 1; exact List.map_congr_left fun v _ => ux_cat b n0 v
        show 2 * 0 + ((List.map (ux_tr b n0) st').map fun v => v.category).sum + 12 ≤ R.locals
        omega
      · cases h
    · cases h
  case h_16 => -- Math.max, Math.min
    obtain rfl : len = 3 := by simpa [ux_lok] using hl
    have e1 : ∀ r : List Value, ((List.map (ux_tr b n0) r).map fun v => v.category).sum = (r.map fun v => v.category).sum := by
      intro r
      rw [List.map_map]; congr 1; exact List.map_congr_left fun v _ => ux_cat b n0 v
    have hcc : cells ≤ R.cells := by
      have : hh' = hh := by
        split at h
        · split at h <;> cases h; rfl
        · split at h <;> cases h; rfl
        · cases h
      subst this; omega
    have hss : slots ≤ R.slots := by
      have : hh' = hh := by
        split at h
        · split at h <;> cases h; rfl
        · split at h <;> cases h; rfl
        · cases h
      subst this; omega
    split at h
    · rename_i j n y x r hf
      split at h
      · rename_i hw
        cases h
        obtain ⟨q1, q2, q3, q4⟩ := (hLb _ _ _ _ _ hf).2.1 rfl
        intro lsR hL
        exact va_mmax hx hb (by rw [hml]; exact hL.2.2.1.symm) hown (hK.2.2 _ q1 args) (hK.2.2 _ q2 args) (hK.2.2 _ q3 args) (hK.2.2 _ q4 args) (by omega) (by rw [e1]; omega) hcc hss hd (same rfl lsR hL)
      · cases h
    · rename_i j n y x r hf
      split at h
      · rename_i hw
        cases h
        obtain ⟨q1, q2, q3, q4⟩ := (hLb _ _ _ _ _ hf).2.2 rfl
        intro lsR hL
        exact va_mmin hx hb (by rw [hml]; exact hL.2.2.1.symm) hown (hK.2.2 _ q1 args) (hK.2.2 _ q2 args) (hK.2.2 _ q3 args) (hK.2.2 _ q4 args) (by omega) (by rw [e1]; omega) hcc hss hd (same rfl lsR hL)
      · cases h
    · cases h
  case h_17 => cases h
end UXN
end
section
/-! Calls, ends, exceptions. -/
theorem ux_mono {p : Program} {l : Launch} {e : Env} {R : Room} {s : State} {m : MethodId} {args : Array Value} {below : List Frame} {meth : Method} {c : Code} {H : Heap} {locs : List Loc} {cells slots : Nat} {Q Q' : State → Prop} {g : JFrame} (h : W p l e R s m args below meth c H locs cells slots Q g) (k : ∀ t, Q t → Q' t) : W p l e R s m args below meth c H locs cells slots Q' g := by
  intro T hT X
  obtain ⟨t, a, b⟩ := h T hT X
  exact ⟨t, a, k t b⟩
def ux_okW (Tw : List Cond) : Prop := ∀ w ∈ Tw, ∀ (s U : State) (a a' : Array Value), s.WarmedH U.vm → w.before a s = true → w.before a' U = true
theorem ux_K.moved {Tw : List Cond} {aty : Nat → Option FieldType} {D : va_G} {cl : List vw_C} {ca : Nat → ClassId} {s U : State} (hW : ux_okW Tw) (h : ux_K Tw aty D cl ca s) (hw : s.WarmedH U.vm) : ux_K Tw aty D cl ca U :=
  ⟨fun ci q hq => u_Kn_moved hw.alike (h.1 ci q hq), fun t y hy => ⟨arrOfT_moved hw.alike (h.2.1 t y hy).1, (h.2.1 t y hy).2.moved hw.alike⟩, fun w hwm a => hW w hwm s U a a hw (h.2.2 w hwm a)⟩
theorem ux_R.moved {aty : Nat → Option FieldType} {D : va_G} {cl : List vw_C} {ca : Nat → ClassId} {b n0 : Nat} {sc : List Int32} {zs : List (String × String × String)} {s U : State} {hh : ux_H} {H : Heap} (h : ux_R aty D cl ca b n0 sc zs s hh H) (hvm : s.vm.Alike U.vm) : ux_R aty D cl ca b n0 sc zs U hh H :=
  ⟨h.1, h.2.1, h.2.2.1, h.2.2.2.1.moved hvm, fun z hz => (h.2.2.2.2 z hz).moved hvm⟩
theorem ux_R.like {aty : Nat → Option FieldType} {D : va_G} {cl : List vw_C} {ca : Nat → ClassId} {b n0 : Nat} {sc : List Int32} {zs : List (String × String × String)} {s : State} {hh hh2 : ux_H} {H : Heap} (h : ux_R aty D cl ca b n0 sc zs s hh H) (h1 : hh2.1 = hh.1) (h2 : hh2.2.1 = hh.2.1) : ux_R aty D cl ca b n0 sc zs s hh2 H :=
  ⟨h.1, by rw [h.2.1]; simp [ux_nc, h1, h2], by rw [h1]; exact h.2.2.1, h.2.2.2⟩
def ux_out (b n0 : Nat) (ex : Nat → String × List String) (s : State) (o : ux_O) (oc : Outcome) (H : Heap) : Prop := match o with
  | .inr v => oc = .returned (v.map (ux_tr b n0))
  | .inl k => k < 3 ∧ ∃ (a : Addr) (cell : Cell), oc = .threw a ∧ H[a]? = some cell ∧ cell.vm = .none ∧ s.vm.findClass (ex k).1 = some cell.cls ∧ s.vm.assignable cell.cls cell.cls = true
/-- the end of a frame, as the evaluator says it -/
def ux_Q (aty : Nat → Option FieldType) (D : va_G) (cl : List vw_C) (ca : Nat → ClassId) (b n0 : Nat) (sc : List Int32) (zs : List (String × String × String)) (ex : Nat → String × List String) (s : State) (below : List Frame) (nc0 ns0 : Nat) (o : ux_O) (hh : ux_H) : State → Prop := fun t =>
  ∃ (oc : Outcome) (L : List Loc) (C S : Nat), t.status = .running ∧ Ended t below oc ∧ s.WarmedH t.vm ∧ s.sameButNew ({ t with vm := s.vm } : State) L C S ∧ C + nc0 = ux_nc hh ∧ S + ns0 = ux_ns hh ∧ (∀ x ∈ L, n0 ≤ x.base) ∧ (hh.2.2.2 = false → L = [] ∧ t.heap = s.heap ∧ C = 0 ∧ S = 0) ∧ ux_R aty D cl ca b n0 sc zs s hh t.heap ∧ ux_out b n0 ex s o oc t.heap
def ux_okR (P : ux_P) (M : ux_M) : Prop := ∀ i, ((P.2.2.2.2.2.2 i).2.1 = 0 → (M i).2.2.1 = none) ∧ ((P.2.2.2.2.2.2 i).2.1 = 1 → (M i).2.2.1 = some .int) ∧ ((P.2.2.2.2.2.2 i).2.1 = 2 → (M i).2.2.1 = some .boolean) ∧ ((P.2.2.2.2.2.2 i).2.1 = 3 → ∃ C, (M i).2.2.1 = some (.object C))
section UXE
variable {p : Program} {l : Launch} {e : Env} {R : Room} {s : State} {m : MethodId} {args : Array Value} {below : List Frame} {meth : Method} {c : Code} {H : Heap} {locs : List Loc} {cells slots : Nat} {Q : State → Prop} {b n0 nL pc : Nat} {ls st : List Value}
variable {Tw : List Cond} {aty : Nat → Option FieldType} {D : va_G} {cl : List vw_C} {ca : Nat → ClassId} {sc : List Int32} {zs : List (String × String × String)} {ex : Nat → String × List String} {hh hh' : ux_H} {ty : Nat → Nat → FieldType} {P : ux_P} {M : ux_M} {i : Nat}
set_option maxHeartbeats 4000000 in
theorem ux_retW (hok : ux_okR P M) (hx : p.tables.exec = Jvm.exec) (hb : c.code = (M i).2.1) (hr : meth.sig.returnType = (M i).2.2.1) (hlk : meth.locks = false) {ins : Instr} {len : Nat} (hd : decode (M i).2.1 pc = .ok (ins, len)) (hl : ux_lok ins len = true) {v : Option Value} (h : ux_ret (P.2.2.2.2.2.2 i).2.1 ins st = some v)
    (hR : ux_R aty D cl ca b n0 sc zs s hh H) (hloc : ∀ x ∈ locs, n0 ≤ x.base) {nc0 ns0 : Nat} (hc0 : cells + nc0 = ux_nc hh) (hs0 : slots + ns0 = ux_ns hh) (hw : hh.2.2.2 = false → locs = [] ∧ H = s.heap ∧ cells = 0 ∧ slots = 0) :
    ux_V p l e R s m args below meth c H locs cells slots (ux_Q aty D cl ca b n0 sc zs ex s below nc0 ns0 (.inr v) hh) b n0 nL pc ls st := by
  have key : ∀ t : State, MQ below (fun _ _ o t => o = .returned (v.map (ux_tr b n0)) ∧ t.heap = H) args s cells slots (fun q => ∃ x ∈ locs, x.base = q) t → ux_Q aty D cl ca b n0 sc zs ex s below nc0 ns0 (.inr v) hh t := by
    rintro t ⟨o, h1, h2, ⟨rfl, h4⟩, L, ⟨-, h5, h6⟩, h7⟩
    refine ⟨_, L, cells, slots, h1, h2, h5, h6, hc0, hs0, fun x hx => ?_, fun hf => ?_, by rw [h4]; exact hR, rfl⟩
    · obtain ⟨y, hy, hyx⟩ := h7 x hx
      rw [← hyx]; exact hloc y hy
    · obtain ⟨g1, g2, g3, g4⟩ := hw hf
      refine ⟨List.eq_nil_iff_forall_not_mem.mpr fun x hx => ?_, by rw [h4, g2], g3, g4⟩
      obtain ⟨y, hy, -⟩ := h7 x hx
      rw [g1] at hy
      cases hy
  have hf : ∀ q ∈ locs, ∃ x ∈ locs, x.base = q.base := fun q hq => ⟨q, hq, rfl⟩
  unfold ux_ret at h
  split at h
  · obtain rfl : len = 1 := by simpa [ux_lok] using hl
    split at h
    · rename_i x
      split at h
      · rename_i hk
        cases h
        intro lsR hL
        rcases hk with hk | ⟨hk, hx01⟩
        · exact ux_mono (W.zret (ty := .int) hx hb (hr.trans ((hok i).2.1 hk)) rfl (fun t ht _ => ⟨rfl, ht⟩) hf hd hlk) key
        · exact ux_mono (W.zret (ty := .boolean) hx hb (hr.trans ((hok i).2.2.1 hk)) (by rcases hx01 with rfl | rfl <;> rfl) (fun t ht _ => ⟨rfl, ht⟩) hf hd hlk) key
      · cases h
    · cases h
  · obtain rfl : len = 1 := by simpa [ux_lok] using hl
    split at h
    · split at h
      · rename_i hk
        cases h
        intro lsR hL
        obtain ⟨C, hC⟩ := (hok i).2.2.2 hk
        exact ux_mono (W.aret (rt := .object C) hx hb (hr.trans hC) (Or.inl ⟨C, rfl⟩) (Or.inr ⟨_, rfl⟩) (fun t ht _ => ⟨rfl, ht⟩) hf hd hlk) key
      · cases h
    · cases h
  · obtain rfl : len = 1 := by simpa [ux_lok] using hl
    split at h
    · split at h
      · rename_i hk
        cases h
        intro lsR hL
        exact ux_mono (W.vret hx hb (hr.trans ((hok i).1 hk)) (fun t ht _ => ⟨rfl, ht⟩) hf hd hlk) key
      · cases h
    · cases h
  · cases h
end UXE
/-! 'throw new X()' in a frame that has written nothing -/
theorem ux_same0 {s s' : State} {C S : Nat} (h : s.sameButNew s' [] C S) : ∀ q : Nat, q < s.heap.size → s'.heap[q]? = s.heap[q]? := by
  intro q hq
  obtain ⟨-, -, -, -, -, h6⟩ := h
  have hc : s.heap[q]? = some s.heap[q] := Array.getElem?_eq_getElem hq
  obtain ⟨c', h1, h2, h3, h4⟩ := h6 q _ hc
  rw [h1, hc]
  have hs : c'.slots = (s.heap[q]).slots := by
    apply Array.ext_getElem?
    intro i
    exact h4 i (by simp)
  rw [h2, hs]
theorem ux_isref {args : Array Value} {s : State} {C n d : String} {A : Nat → Prop} (h : va_Zq C n d A s s.heap) : (Cond.isRef (.static C n d)).before args s = true := by
  rcases h with ⟨cf, kf, fi, f, a, cell, h1, h2, h3, h4, h5, h6, h7, h8⟩ | ⟨t, cf, kf, fi, f, a, cell, h1, h2, h3, h4, h5, h6, h7, h8⟩
  · simp [Cond.before, Cond.holds, Cond.value, Term.eval, State.fieldNamed?, h1, h2, h4, h5, h6, h7]
  · simp [Cond.before, Cond.holds, Cond.value, Term.eval, State.fieldNamed?, h1, h2, h4, h5, h6, h7]
def ux_okT (P : ux_P) (M : ux_M) (Tw : List Cond) (zs : List (String × String × String)) (ex : Nat → String × List String) : Prop := ∀ (i k k2 x : Nat), P.2.2.2.1 i k = some (1000 + x) → P.2.2.1 i k2 = some (9, 1000 + x, 0) →
  x < 3 ∧ Cond.classLink (M i).1.cls k (ex x).1 ∈ Tw ∧ Cond.initialized (ex x).1 ∈ Tw ∧ Bundle.fit (ex x).1 = true ∧ (∀ n ∈ (ex x).2, Bundle.fit n = true) ∧ (ex x).2.length ≤ 2 ∧
  (∀ w ∈ Bundle.ownAtoms0 (M i).1.cls k2 (ex x).1 (ex x).2, w ∈ Tw ∨ ∃ z ∈ zs, w = .isRef (.static z.1 z.2.1 z.2.2))
def ux_okH (P : ux_P) (M : ux_M) : Prop := ∀ i, (P.2.2.2.2.2.2 i).2.2 = [] → (M i).2.2.2 = []
section UXT
variable {p : Program} {l : Launch} {e : Env} {R : Room} {s : State} {m : MethodId} {args : Array Value} {below : List Frame} {meth : Method} {c : Code} {H : Heap} {locs : List Loc} {cells slots : Nat} {Q : State → Prop} {b n0 nL pc : Nat} {ls st : List Value}
variable {Tw : List Cond} {aty : Nat → Option FieldType} {D : va_G} {cl : List vw_C} {ca : Nat → ClassId} {sc : List Int32} {zs : List (String × String × String)} {ex : Nat → String × List String} {hh hh' : ux_H} {ty : Nat → Nat → FieldType} {P : ux_P} {M : ux_M} {i : Nat}
set_option maxHeartbeats 4000000 in
theorem ux_thrW (hI : ux_okI P M) (hT : ux_okT P M Tw zs ex) (hH : ux_okH P M) (hx : p.tables.exec = Jvm.exec) (hb : c.code = (M i).2.1) (hown : s.vm.findClass (M i).1.cls = some m.cls) (hml : c.maxLocals = nL) (htab : c.exceptionTable.toList = tableOf (M i).2.2.2) (hlk : meth.locks = false) (htr : l.stackTraces = false) (hK : ux_K Tw aty D cl ca s) {ins : Instr} {len : Nat} (hd : decode (M i).2.1 pc = .ok (ins, len)) (hl : ux_lok ins len = true) {k : Nat} (h : ux_thr P i pc ins st hh = some k)
    (hR : ux_R aty D cl ca b n0 sc zs s hh H) {nc0 ns0 : Nat} (hc0 : cells + nc0 = ux_nc hh) (hs0 : slots + ns0 = ux_ns hh) (hcR : ux_nc hh + 1 ≤ nc0 + R.cells) (hsR : ux_ns hh + 6 ≤ ns0 + R.slots) (hfr : 8 ≤ R.frames) (hlo : 200 ≤ R.locals) (hw : hh.2.2.2 = false → locs = [] ∧ H = s.heap ∧ cells = 0 ∧ slots = 0) :
    ux_V p l e R s m args below meth c H locs cells slots (ux_Q aty D cl ca b n0 sc zs ex s below nc0 ns0 (.inl k) (hh.1, hh.2.1 + 1, hh.2.2.1 + 6, true)) b n0 nL pc ls st := by
  unfold ux_thr at h
  split at h
  · rename_i k1
    obtain rfl : len = 3 := by simpa [ux_lok] using hl
    split at h
    · rename_i q k2 hq h3 h4 h7
      split at h
      · rename_i hcond
        obtain ⟨hq1, hq2, rfl, hq4, hq5⟩ := hcond
        have hkq := Option.some.inj h
        obtain ⟨x, rfl⟩ : ∃ x, q = 1000 + x := ⟨q - 1000, by omega⟩
        obtain rfl : x = k := by omega
        obtain ⟨w0, w1, w2, w3, w4, w5, w6⟩ := hT _ _ _ _ hq hq2
        obtain ⟨rfl, rfl, rfl, rfl⟩ := hw hq4
        have hts : ∀ w ∈ Tw, w.before args s = true := fun w hw => hK.2.2 w hw args
        have hat : ∀ w ∈ Bundle.ownAtoms0 (M i).1.cls k2 (ex x).1 (ex x).2, w.before args s = true := by
          intro w hw
          rcases w6 w hw with h1 | ⟨z, hz, rfl⟩
          · exact hts w h1
          · exact ux_isref (hR.2.2.2.2 z hz)
        have hins : (Cond.instantiable (ex x).1 6).before args s = true := hat _ (by simp [Bundle.ownAtoms0])
        obtain ⟨cX, kX0, hfX, -⟩ := Cond.instantiable_spec hins
        have hnt : c.exceptionTable.toList = [] := by rw [htab, hH i hq5]; rfl
        intro lsR hL
        refine W.newcK hx hb hown (hts _ w1) hins (hts _ w2) rfl hd (by simp [ux_nc] at hc0 hcR; omega) (by simp [ux_ns] at hs0 hsR; omega) hfX rfl fun H1 kX hkX e1 z1 o1 => ?_
        refine lv_dup hx hb (hI _ _ _ _ h3).1 rfl ?_
        intro T hT2 X
        have hcell : T.heap[s.heap.size]? = some (freshCell cX kX) := by rw [hT2]; exact e1
        obtain ⟨U, g1, g2, g3, g4, g5, ce, g6, g7⟩ := X.ctorThrow0 hx (by have hq9 := X.admits.2.2.2.2.1; rw [hq9]; exact htr) (own := (M i).1.cls) (cls := (ex x).1) (names := (ex x).2) (ic := k2) hown w3 w4 hat (fun y hy => by cases hy) hfX hkX hcell (Nat.le_refl _)
          (g := F0 m (pc + 3 + 1) lsR [.ref s.heap.size, .ref s.heap.size]) rfl (by rw [hml]; exact hL.2.2.1) rfl rfl (rest := []) rfl (by rw [hb]; exact (hI _ _ _ _ h4).1) (by rw [hb]; exact (hI _ _ _ _ h7).1) (fun y hy => by rw [hnt] at hy; cases hy) (by omega) (by show 2 * 0 + 1 + (13 * ((ex x).2.length + 1) + 41) ≤ R.locals; omega) hlk
        refine ⟨U, g1, .threw s.heap.size, [], _, _, g2, g3, g4, g5, ?_, ?_, (fun y hy => by cases hy), (fun hf => by cases hf), ?_, ⟨w0, _, ce, rfl, g6, g7.vm, g7.cls, g7.self⟩⟩
        · simp [ux_nc] at hc0 ⊢; omega
        · simp [ux_ns] at hs0 ⊢; omega
        · have hsame : ∀ q : Nat, q < s.heap.size → U.heap[q]? = s.heap[q]? := fun q hq => ux_same0 g5 q hq
          have hz2 : U.heap.size = s.heap.size + 1 := by
            have h1 : U.heap.size ≤ s.heap.size + (0 + 1) := g5.2.2.1
            have h2 := (Array.getElem?_eq_some_iff.mp g6).1
            omega
          obtain ⟨r1, r2, r3, r4, r5⟩ := hR
          refine ⟨r1, ?_, fun j d hj => ?_, r4.kept (hsame b (by omega)), fun z hz => (r5 z hz).kept fun q hq _ => hsame q hq⟩
          · rw [hz2, r2]; simp [ux_nc]; omega
          · have hlt : j < hh.1.length := (List.getElem?_eq_some_iff.mp hj).1
            exact (r3 j d hj).kept (hsame _ (by rw [r2]; simp [ux_nc]; omega))
      · cases h
    · cases h
  · cases h
end UXT
end
section
/-! A handler whose class may not have been resolved yet. -/
theorem ux_go_cold {E : CtlPost} {e : Env} {d : Bool} {acts : List Action} {s : State} {f : JFrame} {a : Addr} {Q : Handler → Pre} {x : ExceptionTableEntry} {t : List ExceptionTableEntry} {c : ClassId} {vm' : Vm} {cell : Cell} (hx : covers x f.pc = true) (h0 : x.catchType ≠ 0)
    (hg : (Jvm.resolveClass f.method.cls x.catchType).Gives e.toSetting s.vm (.ok c) vm') (hsz : vm'.classes.size ≤ s.vm.classes.size) (hcell : s.heap[a]? = some cell) (hobj : ∀ k, cell.vm ≠ .statics k) (hk : ∃ k, vm'.classes[cell.cls]? = some k) (hc : ∃ k, vm'.classes[c]? = some k) :
    Sem.wp (findHandler.go f a (x :: t)) Q E e d acts s ↔ if vm'.assignable cell.cls c = true then Q (.found x.handlerPc) d acts (s.setVm vm') else Sem.wp (findHandler.go f a t) Q E e d acts (s.setVm vm') := by
  simp only [covers] at hx
  obtain ⟨ha, ht⟩ := hg.op (op := VmOp.resolveClass f.method.cls x.catchType) rfl
  cases hfit : vm'.assignable cell.cls c <;>
    simp [findHandler.go, hx, h0, ha, ht, hsz, hcell, hobj, hk, hc, hfit, VmOp.dirties, VmOp.acts]
theorem ux_catchStep {e : Env} {s s' : State} {a : Addr} {f : JFrame} {r : List Frame} {pc : Nat} (hfind : ∀ (Q : Handler → Pre) (E : CtlPost) (d : Bool) (acts : List Action), Sem.wp (findHandler f a) Q E e d acts s ↔ Q (.found pc) d acts s') :
    (stepThrowing e s a (.java f :: r)).Is (s'.setFrames (.java { f with pc := pc, stack := [.ref a] } :: r)) [] := by
  simp only [stepThrowing, searchFrame, vmDo]
  generalize hr : Sem.go _ e false [] s = res
  obtain ⟨as, rfl, ha⟩ := Sem.eq_ok_of hr (a := Handler.found pc) (s' := s') (acts' := []) (by simp [hfind _ _ _ _])
  exact ⟨rfl, ha⟩
/-- the handlers as the evaluator has them: kinds in place of the classes' numbers -/
def ux_hs (ex : Nat → String × List String) (Tw : List Cond) (own : String) (hs hsR : List (Nat × Nat × Nat × Nat)) : Prop := hs.length = hsR.length ∧ ∀ (n : Nat) (q r : Nat × Nat × Nat × Nat), hs[n]? = some q → hsR[n]? = some r → q.1 = r.1 ∧ q.2.1 = r.2.1 ∧ q.2.2.1 = r.2.2.1 ∧ r.2.2.2 ≠ 0 ∧ q.2.2.2 < 3 ∧ Cond.classLink own r.2.2.2 (ex q.2.2.2).1 ∈ Tw
theorem ux_find {e : Env} {s : State} {own : String} {Tw : List Cond} {ex : Nat → String × List String} {f : JFrame} {a : Addr} {cell : Cell} {k tp : Nat} {args : Array Value} (hpl : e.platform.magicAccessors = ({} : Platform).magicAccessors) (hown : s.vm.findClass own = some f.method.cls) (hts : ∀ w ∈ Tw, w.before args s = true)
    (hex : ∀ j, j < 3 → j ≠ k → va_Nc (ex k).1 (ex j).1 s) (hself : s.vm.assignable cell.cls cell.cls = true) (hobj : cell.vm = .none) (hcls : s.vm.findClass (ex k).1 = some cell.cls) : ∀ (hsR hs : List (Nat × Nat × Nat × Nat)), ux_hs ex Tw own hs hsR → ux_hnd hs f.pc k = some tp → ∀ S : State, s.WarmedH S.vm → S.heap[a]? = some cell →
    ∃ vm', s.WarmedH vm' ∧ ∀ (Q : Handler → Pre) (E : CtlPost) (d : Bool) (acts : List Action), Sem.wp (findHandler.go f a (tableOf hsR)) Q E e d acts S ↔ Q (.found tp) d acts (S.setVm vm') := by
  intro hsR
  induction hsR with
  | nil =>
    intro hs hrel hnd
    have : hs = [] := List.eq_nil_of_length_eq_zero hrel.1
    subst this
    cases hnd
  | cons r rs ih =>
    intro hs hrel hnd S hW hS
    cases hs with
    | nil => exact absurd hrel.1 (by simp)
    | cons q qs =>
      have hrel' : ux_hs ex Tw own qs rs := ⟨by simpa using hrel.1, fun n q' r' h1 h2 => hrel.2 (n + 1) q' r' (by simpa using h1) (by simpa using h2)⟩
      obtain ⟨e1, e2, e3, e4, e6, e5⟩ := hrel.2 0 q r rfl rfl
      obtain ⟨qa, qb, qt, qk⟩ := q
      obtain ⟨ra, rb, rt, rk⟩ := r
      simp only at e1 e2 e3 e4 e5 e6
      subst e1; subst e2; subst e3
      show ∃ vm', _ ∧ ∀ (Q : Handler → Pre) (E : CtlPost) (d : Bool) (acts : List Action), Sem.wp (findHandler.go f a (⟨qa, qb, qt, rk⟩ :: tableOf rs)) Q E e d acts S ↔ _
      unfold ux_hnd at hnd
      by_cases hcov : qa ≤ f.pc ∧ f.pc < qb
      · have hx : covers ⟨qa, qb, qt, rk⟩ f.pc = true := by simp [covers, hcov.1, hcov.2]
        obtain ⟨c', hc', hcl⟩ := Cond.classLink_spec hown (hts _ e5) e.platform hpl
        obtain ⟨dk, _, _, kt, hd, _, _, _, _, hkt, _, hopen⟩ := hcl.here
        have hcl₀ := hW.classLinks hcl
        have hW' : s.WarmedH (S.vm.noted f.method.cls rk (.cls c')) := hW.noted hd hopen (State.rightAt_cls hcl)
        have hsz : (S.vm.noted f.method.cls rk (.cls c')).classes.size ≤ S.vm.classes.size := Nat.le_of_eq (Vm.size_noted _ _ _ _)
        obtain ⟨kk0, hkk0⟩ := Vm.classAt_of_findClass hcls
        obtain ⟨ks', hks', -⟩ := hW'.alike.2.2 _ _ hkk0
        obtain ⟨kt', hkt', -⟩ := hW'.alike.2.2 _ _ hkt
        have hgo := fun (Q : Handler → Pre) (E : CtlPost) (d : Bool) (acts : List Action) => ux_go_cold (E := E) (e := e) (d := d) (acts := acts) (s := S) (f := f) (a := a) (Q := Q) (x := ⟨qa, qb, qt, rk⟩) (t := tableOf rs) hx e4 (resolveClass_links e.toSetting hcl₀) hsz hS (fun z hz => by rw [hobj] at hz; cases hz) ⟨ks', hks'⟩ ⟨kt', hkt'⟩
        by_cases hqk : qk = k
        · subst hqk
          rw [if_pos ⟨hcov.1, hcov.2, rfl⟩] at hnd
          cases hnd
          cases hcls.symm.trans hc'
          refine ⟨_, hW', fun Q E d acts => ?_⟩
          rw [hgo, if_pos (by rw [hW'.alike.assignable]; exact hself)]
        · rw [if_neg (fun h => hqk h.2.2)] at hnd
          obtain ⟨c1, t1, g1, g2, g3⟩ := hex qk e6 hqk
          cases hcls.symm.trans g1
          cases hc'.symm.trans g2
          obtain ⟨vm', hv1, hv2⟩ := ih qs hrel' hnd (S.setVm (S.vm.noted f.method.cls rk (.cls c'))) hW' hS
          refine ⟨vm', hv1, fun Q E d acts => ?_⟩
          rw [hgo, if_neg (by rw [hW'.alike.assignable, g3]; decide), hv2]
          rfl
      · rw [if_neg (fun h => hcov ⟨h.1, h.2.1⟩)] at hnd
        have hx : covers ⟨qa, qb, qt, rk⟩ f.pc = false := by
          simp only [covers, Bool.and_eq_false_iff, decide_eq_false_iff_not]
          by_cases h1 : qa ≤ f.pc
          · exact Or.inr fun h2 => hcov ⟨h1, h2⟩
          · exact Or.inl h1
        obtain ⟨vm', hv1, hv2⟩ := ih qs hrel' hnd S hW hS
        refine ⟨vm', hv1, fun Q E d acts => ?_⟩
        rw [W.findHandler_go_skip hx, hv2]
theorem ux_weaken {tb : Tables} {e : Env} {g : Frame} {below : List Frame} {a b : State} (h : Steps tb e (g :: below) a b) : Steps tb e below a b := by
  obtain ⟨n, hn, w⟩ := h
  exact ⟨n, hn, fun k hk => Within.weaken (mid := [g]) (w k hk)⟩
/-- an exception that came out of a callee is caught -/
theorem ux_caught {p : Program} {l : Launch} {e : Env} {R : Room} {s : State} {m : MethodId} {args : Array Value} {below : List Frame} {meth : Method} {c : Code} {T : State} {locs : List Loc} {cells slots : Nat} (X : Stand p l e R s m args below meth c T locs cells slots) {own : String} {Tw : List Cond} {ex : Nat → String × List String} {g : JFrame} {a : Addr} {cell : Cell} {k tp : Nat} {hs hsR : List (Nat × Nat × Nat × Nat)}
    (hg : g.method = m) (hown : s.vm.findClass own = some m.cls) (hts : ∀ w ∈ Tw, w.before args s = true) (hex : ∀ j, j < 3 → j ≠ k → va_Nc (ex k).1 (ex j).1 s) (hself : s.vm.assignable cell.cls cell.cls = true) (hobj : cell.vm = .none) (hcls : s.vm.findClass (ex k).1 = some cell.cls) (hcell : T.heap[a]? = some cell)
    (htab : c.exceptionTable.toList = tableOf hsR) (hrel : ux_hs ex Tw own hs hsR) (hnd : ux_hnd hs g.pc k = some tp) :
    ∃ vm', Stand p l e R s m args below meth c (T.setVm vm') locs cells slots ∧ ∀ target, Steps p.tables e below ((T.setVm vm').setTop { g with pc := tp, stack := [.ref a] }) target → Steps p.tables e below ((T.setTop g).pushFrame (.throwing a)) target := by
  have hpl : e.platform.magicAccessors = ({} : Platform).magicAccessors := by rw [X.admits.platform]
  have hvm0 : ((T.setTop g).pushFrame (.throwing a)).vm = T.vm := Stand.throwing_vm T g a
  have hhp0 : ((T.setTop g).pushFrame (.throwing a)).heap = T.heap := Stand.throwing_heap T g a
  obtain ⟨vm', hW', hfind⟩ := ux_find (e := e) (f := g) (a := a) (cell := cell) hpl (by rw [hg]; exact hown) hts hex hself hobj hcls hsR hs hrel hnd ((T.setTop g).pushFrame (.throwing a)) (by rw [hvm0]; exact X.warmed) (by rw [hhp0]; exact hcell)
  refine ⟨vm', X.noted hW', fun target hrest => ?_⟩
  have h : At T g.method c below := by rw [hg]; exact X.here
  obtain ⟨hgo, hw⟩ := h.throwing a
  refine Steps.head hgo hw ?_
  have hm : ((T.setTop g).pushFrame (.throwing a)).vm.method? g.method = some meth := by rw [hvm0, hg]; exact X.method'
  have hfind2 : ∀ (Q : Handler → Pre) (E : CtlPost) (d : Bool) (acts : List Action), Sem.wp (findHandler g a) Q E e d acts ((T.setTop g).pushFrame (.throwing a)) ↔ Q (.found tp) d acts (((T.setTop g).pushFrame (.throwing a)).setVm vm') := by
    intro Q E d acts
    rw [W.findHandler_eq hm X.code, htab]
    exact hfind Q E d acts
  rw [stepThread_throwing (frames_entered h.top _), (ux_catchStep hfind2).1]
  obtain ⟨g₀, hg0⟩ := Option.isSome_iff_exists.mp h.top
  obtain ⟨r, hr⟩ := State.topJava?_eq_some.mp hg0
  have hr' : (T.setVm vm').frames = .java g₀ :: r := hr
  rw [State.setTop_of_frames _ hr'] at hrest
  have e1 : (((T.setTop g).pushFrame (.throwing a)).setVm vm').setFrames (.java { g with pc := tp, stack := [.ref a] } :: T.frames.tail) = (T.setVm vm').setFrames (.java { g with pc := tp, stack := [.ref a] } :: r) := by
    rw [State.pushFrame, State.setTop_of_frames _ hr, hr]
    show ((((T.setFrames (.java g :: r)).setFrames (.throwing a :: (T.setFrames (.java g :: r)).frames)).setFrames (.java { g with pc := tp, stack := [.ref a] } :: r)).setVm vm') = _
    rw [State.setFrames_setFrames, State.setFrames_setFrames]
    rfl
  rw [e1]
  exact hrest
end
section
/-! The evaluator tells the truth of the machine. -/
def ux_word (P : ux_P) (M : ux_M) (Tw : List Cond) (j : Nat) : Prop := ((M j).2.2.2 = [] ∧ Cond.code (M j).1 (M j).2.1 (P.2.2.2.2.2.2 j).1 (M j).2.2.1 ∈ Tw) ∨ Cond.codeWith (M j).1 (M j).2.1 (P.2.2.2.2.2.2 j).1 (M j).2.2.1 (M j).2.2.2 ∈ Tw
def ux_okG (P : ux_P) (M : ux_M) (Tw : List Cond) (cl : List vw_C) : Prop := ∀ (i k q j n : Nat), P.2.2.1 i k = some (q, j, n) → (q < 2 ∨ q = 4 ∨ q = 5 ∨ 100 ≤ q) →
  plainName (M j).1.cls = true ∧ ((M j).1.cls ≠ "java/lang/invoke/MethodHandle" ∧ (M j).1.cls ≠ "java/lang/invoke/VarHandle") ∧ (parseMethodDescriptor (M j).1.desc).map (fun d => d.parameters.length) = some n ∧ ux_word P M Tw j ∧
  (q = 0 → Cond.methodLink (M i).1.cls k (M j).1 ∈ Tw ∧ Cond.static (M j).1 ∈ Tw ∧ Cond.initialized (M j).1.cls ∈ Tw) ∧
  (q = 1 → (∃ host, Cond.methodLinkNest (M i).1.cls k (M j).1 host ∈ Tw) ∧ Cond.static (M j).1 ∈ Tw ∧ Cond.initialized (M j).1.cls ∈ Tw) ∧
  (q = 4 → (M j).1.name = "<init>" ∧ Cond.methodLink (M i).1.cls k (M j).1 ∈ Tw ∧ Cond.instanceMethod (M j).1 ∈ Tw ∧ Cond.code (M j).1 (M j).2.1 (P.2.2.2.2.2.2 j).1 none ∈ Tw) ∧
  (q = 5 → (M j).1.name = "<init>" ∧ (∃ host, Cond.methodLinkNest (M i).1.cls k (M j).1 host ∈ Tw) ∧ Cond.instanceMethod (M j).1 ∈ Tw ∧ Cond.code (M j).1 (M j).2.1 (P.2.2.2.2.2.2 j).1 none ∈ Tw) ∧
  (∀ ci, q = 100 + ci → ∃ r : vw_C, cl[ci]? = some r ∧ Cond.methodLink (M i).1.cls k (M j).1 ∈ Tw ∧ Cond.instanceMethod (M j).1 ∈ Tw ∧ Cond.selects r.1 (M j).1 (M j).1 ∈ Tw)
theorem ux_word_spec {P : ux_P} {M : ux_M} {Tw : List Cond} {j : Nat} {s : State} {mk : MethodId} (h : ux_word P M Tw j) (hts : ∀ w ∈ Tw, ∀ a : Array Value, w.before a s = true) (hn : s.methodNamed? (M j).1 = some mk) :
    ∃ methk ck, s.vm.method? mk = some methk ∧ methk.code = some ck ∧ ck.code = (M j).2.1 ∧ ck.maxLocals = (P.2.2.2.2.2.2 j).1 ∧ methk.sig.returnType = (M j).2.2.1 ∧ methk.locks = false ∧ ck.exceptionTable.toList = tableOf (M j).2.2.2 ∧ parseMethodDescriptor (M j).1.desc = some methk.sig := by
  rcases h with ⟨h0, h⟩ | h
  · obtain ⟨methk, ck, h1, h2, h3, h4, h5, h6, h7, h8⟩ := Cond.code_spec hn (hts _ h #[])
    refine ⟨methk, ck, h1, h2, h3, h4, h5, h6, ?_, h8⟩
    have h9 : ck.exceptionTable = #[] := by simpa using h7
    rw [h0, h9]
    rfl
  · obtain ⟨m', methk, ck, h0, h1, h2, h3, h4, h5, h6, h7, h8⟩ := Cond.codeWith_spec (hts _ h #[])
    cases hn.symm.trans h0
    exact ⟨methk, ck, h1, h2, h3, h4, h6, h7, by rw [← h5, table_eq], h8⟩
theorem ux_cal_some {P : ux_P} {i : Nat} {ins : Instr} {st as r : List Value} {hh : ux_H} {j : Nat} (h : ux_cal P i ins st hh = some (j, as, r)) :
    (∃ k q n, ins = .invokestatic k ∧ P.2.2.1 i k = some (q, j, n) ∧ q < 2 ∧ as.length = n ∧ st = as.reverse ++ r) ∨
    (∃ k q n a as' ci is vs, ins = .invokevirtual k ∧ P.2.2.1 i k = some (q, j, n) ∧ as = .ref a :: as' ∧ as'.length = n ∧ st = as'.reverse ++ .ref a :: r ∧ ux_cell hh a = some (ci, is, vs) ∧ q = 100 + ci ∧ ci < 100) ∨
    (∃ k q n a as', ins = .invokespecial k ∧ P.2.2.1 i k = some (q, j, n) ∧ as = .ref a :: as' ∧ as'.length = n ∧ st = as'.reverse ++ .ref a :: r ∧ (q = 4 ∨ q = 5)) := by
  have cut : ∀ (n a : Nat) (r' : List Value), st.drop n = .ref a :: r' → ((st.take n).reverse).length = n ∧ st = ((st.take n).reverse).reverse ++ .ref a :: r' := by
    intro n a r' hr
    have hlt : n < st.length := by
      have := congrArg List.length hr
      simp at this
      omega
    refine ⟨by simp; omega, ?_⟩
    rw [List.reverse_reverse, ← hr, List.take_append_drop]
  unfold ux_cal at h
  split at h
  · rename_i k
    split at h
    · rename_i q j' n hq
      split at h
      · rename_i hc
        cases h
        exact Or.inl ⟨k, q, n, rfl, hq, hc.1, by simp; omega, by rw [List.reverse_reverse, List.take_append_drop]⟩
      · cases h
    · cases h
  · rename_i k
    split at h
    · rename_i q j' n hq
      split at h
      · rename_i a r' hdr
        split at h
        · rename_i ci is vs hcell
          split at h
          · rename_i hc
            cases h
            obtain ⟨h1, h2⟩ := cut n a _ hdr
            exact Or.inr (Or.inl ⟨k, q, n, a, _, ci, is, vs, rfl, hq, rfl, h1, h2, hcell, hc.1, hc.2⟩)
          · cases h
        · cases h
      · cases h
    · cases h
  · rename_i k
    split at h
    · rename_i q j' n hq
      split at h
      · rename_i a r' hdr
        split at h
        · rename_i hc
          cases h
          obtain ⟨h1, h2⟩ := cut n a _ hdr
          exact Or.inr (Or.inr ⟨k, q, n, a, _, rfl, hq, rfl, h1, h2, hc⟩)
        · cases h
      · cases h
    · cases h
  · cases h
section UXI
variable {p : Program} {l : Launch} {e : Env} {R : Room} {s : State} {m : MethodId} {args : Array Value} {below : List Frame} {meth : Method} {c : Code} {H : Heap} {locs : List Loc} {cells slots : Nat} {Q : State → Prop} {b n0 nL pc : Nat} {ls st : List Value}
variable {Tw : List Cond} {aty : Nat → Option FieldType} {D : va_G} {cl : List vw_C} {ca : Nat → ClassId} {sc : List Int32} {zs : List (String × String × String)} {ex : Nat → String × List String} {hh hh' : ux_H} {ty : Nat → Nat → FieldType} {P : ux_P} {M : ux_M} {i : Nat}
/-- the invoking instruction: the callee is found, whatever was resolved before -/
theorem ux_invW (hG : ux_okG P M Tw cl) (hx : p.tables.exec = Jvm.exec) (hb : c.code = (M i).2.1) (hown : s.vm.findClass (M i).1.cls = some m.cls) (hK : ux_K Tw aty D cl ca s) {ins : Instr} {len : Nat} (hd : decode (M i).2.1 pc = .ok (ins, len)) (hl : ux_lok ins len = true) {j : Nat} {as r : List Value} (h : ux_cal P i ins st hh = some (j, as, r))
    (hR : ux_R aty D cl ca b n0 sc zs s hh H) {T : State} (hT : T.heap = H) (X : Stand p l e R s m args below meth c T locs cells slots) (lsR : Array Slot) :
    len = 3 ∧ plainName (M j).1.cls = true ∧ ux_word P M Tw j ∧ ∃ (vm₁ : Vm) (mk : MethodId), Stand p l e R s m args below meth c (T.setVm vm₁) locs cells slots ∧ s.methodNamed? (M j).1 = some mk ∧
      ∀ target, (∀ acts, Steps p.tables e below (doInvoke e ((T.setVm vm₁).setTop (F0 m pc lsR (r.map (ux_tr b n0)))) acts mk (as.map (ux_tr b n0)).toArray).1 target) → Steps p.tables e below (T.setTop (F0 m pc lsR (st.map (ux_tr b n0)))) target := by
  have hts : ∀ w ∈ Tw, w.before args s = true := fun w hw => hK.2.2 w hw args
  rcases ux_cal_some h with ⟨k, q, n, rfl, hq, hq2, hlen, hst⟩ | ⟨k, q, n, a, as', ci, is, vs, rfl, hq, rfl, hlen, hst, hcell, hqc, hci⟩ | ⟨k, q, n, a, as', rfl, hq, rfl, hlen, hst, hq45⟩
  · obtain rfl : len = 3 := by simpa [ux_lok] using hl
    obtain ⟨w1, w2, w3, w4, w5, w6, -, -, -⟩ := hG _ _ _ _ _ hq (Or.inl hq2)
    refine ⟨rfl, w1, w4, ?_⟩
    have hstat : Cond.static (M j).1 ∈ Tw ∧ Cond.initialized (M j).1.cls ∈ Tw := by
      by_cases h0 : q = 0
      · exact (w5 h0).2
      · exact (w6 (by omega)).2
    have hnm : ∃ mk, s.methodNamed? (M j).1 = some mk := by
      rcases w4 with ⟨-, h1⟩ | h1
      · exact Cond.code_named (hts _ h1)
      · obtain ⟨m', _, _, h0, -⟩ := Cond.codeWith_spec (hts _ h1)
        exact ⟨m', h0⟩
    obtain ⟨mk, hnamed⟩ := hnm
    obtain ⟨methk, ck, hmk, -, -, -, -, -, -, hsig⟩ := ux_word_spec w4 hK.2.2 hnamed
    have hstatic : methk.isStatic = true := Cond.static_spec hnamed hmk (hts _ hstat.1)
    obtain ⟨kP, hkP, -⟩ := className_of_methodNamed hnamed
    have hinitP : kP.init = .initialized := Cond.initialized_spec (findClass_of_methodNamed hnamed) hkP (hts _ hstat.2)
    have hpl : (as.map (ux_tr b n0)).length = methk.sig.parameters.length := by
      rw [hsig] at w3
      rw [List.length_map, hlen]
      exact (Option.some.inj w3).symm
    have hstk : (F0 m pc lsR (st.map (ux_tr b n0))).stack = (as.map (ux_tr b n0)).reverse ++ r.map (ux_tr b n0) := by
      show st.map (ux_tr b n0) = _
      rw [hst, List.map_append, List.map_reverse]
    by_cases h0 : q = 0
    · obtain ⟨vm₁, X₁, st1⟩ := X.invokestatic hx hown (hts _ (w5 h0).1) hnamed hmk hstatic hkP hinitP w2 (g := F0 m pc lsR (st.map (ux_tr b n0))) rfl hpl hstk (by rw [hb]; exact hd)
      exact ⟨vm₁, mk, X₁, hnamed, st1⟩
    · obtain ⟨host, hh0⟩ := (w6 (by omega)).1
      obtain ⟨vm₁, X₁, st1⟩ := X.invokestaticNest hx hown (hts _ hh0) hnamed hmk hstatic hkP hinitP w2 (g := F0 m pc lsR (st.map (ux_tr b n0))) rfl hpl hstk (by rw [hb]; exact hd)
      exact ⟨vm₁, mk, X₁, hnamed, st1⟩
  · obtain rfl : len = 3 := by simpa [ux_lok] using hl
    obtain ⟨w1, w2, w3, w4, -, -, -, -, w9⟩ := hG _ _ _ _ _ hq (by omega)
    refine ⟨rfl, w1, w4, ?_⟩
    obtain ⟨rc, hrc, v1, v2, v3⟩ := w9 ci hqc
    obtain ⟨mk, methM, hnamed, hmethM, hstM, habM⟩ := Cond.instanceMethod_spec (hts _ v2)
    obtain ⟨methk, ck, hmk, -, -, -, -, -, -, hsig⟩ := ux_word_spec w4 hK.2.2 hnamed
    cases hmethM.symm.trans hmk
    obtain ⟨r', hr', cellB, g1, g2, g3, -⟩ := (hR.cell hcell).obj hci
    cases hrc.symm.trans hr'
    have hfc : s.vm.findClass rc.1 = some cellB.cls := by rw [g2]; exact (hK.1 ci rc hrc).2.1
    obtain ⟨c2, r2, m2, q1, q2, q3, q4, kP, hkP, hkPi⟩ := Cond.selects_spec (hts _ v3)
    cases hfc.symm.trans q1
    cases (State.methodFound?_of_named hnamed w2).symm.trans q2
    cases hnamed.symm.trans q3
    have hselP : selectMethod e.platform s.vm cellB.cls mk = .method mk := by rw [Launch.admits_selectMethod X.admits]; exact q4
    have hpl : (as'.map (ux_tr b n0)).length = methM.sig.parameters.length := by
      rw [hsig] at w3
      rw [List.length_map, hlen]
      exact (Option.some.inj w3).symm
    have hstk : (F0 m pc lsR (st.map (ux_tr b n0))).stack = (as'.map (ux_tr b n0)).reverse ++ .ref (ux_ad b n0 a) :: r.map (ux_tr b n0) := by
      show st.map (ux_tr b n0) = _
      rw [hst, List.map_append, List.map_reverse]
      rfl
    obtain ⟨vm₁, X₁, st1⟩ := X.invokevirtual hx hown (hts _ v1) hnamed hmethM hstM hkP hkPi w2 (a := ux_ad b n0 a) (cell := cellB) (by rw [hT]; exact g1) (fun z hz => by rw [g3] at hz; cases hz) hselP hmethM habM hkP hkPi (g := F0 m pc lsR (st.map (ux_tr b n0))) rfl hpl hstk (by rw [hb]; exact hd)
    exact ⟨vm₁, mk, X₁, hnamed, st1⟩
  · obtain rfl : len = 3 := by simpa [ux_lok] using hl
    obtain ⟨w1, w2, w3, w4, -, -, w7, w8, -⟩ := hG _ _ _ _ _ hq (by omega)
    refine ⟨rfl, w1, w4, ?_⟩
    have hplm : e.platform.magicAccessors = ({} : Platform).magicAccessors := by rw [X.admits.platform]
    have hln : ∀ sig, parseMethodDescriptor (M j).1.desc = some sig → (as'.map (ux_tr b n0)).length = sig.parameters.length := by
      intro sig hs
      rw [hs] at w3
      rw [List.length_map, hlen]
      exact (Option.some.inj w3).symm
    have hstk : (F0 m pc lsR (st.map (ux_tr b n0))).stack = (as'.map (ux_tr b n0)).reverse ++ .ref (ux_ad b n0 a) :: r.map (ux_tr b n0) := by
      show st.map (ux_tr b n0) = _
      rw [hst, List.map_append, List.map_reverse]
      rfl
    rcases hq45 with h4 | h5
    · obtain ⟨u1, u2, u3, u4⟩ := w7 h4
      obtain ⟨mk, methM, cM, kP, vm₁, hnamed, hmethM, hcodeM, -, hlocalsM, -, hkP, -, hW₁, hstep₁⟩ := Steps.initColdArgs (e := e) X.here hx X.warmed hplm hown u1 w2 (hts _ u2) (hts _ u3) (hts _ u4) (f := F0 m pc lsR (st.map (ux_tr b n0))) rfl hln hstk (by rw [hb]; exact hd)
      exact ⟨vm₁, mk, X.noted hW₁, hnamed, hstep₁⟩
    · obtain ⟨u1, ⟨host, u2⟩, u3, u4⟩ := w8 h5
      obtain ⟨mk, methM, cM, kP, vm₁, hnamed, hmethM, hcodeM, -, hlocalsM, -, hkP, -, hW₁, hstep₁⟩ := Steps.initColdArgsNest (e := e) X.here hx X.warmed hplm hown u1 w2 (hts _ u2) (hts _ u3) (hts _ u4) (f := F0 m pc lsR (st.map (ux_tr b n0))) rfl hln hstk (by rw [hb]; exact hd)
      exact ⟨vm₁, mk, X.noted hW₁, hnamed, hstep₁⟩
end UXI
/-- nothing is unmade -/
theorem ux_mem_mono {P : ux_P} {sc : List Int32} {i : Nat} {ins : Instr} {st st' : List Value} {hh hh' : ux_H} {len : Nat} (h : ux_mem P sc i ins st hh = some (len, st', hh')) : ux_nc hh ≤ ux_nc hh' ∧ ux_ns hh ≤ ux_ns hh' := by
  have set : ∀ a cx, ux_nc hh ≤ ux_nc (ux_set hh a cx) ∧ ux_ns hh ≤ ux_ns (ux_set hh a cx) := fun a cx => by simp [ux_nc, ux_ns, ux_set]
  have new : ∀ cx n, ux_nc hh ≤ ux_nc (ux_new hh cx n) ∧ ux_ns hh ≤ ux_ns (ux_new hh cx n) := fun cx n => by simp [ux_nc, ux_ns, ux_new]
  have put : ∀ {a ci j v h2}, ux_put hh a ci j v = some h2 → ux_nc hh ≤ ux_nc h2 ∧ ux_ns hh ≤ ux_ns h2 := by
    intro a ci j v h2 hg
    unfold ux_put at hg
    split at hg
    · split at hg
      · cases hg; exact set _ _
      · cases hg
    · cases hg
  have stt : ∀ {t a j x h2}, ux_st t hh a j x = some h2 → ux_nc hh ≤ ux_nc h2 ∧ ux_ns hh ≤ ux_ns h2 := by
    intro t a j x h2 hg
    obtain ⟨-, is, vs, -, -, rfl⟩ := ux_st_some hg
    exact set _ _
  have stv : ∀ {t a j v h2}, ux_stv hh a j v = some (t, h2) → ux_nc hh ≤ ux_nc h2 ∧ ux_ns hh ≤ ux_ns h2 := by
    intro t a j x h2 hg
    obtain ⟨-, is, vs, -, -, rfl⟩ := ux_stv_some hg
    exact set _ _
  have rf : ux_nc hh ≤ ux_nc hh ∧ ux_ns hh ≤ ux_ns hh := ⟨Nat.le_refl _, Nat.le_refl _⟩
  unfold ux_mem at h
  split at h <;> (repeat' split at h) <;> first
    | (cases h; done)
    | (simp only [Option.map_eq_some_iff, Prod.mk.injEq] at h; obtain ⟨v, h1, -, -, rfl⟩ := h; first | exact rf | exact put h1 | exact stt h1)
    | (cases h; first | exact rf | exact new _ _ | (rename_i hg; exact stv hg) | (rename_i hg _; exact stv hg) | (rename_i hg _ _; exact stv hg))
theorem ux_run_mono {P : ux_P} {sc : List Int32} : ∀ (n d i pc : Nat) (ls st : List Value) (hh : ux_H) (o : ux_O) (hh' : ux_H), ux_run P sc n d i pc ls st hh = some (o, hh') → ux_nc hh ≤ ux_nc hh' ∧ ux_ns hh ≤ ux_ns hh' := by
  intro n
  induction n with
  | zero => intro d i pc ls st hh o hh' h; cases h
  | succ n ih =>
    intro d i pc ls st hh o hh' h
    unfold ux_run at h
    split at h
    · cases h
    · split at h
      · exact ih _ _ _ _ _ _ _ _ h
      · split at h
        · rename_i hm
          have h1 := ux_mem_mono hm
          have h2 := ih _ _ _ _ _ _ _ _ h
          omega
        · split at h
          · cases h; exact ⟨Nat.le_refl _, Nat.le_refl _⟩
          · split at h
            · cases h; simp [ux_nc, ux_ns]
            · split at h
              · split at h
                · split at h
                  · rename_i hc
                    have h1 := ih _ _ _ _ _ _ _ _ hc
                    have h2 := ih _ _ _ _ _ _ _ _ h
                    simp only [ux_nc, ux_ns] at h1 h2 ⊢
                    omega
                  · rename_i hc
                    have h1 := ih _ _ _ _ _ _ _ _ hc
                    split at h
                    · split at h
                      · cases h
                        simp only [ux_nc, ux_ns] at h1 ⊢
                        exact h1
                      · cases h
                    · split at h
                      · split at h
                        · have h2 := ih _ _ _ _ _ _ _ _ h
                          simp only [ux_nc, ux_ns] at h1 h2 ⊢
                          omega
                        · cases h
                      · cases h
                  · cases h
                · cases h
              · cases h
end
section
/-! THE EVALUATOR TELLS THE TRUTH. -/
def ux_ok (P : ux_P) (M : ux_M) (Tw : List Cond) (cl : List vw_C) (ty : Nat → Nat → FieldType) (aty : Nat → Option FieldType) (zs : List (String × String × String)) (ex : Nat → String × List String) : Prop :=
  ux_okI P M ∧ ux_okC Tw cl ty ∧ ux_okF P M Tw cl ty ∧ ux_okN P M Tw cl ty ∧ ux_okA P M Tw cl aty ∧ ux_okL P M Tw ∧ ux_okR P M ∧ ux_okT P M Tw zs ex ∧ ux_okG P M Tw cl ∧ ux_okW Tw ∧ ∀ i, ux_hs ex Tw (M i).1.cls (P.2.2.2.2.2.2 i).2.2 (M i).2.2.2
def ux_E (ex : Nat → String × List String) (s : State) : Prop := ∀ j k, j < 3 → k < 3 → j ≠ k → va_Nc (ex k).1 (ex j).1 s
theorem ux_sum_tr (b n0 : Nat) (r : List Value) : ((r.map (ux_tr b n0)).map fun v => v.category).sum = (r.map fun v => v.category).sum := by
  rw [List.map_map]
  congr 1
  exact List.map_congr_left fun v _ => ux_cat b n0 v
set_option maxHeartbeats 8000000 in
theorem ux_sound {P : ux_P} {M : ux_M} {Tw : List Cond} {cl : List vw_C} {ty : Nat → Nat → FieldType} {aty : Nat → Option FieldType} {zs : List (String × String × String)} {ex : Nat → String × List String} (hok : ux_ok P M Tw cl ty aty zs ex) {l : Launch} (htr : l.stackTraces = false) {p : Program} {e : Env} (hx : p.tables.exec = Jvm.exec) {D : va_G} {ca : Nat → ClassId} {b n0 : Nat} {sc : List Int32} :
    ∀ (n d i pc : Nat) (ls st : List Value) (hh : ux_H) (o : ux_O) (hh' : ux_H), ux_run P sc n d i pc ls st hh = some (o, hh') →
    ∀ (R : Room) (s : State) (m : MethodId) (args : Array Value) (below : List Frame) (meth : Method) (c : Code) (H : Heap) (locs : List Loc) (cells slots nc0 ns0 : Nat),
      c.code = (M i).2.1 → c.maxLocals = (P.2.2.2.2.2.2 i).1 → meth.sig.returnType = (M i).2.2.1 → meth.locks = false → c.exceptionTable.toList = tableOf (M i).2.2.2 → s.vm.findClass (M i).1.cls = some m.cls → meth.name = (M i).1.name → ux_K Tw aty D cl ca s → ux_E ex s →
      ux_R aty D cl ca b n0 sc zs s hh H → (∀ x ∈ locs, n0 ≤ x.base) → cells + nc0 = ux_nc hh → slots + ns0 = ux_ns hh → ux_nc hh' ≤ nc0 + R.cells → ux_ns hh' ≤ ns0 + R.slots → d + 8 ≤ R.frames → 64 * d + 200 ≤ R.locals → (hh.2.2.2 = false → locs = [] ∧ H = s.heap ∧ cells = 0 ∧ slots = 0) →
      ux_V p l e R s m args below meth c H locs cells slots (ux_Q aty D cl ca b n0 sc zs ex s below nc0 ns0 o hh') b n0 (P.2.2.2.2.2.2 i).1 pc ls st := by
  obtain ⟨okI, okC, okF, okN, okA, okL, okR, okT, okG, okW, okX⟩ := hok
  have okH : ux_okH P M := fun i h => by
    have := (okX i).1
    rw [h] at this
    exact List.eq_nil_of_length_eq_zero this.symm
  intro n
  induction n with
  | zero => intro d i pc ls st hh o hh' h; cases h
  | succ n ih =>
    intro d i pc ls st hh o hh' h R s m args below meth c H locs cells slots nc0 ns0 hb hml hr hlk htab hown hnme hK hE hR hloc hc0 hs0 hcR hsR hfr hlo hw
    have hmo0 := ux_run_mono (n + 1) d i pc ls st hh o hh' h
    unfold ux_run at h
    split at h
    · cases h
    · rename_i ins len hins
      obtain ⟨hd, hlok⟩ := okI _ _ _ _ hins
      split at h
      · rename_i pc' ls' st' hsim
        exact ux_simW hx hb hd hlok hsim (ih _ _ _ _ _ _ _ _ h R s m args below meth c H locs cells slots nc0 ns0 hb hml hr hlk htab hown hnme hK hE hR hloc hc0 hs0 hcR hsR hfr hlo hw)
      · split at h
        · rename_i len' st' h2 hmem
          have hmo := ux_run_mono _ _ _ _ _ _ _ _ _ h
          refine ux_memW okF okN okA okL okC hx hb hown hnme hml hK hd hlok hmem hR hloc hc0 hs0 (Nat.le_trans hmo.1 hcR) (Nat.le_trans hmo.2 hsR) (by omega) (by omega) fun H' locs' cells' slots' g1 g2 g3 g4 g5 => ?_
          refine ih _ _ _ _ _ _ _ _ h R s m args below meth c H' locs' cells' slots' nc0 ns0 hb hml hr hlk htab hown hnme hK hE g3 g4 g1 g2 hcR hsR hfr hlo fun hf => ?_
          obtain ⟨k1, k2, k3, k4, k5⟩ := g5 hf
          obtain ⟨j1, j2, j3, j4⟩ := hw k1
          exact ⟨k3.trans j1, k2.trans j2, k4.trans j3, k5.trans j4⟩
        · split at h
          · rename_i v hret
            cases h
            exact ux_retW okR hx hb hr hlk hd hlok hret hR hloc hc0 hs0 hw
          · split at h
            · rename_i k hthr
              cases h
              exact ux_thrW okI okT okH hx hb hown hml htab hlk htr hK hd hlok hthr hR hc0 hs0 (by simp [ux_nc] at hcR ⊢; omega) (by simp [ux_ns] at hsR ⊢; omega) (by omega) (by omega) hw
            · split at h
              · rename_i j as r d' hcal
                split at h
                · rename_i hcond
                  obtain ⟨hc1, hc2, hc3, hc4⟩ := hcond
                  have hcat : ∀ v ∈ as, v.category = 1 := fun v hv => by simpa using List.all_eq_true.mp hc4 v hv
                  intro lsR hL T hT X
                  obtain ⟨rfl, w1, w4, vm₁, mk, X₁, hnamed, st1⟩ := ux_invW okG hx hb hown hK hd hlok hcal hR hT X lsR
                  have hKU : ux_K Tw aty D cl ca (T.setVm vm₁) := hK.moved okW X₁.warmed
                  have hnU : (T.setVm vm₁).methodNamed? (M j).1 = some mk := X₁.named hnamed
                  obtain ⟨methk, ck, hmk, hck, hbk, hmlk, hretk, hlkk, htabk, -⟩ := ux_word_spec w4 hKU.2.2 hnU
                  have hpk : (T.setVm vm₁).plainMethod mk := State.plainMethod.of_name (fun k hk => by
                    obtain ⟨k', hk', hn⟩ := className_of_methodNamed hnU
                    cases hk.symm.trans hk'
                    rw [hn]; exact w1)
                  have hdc : decode c.code (F0 m pc lsR (r.map (ux_tr b n0))).pc = .ok (ins, 3) := by rw [hb]; exact hd
                  have hsz : (F0 m pc lsR (r.map (ux_tr b n0))).locals.size = c.maxLocals := by rw [hml]; exact hL.2.2.1
                  have hcl : cells ≤ R.cells := by omega
                  have hsl : slots ≤ R.slots := by omega
                  obtain ⟨Y₀, hin⟩ := X₁.into (g := F0 m pc lsR (r.map (ux_tr b n0))) rfl hsz hdc (as.map (ux_tr b n0)).toArray (R' := { frames := d' + 8, cells := R.cells - cells, slots := R.slots - slots, locals := 64 * d' + 200 }) hmk hck hlkk hpk (by show d' + 8 + 1 ≤ R.frames; omega)
                    (by show 2 * 0 + ((r.map (ux_tr b n0)).map fun v => v.category).sum + (ck.maxLocals + 11) + (64 * d' + 200) ≤ R.locals
                        rw [ux_sum_tr, hmlk]; omega) (by show cells + (R.cells - cells) ≤ R.cells; omega) (by show slots + (R.slots - slots) ≤ R.slots; omega)
                  have hvs : ((T.setVm vm₁).calling (F0 m pc lsR (r.map (ux_tr b n0))) mk (as.map (ux_tr b n0)).toArray).vm = vm₁ := by rw [State.calling_eq X₁.here.top]; rfl
                  have hhs : ((T.setVm vm₁).calling (F0 m pc lsR (r.map (ux_tr b n0))) mk (as.map (ux_tr b n0)).toArray).heap = H := by rw [State.calling_eq X₁.here.top]; exact hT
                  have hWs : s.WarmedH ((T.setVm vm₁).calling (F0 m pc lsR (r.map (ux_tr b n0))) mk (as.map (ux_tr b n0)).toArray).vm := by rw [hvs]; exact X₁.warmed
                  generalize hs' : (T.setVm vm₁).calling (F0 m pc lsR (r.map (ux_tr b n0))) mk (as.map (ux_tr b n0)).toArray = s' at Y₀ hvs hhs hWs
                  have hback : s'.vm.Alike s.vm := hWs.alike.symm
                  obtain ⟨lsR2, hL2, hent⟩ := ux_entry b n0 mk as (P.2.2.2.2.2.2 j).1 hcat hc2
                  have inner : ∀ (o1 : ux_O) (h1 : ux_H), ux_run P sc n d' j 0 (as ++ List.replicate ((P.2.2.2.2.2.2 j).1 - as.length) .null) [] (hh.1, hh.2.1, hh.2.2.1, false) = some (o1, h1) → ux_nc h1 ≤ ux_nc hh' → ux_ns h1 ≤ ux_ns hh' →
                      ∃ t, (∀ acts, Steps p.tables e below (doInvoke e ((T.setVm vm₁).setTop (F0 m pc lsR (r.map (ux_tr b n0)))) acts mk (as.map (ux_tr b n0)).toArray).1 t) ∧ ux_Q aty D cl ca b n0 sc zs ex s' (.java (F0 m pc lsR (r.map (ux_tr b n0))) :: below) (ux_nc hh) (ux_ns hh) o1 h1 t := by
                    intro o1 h1 hrun hn1 hn2
                    have key := ih d' j 0 _ [] _ o1 h1 hrun { frames := d' + 8, cells := R.cells - cells, slots := R.slots - slots, locals := 64 * d' + 200 } s' mk (as.map (ux_tr b n0)).toArray (.java (F0 m pc lsR (r.map (ux_tr b n0))) :: below) methk ck H [] 0 0 (ux_nc hh) (ux_ns hh) hbk hmlk hretk hlkk htabk
                      (by rw [hvs]; exact findClass_of_methodNamed hnU) (name_of_methodNamed hnU hmk).1 (hK.moved okW hWs) (fun a1 a2 b1 b2 b3 => (hE a1 a2 b1 b2 b3).moved hWs.alike) ((hR.moved hWs.alike).like rfl rfl) (fun x hx => by cases hx) (by simp [ux_nc]) (by simp [ux_ns]) (by show ux_nc h1 ≤ ux_nc hh + (R.cells - cells); omega) (by show ux_ns h1 ≤ ux_ns hh + (R.slots - slots); omega) (Nat.le_refl _) (Nat.le_refl _) (fun _ => ⟨rfl, hhs.symm, rfl, rfl⟩) lsR2 hL2
                    obtain ⟨t, hst, hq⟩ := key _ (show (((T.setVm vm₁).setTop (F0 m pc lsR (r.map (ux_tr b n0)))).pushFrame (.java (entryFrame mk (as.map (ux_tr b n0)).toArray ck.maxLocals))).heap = H from hT) Y₀
                    refine ⟨t, fun acts => ?_, hq⟩
                    rw [hin acts, hmlk, hent]
                    rw [hmlk, hent] at hst
                    exact ux_weaken hst
                  split at h
                  · rename_i v h1 hrun
                    have hmo := ux_run_mono _ _ _ _ _ _ _ _ _ h
                    obtain ⟨t, hgo, oc, L, C, S, q1, q2, q3, q4, q5, q6, q7, q8, q9, q10⟩ := inner _ _ hrun hmo.1 hmo.2
                    have q10 : oc = .returned (v.map (ux_tr b n0)) := q10
                    subst q10
                    rw [← hs'] at q3 q4
                    obtain ⟨T', X', hW', -, ht⟩ := X₁.outOf (g := F0 m pc lsR (r.map (ux_tr b n0))) rfl hdc q2 q3 q4
                    have hh1 : t.heap = T'.heap := by rw [ht]; rfl
                    have hst2 : (v.map (ux_tr b n0)).toList ++ r.map (ux_tr b n0) = (v.toList ++ r).map (ux_tr b n0) := by cases v <;> rfl
                    obtain ⟨t2, k1, k2⟩ := ih _ _ _ _ _ _ _ _ h R s m args below meth c T'.heap (locs ++ L) (cells + C) (slots + S) nc0 ns0 hb hml hr hlk htab hown hnme hK hE (((q9.moved hback).like rfl rfl) |> fun z => by rw [hh1] at z; exact z)
                      (fun x hx => by rcases List.mem_append.mp hx with g | g; exact hloc x g; exact q7 x g) (by show cells + C + nc0 = ux_nc h1; omega) (by show slots + S + ns0 = ux_ns h1; omega) hcR hsR hfr hlo (fun hf => by
                        have hf : (hh.2.2.2 || h1.2.2.2) = false := hf
                        rw [Bool.or_eq_false_iff] at hf
                        obtain ⟨j1, j2, j3, j4⟩ := hw hf.1
                        obtain ⟨i1, i2, i3, i4⟩ := q8 hf.2
                        refine ⟨by rw [j1, i1]; rfl, by rw [← hh1, i2, hhs, j2], by omega, by omega⟩) lsR hL T' rfl X'
                    refine ⟨t2, st1 t2 fun acts => (hgo acts).trans ?_, k2⟩
                    rw [ht]
                    show Steps p.tables e below (T'.setTop (F0 m (pc + 3) lsR ((v.map (ux_tr b n0)).toList ++ r.map (ux_tr b n0)))) t2
                    rw [hst2]
                    exact k1
                  · rename_i k h1 hrun
                    have hmo : ux_nc h1 ≤ ux_nc hh' ∧ ux_ns h1 ≤ ux_ns hh' := by
                      split at h
                      · split at h
                        · cases h; exact ⟨Nat.le_refl _, Nat.le_refl _⟩
                        · cases h
                      · split at h
                        · split at h
                          · have hz := ux_run_mono _ _ _ _ _ _ _ _ _ h
                            simp only [ux_nc, ux_ns] at hz ⊢
                            exact hz
                          · cases h
                        · cases h
                    obtain ⟨t, hgo, oc, L, C, S, q1, q2, q3, q4, q5, q6, q7, q8, q9, q10⟩ := inner _ _ hrun hmo.1 hmo.2
                    obtain ⟨hk3, x, cell, rfl, c1, c2, c3, c4⟩ := q10
                    rw [← hs'] at q3 q4
                    obtain ⟨T', X', hW', -, ht⟩ := X₁.outOfThrown (g := F0 m pc lsR (r.map (ux_tr b n0))) rfl q2 q3 q4
                    have hh1 : t.heap = T'.heap := by rw [ht, Stand.throwing_heap]
                    have hR1 : ux_R aty D cl ca b n0 sc zs s h1 T'.heap := by rw [← hh1]; exact q9.moved hback
                    have hl1 : ∀ x ∈ locs ++ L, n0 ≤ x.base := fun x hx => by rcases List.mem_append.mp hx with g | g; exact hloc x g; exact q7 x g
                    have c3' : s.vm.findClass (ex k).1 = some cell.cls := by rw [← hWs.alike.findClass]; exact c3
                    have c4' : s.vm.assignable cell.cls cell.cls = true := by rw [← hWs.alike.assignable]; exact c4
                    split at h
                    · split at h
                      · rename_i hnil
                        cases h
                        have hout : ∀ y ∈ c.exceptionTable.toList, covers y (F0 m pc lsR (r.map (ux_tr b n0))).pc = false := fun y hy => by
                          rw [htab, okH i hnil] at hy; cases hy
                        obtain ⟨v1, v2, v3, v4, v5⟩ := X'.leaveThrown x (g := F0 m pc lsR (r.map (ux_tr b n0))) rfl rfl rfl hout hlk
                        refine ⟨_, st1 _ fun acts => (hgo acts).trans (by rw [ht]; exact v1), .threw x, locs ++ L, cells + C, slots + S, v2, v3, v4, v5, by show cells + C + nc0 = ux_nc h1; omega, by show slots + S + ns0 = ux_ns h1; omega, hl1, fun hf => (by cases hf), (hR1.like rfl rfl), hk3, x, cell, rfl, ?_, c2, c3', c4'⟩
                        show T'.heap[x]? = some cell
                        rw [← hh1]; exact c1
                      · cases h
                    · rename_i tp hhnd
                      split at h
                      · rename_i q lq hlay
                        split at h
                        · rename_i hq
                          obtain ⟨⟨ins2, len2⟩, hp2, hlay2⟩ := Option.bind_eq_some_iff.mp hlay
                          obtain ⟨hd2, hlok2⟩ := okI _ _ _ _ hp2
                          obtain ⟨vm2, X2, st2⟩ := ux_caught X' (g := F0 m pc lsR (r.map (ux_tr b n0))) rfl hown (fun w hw => hK.2.2 w hw args) (fun j1 h3 h4 => hE j1 k h3 hk3 h4) c4' c2 c3' (by rw [← hh1]; exact c1) htab (okX i) hhnd
                          have hrec := ih _ _ _ _ _ _ _ _ h R s m args below meth c T'.heap (locs ++ L) (cells + C) (slots + S) nc0 ns0 hb hml hr hlk htab hown hnme hK hE (hR1.like rfl rfl) hl1 (by show cells + C + nc0 = ux_nc h1; omega) (by show slots + S + ns0 = ux_ns h1; omega) hcR hsR hfr hlo (fun hf => by cases hf)
                          have Wh : W p l e R s m args below meth c T'.heap (locs ++ L) (cells + C) (slots + S) (ux_Q aty D cl ca b n0 sc zs ex s below nc0 ns0 o hh') (F0 m tp lsR [.ref x]) := by
                            have hlay2 : ux_lay ins2 = some (q, lq) := hlay2
                            unfold ux_lay at hlay2
                            split at hlay2
                            · cases hlay2
                              obtain rfl : len2 = 2 := by simpa [ux_lok] using hlok2
                              exact lv_astore hx hb hd2 hL.2.2 (hL.lt hq) rfl fun lsR' h' => hrec lsR' (hL.put (v := .null) rfl (fun z => absurd rfl z) h')
                            · cases hlay2
                              obtain rfl : len2 = 1 := by simpa [ux_lok] using hlok2
                              exact lv_astore_n hx hb hd2 rfl hL.2.2 (hL.lt hq) rfl fun lsR' h' => hrec lsR' (hL.put (v := .null) rfl (fun z => absurd rfl z) h')
                            · cases hlay2
                          obtain ⟨t2, k1, k2⟩ := Wh (T'.setVm vm2) rfl X2
                          refine ⟨t2, st1 t2 fun acts => (hgo acts).trans ?_, k2⟩
                          rw [ht]
                          exact st2 t2 k1
                        · cases h
                      · cases h
                  · cases h
                · cases h
              · cases h
end
section
/-! The evaluator's judgement, goal first: ux_G .. r: from here the method ends so. -/
theorem ux_run_up {P : ux_P} {sc : List Int32} : ∀ (n d i pc : Nat) (ls st : List Value) (h : ux_H) (r : ux_O × ux_H), ux_run P sc n d i pc ls st h = some r → ∀ (n' d' : Nat), n ≤ n' → d ≤ d' → ux_run P sc n' d' i pc ls st h = some r := by
  intro n
  induction n with
  | zero => intro d i pc ls st h r hr; cases hr
  | succ n ih =>
    intro d i pc ls st h r hr n' d' hn hd
    obtain ⟨n2, rfl⟩ : ∃ k, n' = k + 1 := ⟨n' - 1, by omega⟩
    have hn2 : n ≤ n2 := by omega
    unfold ux_run at hr ⊢
    split at hr
    · cases hr
    · rename_i ins len hins
      try rw [hins]
      try simp only
      split at hr
      · rename_i hsim
        try rw [hsim]
        exact ih _ _ _ _ _ _ _ hr _ _ hn2 hd
      · rename_i hsim
        try rw [hsim]
        try simp only
        split at hr
        · rename_i hmem
          try rw [hmem]
          exact ih _ _ _ _ _ _ _ hr _ _ hn2 hd
        · rename_i hmem
          try rw [hmem]
          try simp only
          split at hr
          · rename_i hret
            try rw [hret]
            exact hr
          · rename_i hret
            try rw [hret]
            try simp only
            split at hr
            · rename_i hthr
              try rw [hthr]
              exact hr
            · rename_i hthr
              try rw [hthr]
              try simp only
              split at hr
              · rename_i j as r0 d0 hcal
                obtain ⟨d1, rfl⟩ : ∃ k, d' = k + 1 := ⟨d' - 1, by omega⟩
                try rw [hcal]
                try simp only
                split at hr
                · rename_i hcond
                  rw [if_pos hcond]
                  split at hr
                  · rename_i v h1 hin
                    rw [ih _ _ _ _ _ _ _ hin n2 d1 hn2 (by omega)]
                    exact ih _ _ _ _ _ _ _ hr _ _ hn2 (by omega)
                  · rename_i k h1 hin
                    rw [ih _ _ _ _ _ _ _ hin n2 d1 hn2 (by omega)]
                    simp only
                    split at hr
                    · rename_i hnd
                      try rw [hnd]
                      exact hr
                    · rename_i t hnd
                      try rw [hnd]
                      try simp only
                      split at hr
                      · rename_i hlay
                        try rw [hlay]
                        try simp only
                        split at hr
                        · rename_i hq
                          rw [if_pos hq]
                          exact ih _ _ _ _ _ _ _ hr _ _ hn2 (by omega)
                        · cases hr
                      · cases hr
                  · cases hr
                · cases hr
              · cases hr
def ux_G (P : ux_P) (sc : List Int32) (d i pc : Nat) (ls st : List Value) (h : ux_H) (r : ux_O × ux_H) : Prop := ∃ n, ux_run P sc n d i pc ls st h = some r
/-- a whole method -/
def ux_Y (P : ux_P) (sc : List Int32) (d j : Nat) (as : List Value) (h : ux_H) (r : ux_O × ux_H) : Prop := ux_G P sc d j 0 (as ++ List.replicate ((P.2.2.2.2.2.2 j).1 - as.length) .null) [] (h.1, h.2.1, h.2.2.1, false) r
section UXG
variable {P : ux_P} {sc : List Int32} {d i pc : Nat} {ls st : List Value} {h : ux_H} {r : ux_O × ux_H}
theorem ux_G.up {d' : Nat} (hG : ux_G P sc d i pc ls st h r) (hd : d ≤ d') : ux_G P sc d' i pc ls st h r := by
  obtain ⟨n, hn⟩ := hG
  exact ⟨n, ux_run_up n d i pc ls st h r hn n d' (Nat.le_refl _) hd⟩
theorem ux_Y.up {d' j : Nat} {as : List Value} (hG : ux_Y P sc d j as h r) (hd : d ≤ d') : ux_Y P sc d' j as h r := ux_G.up hG hd
def ux_s1 (P : ux_P) (i pc : Nat) (ls st : List Value) : Option (Nat × List Value × List Value) := match P.1 i pc with
  | some (ins, _) => ux_sim ins pc ls st
  | none => none
theorem ux_Gs {pc' : Nat} {ls' st' : List Value} (hs : ux_s1 P i pc ls st = some (pc', ls', st')) (k : ux_G P sc d i pc' ls' st' h r) : ux_G P sc d i pc ls st h r := by
  obtain ⟨n, hn⟩ := k
  refine ⟨n + 1, ?_⟩
  unfold ux_s1 at hs
  split at hs
  · rename_i ins len hins
    unfold ux_run
    rw [hins]
    simp only [hs]
    exact hn
  · cases hs
def ux_sN (P : ux_P) (i : Nat) : Nat → Nat → List Value → List Value → Option (Nat × List Value × List Value)
  | 0, pc, ls, st => some (pc, ls, st)
  | n + 1, pc, ls, st => match ux_s1 P i pc ls st with
    | some (pc', ls', st') => ux_sN P i n pc' ls' st'
    | none => none
theorem ux_GN (n : Nat) {pc' : Nat} {ls' st' : List Value} (hs : ux_sN P i n pc ls st = some (pc', ls', st')) (k : ux_G P sc d i pc' ls' st' h r) : ux_G P sc d i pc ls st h r := by
  induction n generalizing pc ls st with
  | zero => cases hs; exact k
  | succ n ih =>
    unfold ux_sN at hs
    split at hs
    · rename_i h1
      exact ux_Gs h1 (ih hs)
    · cases hs
def ux_m1 (P : ux_P) (sc : List Int32) (i pc : Nat) (ls st : List Value) (h : ux_H) : Option (Nat × List Value × ux_H) := match P.1 i pc with
  | some (ins, _) => match ux_sim ins pc ls st with
    | some _ => none
    | none => (ux_mem P sc i ins st h).map fun q => (pc + q.1, q.2.1, q.2.2)
  | none => none
theorem ux_Gm {pc' : Nat} {st' : List Value} {h' : ux_H} (hs : ux_m1 P sc i pc ls st h = some (pc', st', h')) (k : ux_G P sc d i pc' ls st' h' r) : ux_G P sc d i pc ls st h r := by
  obtain ⟨n, hn⟩ := k
  refine ⟨n + 1, ?_⟩
  unfold ux_m1 at hs
  split at hs
  · rename_i ins len hins
    split at hs
    · cases hs
    · rename_i hsim
      cases hmem : ux_mem P sc i ins st h with
      | none => rw [hmem] at hs; cases hs
      | some q =>
        obtain ⟨q1, q2, q3⟩ := q
        rw [hmem] at hs
        cases hs
        unfold ux_run
        rw [hins]
        simp only [hsim, hmem]
        exact hn
  · cases hs
def ux_r1 (P : ux_P) (sc : List Int32) (i pc : Nat) (ls st : List Value) (h : ux_H) : Option (Option Value) := match P.1 i pc with
  | some (ins, _) => match ux_sim ins pc ls st, ux_mem P sc i ins st h with
    | none, none => ux_ret (P.2.2.2.2.2.2 i).2.1 ins st
    | _, _ => none
  | none => none
theorem ux_Gr {v : Option Value} (hs : ux_r1 P sc i pc ls st h = some v) : ux_G P sc d i pc ls st h (.inr v, h) := by
  refine ⟨1, ?_⟩
  unfold ux_r1 at hs
  split at hs
  · rename_i ins len hins
    split at hs
    · rename_i h1 h2
      unfold ux_run
      rw [hins]
      simp only [h1, h2, hs]
    · cases hs
  · cases hs
def ux_t1 (P : ux_P) (sc : List Int32) (i pc : Nat) (ls st : List Value) (h : ux_H) : Option Nat := match P.1 i pc with
  | some (ins, _) => match ux_sim ins pc ls st, ux_mem P sc i ins st h, ux_ret (P.2.2.2.2.2.2 i).2.1 ins st with
    | none, none, none => ux_thr P i pc ins st h
    | _, _, _ => none
  | none => none
theorem ux_Gt {k : Nat} (hs : ux_t1 P sc i pc ls st h = some k) : ux_G P sc d i pc ls st h (.inl k, (h.1, h.2.1 + 1, h.2.2.1 + 6, true)) := by
  refine ⟨1, ?_⟩
  unfold ux_t1 at hs
  split at hs
  · rename_i ins len hins
    split at hs
    · rename_i h1 h2 h3
      unfold ux_run
      rw [hins]
      simp only [h1, h2, h3, hs]
    · cases hs
  · cases hs
/-- a call: the callee, its arguments, what stays -/
def ux_c1 (P : ux_P) (sc : List Int32) (i pc : Nat) (ls st : List Value) (h : ux_H) : Option (Nat × List Value × List Value) := match P.1 i pc with
  | some (ins, _) => match ux_sim ins pc ls st, ux_mem P sc i ins st h, ux_ret (P.2.2.2.2.2.2 i).2.1 ins st, ux_thr P i pc ins st h with
    | none, none, none, none => match ux_cal P i ins st h with
      | some (j, as, r0) => if (r0.map fun v => v.category).sum ≤ 16 ∧ as.length ≤ (P.2.2.2.2.2.2 j).1 ∧ (P.2.2.2.2.2.2 j).1 ≤ 30 ∧ (as.all fun v => v.category == 1) then some (j, as, r0) else none
      | none => none
    | _, _, _, _ => none
  | none => none
theorem ux_c1_run {j : Nat} {as r0 : List Value} (hs : ux_c1 P sc i pc ls st h = some (j, as, r0)) (n d : Nat) : ux_run P sc (n + 1) (d + 1) i pc ls st h = (match ux_run P sc n d j 0 (as ++ List.replicate ((P.2.2.2.2.2.2 j).1 - as.length) .null) [] (h.1, h.2.1, h.2.2.1, false) with
                  | some (.inr v, h') => ux_run P sc n (d + 1) i (pc + 3) ls (v.toList ++ r0) (h'.1, h'.2.1, h'.2.2.1, h.2.2.2 || h'.2.2.2)
                  | some (.inl k, h') => (match ux_hnd (P.2.2.2.2.2.2 i).2.2 pc k with
                    | none => if (P.2.2.2.2.2.2 i).2.2 = [] then some (.inl k, (h'.1, h'.2.1, h'.2.2.1, true)) else none
                    | some t => (match (P.1 i t).bind fun x => ux_lay x.1 with
                      | some (q, len) => if q < ls.length then ux_run P sc n (d + 1) i (t + len) (ls.set q .null) [] (h'.1, h'.2.1, h'.2.2.1, true) else none
                      | none => none))
                  | none => none) := by
  unfold ux_c1 at hs
  split at hs
  · rename_i ins len hins
    split at hs
    · rename_i h1 h2 h3 h4
      split at hs
      · rename_i j' as' r' hcal
        split at hs
        · rename_i hcond
          cases hs
          rw [ux_run, hins]
          simp only [h1, h2, h3, h4, hcal]
          rw [if_pos hcond]
          rfl
        · cases hs
      · cases hs
    · cases hs
  · cases hs
theorem ux_Gc {j : Nat} {as r0 : List Value} {v : Option Value} {h' : ux_H} (hs : ux_c1 P sc i pc ls st h = some (j, as, r0)) (hc : ux_Y P sc d j as h (.inr v, h'))
    (k : ux_G P sc (d + 1) i (pc + 3) ls (v.toList ++ r0) (h'.1, h'.2.1, h'.2.2.1, h.2.2.2 || h'.2.2.2) r) : ux_G P sc (d + 1) i pc ls st h r := by
  obtain ⟨n1, h1⟩ := hc
  obtain ⟨n2, h2⟩ := k
  refine ⟨max n1 n2 + 1, ?_⟩
  rw [ux_c1_run hs, ux_run_up _ _ _ _ _ _ _ _ h1 (max n1 n2) d (by omega) (Nat.le_refl _)]
  exact ux_run_up _ _ _ _ _ _ _ _ h2 _ _ (by omega) (Nat.le_refl _)
/-- a call that throws on -/
theorem ux_Gx {j k : Nat} {as r0 : List Value} {h' : ux_H} (hs : ux_c1 P sc i pc ls st h = some (j, as, r0)) (hc : ux_Y P sc d j as h (.inl k, h')) (hn : (P.2.2.2.2.2.2 i).2.2 = []) : ux_G P sc (d + 1) i pc ls st h (.inl k, (h'.1, h'.2.1, h'.2.2.1, true)) := by
  obtain ⟨n1, h1⟩ := hc
  refine ⟨n1 + 1, ?_⟩
  rw [ux_c1_run hs, h1]
  simp only [hn, ux_hnd, if_pos]
/-- a call whose exception is caught -/
theorem ux_Gh {j k t q len : Nat} {as r0 : List Value} {h' : ux_H} (hs : ux_c1 P sc i pc ls st h = some (j, as, r0)) (hc : ux_Y P sc d j as h (.inl k, h')) (hn : ux_hnd (P.2.2.2.2.2.2 i).2.2 pc k = some t) (hl : (P.1 i t).bind (fun x => ux_lay x.1) = some (q, len)) (hq : q < ls.length)
    (kk : ux_G P sc (d + 1) i (t + len) (ls.set q .null) [] (h'.1, h'.2.1, h'.2.2.1, true) r) : ux_G P sc (d + 1) i pc ls st h r := by
  obtain ⟨n1, h1⟩ := hc
  obtain ⟨n2, h2⟩ := kk
  refine ⟨max n1 n2 + 1, ?_⟩
  rw [ux_c1_run hs, ux_run_up _ _ _ _ _ _ _ _ h1 (max n1 n2) d (by omega) (Nat.le_refl _)]
  simp only [hn, hl]
  rw [if_pos hq]
  exact ux_run_up _ _ _ _ _ _ _ _ h2 _ _ (by omega) (Nat.le_refl _)
/-- a branch -/
theorem ux_Gif {c : Prop} {_ : Decidable c} {a b' : Nat} (ka : c → ux_G P sc d i a ls st h r) (kb : ¬ c → ux_G P sc d i b' ls st h r) : ux_G P sc d i (if decide c = true then a else b') ls st h r := by
  by_cases hc : c
  · rw [if_pos (decide_eq_true hc)]; exact ka hc
  · rw [if_neg (by simpa using hc)]; exact kb hc
end UXG
end
section
/-! Rows for memory, goal first; a cell by what is known of it. -/
section UXH
variable {P : ux_P} {sc : List Int32} {d i pc : Nat} {ls st : List Value} {h : ux_H} {r : ux_O × ux_H}
theorem ux_cell_set {a a2 : Nat} {c c0 : ux_C} (h0 : ux_cell h a = some c0) : ux_cell (ux_set h a c) a2 = if a2 = a then some c else ux_cell h a2 := by
  obtain ⟨k, rfl, hk⟩ := ux_cell_some h0
  have hlt := (List.getElem?_eq_some_iff.mp hk).1
  cases a2 with
  | zero => simp [ux_cell]
  | succ k2 =>
    show (h.1.set k c)[k2]? = _
    by_cases e : k2 = k
    · subst e
      rw [List.getElem?_set_self hlt]
      simp
    · rw [List.getElem?_set_ne (Ne.symm e), if_neg (by omega)]
      rfl
theorem ux_cell_self {a : Nat} {c c0 : ux_C} (h0 : ux_cell h a = some c0) : ux_cell (ux_set h a c) a = some c := by rw [ux_cell_set h0, if_pos rfl]
theorem ux_cell_ne {a a2 : Nat} {c c0 : ux_C} (h0 : ux_cell h a = some c0) (hne : a2 ≠ a) : ux_cell (ux_set h a c) a2 = ux_cell h a2 := by rw [ux_cell_set h0, if_neg hne]
theorem ux_Gget {k ci j a : Nat} {q : Bool} {is : List Int32} {vs : List Value} {v : Value} (hi : P.1 i pc = some (.getfield k, 3)) (hf : P.2.1 i k = some (ci, j, q)) (hc : ux_cell h a = some (ci, is, vs)) (hv : vs[j]? = some v)
    (kk : ux_G P sc d i (pc + 3) ls (v :: st) h r) : ux_G P sc d i pc ls (.ref a :: st) h r := by
  refine ux_Gm (pc' := pc + 3) ?_ kk
  simp [ux_m1, hi, ux_sim, ux_mem, hf, ux_get, hc, hv]
theorem ux_Gput {k ci j a : Nat} {q : Bool} {is : List Int32} {vs : List Value} {v : Value} (hi : P.1 i pc = some (.putfield k, 3)) (hf : P.2.1 i k = some (ci, j, q)) (hc : ux_cell h a = some (ci, is, vs)) (hr : ux_isr v = some q) (hj : j < vs.length)
    (kk : ux_G P sc d i (pc + 3) ls st (ux_set h a (ci, is, vs.set j v)) r) : ux_G P sc d i pc ls (v :: .ref a :: st) h r := by
  refine ux_Gm (pc' := pc + 3) ?_ kk
  simp [ux_m1, hi, ux_sim, ux_mem, hf, ux_put, hc, hr, hj]
theorem ux_Gild {a : Nat} {j x : Int32} {is : List Int32} {vs : List Value} (hi : P.1 i pc = some (.iaload, 1)) (hc : ux_cell h a = some (100, is, vs)) (hj : ¬ j < 0) (hx : is[j.toNatClampNeg]? = some x)
    (kk : ux_G P sc d i (pc + 1) ls (.int x :: st) h r) : ux_G P sc d i pc ls (.int j :: .ref a :: st) h r := by
  obtain ⟨k, rfl, -⟩ := ux_cell_some hc
  refine ux_Gm (pc' := pc + 1) ?_ kk
  simp [ux_m1, hi, ux_sim, ux_mem, ux_ld, hc, hj, hx]
theorem ux_Gsld {j x : Int32} (hi : P.1 i pc = some (.iaload, 1)) (hj : ¬ j < 0) (hx : sc[j.toNatClampNeg]? = some x)
    (kk : ux_G P sc d i (pc + 1) ls (.int x :: st) h r) : ux_G P sc d i pc ls (.int j :: .ref 0 :: st) h r := by
  refine ux_Gm (pc' := pc + 1) ?_ kk
  simp [ux_m1, hi, ux_sim, ux_mem, ux_ld, hj, hx]
theorem ux_Gist {a : Nat} {j x : Int32} {is : List Int32} {vs : List Value} (hi : P.1 i pc = some (.iastore, 1)) (hc : ux_cell h a = some (100, is, vs)) (hj : ¬ j < 0) (hx : j.toNatClampNeg < is.length)
    (kk : ux_G P sc d i (pc + 1) ls st (ux_set h a (100, is.set j.toNatClampNeg x, vs)) r) : ux_G P sc d i pc ls (.int x :: .int j :: .ref a :: st) h r := by
  refine ux_Gm (pc' := pc + 1) ?_ kk
  simp [ux_m1, hi, ux_sim, ux_mem, ux_st, hc, hj, hx]
theorem ux_Gzld {a : Nat} {j x : Int32} {is : List Int32} {vs : List Value} (hi : P.1 i pc = some (.baload, 1)) (hc : ux_cell h a = some (101, is, vs)) (hj : ¬ j < 0) (hx : is[j.toNatClampNeg]? = some x)
    (kk : ux_G P sc d i (pc + 1) ls (.int x :: st) h r) : ux_G P sc d i pc ls (.int j :: .ref a :: st) h r := by
  obtain ⟨k, rfl, -⟩ := ux_cell_some hc
  refine ux_Gm (pc' := pc + 1) ?_ kk
  simp [ux_m1, hi, ux_sim, ux_mem, ux_ld, hc, hj, hx]
theorem ux_Gzst {a : Nat} {j x : Int32} {is : List Int32} {vs : List Value} (hi : P.1 i pc = some (.bastore, 1)) (hc : ux_cell h a = some (101, is, vs)) (hj : ¬ j < 0) (hx : j.toNatClampNeg < is.length) (h01 : x = 0 ∨ x = 1)
    (kk : ux_G P sc d i (pc + 1) ls st (ux_set h a (101, is.set j.toNatClampNeg x, vs)) r) : ux_G P sc d i pc ls (.int x :: .int j :: .ref a :: st) h r := by
  refine ux_Gm (pc' := pc + 1) ?_ kk
  simp [ux_m1, hi, ux_sim, ux_mem, ux_st, hc, hj, hx, h01]
theorem ux_Gald {a t : Nat} {j : Int32} {v : Value} {is : List Int32} {vs : List Value} (hi : P.1 i pc = some (.aaload, 1)) (hc : ux_cell h a = some (t, is, vs)) (ht : 102 < t) (hj : ¬ j < 0) (hx : vs[j.toNatClampNeg]? = some v)
    (kk : ux_G P sc d i (pc + 1) ls (v :: st) h r) : ux_G P sc d i pc ls (.int j :: .ref a :: st) h r := by
  refine ux_Gm (pc' := pc + 1) ?_ kk
  simp [ux_m1, hi, ux_sim, ux_mem, ux_ldv, hc, hj, hx, ht]
theorem ux_Gast {a t v ci : Nat} {j : Int32} {is is2 : List Int32} {vs vs2 : List Value} (hi : P.1 i pc = some (.aastore, 1)) (hc : ux_cell h a = some (t, is, vs)) (hv : ux_cell h v = some (ci, is2, vs2)) (ht : 102 < t) (hci : ci < 100) (hco : P.2.2.2.2.2.1 t = ci) (hj : ¬ j < 0) (hx : j.toNatClampNeg < vs.length)
    (kk : ux_G P sc d i (pc + 1) ls st (ux_set h a (t, is, vs.set j.toNatClampNeg (.ref v))) r) : ux_G P sc d i pc ls (.ref v :: .int j :: .ref a :: st) h r := by
  refine ux_Gm (pc' := pc + 1) ?_ kk
  simp [ux_m1, hi, ux_sim, ux_mem, ux_stv, hc, hj, hx, ht, hv, hco, hci]
theorem ux_Glld {a : Nat} {j : Int32} {v : Value} {is : List Int32} {vs : List Value} (hi : P.1 i pc = some (.laload, 1)) (hc : ux_cell h a = some (102, is, vs)) (hj : ¬ j < 0) (hx : vs[j.toNatClampNeg]? = some v)
    (kk : ux_G P sc d i (pc + 1) ls (v :: st) h r) : ux_G P sc d i pc ls (.int j :: .ref a :: st) h r := by
  refine ux_Gm (pc' := pc + 1) ?_ kk
  simp [ux_m1, hi, ux_sim, ux_mem, ux_ldv, hc, hj, hx]
theorem ux_Glst {a : Nat} {j : Int32} {x : Int64} {is : List Int32} {vs : List Value} (hi : P.1 i pc = some (.lastore, 1)) (hc : ux_cell h a = some (102, is, vs)) (hj : ¬ j < 0) (hx : j.toNatClampNeg < vs.length)
    (kk : ux_G P sc d i (pc + 1) ls st (ux_set h a (102, is, vs.set j.toNatClampNeg (.long x))) r) : ux_G P sc d i pc ls (.long x :: .int j :: .ref a :: st) h r := by
  refine ux_Gm (pc' := pc + 1) ?_ kk
  simp [ux_m1, hi, ux_sim, ux_mem, ux_stv, hc, hj, hx]
end UXH
end
