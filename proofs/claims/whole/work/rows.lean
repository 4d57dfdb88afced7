section
/-! ONE EVALUATOR for the class, the reference and the law: ux_run. A cell: its kind (a class's number; 100 and on: an array), its ints, its values; an address: 0 is the script, k+1 the k-th cell that was made. A heap: the cells, how many exceptions were made, how many slots, whether the frame on top has written. -/
abbrev ux_C : Type := Nat × List Int32 × List Value
abbrev ux_H : Type := List ux_C × Nat × Nat × Bool
abbrev ux_O : Type := Nat ⊕ Option Value
/-- tables: instructions; fields (class, number, is it a reference); calls (kind, callee, arguments); classes; a class's first values; an array's component; a method's locals, its answer (0 none, 1 an int, 2 a boolean, 3 a reference, 4 it is a constructor), its handlers -/
abbrev ux_P : Type := (Nat → Nat → Option (Instr × Nat)) × (Nat → Nat → Option (Nat × Nat × Bool)) × (Nat → Nat → Option (Nat × Nat × Nat)) × (Nat → Nat → Option Nat) × (Nat → List Value) × (Nat → Nat) × (Nat → Nat × Nat × List (Nat × Nat × Nat × Nat))
def ux_ad (b n0 k : Nat) : Nat := if k = 0 then b else n0 + (k - 1)
def ux_tr (b n0 : Nat) (v : Value) : Value := match v with
  | .ref k => .ref (ux_ad b n0 k)
  | v => v
def ux_ii (f : Int32 → Int32 → Int32) (pc : Nat) (ls st : List Value) : Option (Nat × List Value × List Value) := match st with
  | .int y :: .int x :: r => some (pc + 1, ls, .int (f x y) :: r)
  | _ => none
def ux_br (c : Bool) (off : Int) (pc : Nat) (ls st : List Value) : Option (Nat × List Value × List Value) :=
  if 0 ≤ (pc : Int) + off then some (if c then ((pc : Int) + off).toNat else pc + 3, ls, st) else none
def ux_i1 (q : Int32 → Bool) (off : Int) (pc : Nat) (ls st : List Value) : Option (Nat × List Value × List Value) := match st with
  | .int x :: r => ux_br (q x) off pc ls r
  | _ => none
def ux_i2 (q : Int32 → Int32 → Bool) (off : Int) (pc : Nat) (ls st : List Value) : Option (Nat × List Value × List Value) := match st with
  | .int y :: .int x :: r => ux_br (q x y) off pc ls r
  | _ => none
def ux_ldi (len i pc : Nat) (ls st : List Value) : Option (Nat × List Value × List Value) := match ls[i]? with
  | some (.int x) => some (pc + len, ls, .int x :: st)
  | _ => none
def ux_lda (len i pc : Nat) (ls st : List Value) : Option (Nat × List Value × List Value) := match ls[i]? with
  | some (.ref x) => some (pc + len, ls, .ref x :: st)
  | _ => none
def ux_sti (len i pc : Nat) (ls st : List Value) : Option (Nat × List Value × List Value) := match st with
  | .int x :: r => if i < ls.length then some (pc + len, ls.set i (.int x), r) else none
  | _ => none
def ux_sta (len i pc : Nat) (ls st : List Value) : Option (Nat × List Value × List Value) := match st with
  | .ref x :: r => if i < ls.length then some (pc + len, ls.set i (.ref x), r) else none
  | _ => none
def ux_inc (i : Nat) (n : Int) (pc : Nat) (ls st : List Value) : Option (Nat × List Value × List Value) := match ls[i]? with
  | some (.int x) => some (pc + 3, ls.set i (.int (x + Int32.ofInt n)), st)
  | _ => none
def ux_dup (pc : Nat) (ls st : List Value) : Option (Nat × List Value × List Value) := match st with
  | v :: r => if v.category = 1 then some (pc + 1, ls, v :: v :: r) else none
  | _ => none
def ux_pop (pc : Nat) (ls st : List Value) : Option (Nat × List Value × List Value) := match st with
  | v :: r => if v.category = 1 then some (pc + 1, ls, r) else none
  | _ => none
def ux_dup2 (pc : Nat) (ls st : List Value) : Option (Nat × List Value × List Value) := match st with
  | v :: w :: r => if v.category = 1 ∧ w.category = 1 then some (pc + 1, ls, v :: w :: v :: w :: r) else none
  | _ => none
def ux_dupx1 (pc : Nat) (ls st : List Value) : Option (Nat × List Value × List Value) := match st with
  | v :: w :: r => if v.category = 1 ∧ w.category = 1 then some (pc + 1, ls, v :: w :: v :: r) else none
  | _ => none
def ux_i2l (pc : Nat) (ls st : List Value) : Option (Nat × List Value × List Value) := match st with
  | .int x :: r => some (pc + 1, ls, .long x.toInt64 :: r)
  | _ => none
def ux_lcmp (pc : Nat) (ls st : List Value) : Option (Nat × List Value × List Value) := match st with
  | .long y :: .long x :: r => some (pc + 1, ls, .int (lg_cmp x y) :: r)
  | _ => none
def ux_go (off : Int) (pc : Nat) (ls st : List Value) : Option (Nat × List Value × List Value) :=
  if 0 ≤ (pc : Int) + off then some (((pc : Int) + off).toNat, ls, st) else none
def ux_tsw (dflt lo hi : Int) (offs : Array Int) (pc : Nat) (ls st : List Value) : Option (Nat × List Value × List Value) := match st with
  | .int x :: r => if x.toInt < lo ∨ hi < x.toInt then ux_go dflt pc ls r else (match offs[(x.toInt - lo).toNat]? with
      | some off => ux_go off pc ls r
      | none => none)
  | _ => none
def ux_lsw (dflt : Int) (ps : Array (Int × Int)) (pc : Nat) (ls st : List Value) : Option (Nat × List Value × List Value) := match st with
  | .int x :: r => if (ps.toList.zip (ps.toList.drop 1)).all (fun (a, next) => a.1 < next.1) = true then ux_go (Op.lookupswitch.offset ps.toList dflt x.toInt) pc ls r else none
  | _ => none
/-- instructions that touch the frame alone -/
def ux_sim (ins : Instr) (pc : Nat) (ls st : List Value) : Option (Nat × List Value × List Value) := match ins with
  | .iconst n => some (pc + 1, ls, .int (Int32.ofInt n) :: st)
  | .bipush n => some (pc + 2, ls, .int (Int8.ofInt n).toInt32 :: st)
  | .sipush n => some (pc + 3, ls, .int (Int16.ofInt n).toInt32 :: st)
  | .lconst n => some (pc + 1, ls, .long (Int64.ofNat (n : Nat)) :: st)
  | .iload i => ux_ldi 2 i pc ls st
  | .iload_n i => ux_ldi 1 i pc ls st
  | .aload i => ux_lda 2 i pc ls st
  | .aload_n i => ux_lda 1 i pc ls st
  | .istore i => ux_sti 2 i pc ls st
  | .istore_n i => ux_sti 1 i pc ls st
  | .astore i => ux_sta 2 i pc ls st
  | .astore_n i => ux_sta 1 i pc ls st
  | .iinc i n => ux_inc i n pc ls st
  | .iadd => ux_ii (fun x y => x + y) pc ls st
  | .isub => ux_ii (fun x y => x - y) pc ls st
  | .imul => ux_ii (fun x y => x * y) pc ls st
  | .iand => ux_ii (fun x y => x &&& y) pc ls st
  | .ior => ux_ii (fun x y => x ||| y) pc ls st
  | .ishl => ux_ii (fun x y => x <<< (y &&& 31)) pc ls st
  | .ishr => ux_ii (fun x y => x >>> (y &&& 31)) pc ls st
  | .i2l => ux_i2l pc ls st
  | .lcmp => ux_lcmp pc ls st
  | .dup => ux_dup pc ls st
  | .dup2 => ux_dup2 pc ls st
  | .dup_x1 => ux_dupx1 pc ls st
  | .pop => ux_pop pc ls st
  | .ifCond .eq off => ux_i1 (fun x => decide (x = 0)) off pc ls st
  | .ifCond .ne off => ux_i1 (fun x => decide (¬ x = 0)) off pc ls st
  | .ifCond .lt off => ux_i1 (fun x => decide (x < 0)) off pc ls st
  | .ifCond .ge off => ux_i1 (fun x => decide (0 ≤ x)) off pc ls st
  | .ifCond .gt off => ux_i1 (fun x => decide (0 < x)) off pc ls st
  | .ifCond .le off => ux_i1 (fun x => decide (x ≤ 0)) off pc ls st
  | .if_icmp .eq off => ux_i2 (fun x y => decide (x = y)) off pc ls st
  | .if_icmp .ne off => ux_i2 (fun x y => decide (¬ x = y)) off pc ls st
  | .if_icmp .lt off => ux_i2 (fun x y => decide (x < y)) off pc ls st
  | .if_icmp .ge off => ux_i2 (fun x y => decide (y ≤ x)) off pc ls st
  | .if_icmp .gt off => ux_i2 (fun x y => decide (y < x)) off pc ls st
  | .if_icmp .le off => ux_i2 (fun x y => decide (x ≤ y)) off pc ls st
  | .goto off => ux_go off pc ls st
  | .tableswitch dflt lo hi offs => ux_tsw dflt lo hi offs pc ls st
  | .lookupswitch dflt ps => ux_lsw dflt ps pc ls st
  | _ => none
/-- an instruction's length -/
def ux_lok (ins : Instr) (len : Nat) : Bool := match ins with
  | .tableswitch _ _ _ _ => true
  | .lookupswitch _ _ => true
  | .bipush _ => len == 2
  | .sipush _ => len == 3
  | .iload _ => len == 2
  | .aload _ => len == 2
  | .istore _ => len == 2
  | .astore _ => len == 2
  | .iinc _ _ => len == 3
  | .ifCond _ _ => len == 3
  | .if_icmp _ _ => len == 3
  | .goto _ => len == 3
  | .getfield _ => len == 3
  | .putfield _ => len == 3
  | .new _ => len == 3
  | .newarray _ => len == 2
  | .anewarray _ => len == 3
  | .invokevirtual _ => len == 3
  | .invokespecial _ => len == 3
  | .invokestatic _ => len == 3
  | _ => len == 1
/-! memory -/
def ux_cell (h : ux_H) (a : Nat) : Option ux_C := match a with
  | 0 => none
  | k + 1 => h.1[k]?
def ux_set (h : ux_H) (a : Nat) (c : ux_C) : ux_H := (h.1.set (a - 1) c, h.2.1, h.2.2.1, true)
def ux_get (h : ux_H) (a ci j : Nat) : Option Value := match ux_cell h a with
  | some (t, _, vs) => if t = ci then vs[j]? else none
  | none => none
def ux_put (h : ux_H) (a ci j : Nat) (v : Value) : Option ux_H := match ux_cell h a with
  | some (t, is, vs) => if t = ci ∧ j < vs.length then some (ux_set h a (t, is, vs.set j v)) else none
  | none => none
/-- an array of ints (100) or booleans (101) -/
def ux_ld (t : Nat) (sc : List Int32) (h : ux_H) (a : Nat) (j : Int32) : Option Int32 :=
  if j < 0 then none else match a with
  | 0 => if t = 100 then sc[j.toNatClampNeg]? else none
  | _ + 1 => match ux_cell h a with
    | some (t', is, _) => if t' = t then is[j.toNatClampNeg]? else none
    | none => none
def ux_st (t : Nat) (h : ux_H) (a : Nat) (j x : Int32) : Option ux_H :=
  if j < 0 then none else match ux_cell h a with
    | some (t', is, vs) => if t' = t ∧ j.toNatClampNeg < is.length then some (ux_set h a (t', is.set j.toNatClampNeg x, vs)) else none
    | none => none
/-- an array of longs (102) or of references (103 and on) -/
def ux_ldv (h : ux_H) (a : Nat) (j : Int32) : Option (Nat × Value) :=
  if j < 0 then none else match ux_cell h a with
    | some (t, _, vs) => (vs[j.toNatClampNeg]?).map fun v => (t, v)
    | none => none
def ux_stv (h : ux_H) (a : Nat) (j : Int32) (v : Value) : Option (Nat × ux_H) :=
  if j < 0 then none else match ux_cell h a with
    | some (t, is, vs) => if j.toNatClampNeg < vs.length then some (t, ux_set h a (t, is, vs.set j.toNatClampNeg v)) else none
    | none => none
def ux_len (sc : List Int32) (h : ux_H) (a : Nat) : Option Nat := match a with
  | 0 => some sc.length
  | _ + 1 => match ux_cell h a with
    | some (t, is, vs) => if t < 100 then none else if t < 102 then some is.length else some vs.length
    | none => none
def ux_new (h : ux_H) (c : ux_C) (n : Nat) : ux_H := (h.1 ++ [c], h.2.1, h.2.2.1 + n, true)
def ux_isr (v : Value) : Option Bool := match v with
  | .int _ => some false
  | .ref _ => some true
  | _ => none
/-- instructions that touch memory; and the library's three methods -/
def ux_mem (P : ux_P) (sc : List Int32) (i : Nat) (ins : Instr) (st : List Value) (h : ux_H) : Option (Nat × List Value × ux_H) := match ins with
  | .getfield k => (match P.2.1 i k, st with
    | some (ci, j, _), .ref a :: r => (ux_get h a ci j).map fun v => (3, v :: r, h)
    | _, _ => none)
  | .putfield k => (match P.2.1 i k, st with
    | some (ci, j, q), v :: .ref a :: r => if ux_isr v = some q ∧ (P.2.2.2.1 i (200000 + k) = some 2000 ∨ (P.2.2.2.1 i (200000 + k) = some 2001 ∧ (P.2.2.2.2.2.2 i).2.1 = 4)) then (ux_put h a ci j v).map fun h' => (3, r, h') else none
    | _, _ => none)
  | .iaload => (match st with
    | .int j :: .ref a :: r => (ux_ld 100 sc h a j).map fun x => (1, .int x :: r, h)
    | _ => none)
  | .baload => (match st with
    | .int j :: .ref a :: r => (ux_ld 101 sc h a j).map fun x => (1, .int x :: r, h)
    | _ => none)
  | .laload => (match st with
    | .int j :: .ref a :: r => (match ux_ldv h a j with
      | some (102, v) => some (1, v :: r, h)
      | _ => none)
    | _ => none)
  | .aaload => (match st with
    | .int j :: .ref a :: r => (match ux_ldv h a j with
      | some (t, v) => if 102 < t then some (1, v :: r, h) else none
      | _ => none)
    | _ => none)
  | .iastore => (match st with
    | .int x :: .int j :: .ref a :: r => (ux_st 100 h a j x).map fun h' => (1, r, h')
    | _ => none)
  | .bastore => (match st with
    | .int x :: .int j :: .ref a :: r => if x = 0 ∨ x = 1 then (ux_st 101 h a j x).map fun h' => (1, r, h') else none
    | _ => none)
  | .lastore => (match st with
    | .long x :: .int j :: .ref a :: r => (match ux_stv h a j (.long x) with
      | some (102, h') => some (1, r, h')
      | _ => none)
    | _ => none)
  | .aastore => (match st with
    | .ref v :: .int j :: .ref a :: r => (match ux_stv h a j (.ref v), ux_cell h v with
      | some (t, h'), some (ci, _, _) => if 102 < t ∧ ci < 100 ∧ P.2.2.2.2.2.1 t = ci then some (1, r, h') else none
      | _, _ => none)
    | _ => none)
  | .arraylength => (match st with
    | .ref a :: r => (ux_len sc h a).map fun n => (1, .int (Int32.ofNat n) :: r, h)
    | _ => none)
  | .new k => (match P.2.2.2.1 i k with
    | some ci => if ci < 100 ∧ h.2.1 = 0 then some (3, .ref (h.1.length + 1) :: st, ux_new h (ci, [], P.2.2.2.2.1 ci) (P.2.2.2.2.1 ci).length) else none
    | none => none)
  | .newarray t => (match t, st with
    | .int, .int n :: r => if ¬ n < 0 ∧ n.toNatClampNeg ≤ 100000 ∧ h.2.1 = 0 then some (2, .ref (h.1.length + 1) :: r, ux_new h (100, List.replicate n.toNatClampNeg 0, []) n.toNatClampNeg) else none
    | .boolean, .int n :: r => if ¬ n < 0 ∧ n.toNatClampNeg ≤ 100000 ∧ h.2.1 = 0 then some (2, .ref (h.1.length + 1) :: r, ux_new h (101, List.replicate n.toNatClampNeg 0, []) n.toNatClampNeg) else none
    | .long, .int n :: r => if ¬ n < 0 ∧ n.toNatClampNeg ≤ 100000 ∧ h.2.1 = 0 then some (2, .ref (h.1.length + 1) :: r, ux_new h (102, [], List.replicate n.toNatClampNeg (.long 0)) n.toNatClampNeg) else none
    | _, _ => none)
  | .anewarray k => (match P.2.2.2.1 i (100000 + k), st with
    | some t, .int n :: r => if 102 < t ∧ t < 1000 ∧ ¬ n < 0 ∧ n.toNatClampNeg ≤ 100000 ∧ h.2.1 = 0 then some (3, .ref (h.1.length + 1) :: r, ux_new h (t, [], List.replicate n.toNatClampNeg .null) n.toNatClampNeg) else none
    | _, _ => none)
  | .invokespecial k => (match P.2.2.1 i k, st with
    | some (6, _, _), .ref _ :: r => if (r.map fun v => v.category).sum ≤ 16 then some (3, r, h) else none
    | _, _ => none)
  | .invokestatic k => (match P.2.2.1 i k, st with
    | some (7, _, _), .int y :: .int x :: r => if (r.map fun v => v.category).sum ≤ 16 then some (3, .int (if x < y then y else x) :: r, h) else none
    | some (8, _, _), .int y :: .int x :: r => if (r.map fun v => v.category).sum ≤ 16 then some (3, .int (if y < x then y else x) :: r, h) else none
    | _, _ => none)
  | _ => none
/-- the end of a method -/
def ux_ret (rk : Nat) (ins : Instr) (st : List Value) : Option (Option Value) := match ins with
  | .ireturn => (match st with
    | [.int x] => if rk = 1 ∨ (rk = 2 ∧ (x = 0 ∨ x = 1)) then some (some (.int x)) else none
    | _ => none)
  | .areturn => (match st with
    | [.ref x] => if rk = 3 then some (some (.ref x)) else none
    | _ => none)
  | .return_ => (match st with
    | [] => if rk = 0 ∨ rk = 4 then some none else none
    | _ => none)
  | _ => none
/-- 'throw new X()' -/
def ux_thr (P : ux_P) (i pc : Nat) (ins : Instr) (st : List Value) (h : ux_H) : Option Nat := match ins with
  | .new k => (match P.2.2.2.1 i k, P.1 i (pc + 3), P.1 i (pc + 4), P.1 i (pc + 7) with
    | some q, some (.dup, 1), some (.invokespecial k2, 3), some (.athrow, 1) => if 1000 ≤ q ∧ P.2.2.1 i k2 = some (9, q, 0) ∧ st = [] ∧ h.2.2.2 = false ∧ (P.2.2.2.2.2.2 i).2.2 = [] then some (q - 1000) else none
    | _, _, _, _ => none)
  | _ => none
/-- a call: the callee, its arguments, what stays on the stack -/
def ux_cal (P : ux_P) (i : Nat) (ins : Instr) (st : List Value) (h : ux_H) : Option (Nat × List Value × List Value) := match ins with
  | .invokestatic k => (match P.2.2.1 i k with
    | some (q, j, n) => if q < 2 ∧ n ≤ st.length then some (j, (st.take n).reverse, st.drop n) else none
    | none => none)
  | .invokevirtual k => (match P.2.2.1 i k with
    | some (q, j, n) => (match st.drop n with
      | .ref a :: r => (match ux_cell h a with
        | some (ci, _, _) => if q = 100 + ci ∧ ci < 100 then some (j, .ref a :: (st.take n).reverse, r) else none
        | none => none)
      | _ => none)
    | none => none)
  | .invokespecial k => (match P.2.2.1 i k with
    | some (q, j, n) => (match st.drop n with
      | .ref a :: r => if q = 4 ∨ q = 5 then some (j, .ref a :: (st.take n).reverse, r) else none
      | _ => none)
    | none => none)
  | _ => none
/-- where an exception of this kind is caught: not at all; at a place -/
def ux_hnd (hs : List (Nat × Nat × Nat × Nat)) (pc k : Nat) : Option Nat := match hs with
  | [] => none
  | (a, b, t, q) :: r => if a ≤ pc ∧ pc < b ∧ q = k then some t else ux_hnd r pc k
/-- the handler's first instruction: it lays the exception by -/
def ux_lay (ins : Instr) : Option (Nat × Nat) := match ins with
  | .astore i => some (i, 2)
  | .astore_n i => some (i, 1)
  | _ => none
def ux_run (P : ux_P) (sc : List Int32) : Nat → Nat → Nat → Nat → List Value → List Value → ux_H → Option (ux_O × ux_H)
  | 0, _, _, _, _, _, _ => none
  | n + 1, d, i, pc, ls, st, h => match P.1 i pc with
    | none => none
    | some (ins, _) => match ux_sim ins pc ls st with
      | some (pc', ls', st') => ux_run P sc n d i pc' ls' st' h
      | none => match ux_mem P sc i ins st h with
        | some (len, st', h') => ux_run P sc n d i (pc + len) ls st' h'
        | none => match ux_ret (P.2.2.2.2.2.2 i).2.1 ins st with
          | some v => some (.inr v, h)
          | none => match ux_thr P i pc ins st h with
            | some k => some (.inl k, (h.1, h.2.1 + 1, h.2.2.1 + 6, true))
            | none => match ux_cal P i ins st h, d with
              | some (j, as, r), d' + 1 => if (r.map fun v => v.category).sum ≤ 16 ∧ as.length ≤ (P.2.2.2.2.2.2 j).1 ∧ (P.2.2.2.2.2.2 j).1 ≤ 30 ∧ (as.all fun v => v.category == 1) then
                  match ux_run P sc n d' j 0 (as ++ List.replicate ((P.2.2.2.2.2.2 j).1 - as.length) .null) [] (h.1, h.2.1, h.2.2.1, false) with
                  | some (.inr v, h') => ux_run P sc n (d' + 1) i (pc + 3) ls (v.toList ++ r) (h'.1, h'.2.1, h'.2.2.1, h.2.2.2 || h'.2.2.2)
                  | some (.inl k, h') => (match ux_hnd (P.2.2.2.2.2.2 i).2.2 pc k with
                    | none => if (P.2.2.2.2.2.2 i).2.2 = [] then some (.inl k, (h'.1, h'.2.1, h'.2.2.1, true)) else none
                    | some t => (match (P.1 i t).bind fun x => ux_lay x.1 with
                      | some (q, len) => if q < ls.length then ux_run P sc n (d' + 1) i (t + len) (ls.set q .null) [] (h'.1, h'.2.1, h'.2.2.1, true) else none
                      | none => none))
                  | none => none
                else none
              | _, _ => none
end
section
/-! The frame: the evaluator's locals and stack beside the machine's. -/
theorem ux_cat (b n0 : Nat) (v : Value) : (ux_tr b n0 v).category = v.category := by cases v <;> rfl
def ux_pr (b n0 : Nat) : Nat → List Value → List (Nat × Value)
  | _, [] => []
  | i, v :: r => if v = .null then ux_pr b n0 (i + 1) r else (i, ux_tr b n0 v) :: ux_pr b n0 (i + 1) r
theorem ux_pr_in {b n0 : Nat} : ∀ (ls : List Value) (i : Nat) (q : Nat × Value), q ∈ ux_pr b n0 i ls ↔ ∃ (j : Nat) (v : Value), ls[j]? = some v ∧ v ≠ .null ∧ q = (i + j, ux_tr b n0 v) := by
  intro ls
  induction ls with
  | nil => intro i q; simp [ux_pr]
  | cons w r ih =>
    intro i q
    unfold ux_pr
    constructor
    · intro h
      split at h
      · obtain ⟨j, v, h1, h2, h3⟩ := (ih (i + 1) q).mp h
        exact ⟨j + 1, v, by simpa using h1, h2, by rw [h3, show i + 1 + j = i + (j + 1) by omega]⟩
      · rename_i hw
        rcases List.mem_cons.mp h with h | h
        · exact ⟨0, w, rfl, hw, h⟩
        · obtain ⟨j, v, h1, h2, h3⟩ := (ih (i + 1) q).mp h
          exact ⟨j + 1, v, by simpa using h1, h2, by rw [h3, show i + 1 + j = i + (j + 1) by omega]⟩
    · rintro ⟨j, v, h1, h2, rfl⟩
      cases j with
      | zero =>
        have h3 : w = v := by simpa using h1
        subst h3
        rw [if_neg h2]
        exact List.mem_cons_self
      | succ j =>
        have h3 : (i + (j + 1), ux_tr b n0 v) ∈ ux_pr b n0 (i + 1) r := (ih (i + 1) _).mpr ⟨j, v, by simpa using h1, h2, by rw [show i + 1 + j = i + (j + 1) by omega]⟩
        split
        · exact h3
        · exact List.mem_cons_of_mem _ h3
def ux_L (b n0 nL : Nat) (ls : List Value) (lsR : Array Slot) : Prop := ls.length = nL ∧ (∀ v ∈ ls, v.category = 1) ∧ lv_has lsR nL (ux_pr b n0 0 ls)
theorem ux_L.val {b n0 nL : Nat} {ls : List Value} {lsR : Array Slot} (h : ux_L b n0 nL ls lsR) {i : Nat} {v : Value} (hi : ls[i]? = some v) (hv : v ≠ .null) : lsR[i]? = some (.val (ux_tr b n0 v)) := by
  have h1 := h.2.2.2.2 (0 + i, ux_tr b n0 v) ((ux_pr_in ls 0 _).mpr ⟨i, v, hi, hv, rfl⟩)
  simpa using h1
theorem ux_L.lt {b n0 nL : Nat} {ls : List Value} {lsR : Array Slot} (h : ux_L b n0 nL ls lsR) {i : Nat} (hi : i < ls.length) : i < nL := by rw [← h.1]; exact hi
theorem ux_L.put {b n0 nL : Nat} {ls : List Value} {lsR lsR' : Array Slot} (h : ux_L b n0 nL ls lsR) {i : Nat} {v w : Value} (hc : v.category = 1) (hvw : v ≠ .null → w = ux_tr b n0 v)
    (h' : lv_has lsR' nL ((i, w) :: (ux_pr b n0 0 ls).filter (fun q => !(q.1 == i) && !(q.1 + 1 == i && q.2.category == 2)))) : ux_L b n0 nL (ls.set i v) lsR' := by
  refine ⟨by rw [List.length_set]; exact h.1, fun x hx => ?_, h'.1, h'.2.1, fun q hq => ?_⟩
  · rcases List.mem_or_eq_of_mem_set hx with h1 | h1
    · exact h.2.1 x h1
    · rw [h1]; exact hc
  · obtain ⟨j, x, h1, h2, rfl⟩ := (ux_pr_in _ 0 q).mp hq
    by_cases hj : j = i
    · subst hj
      have hlt : j < ls.length := by
        have := (List.getElem?_eq_some_iff.mp h1).1
        simpa using this
      rw [List.getElem?_set_self hlt] at h1
      cases h1
      have h3 := h'.2.2 (j, w) List.mem_cons_self
      rw [hvw h2] at h3
      simpa using h3
    · rw [List.getElem?_set_ne (Ne.symm hj)] at h1
      refine h'.2.2 (0 + j, ux_tr b n0 x) (List.mem_cons_of_mem _ (List.mem_filter.mpr ⟨(ux_pr_in ls 0 _).mpr ⟨j, x, h1, h2, rfl⟩, ?_⟩))
      have hc2 : x.category = 1 := h.2.1 x (List.mem_of_getElem? h1)
      simp [ux_cat, hc2, hj]
theorem ux_args_in (vs : List Value) (hc : ∀ v ∈ vs, v.category = 1) : ∀ (i j : Nat) (v : Value), vs[j]? = some v → (i + j, v) ∈ lv_args i vs := by
  induction vs with
  | nil => intro i j v h; simp at h
  | cons w r ih =>
    intro i j v h
    have hw : ¬ w.category = 2 := by rw [hc w List.mem_cons_self]; decide
    unfold lv_args
    rw [if_neg hw]
    cases j with
    | zero =>
      have h3 : w = v := by simpa using h
      subst h3
      exact List.mem_cons_self
    | succ j =>
      have := ih (fun x hx => hc x (List.mem_cons_of_mem _ hx)) (i + 1) j v (by simpa using h)
      rw [show i + 1 + j = i + (j + 1) by omega] at this
      exact List.mem_cons_of_mem _ this
theorem ux_sl (vs : List Value) (hc : ∀ v ∈ vs, v.category = 1) : (lg_sl vs).length = vs.length := by
  induction vs with
  | nil => rfl
  | cons w r ih =>
    have hw : ¬ w.category = 2 := by rw [hc w List.mem_cons_self]; decide
    have e : lg_sl (w :: r) = [.val w] ++ lg_sl r := by simp [lg_sl, hw]
    rw [e, List.length_append, ih (fun x hx => hc x (List.mem_cons_of_mem _ hx))]
    simp; omega
theorem ux_entry (b n0 : Nat) (m : MethodId) (vs : List Value) (n : Nat) (hc : ∀ v ∈ vs, v.category = 1) (hn : vs.length ≤ n) : ∃ lsR, ux_L b n0 n (vs ++ List.replicate (n - vs.length) .null) lsR ∧ entryFrame m (vs.map (ux_tr b n0)).toArray n = F0 m 0 lsR [] := by
  have hc' : ∀ v ∈ vs.map (ux_tr b n0), v.category = 1 := by
    intro v hv
    obtain ⟨w, hw, rfl⟩ := List.mem_map.mp hv
    rw [ux_cat]; exact hc w hw
  have hl : (lg_sl (vs.map (ux_tr b n0))).length ≤ n := by rw [ux_sl _ hc', List.length_map]; exact hn
  have h := lv_entry (vs.map (ux_tr b n0)) hl
  refine ⟨_, ⟨by simp; omega, fun v hv => ?_, h.1, h.2.1, fun q hq => ?_⟩, lg_entry_eq m _ n⟩
  · rcases List.mem_append.mp hv with h1 | h1
    · exact hc v h1
    · rw [(List.mem_replicate.mp h1).2]; rfl
  · obtain ⟨j, v, h1, h2, rfl⟩ := (ux_pr_in _ 0 q).mp hq
    have hj : vs[j]? = some v := by
      by_cases hlt : j < vs.length
      · rwa [List.getElem?_append_left hlt] at h1
      · rw [List.getElem?_append_right (by omega)] at h1
        exact absurd (List.mem_replicate.mp (List.mem_of_getElem? h1)).2 h2
    have := h.2.2 (0 + j, ux_tr b n0 v) (ux_args_in _ hc' 0 j _ (by rw [List.getElem?_map, hj]; rfl))
    exact this
/-- the machine at the evaluator's frame -/
def ux_V (p : Program) (l : Launch) (e : Env) (R : Room) (s : State) (m : MethodId) (args : Array Value) (below : List Frame) (meth : Method) (c : Code) (H : Heap) (locs : List Loc) (cells slots : Nat) (Q : State → Prop) (b n0 nL pc : Nat) (ls st : List Value) : Prop :=
  ∀ lsR : Array Slot, ux_L b n0 nL ls lsR → W p l e R s m args below meth c H locs cells slots Q (F0 m pc lsR (st.map (ux_tr b n0)))
section UXS
variable {p : Program} {l : Launch} {e : Env} {R : Room} {s : State} {m : MethodId} {args : Array Value} {below : List Frame} {meth : Method} {c : Code} {H : Heap} {locs : List Loc} {cells slots : Nat} {Q : State → Prop} {cc : ByteArray} {b n0 nL pc : Nat} {ls st ls' st' : List Value} {pc' : Nat}
theorem ux_iiW {f : Int32 → Int32 → Int32} (row : ∀ (x y : Int32) (lsR : Array Slot) (rest : List Value), W p l e R s m args below meth c H locs cells slots Q (F0 m (pc + 1) lsR (.int (f x y) :: rest)) → W p l e R s m args below meth c H locs cells slots Q (F0 m pc lsR (.int y :: .int x :: rest)))
    (h : ux_ii f pc ls st = some (pc', ls', st')) (k : ux_V p l e R s m args below meth c H locs cells slots Q b n0 nL pc' ls' st') : ux_V p l e R s m args below meth c H locs cells slots Q b n0 nL pc ls st := by
  unfold ux_ii at h
  split at h
  · cases h
    intro lsR hL
    exact row _ _ _ _ (k lsR hL)
  · cases h
theorem ux_brW {q : Bool} {off : Int} {lsR : Array Slot} {r : List Value} (hL : ux_L b n0 nL ls lsR)
    (h : ux_br q off pc ls r = some (pc', ls', st')) (k : ux_V p l e R s m args below meth c H locs cells slots Q b n0 nL pc' ls' st') :
    ∃ tgt : Nat, (pc : Int) + off = (tgt : Int) ∧ (q = true → W p l e R s m args below meth c H locs cells slots Q (F0 m tgt lsR (r.map (ux_tr b n0)))) ∧ (q = false → W p l e R s m args below meth c H locs cells slots Q (F0 m (pc + 3) lsR (r.map (ux_tr b n0)))) := by
  unfold ux_br at h
  split at h
  · rename_i h0
    cases h
    have hk := k lsR hL
    refine ⟨((pc : Int) + off).toNat, (Int.toNat_of_nonneg h0).symm, fun hq => ?_, fun hq => ?_⟩
    · rw [if_pos hq] at hk; exact hk
    · rw [if_neg (by rw [hq]; decide)] at hk; exact hk
  · cases h
theorem ux_i1W {q : Int32 → Bool} {off : Int} (row : ∀ (x : Int32) (lsR : Array Slot) (rest : List Value) (tgt : Nat), (pc : Int) + off = (tgt : Int) → (q x = true → W p l e R s m args below meth c H locs cells slots Q (F0 m tgt lsR rest)) → (q x = false → W p l e R s m args below meth c H locs cells slots Q (F0 m (pc + 3) lsR rest)) → W p l e R s m args below meth c H locs cells slots Q (F0 m pc lsR (.int x :: rest)))
    (h : ux_i1 q off pc ls st = some (pc', ls', st')) (k : ux_V p l e R s m args below meth c H locs cells slots Q b n0 nL pc' ls' st') : ux_V p l e R s m args below meth c H locs cells slots Q b n0 nL pc ls st := by
  unfold ux_i1 at h
  split at h
  · intro lsR hL
    obtain ⟨tgt, h1, h2, h3⟩ := ux_brW hL h k
    exact row _ _ _ tgt h1 h2 h3
  · cases h
theorem ux_i2W {q : Int32 → Int32 → Bool} {off : Int} (row : ∀ (x y : Int32) (lsR : Array Slot) (rest : List Value) (tgt : Nat), (pc : Int) + off = (tgt : Int) → (q x y = true → W p l e R s m args below meth c H locs cells slots Q (F0 m tgt lsR rest)) → (q x y = false → W p l e R s m args below meth c H locs cells slots Q (F0 m (pc + 3) lsR rest)) → W p l e R s m args below meth c H locs cells slots Q (F0 m pc lsR (.int y :: .int x :: rest)))
    (h : ux_i2 q off pc ls st = some (pc', ls', st')) (k : ux_V p l e R s m args below meth c H locs cells slots Q b n0 nL pc' ls' st') : ux_V p l e R s m args below meth c H locs cells slots Q b n0 nL pc ls st := by
  unfold ux_i2 at h
  split at h
  · intro lsR hL
    obtain ⟨tgt, h1, h2, h3⟩ := ux_brW hL h k
    exact row _ _ _ _ tgt h1 h2 h3
  · cases h
theorem ux_goW {off : Int} {r : List Value} {lsR : Array Slot} (hL : ux_L b n0 nL ls lsR) (h : ux_go off pc ls r = some (pc', ls', st')) (k : ux_V p l e R s m args below meth c H locs cells slots Q b n0 nL pc' ls' st') :
    ∃ tgt : Nat, (pc : Int) + off = (tgt : Int) ∧ W p l e R s m args below meth c H locs cells slots Q (F0 m tgt lsR (r.map (ux_tr b n0))) := by
  unfold ux_go at h
  split at h
  · rename_i h0
    cases h
    exact ⟨_, (Int.toNat_of_nonneg h0).symm, k lsR hL⟩
  · cases h
theorem ux_ldiW {len i : Nat} (row : ∀ (x : Int32) (lsR : Array Slot) (rest : List Value), lsR[i]? = some (.val (.int x)) → W p l e R s m args below meth c H locs cells slots Q (F0 m (pc + len) lsR (.int x :: rest)) → W p l e R s m args below meth c H locs cells slots Q (F0 m pc lsR rest))
    (h : ux_ldi len i pc ls st = some (pc', ls', st')) (k : ux_V p l e R s m args below meth c H locs cells slots Q b n0 nL pc' ls' st') : ux_V p l e R s m args below meth c H locs cells slots Q b n0 nL pc ls st := by
  unfold ux_ldi at h
  split at h
  · rename_i x hx
    cases h
    intro lsR hL
    exact row x lsR _ (hL.val hx (fun q => by cases q)) (k lsR hL)
  · cases h
theorem ux_ldaW {len i : Nat} (row : ∀ (x : Nat) (lsR : Array Slot) (rest : List Value), lsR[i]? = some (.val (.ref x)) → W p l e R s m args below meth c H locs cells slots Q (F0 m (pc + len) lsR (.ref x :: rest)) → W p l e R s m args below meth c H locs cells slots Q (F0 m pc lsR rest))
    (h : ux_lda len i pc ls st = some (pc', ls', st')) (k : ux_V p l e R s m args below meth c H locs cells slots Q b n0 nL pc' ls' st') : ux_V p l e R s m args below meth c H locs cells slots Q b n0 nL pc ls st := by
  unfold ux_lda at h
  split at h
  · rename_i x hx
    cases h
    intro lsR hL
    exact row (ux_ad b n0 x) lsR _ (hL.val hx (fun q => by cases q)) (k lsR hL)
  · cases h
theorem ux_stiW {len i : Nat} (row : ∀ (x : Int32) (lsR : Array Slot) (rest : List Value) (lv : List (Nat × Value)), lv_has lsR nL lv → i < nL → (∀ ls' : Array Slot, lv_has ls' nL ((i, Value.int x) :: lv.filter (fun q => !(q.1 == i) && !(q.1 + 1 == i && q.2.category == 2))) → W p l e R s m args below meth c H locs cells slots Q (F0 m (pc + len) ls' rest)) → W p l e R s m args below meth c H locs cells slots Q (F0 m pc lsR (.int x :: rest)))
    (h : ux_sti len i pc ls st = some (pc', ls', st')) (k : ux_V p l e R s m args below meth c H locs cells slots Q b n0 nL pc' ls' st') : ux_V p l e R s m args below meth c H locs cells slots Q b n0 nL pc ls st := by
  unfold ux_sti at h
  split at h
  · split at h
    · rename_i hi
      cases h
      intro lsR hL
      exact row _ lsR _ _ hL.2.2 (hL.lt hi) fun lsR' h' => k lsR' (hL.put rfl (fun _ => rfl) h')
    · cases h
  · cases h
theorem ux_staW {len i : Nat} (row : ∀ (x : Nat) (lsR : Array Slot) (rest : List Value) (lv : List (Nat × Value)), lv_has lsR nL lv → i < nL → (∀ ls' : Array Slot, lv_has ls' nL ((i, Value.ref x) :: lv.filter (fun q => !(q.1 == i) && !(q.1 + 1 == i && q.2.category == 2))) → W p l e R s m args below meth c H locs cells slots Q (F0 m (pc + len) ls' rest)) → W p l e R s m args below meth c H locs cells slots Q (F0 m pc lsR (.ref x :: rest)))
    (h : ux_sta len i pc ls st = some (pc', ls', st')) (k : ux_V p l e R s m args below meth c H locs cells slots Q b n0 nL pc' ls' st') : ux_V p l e R s m args below meth c H locs cells slots Q b n0 nL pc ls st := by
  unfold ux_sta at h
  split at h
  · split at h
    · rename_i hi
      cases h
      intro lsR hL
      exact row _ lsR _ _ hL.2.2 (hL.lt hi) fun lsR' h' => k lsR' (hL.put rfl (fun _ => rfl) h')
    · cases h
  · cases h
set_option maxHeartbeats 4000000 in
theorem ux_simW (hx : p.tables.exec = Jvm.exec) (hb : c.code = cc) {ins : Instr} {len : Nat} (hd : decode cc pc = .ok (ins, len)) (hl : ux_lok ins len = true) (h : ux_sim ins pc ls st = some (pc', ls', st'))
    (k : ux_V p l e R s m args below meth c H locs cells slots Q b n0 nL pc' ls' st') : ux_V p l e R s m args below meth c H locs cells slots Q b n0 nL pc ls st := by
  unfold ux_sim at h
  split at h
  case h_1 => obtain rfl : len = 1 := by simpa [ux_lok] using hl
              cases h; intro lsR hL; exact lv_iconst hx hb hd rfl (k lsR hL)
  case h_2 => obtain rfl : len = 2 := by simpa [ux_lok] using hl
              cases h; intro lsR hL; exact lv_bipush hx hb hd rfl (k lsR hL)
  case h_3 => obtain rfl : len = 3 := by simpa [ux_lok] using hl
              cases h; intro lsR hL; exact lv_sipush hx hb hd rfl (k lsR hL)
  case h_4 => obtain rfl : len = 1 := by simpa [ux_lok] using hl
              cases h; intro lsR hL; exact lv_lconst hx hb hd rfl (k lsR hL)
  case h_5 => obtain rfl : len = 2 := by simpa [ux_lok] using hl
              exact ux_ldiW (fun x lsR rest h1 h2 => lv_iload hx hb hd h1 h2) h k
  case h_6 => obtain rfl : len = 1 := by simpa [ux_lok] using hl
              exact ux_ldiW (fun x lsR rest h1 h2 => lv_iload_n hx hb hd rfl h1 h2) h k
  case h_7 => obtain rfl : len = 2 := by simpa [ux_lok] using hl
              exact ux_ldaW (fun x lsR rest h1 h2 => lv_aload hx hb hd h1 h2) h k
  case h_8 => obtain rfl : len = 1 := by simpa [ux_lok] using hl
              exact ux_ldaW (fun x lsR rest h1 h2 => lv_aload_n hx hb hd rfl h1 h2) h k
  case h_9 => obtain rfl : len = 2 := by simpa [ux_lok] using hl
              exact ux_stiW (fun x lsR rest lv h1 h2 h3 => lv_istore hx hb hd h1 h2 rfl h3) h k
  case h_10 => obtain rfl : len = 1 := by simpa [ux_lok] using hl
               exact ux_stiW (fun x lsR rest lv h1 h2 h3 => lv_istore_n hx hb hd rfl h1 h2 rfl h3) h k
  case h_11 => obtain rfl : len = 2 := by simpa [ux_lok] using hl
               exact ux_staW (fun x lsR rest lv h1 h2 h3 => lv_astore hx hb hd h1 h2 rfl h3) h k
  case h_12 => obtain rfl : len = 1 := by simpa [ux_lok] using hl
               exact ux_staW (fun x lsR rest lv h1 h2 h3 => lv_astore_n hx hb hd rfl h1 h2 rfl h3) h k
  case h_13 => obtain rfl : len = 3 := by simpa [ux_lok] using hl
               unfold ux_inc at h
               split at h
               · rename_i i n _ x hx2
                 cases h
                 intro lsR hL
                 have hi : i < ls.length := (List.getElem?_eq_some_iff.mp hx2).1
                 obtain ⟨kk, hkk⟩ := List.getElem?_of_mem ((ux_pr_in (b := b) (n0 := n0) ls 0 (0 + i, .int x)).mpr ⟨i, .int x, hx2, (fun q => by cases q), rfl⟩)
                 rw [Nat.zero_add] at hkk
                 exact lv_iinc hx hb hd hL.2.2 hkk rfl (hL.lt hi) rfl fun lsR' h' => k lsR' (hL.put rfl (fun _ => rfl) h')
               · cases h
  case h_14 => obtain rfl : len = 1 := by simpa [ux_lok] using hl
               exact ux_iiW (fun x y lsR rest h1 => lv_iadd hx hb hd h1) h k
  case h_15 => obtain rfl : len = 1 := by simpa [ux_lok] using hl
               exact ux_iiW (fun x y lsR rest h1 => lv_isub hx hb hd h1) h k
  case h_16 => obtain rfl : len = 1 := by simpa [ux_lok] using hl
               exact ux_iiW (fun x y lsR rest h1 => lv_imul hx hb hd h1) h k
  case h_17 => obtain rfl : len = 1 := by simpa [ux_lok] using hl
               exact ux_iiW (fun x y lsR rest h1 => lv_iand hx hb hd h1) h k
  case h_18 => obtain rfl : len = 1 := by simpa [ux_lok] using hl
               exact ux_iiW (fun x y lsR rest h1 => lv_ior hx hb hd h1) h k
  case h_19 => obtain rfl : len = 1 := by simpa [ux_lok] using hl
               exact ux_iiW (fun x y lsR rest h1 => lv_ishl hx hb hd h1) h k
  case h_20 => obtain rfl : len = 1 := by simpa [ux_lok] using hl
               exact ux_iiW (fun x y lsR rest h1 => lv_ishr hx hb hd h1) h k
  case h_21 => obtain rfl : len = 1 := by simpa [ux_lok] using hl
               unfold ux_i2l at h
               split at h
               · cases h; intro lsR hL; exact lv_i2l hx hb hd rfl (k lsR hL)
               · cases h
  case h_22 => obtain rfl : len = 1 := by simpa [ux_lok] using hl
               unfold ux_lcmp at h
               split at h
               · cases h; intro lsR hL; exact W.lcmp hx hb hd (k lsR hL)
               · cases h
  case h_23 => obtain rfl : len = 1 := by simpa [ux_lok] using hl
               unfold ux_dup at h
               split at h
               · split at h
                 · rename_i hv
                   cases h; intro lsR hL; exact lv_dup hx hb hd (by rw [ux_cat]; exact hv) (k lsR hL)
                 · cases h
               · cases h
  case h_24 => obtain rfl : len = 1 := by simpa [ux_lok] using hl
               unfold ux_dup2 at h
               split at h
               · split at h
                 · rename_i hv
                   cases h; intro lsR hL; exact lv_dup2_11 hx hb hd (by rw [ux_cat]; exact hv.1) (by rw [ux_cat]; exact hv.2) (k lsR hL)
                 · cases h
               · cases h
  case h_25 => obtain rfl : len = 1 := by simpa [ux_lok] using hl
               unfold ux_dupx1 at h
               split at h
               · split at h
                 · rename_i hv
                   cases h; intro lsR hL; exact lv_dup_x1 hx hb hd (by rw [ux_cat]; exact hv.1) (by rw [ux_cat]; exact hv.2) (k lsR hL)
                 · cases h
               · cases h
  case h_26 => obtain rfl : len = 1 := by simpa [ux_lok] using hl
               unfold ux_pop at h
               split at h
               · split at h
                 · rename_i hv
                   cases h; intro lsR hL; exact lv_pop hx hb hd (by rw [ux_cat]; exact hv) (k lsR hL)
                 · cases h
               · cases h
  case h_27 => obtain rfl : len = 3 := by simpa [ux_lok] using hl
               exact ux_i1W (fun x lsR rest tgt ht kt kf => lv_if_eq hx hb hd ht (fun z => kt (decide_eq_true z)) (fun z => kf (decide_eq_false z))) h k
  case h_28 => obtain rfl : len = 3 := by simpa [ux_lok] using hl
               exact ux_i1W (fun x lsR rest tgt ht kt kf => lv_if_ne hx hb hd ht (fun z => kt (decide_eq_true z)) (fun z => kf (decide_eq_false (fun q => q z)))) h k
  case h_29 => obtain rfl : len = 3 := by simpa [ux_lok] using hl
               exact ux_i1W (fun x lsR rest tgt ht kt kf => lv_if_lt hx hb hd ht (fun z => kt (decide_eq_true z)) (fun z => kf (decide_eq_false z))) h k
  case h_30 => obtain rfl : len = 3 := by simpa [ux_lok] using hl
               exact ux_i1W (fun x lsR rest tgt ht kt kf => lv_if_ge hx hb hd ht (fun z => kt (decide_eq_true z)) (fun z => kf (decide_eq_false z))) h k
  case h_31 => obtain rfl : len = 3 := by simpa [ux_lok] using hl
               exact ux_i1W (fun x lsR rest tgt ht kt kf => lv_if_gt hx hb hd ht (fun z => kt (decide_eq_true z)) (fun z => kf (decide_eq_false z))) h k
  case h_32 => obtain rfl : len = 3 := by simpa [ux_lok] using hl
               exact ux_i1W (fun x lsR rest tgt ht kt kf => lv_if_le hx hb hd ht (fun z => kt (decide_eq_true z)) (fun z => kf (decide_eq_false z))) h k
  case h_33 => obtain rfl : len = 3 := by simpa [ux_lok] using hl
               exact ux_i2W (fun x y lsR rest tgt ht kt kf => lv_icmp_eq hx hb hd ht (fun z => kt (decide_eq_true z)) (fun z => kf (decide_eq_false z))) h k
  case h_34 => obtain rfl : len = 3 := by simpa [ux_lok] using hl
               exact ux_i2W (fun x y lsR rest tgt ht kt kf => lv_icmp_ne hx hb hd ht (fun z => kt (decide_eq_true z)) (fun z => kf (decide_eq_false (fun q => q z)))) h k
  case h_35 => obtain rfl : len = 3 := by simpa [ux_lok] using hl
               exact ux_i2W (fun x y lsR rest tgt ht kt kf => lv_icmp_lt hx hb hd ht (fun z => kt (decide_eq_true z)) (fun z => kf (decide_eq_false z))) h k
  case h_36 => obtain rfl : len = 3 := by simpa [ux_lok] using hl
               exact ux_i2W (fun x y lsR rest tgt ht kt kf => lv_icmp_ge hx hb hd ht (fun z => kt (decide_eq_true z)) (fun z => kf (decide_eq_false z))) h k
  case h_37 => obtain rfl : len = 3 := by simpa [ux_lok] using hl
               exact ux_i2W (fun x y lsR rest tgt ht kt kf => lv_icmp_gt hx hb hd ht (fun z => kt (decide_eq_true z)) (fun z => kf (decide_eq_false z))) h k
  case h_38 => obtain rfl : len = 3 := by simpa [ux_lok] using hl
               exact ux_i2W (fun x y lsR rest tgt ht kt kf => lv_icmp_le hx hb hd ht (fun z => kt (decide_eq_true z)) (fun z => kf (decide_eq_false z))) h k
  case h_39 => obtain rfl : len = 3 := by simpa [ux_lok] using hl
               intro lsR hL
               obtain ⟨tgt, h1, h2⟩ := ux_goW hL h k
               exact lv_goto hx hb hd h1 h2
  case h_40 => unfold ux_tsw at h
               split at h
               · intro lsR hL
                 split at h
                 · rename_i ho
                   obtain ⟨tgt, h1, h2⟩ := ux_goW hL h k
                   exact lv_tableOut hx hb hd ho h1 h2
                 · rename_i ho
                   split at h
                   · rename_i off hof
                     obtain ⟨tgt, h1, h2⟩ := ux_goW hL h k
                     exact lv_tableIn hx hb hd (fun q => ho (Or.inl q)) (fun q => ho (Or.inr q)) hof h1 h2
                   · cases h
               · cases h
  case h_41 => unfold ux_lsw at h
               split at h
               · intro lsR hL
                 split at h
                 · rename_i hp
                   obtain ⟨tgt, h1, h2⟩ := ux_goW hL h k
                   exact lv_lookup hx hb hd hp rfl h1 h2
                 · cases h
               · cases h
  case h_42 => cases h
end UXS
end
section
/-! Memory: the evaluator's cells beside the machine's heap. -/
def ux_nc (h : ux_H) : Nat := h.1.length + h.2.1
def ux_ns (h : ux_H) : Nat := h.2.2.1
def ux_sz (c : ux_C) : Nat := if c.1 < 102 then c.2.1.length else c.2.2.length
def ux_val (b n0 : Nat) (c : ux_C) (j : Nat) : Value := if c.1 < 102 then .int (c.2.1.getD j 0) else ux_tr b n0 (c.2.2.getD j .null)
def ux_at (aty : Nat → Option FieldType) (D : va_G) (cl : List vw_C) (ca : Nat → ClassId) (b n0 a : Nat) (c : ux_C) (H : Heap) : Prop :=
  (c.1 < 100 ∧ ∃ r : vw_C, cl[c.1]? = some r ∧ t_OB a (D.1 c.1) r.2.2 (D.2 c.1) H (fun j => ux_tr b n0 (vp_V c.2.2 j))) ∨
  (100 ≤ c.1 ∧ (∃ ty : FieldType, aty c.1 = some ty) ∧ H[a]? = some (arrV (ca c.1) (ux_sz c) (ux_val b n0 c)))
theorem ux_at.kept {aty : Nat → Option FieldType} {D : va_G} {cl : List vw_C} {ca : Nat → ClassId} {b n0 a : Nat} {c : ux_C} {H H1 : Heap} (h : ux_at aty D cl ca b n0 a c H) (he : H1[a]? = H[a]?) : ux_at aty D cl ca b n0 a c H1 := by
  rcases h with ⟨h1, r, h2, h3⟩ | ⟨h1, h2, h3⟩
  · exact Or.inl ⟨h1, r, h2, h3.kept he⟩
  · exact Or.inr ⟨h1, h2, by rw [he]; exact h3⟩
theorem ux_at.obj {aty : Nat → Option FieldType} {D : va_G} {cl : List vw_C} {ca : Nat → ClassId} {b n0 a : Nat} {c : ux_C} {H : Heap} (h : ux_at aty D cl ca b n0 a c H) (hc : c.1 < 100) : ∃ r : vw_C, cl[c.1]? = some r ∧ t_OB a (D.1 c.1) r.2.2 (D.2 c.1) H (fun j => ux_tr b n0 (vp_V c.2.2 j)) := by
  rcases h with ⟨_, h⟩ | ⟨h, _⟩
  · exact h
  · omega
theorem ux_at.arr {aty : Nat → Option FieldType} {D : va_G} {cl : List vw_C} {ca : Nat → ClassId} {b n0 a : Nat} {c : ux_C} {H : Heap} (h : ux_at aty D cl ca b n0 a c H) (hc : 100 ≤ c.1) : (∃ ty : FieldType, aty c.1 = some ty) ∧ H[a]? = some (arrV (ca c.1) (ux_sz c) (ux_val b n0 c)) := by
  rcases h with ⟨h, _⟩ | ⟨_, h⟩
  · omega
  · exact h
def ux_Zs (n0 : Nat) (z : String × String × String) (s : State) (H : Heap) : Prop := ∃ (c : ClassId) (k : Class) (i : Nat) (f : Field) (a : Nat) (cell : Cell) (v : Value), s.vm.findClass z.1 = some c ∧ s.fieldFound? z.1 z.2.1 z.2.2 = some (c, k, i, f) ∧ f.isStatic = true ∧ k.statics = some a ∧ H[a]? = some cell ∧ cell.vm.isStatics = true ∧ cell.cls = c ∧ f.slot < cell.slots.size ∧ k.staticTypes[f.slot]? = some f.type ∧ a < n0 ∧ cell.slots[f.slot]? = some v ∧ (v = .null ∨ ∃ t, v = .ref t)
theorem ux_Zs.moved {n0 : Nat} {z : String × String × String} {s U : State} {H : Heap} (hvm : s.vm.Alike U.vm) (h : ux_Zs n0 z s H) : ux_Zs n0 z U H := by
  obtain ⟨c, k, i, f, a, cell, v, h1, h2, h3, h4, h5, h6, h7, h8, h9, h10⟩ := h
  obtain ⟨k', hi', he⟩ := State.fieldFound?_setVm hvm h2
  exact ⟨c, k', i, f, a, cell, v, by rw [hvm.findClass]; exact h1, hi', h3, by rw [he]; exact h4, h5, h6, h7, h8, by rw [he]; exact h9, h10⟩
theorem ux_Zs.kept {n0 : Nat} {z : String × String × String} {s : State} {H H1 : Heap} (h : ux_Zs n0 z s H) (hq : ∀ q, q < n0 → H1[q]? = H[q]?) : ux_Zs n0 z s H1 := by
  obtain ⟨c, k, i, f, a, cell, v, h1, h2, h3, h4, h5, h6, h7, h8, h9, h10, h11⟩ := h
  exact ⟨c, k, i, f, a, cell, v, h1, h2, h3, h4, by rw [hq a h10]; exact h5, h6, h7, h8, h9, h10, h11⟩
def ux_R (aty : Nat → Option FieldType) (D : va_G) (cl : List vw_C) (ca : Nat → ClassId) (b n0 : Nat) (sc : List Int32) (zs : List (String × String × String)) (s : State) (h : ux_H) (H : Heap) : Prop :=
  b < n0 ∧ H.size = n0 + ux_nc h ∧ (∀ (k : Nat) (c : ux_C), h.1[k]? = some c → ux_at aty D cl ca b n0 (n0 + k) c H) ∧ va_X b sc.length (fun j => sc.getD j 0) s H ∧ ∀ z ∈ zs, ux_Zs n0 z s H
theorem ux_ad_succ (b n0 k : Nat) : ux_ad b n0 (k + 1) = n0 + k := by simp [ux_ad]
theorem ux_nin {j : Int32} {n : Nat} (hj : ¬ j < 0) (h : j.toNatClampNeg < n) : ¬ (j < 0 ∨ n ≤ j.toNatClampNeg) := fun h' => h'.elim hj (fun h2 => absurd h (Nat.not_lt.mpr h2))
section UXR
variable {aty : Nat → Option FieldType} {D : va_G} {cl : List vw_C} {ca : Nat → ClassId} {b n0 : Nat} {sc : List Int32} {zs : List (String × String × String)} {s : State} {hh : ux_H} {H : Heap}
theorem ux_cell_some {a : Nat} {c : ux_C} (h : ux_cell hh a = some c) : ∃ k, a = k + 1 ∧ hh.1[k]? = some c := by
  cases a with
  | zero => cases h
  | succ k => exact ⟨k, rfl, h⟩
theorem ux_R.cell (hR : ux_R aty D cl ca b n0 sc zs s hh H) {a : Nat} {c : ux_C} (h : ux_cell hh a = some c) : ux_at aty D cl ca b n0 (ux_ad b n0 a) c H := by
  obtain ⟨k, rfl, hk⟩ := ux_cell_some h
  rw [ux_ad_succ]
  exact hR.2.2.1 k c hk
theorem ux_R.set (hR : ux_R aty D cl ca b n0 sc zs s hh H) {a : Nat} {c c' : ux_C} (h : ux_cell hh a = some c) {H1 : Heap} (hz : H1.size = H.size) (ho : ∀ q, q ≠ ux_ad b n0 a → H1[q]? = H[q]?) (hat : ux_at aty D cl ca b n0 (ux_ad b n0 a) c' H1) : ux_R aty D cl ca b n0 sc zs s (ux_set hh a c') H1 := by
  obtain ⟨k, rfl, hk⟩ := ux_cell_some h
  rw [ux_ad_succ] at ho hat
  obtain ⟨h1, h2, h3, h4, h5⟩ := hR
  refine ⟨h1, ?_, fun j d hj => ?_, h4.kept (ho b (by omega)), fun z hzm => (h5 z hzm).kept fun q hq => ho q (by omega)⟩
  · rw [hz, h2]; simp [ux_nc, ux_set]
  · have hj' : (hh.1.set k c')[j]? = some d := hj
    by_cases hjk : j = k
    · subst hjk
      rw [List.getElem?_set_self (List.getElem?_eq_some_iff.mp hk).1] at hj'
      cases hj'
      exact hat
    · rw [List.getElem?_set_ne (Ne.symm hjk)] at hj'
      exact (h3 j d hj').kept (ho _ (by omega))
theorem ux_R.push (hR : ux_R aty D cl ca b n0 sc zs s hh H) (hx : hh.2.1 = 0) {c : ux_C} {n : Nat} {H1 : Heap} (hz : H1.size = H.size + 1) (ho : ∀ q, q < H.size → H1[q]? = H[q]?) (hat : ux_at aty D cl ca b n0 H.size c H1) : ux_R aty D cl ca b n0 sc zs s (ux_new hh c n) H1 := by
  obtain ⟨h1, h2, h3, h4, h5⟩ := hR
  have hn : ux_nc hh = hh.1.length := by simp [ux_nc, hx]
  refine ⟨h1, ?_, fun j d hj => ?_, h4.kept (ho b (by omega)), fun z hzm => (h5 z hzm).kept fun q hq => ho q (by omega)⟩
  · rw [hz, h2]; simp [ux_nc, ux_new]; omega
  · have hj' : (hh.1 ++ [c])[j]? = some d := hj
    by_cases hjk : j < hh.1.length
    · rw [List.getElem?_append_left hjk] at hj'
      exact (h3 j d hj').kept (ho _ (by omega))
    · rw [List.getElem?_append_right (by omega)] at hj'
      have hz2 : j - hh.1.length < 1 := (List.getElem?_eq_some_iff.mp hj').1
      rw [show j - hh.1.length = 0 by omega] at hj'
      cases hj'
      rw [show n0 + j = H.size by omega]
      exact hat
theorem ux_R.ref (hR : ux_R aty D cl ca b n0 sc zs s hh H) (hx : hh.2.1 = 0) : ux_ad b n0 (hh.1.length + 1) = H.size := by
  rw [ux_ad_succ, hR.2.1]; simp [ux_nc, hx]
theorem ux_arr_eq {cA : ClassId} {n : Nat} {f g : Nat → Value} (h : ∀ j, j < n → f j = g j) : arrV cA n f = arrV cA n g := by
  unfold arrV
  congr 1
  apply Array.ext
  · simp
  · intro j h1 h2
    simp only [Array.getElem_ofFn]
    exact h j (by simpa using h1)
end UXR
/-! what the tables must say; what is known of a frame's method -/
abbrev ux_M : Type := Nat → MethodName × ByteArray × Option FieldType × List (Nat × Nat × Nat × Nat)
def ux_okI (P : ux_P) (M : ux_M) : Prop := ∀ (i pc : Nat) (ins : Instr) (len : Nat), P.1 i pc = some (ins, len) → decode (M i).2.1 pc = .ok (ins, len) ∧ ux_lok ins len = true
def ux_okC (Tw : List Cond) (cl : List vw_C) (ty : Nat → Nat → FieldType) : Prop := ∀ (ci : Nat) (q : vw_C), cl[ci]? = some q → (∀ w ∈ u_ws q.1 q.2.1 q.2.2, w ∈ Tw) ∧ (∀ k, k < q.2.2 → parseFieldDescriptor (q.2.1 k).2.2.1 = some (ty ci k)) ∧ ∀ a, a < q.2.2 → ∀ b, b < q.2.2 → a ≠ b → (q.2.1 a).2.1 ≠ (q.2.1 b).2.1
def ux_okF (P : ux_P) (M : ux_M) (Tw : List Cond) (cl : List vw_C) (ty : Nat → Nat → FieldType) : Prop := ∀ (i k ci j : Nat) (q : Bool), P.2.1 i k = some (ci, j, q) → ∃ r : vw_C, cl[ci]? = some r ∧ j < r.2.2 ∧ (r.2.1 j).1 = r.1 ∧ Cond.fieldLink (M i).1.cls k r.1 (r.2.1 j).2.1 (r.2.1 j).2.2.1 ∈ Tw ∧ (q = false → ty ci j = .int) ∧ (q = true → (ty ci j).isReference = true) ∧ (P.2.2.2.1 i (200000 + k) = some 2000 → (r.2.1 j).2.2.2 = false) ∧ (P.2.2.2.1 i (200000 + k) = some 2001 → (P.2.2.2.2.2.2 i).2.1 = 4 → (M i).1.name = "<init>" ∧ r.1 = (M i).1.cls) ∧ ci < 100
def ux_okN (P : ux_P) (M : ux_M) (Tw : List Cond) (cl : List vw_C) (ty : Nat → Nat → FieldType) : Prop := ∀ (i k ci : Nat), P.2.2.2.1 i k = some ci → ci < 100 → ∃ r : vw_C, cl[ci]? = some r ∧ Cond.classLink (M i).1.cls k r.1 ∈ Tw ∧ Cond.instantiable r.1 r.2.2 ∈ Tw ∧ Cond.initialized r.1 ∈ Tw ∧ (P.2.2.2.2.1 ci).length = r.2.2 ∧ ∀ j, j < r.2.2 → (P.2.2.2.2.1 ci)[j]? = some (defaultValue (ty ci j))
def ux_okA (P : ux_P) (M : ux_M) (Tw : List Cond) (cl : List vw_C) (aty : Nat → Option FieldType) : Prop :=
  (aty 100 = some .int ∧ aty 101 = some .boolean ∧ aty 102 = some .long) ∧ (Cond.arrayClass .int ∈ Tw ∧ Cond.arrayClass .boolean ∈ Tw ∧ Cond.arrayClass .long ∈ Tw) ∧
  (∀ (t : Nat) (y : FieldType), 102 < t → aty t = some y → ∃ (C : String) (r : vw_C), y = .object C ∧ cl[P.2.2.2.2.2.1 t]? = some r ∧ r.1 = C) ∧
  ∀ (i k t : Nat), P.2.2.2.1 i (100000 + k) = some t → 102 < t → t < 1000 → ∃ C : String, aty t = some (.object C) ∧ Cond.classLink (M i).1.cls k C ∈ Tw ∧ Cond.arrayOver (.object C) ∈ Tw
def ux_okL (P : ux_P) (M : ux_M) (Tw : List Cond) : Prop := ∀ (i k q j n : Nat), P.2.2.1 i k = some (q, j, n) →
  (q = 6 → Cond.methodLink (M i).1.cls k Lib.objectInit ∈ Tw ∧ Cond.instanceMethod Lib.objectInit ∈ Tw ∧ Cond.code Lib.objectInit ⟨#[0xb1]⟩ 1 none ∈ Tw) ∧
  (q = 7 → Cond.methodLink (M i).1.cls k Lib.Math.max.name ∈ Tw ∧ Cond.static Lib.Math.max.name ∈ Tw ∧ Cond.initialized "java/lang/Math" ∈ Tw ∧ Cond.code Lib.Math.max.name Lib.Math.max.code 2 (some .int) ∈ Tw) ∧
  (q = 8 → Cond.methodLink (M i).1.cls k Lib.Math.min.name ∈ Tw ∧ Cond.static Lib.Math.min.name ∈ Tw ∧ Cond.initialized "java/lang/Math" ∈ Tw ∧ Cond.code Lib.Math.min.name Lib.Math.min.code 2 (some .int) ∈ Tw)
def ux_K (Tw : List Cond) (aty : Nat → Option FieldType) (D : va_G) (cl : List vw_C) (ca : Nat → ClassId) (s : State) : Prop :=
  (∀ (ci : Nat) (q : vw_C), cl[ci]? = some q → u_Kn s q.1 q.2.1 q.2.2 (D.1 ci) (D.2 ci)) ∧ (∀ (t : Nat) (y : FieldType), aty t = some y → ArrOfT s (ca t) y ∧ va_RA s (ca t) y) ∧ ∀ w ∈ Tw, ∀ a : Array Value, w.before a s = true
theorem ux_isr_int {v : Value} (h : ux_isr v = some false) : ∃ x, v = .int x := by cases v <;> simp [ux_isr] at h; exact ⟨_, rfl⟩
theorem ux_isr_ref {v : Value} (h : ux_isr v = some true) : ∃ x, v = .ref x := by cases v <;> simp [ux_isr] at h; exact ⟨_, rfl⟩
theorem ux_fit_ref {y : FieldType} (h : y.isReference = true) (a : Nat) : narrow y (.ref a) = .ref a ∧ fits y (.ref a) = true := by cases y <;> simp [FieldType.isReference, narrow, fits] at h ⊢
theorem ux_tr_dflt (b n0 : Nat) (y : FieldType) : ux_tr b n0 (defaultValue y) = defaultValue y := by cases y <;> rfl
theorem ux_updV {b n0 : Nat} {vs : List Value} {k : Nat} (hk : k < vs.length) (v : Value) (j : Nat) : updV (fun j => ux_tr b n0 (vp_V vs j)) k (ux_tr b n0 v) j = ux_tr b n0 (vp_V (vs.set k v) j) := by
  rw [← vp_updV_set hk v j]
  unfold updV
  split <;> rfl
section UXM
variable {p : Program} {l : Launch} {e : Env} {R : Room} {s : State} {m : MethodId} {args : Array Value} {below : List Frame} {meth : Method} {c : Code} {H : Heap} {locs : List Loc} {cells slots : Nat} {Q : State → Prop} {cc : ByteArray} {b n0 nL pc : Nat} {ls rest : List Value} {lsR : Array Slot}
variable {Tw : List Cond} {aty : Nat → Option FieldType} {D : va_G} {cl : List vw_C} {ca : Nat → ClassId} {sc : List Int32} {zs : List (String × String × String)} {hh : ux_H} {ty : Nat → Nat → FieldType} {own : String}
theorem ux_getW (hx : p.tables.exec = Jvm.exec) (hb : c.code = cc) (hown : s.vm.findClass own = some m.cls) (hK : ux_K Tw aty D cl ca s) (hC : ux_okC Tw cl ty) (hR : ux_R aty D cl ca b n0 sc zs s hh H) {k ci j a : Nat} {r : vw_C} (hr : cl[ci]? = some r) (hj : j < r.2.2) (ho : (r.2.1 j).1 = r.1) (hlk : Cond.fieldLink own k r.1 (r.2.1 j).2.1 (r.2.1 j).2.2.1 ∈ Tw) (hci : ci < 100)
    {v : Value} (hg : ux_get hh a ci j = some v) (hdg : decode cc pc = .ok (.getfield k, 3)) (kk : W p l e R s m args below meth c H locs cells slots Q (F0 m (pc + 3) lsR (ux_tr b n0 v :: rest))) : W p l e R s m args below meth c H locs cells slots Q (F0 m pc lsR (.ref (ux_ad b n0 a) :: rest)) := by
  unfold ux_get at hg
  split at hg
  · rename_i t is vs hcell
    split at hg
    · rename_i ht
      subst ht
      obtain ⟨r', h1, cell, q1, q2, q3, q4⟩ := (hR.cell hcell).obj hci
      cases hr.symm.trans h1
      obtain ⟨hin, hty, hnm⟩ := hC _ _ hr
      obtain ⟨hS, hfc, kC, hkC, hkind⟩ := hK.1 _ _ hr
      obtain ⟨cf, kf, fi, f, hi, hsl⟩ := hS j hj
      rw [ho] at hi
      have hts : ∀ w ∈ Tw, w.before args s = true := fun w hw => hK.2.2 w hw args
      have hf := (u_facts hfc hkC (u_lays hts hin hj) (by rw [ho]; exact hi)).1
      refine W.getf hx hb hown (hts _ hlk) hi hf q1 (by rw [q3]; exact fun h => by cases h) (v := ux_tr b n0 v) ?_ rfl rfl hdg kk
      rw [hsl, q4 j hj]
      simp [vp_V, hg]
    · cases hg
  · cases hg
theorem ux_putW (hx : p.tables.exec = Jvm.exec) (hb : c.code = cc) (hown : s.vm.findClass own = some m.cls) {nm : String} (hnme : meth.name = nm) (hK : ux_K Tw aty D cl ca s) (hC : ux_okC Tw cl ty) (hR : ux_R aty D cl ca b n0 sc zs s hh H) {k ci j a : Nat} {r : vw_C} {q : Bool} (hr : cl[ci]? = some r) (hj : j < r.2.2) (ho : (r.2.1 j).1 = r.1) (hlk : Cond.fieldLink own k r.1 (r.2.1 j).2.1 (r.2.1 j).2.2.1 ∈ Tw) (hq0 : q = false → ty ci j = .int) (hq1 : q = true → (ty ci j).isReference = true) (hfin : (r.2.1 j).2.2.2 = true → nm = "<init>" ∧ r.1 = own) (hci : ci < 100)
    {v : Value} (hv : ux_isr v = some q) {hh' : ux_H} (hg : ux_put hh a ci j v = some hh') (hdg : decode cc pc = .ok (.putfield k, 3)) (hloc : ∀ x ∈ locs, n0 ≤ x.base)
    (kk : ∀ (H' : Heap) (locs' : List Loc), ux_R aty D cl ca b n0 sc zs s hh' H' → (∀ x ∈ locs', n0 ≤ x.base) → W p l e R s m args below meth c H' locs' cells slots Q (F0 m (pc + 3) lsR rest)) : W p l e R s m args below meth c H locs cells slots Q (F0 m pc lsR (ux_tr b n0 v :: .ref (ux_ad b n0 a) :: rest)) := by
  unfold ux_put at hg
  split at hg
  · rename_i t is vs hcell
    split at hg
    · rename_i ht
      obtain ⟨ht, hlen⟩ := ht
      subst ht
      cases hg
      obtain ⟨r', h1, cell, q1, q2, q3, q4⟩ := (hR.cell hcell).obj hci
      cases hr.symm.trans h1
      obtain ⟨hin, hty, hnm⟩ := hC _ _ hr
      have hts : ∀ w ∈ Tw, w.before args s = true := fun w hw => hK.2.2 w hw args
      have hap : ∀ x y, x < r.2.2 → y < r.2.2 → x ≠ y → (D.2 t) x ≠ (D.2 t) y := va_apart (own := own) (cl := cl) (tys := []) hts hin (ty t) hty hnm ⟨hK.1, fun k q h => by simp at h⟩ hr
      obtain ⟨hS, hfc, kC, hkC, hkind⟩ := hK.1 _ _ hr
      obtain ⟨cf, kf, fi, f, hi, hsl⟩ := hS j hj
      have hlay := hts _ (hin _ (u_in_lay hj))
      have hst := (u_facts hfc hkC (u_lays hts hin hj) hi).1
      have hnf : narrow (ty t j) (ux_tr b n0 v) = ux_tr b n0 v ∧ fits (ty t j) (ux_tr b n0 v) = true := by
        cases q with
        | false => obtain ⟨x, rfl⟩ := ux_isr_int hv; rw [hq0 rfl]; exact ⟨rfl, rfl⟩
        | true => obtain ⟨x, rfl⟩ := ux_isr_ref hv; exact ux_fit_ref (hq1 rfl) _
      have hlt : f.slot < cell.slots.size := by rw [hsl]; exact k2_hasslot (q4 j hj)
      have key : ∀ (H' : Heap) (locs' : List Loc), H'[ux_ad b n0 a]? = some (cell.setSlot f.slot (ux_tr b n0 v)) → H'.size = H.size → (∀ q, q ≠ ux_ad b n0 a → H'[q]? = H[q]?) → (∀ x ∈ locs', n0 ≤ x.base) → W p l e R s m args below meth c H' locs' cells slots Q (F0 m (pc + 3) lsR rest) := by
        intro H' locs' e1 e2 e3 hl'
        refine kk H' locs' (hR.set hcell e2 e3 (Or.inl ⟨hci, r, hr, ?_⟩)) hl'
        rw [hsl] at e1
        exact t_OB.to (V := updV (fun j => ux_tr b n0 (vp_V vs j)) j (ux_tr b n0 v)) ⟨_, e1, q2, q3, t_set q4 hap hj (ux_tr b n0 v)⟩ (fun i _ => ux_updV hlen v i)
      have hl2 : ∀ x ∈ locs ++ [(⟨ux_ad b n0 a, f.slot⟩ : Loc)], n0 ≤ x.base := by
        intro x hx2
        rcases List.mem_append.mp hx2 with h2 | h2
        · exact hloc x h2
        · rw [List.mem_singleton.mp h2]
          obtain ⟨kq, rfl, -⟩ := ux_cell_some hcell
          show n0 ≤ ux_ad b n0 (kq + 1)
          rw [ux_ad_succ]; omega
      rw [ho] at hi
      unfold u_lay at hlay
      cases hfl : (r.2.1 j).2.2.2 with
      | false =>
        rw [if_neg (by rw [hfl]; decide)] at hlay
        have h6 := u_store hfc hkC hkind hlay (by rw [ho]; exact hi) (hty j hj) hnf.1 hnf.2
        exact W.putK hx hb (f := f) ⟨hown, hts _ hlk, ⟨_, _, _, hi⟩, hst⟩ (by rw [q2]; exact h6) q1 q3 hlt rfl rfl hdg fun H' e1 e2 e3 => key H' _ e1 e2 e3 hl2
      | true =>
        rw [if_pos hfl] at hlay
        obtain ⟨hn1, hn2⟩ := hfin hfl
        have hcf : m.cls = cf := by
          obtain ⟨_, _, c', _, _, _, -, -, hf', -, -, -, hown2, -⟩ := Cond.laysFinal_spec hlay
          have e1 : c' = cf := by
            rw [ho] at hf'
            have := hi.symm.trans hf'
            simp at this
            exact this.1.symm
          rw [ho, hn2] at hown2
          rw [← e1]; exact Option.some.inj (hown.symm.trans hown2)
        have h6 := u_fits hfc hkC hkind (Or.inr hlay) (by rw [ho]; exact hi) (hty j hj) hnf.1 hnf.2
        exact W.putFinK hx hb hown (hts _ hlk) hi hst hcf (hnme.trans hn1) (by rw [q2]; exact h6) q1 q3 hlt rfl rfl hdg fun H' e1 e2 e3 => key H' _ e1 e2 e3 hl2
    · cases hg
  · cases hg
/-! arrays of ints and booleans -/
theorem ux_ld_some {t a : Nat} {j x : Int32} (hg : ux_ld t sc hh a j = some x) : ¬ j < 0 ∧ ((a = 0 ∧ t = 100 ∧ sc[j.toNatClampNeg]? = some x) ∨ ∃ is vs, ux_cell hh a = some (t, is, vs) ∧ is[j.toNatClampNeg]? = some x) := by
  unfold ux_ld at hg
  split at hg
  · cases hg
  · rename_i hj
    refine ⟨hj, ?_⟩
    split at hg
    · split at hg
      · rename_i ht; exact Or.inl ⟨rfl, ht, hg⟩
      · cases hg
    · split at hg
      · rename_i t' is vs hcell
        split at hg
        · rename_i ht; subst ht; exact Or.inr ⟨is, vs, hcell, hg⟩
        · cases hg
      · cases hg
theorem ux_ialdW (hx : p.tables.exec = Jvm.exec) (hb : c.code = cc) (hK : ux_K Tw aty D cl ca s) (hA : aty 100 = some .int) (hR : ux_R aty D cl ca b n0 sc zs s hh H) {a : Nat} {j x : Int32} (hg : ux_ld 100 sc hh a j = some x) (hdg : decode cc pc = .ok (.iaload, 1))
    (kk : W p l e R s m args below meth c H locs cells slots Q (F0 m (pc + 1) lsR (.int x :: rest))) : W p l e R s m args below meth c H locs cells slots Q (F0 m pc lsR (.int j :: .ref (ux_ad b n0 a) :: rest)) := by
  obtain ⟨hj, h | h⟩ := ux_ld_some hg
  · obtain ⟨rfl, -, h1⟩ := h
    obtain ⟨scr, g1, g2, g3, g4, g5⟩ := hR.2.2.2.1
    have hlt : j.toNatClampNeg < sc.length := (List.getElem?_eq_some_iff.mp h1).1
    refine W.iald (v := .int x) hx hb (cell := scr) g1 g2 g3 (by rw [g4]; exact ux_nin hj hlt) ?_ rfl rfl hdg kk
    rw [g5 _ hlt]
    simp [h1]
  · obtain ⟨is, vs, hcell, h1⟩ := h
    have hat := ((hR.cell hcell).arr (Nat.le_refl _)).2
    have hlt : j.toNatClampNeg < is.length := (List.getElem?_eq_some_iff.mp h1).1
    refine W.iald (v := .int x) hx hb hat ((hK.2.1 _ _ hA).1 _ _) (fun q => by cases q) (by rw [arrV_size]; exact ux_nin hj hlt) ?_ rfl rfl hdg kk
    rw [arrV_read _ _ (show j.toNatClampNeg < ux_sz (100, is, vs) from hlt)]
    simp [ux_val, h1]
theorem ux_zaldW (hx : p.tables.exec = Jvm.exec) (hb : c.code = cc) (hK : ux_K Tw aty D cl ca s) (hA : aty 101 = some .boolean) (hR : ux_R aty D cl ca b n0 sc zs s hh H) {a : Nat} {j x : Int32} (hg : ux_ld 101 sc hh a j = some x) (hdg : decode cc pc = .ok (.baload, 1))
    (kk : W p l e R s m args below meth c H locs cells slots Q (F0 m (pc + 1) lsR (.int x :: rest))) : W p l e R s m args below meth c H locs cells slots Q (F0 m pc lsR (.int j :: .ref (ux_ad b n0 a) :: rest)) := by
  obtain ⟨hj, h | h⟩ := ux_ld_some hg
  · obtain ⟨-, h0, -⟩ := h
    cases h0
  · obtain ⟨is, vs, hcell, h1⟩ := h
    have hat := ((hR.cell hcell).arr (show 100 ≤ 101 by decide)).2
    have hlt : j.toNatClampNeg < is.length := (List.getElem?_eq_some_iff.mp h1).1
    refine W.zald (v := .int x) hx hb hat ((hK.2.1 _ _ hA).1 _ _) (fun q => by cases q) (by rw [arrV_size]; exact ux_nin hj hlt) ?_ rfl rfl hdg kk
    rw [arrV_read _ _ (show j.toNatClampNeg < ux_sz (101, is, vs) from hlt)]
    simp [ux_val, h1]
theorem ux_loc {a k : Nat} {cx : ux_C} (hcell : ux_cell hh a = some cx) (hloc : ∀ x ∈ locs, n0 ≤ x.base) : ∀ x ∈ locs ++ [(⟨ux_ad b n0 a, k⟩ : Loc)], n0 ≤ x.base := by
  intro x hx
  rcases List.mem_append.mp hx with h2 | h2
  · exact hloc x h2
  · rw [List.mem_singleton.mp h2]
    obtain ⟨kq, rfl, -⟩ := ux_cell_some hcell
    show n0 ≤ ux_ad b n0 (kq + 1)
    rw [ux_ad_succ]; omega
theorem ux_at_ints {t a : Nat} {is : List Int32} {vs : List Value} {jn : Nat} {x : Int32} {H' : Heap} (ht : t = 100 ∨ t = 101) (hy : ∃ y : FieldType, aty t = some y) (hlt : jn < is.length) (e1 : H'[a]? = some ((arrV (ca t) (ux_sz (t, is, vs)) (ux_val b n0 (t, is, vs))).setSlot jn (.int x))) : ux_at aty D cl ca b n0 a (t, is.set jn x, vs) H' := by
  refine Or.inr ⟨by rcases ht with rfl | rfl <;> show (100 : Nat) ≤ _ <;> omega, hy, ?_⟩
  have ht2 : t < 102 := by omega
  rw [e1, arrV_store]
  show some (arrV (ca t) _ _) = some (arrV (ca t) _ _)
  have hs : ux_sz (t, is.set jn x, vs) = ux_sz (t, is, vs) := by simp [ux_sz, ht2]
  rw [hs]
  congr 1
  refine ux_arr_eq fun i hi => ?_
  have hi' : i < is.length := by simpa [ux_sz, ht2] using hi
  by_cases hij : i = jn
  · subst hij
    simp [updV, ux_val, ht2, hlt]
  · simp [updV, ux_val, ht2, hij, List.getElem?_set, Ne.symm hij]
theorem ux_st_some {t a : Nat} {j x : Int32} {hh' : ux_H} (hg : ux_st t hh a j x = some hh') : ¬ j < 0 ∧ ∃ is vs, ux_cell hh a = some (t, is, vs) ∧ j.toNatClampNeg < is.length ∧ hh' = ux_set hh a (t, is.set j.toNatClampNeg x, vs) := by
  unfold ux_st at hg
  split at hg
  · cases hg
  · rename_i hj
    refine ⟨hj, ?_⟩
    split at hg
    · rename_i t' is vs hcell
      split at hg
      · rename_i ht
        obtain ⟨rfl, h2⟩ := ht
        cases hg
        exact ⟨is, vs, hcell, h2, rfl⟩
      · cases hg
    · cases hg
theorem ux_iastW (hx : p.tables.exec = Jvm.exec) (hb : c.code = cc) (hK : ux_K Tw aty D cl ca s) (hA : aty 100 = some .int) (hR : ux_R aty D cl ca b n0 sc zs s hh H) {a : Nat} {j x : Int32} {hh' : ux_H} (hg : ux_st 100 hh a j x = some hh') (hdg : decode cc pc = .ok (.iastore, 1)) (hloc : ∀ x ∈ locs, n0 ≤ x.base)
    (kk : ∀ (H' : Heap) (locs' : List Loc), ux_R aty D cl ca b n0 sc zs s hh' H' → (∀ x ∈ locs', n0 ≤ x.base) → W p l e R s m args below meth c H' locs' cells slots Q (F0 m (pc + 1) lsR rest)) : W p l e R s m args below meth c H locs cells slots Q (F0 m pc lsR (.int x :: .int j :: .ref (ux_ad b n0 a) :: rest)) := by
  obtain ⟨hj, is, vs, hcell, hlt, rfl⟩ := ux_st_some hg
  obtain ⟨hy, hat⟩ := (hR.cell hcell).arr (Nat.le_refl _)
  refine W.iast hx hb hat ((hK.2.1 _ _ hA).1 _ _) (fun q => by cases q) (by rw [arrV_size]; exact ux_nin hj hlt) rfl rfl hdg fun H' e1 e2 e3 => ?_
  exact kk H' _ (hR.set hcell e2 e3 (ux_at_ints (Or.inl rfl) hy hlt e1)) (ux_loc hcell hloc)
theorem ux_zastW (hx : p.tables.exec = Jvm.exec) (hb : c.code = cc) (hK : ux_K Tw aty D cl ca s) (hA : aty 101 = some .boolean) (hR : ux_R aty D cl ca b n0 sc zs s hh H) {a : Nat} {j x : Int32} {hh' : ux_H} (hx01 : x = 0 ∨ x = 1) (hg : ux_st 101 hh a j x = some hh') (hdg : decode cc pc = .ok (.bastore, 1)) (hloc : ∀ x ∈ locs, n0 ≤ x.base)
    (kk : ∀ (H' : Heap) (locs' : List Loc), ux_R aty D cl ca b n0 sc zs s hh' H' → (∀ x ∈ locs', n0 ≤ x.base) → W p l e R s m args below meth c H' locs' cells slots Q (F0 m (pc + 1) lsR rest)) : W p l e R s m args below meth c H locs cells slots Q (F0 m pc lsR (.int x :: .int j :: .ref (ux_ad b n0 a) :: rest)) := by
  obtain ⟨hj, is, vs, hcell, hlt, rfl⟩ := ux_st_some hg
  obtain ⟨hy, hat⟩ := (hR.cell hcell).arr (show 100 ≤ 101 by decide)
  refine W.zast hx hb hat ((hK.2.1 _ _ hA).1 _ _) (fun q => by cases q) (by rw [arrV_size]; exact ux_nin hj hlt) rfl rfl hdg fun H' e1 e2 e3 => ?_
  have hn : narrow .boolean (.int x) = .int x := by rcases hx01 with rfl | rfl <;> rfl
  rw [hn] at e1
  exact kk H' _ (hR.set hcell e2 e3 (ux_at_ints (Or.inr rfl) hy hlt e1)) (ux_loc hcell hloc)
/-! arrays of longs and of references -/
theorem ux_ldv_some {t a : Nat} {j : Int32} {v : Value} (hg : ux_ldv hh a j = some (t, v)) : ¬ j < 0 ∧ ∃ is vs, ux_cell hh a = some (t, is, vs) ∧ vs[j.toNatClampNeg]? = some v := by
  unfold ux_ldv at hg
  split at hg
  · cases hg
  · rename_i hj
    refine ⟨hj, ?_⟩
    split at hg
    · rename_i t' is vs hcell
      cases hv : vs[j.toNatClampNeg]? with
      | none => rw [hv] at hg; cases hg
      | some w => rw [hv] at hg; cases hg; exact ⟨is, vs, hcell, hv⟩
    · cases hg
theorem ux_stv_some {t a : Nat} {j : Int32} {v : Value} {hh' : ux_H} (hg : ux_stv hh a j v = some (t, hh')) : ¬ j < 0 ∧ ∃ is vs, ux_cell hh a = some (t, is, vs) ∧ j.toNatClampNeg < vs.length ∧ hh' = ux_set hh a (t, is, vs.set j.toNatClampNeg v) := by
  unfold ux_stv at hg
  split at hg
  · cases hg
  · rename_i hj
    refine ⟨hj, ?_⟩
    split at hg
    · rename_i t' is vs hcell
      split at hg
      · rename_i h2
        cases hg
        exact ⟨is, vs, hcell, h2, rfl⟩
      · cases hg
    · cases hg
theorem ux_at_vals {t a : Nat} {is : List Int32} {vs : List Value} {jn : Nat} {v : Value} {H' : Heap} (ht : 102 ≤ t) (hy : ∃ y : FieldType, aty t = some y) (hlt : jn < vs.length) (e1 : H'[a]? = some ((arrV (ca t) (ux_sz (t, is, vs)) (ux_val b n0 (t, is, vs))).setSlot jn (ux_tr b n0 v))) : ux_at aty D cl ca b n0 a (t, is, vs.set jn v) H' := by
  refine Or.inr ⟨by show 100 ≤ t; omega, hy, ?_⟩
  have ht2 : ¬ t < 102 := by omega
  rw [e1, arrV_store]
  have hs : ux_sz (t, is, vs.set jn v) = ux_sz (t, is, vs) := by simp [ux_sz, ht2]
  show some (arrV (ca t) _ _) = some (arrV (ca t) _ _)
  rw [hs]
  congr 1
  refine ux_arr_eq fun i hi => ?_
  by_cases hij : i = jn
  · subst hij
    simp [updV, ux_val, ht2, hlt]
  · simp [updV, ux_val, ht2, hij, List.getElem?_set, Ne.symm hij]
theorem ux_laldW (hx : p.tables.exec = Jvm.exec) (hb : c.code = cc) (hK : ux_K Tw aty D cl ca s) (hA : aty 102 = some .long) (hR : ux_R aty D cl ca b n0 sc zs s hh H) {a : Nat} {j : Int32} {v : Value} (hg : ux_ldv hh a j = some (102, v)) (hdg : decode cc pc = .ok (.laload, 1))
    (kk : W p l e R s m args below meth c H locs cells slots Q (F0 m (pc + 1) lsR (ux_tr b n0 v :: rest))) : W p l e R s m args below meth c H locs cells slots Q (F0 m pc lsR (.int j :: .ref (ux_ad b n0 a) :: rest)) := by
  obtain ⟨hj, is, vs, hcell, h1⟩ := ux_ldv_some hg
  have hat := ((hR.cell hcell).arr (show 100 ≤ 102 by decide)).2
  have hlt : j.toNatClampNeg < vs.length := (List.getElem?_eq_some_iff.mp h1).1
  refine W.lald (v := ux_tr b n0 v) hx hb hat ((hK.2.1 _ _ hA).1 _ _) (fun q => by cases q) (by rw [arrV_size]; exact ux_nin hj hlt) ?_ rfl rfl hdg kk
  rw [arrV_read _ _ (show j.toNatClampNeg < ux_sz (102, is, vs) from hlt)]
  simp [ux_val, h1]
theorem ux_aaldW (hx : p.tables.exec = Jvm.exec) (hb : c.code = cc) (hK : ux_K Tw aty D cl ca s) (hA : ∀ (t : Nat) (y : FieldType), 102 < t → aty t = some y → ∃ C, y = .object C) (hR : ux_R aty D cl ca b n0 sc zs s hh H) {t a : Nat} {j : Int32} {v : Value} (ht : 102 < t) (hg : ux_ldv hh a j = some (t, v)) (hdg : decode cc pc = .ok (.aaload, 1))
    (kk : W p l e R s m args below meth c H locs cells slots Q (F0 m (pc + 1) lsR (ux_tr b n0 v :: rest))) : W p l e R s m args below meth c H locs cells slots Q (F0 m pc lsR (.int j :: .ref (ux_ad b n0 a) :: rest)) := by
  obtain ⟨hj, is, vs, hcell, h1⟩ := ux_ldv_some hg
  obtain ⟨⟨y, hy⟩, hat⟩ := (hR.cell hcell).arr (by show 100 ≤ t; omega)
  obtain ⟨C, rfl⟩ := hA t y ht hy
  have ht2 : ¬ t < 102 := by omega
  have hlt : j.toNatClampNeg < vs.length := (List.getElem?_eq_some_iff.mp h1).1
  have hsz : ux_sz (t, is, vs) = vs.length := by simp [ux_sz, ht2]
  refine W.aald (v := ux_tr b n0 v) (ty := .object C) hx hb hat ((hK.2.1 _ _ hy).1 _ _) rfl (fun q => by cases q) (by rw [arrV_size, hsz]; exact ux_nin hj hlt) ?_ rfl rfl hdg kk
  rw [arrV_read _ _ (by rw [hsz]; exact hlt)]
  simp [ux_val, ht2, h1]
theorem ux_lastW (hx : p.tables.exec = Jvm.exec) (hb : c.code = cc) (hK : ux_K Tw aty D cl ca s) (hA : aty 102 = some .long) (hR : ux_R aty D cl ca b n0 sc zs s hh H) {a : Nat} {j : Int32} {x : Int64} {hh' : ux_H} (hg : ux_stv hh a j (.long x) = some (102, hh')) (hdg : decode cc pc = .ok (.lastore, 1)) (hloc : ∀ x ∈ locs, n0 ≤ x.base)
    (kk : ∀ (H' : Heap) (locs' : List Loc), ux_R aty D cl ca b n0 sc zs s hh' H' → (∀ x ∈ locs', n0 ≤ x.base) → W p l e R s m args below meth c H' locs' cells slots Q (F0 m (pc + 1) lsR rest)) : W p l e R s m args below meth c H locs cells slots Q (F0 m pc lsR (.long x :: .int j :: .ref (ux_ad b n0 a) :: rest)) := by
  obtain ⟨hj, is, vs, hcell, hlt, rfl⟩ := ux_stv_some hg
  obtain ⟨hy, hat⟩ := (hR.cell hcell).arr (show 100 ≤ 102 by decide)
  refine W.last hx hb hat ((hK.2.1 _ _ hA).1 _ _) (fun q => by cases q) (by rw [arrV_size]; exact ux_nin hj hlt) rfl rfl hdg fun H' e1 e2 e3 => ?_
  exact kk H' _ (hR.set hcell e2 e3 (ux_at_vals (v := .long x) (Nat.le_refl _) hy hlt e1)) (ux_loc hcell hloc)
theorem ux_aastW (hx : p.tables.exec = Jvm.exec) (hb : c.code = cc) (hK : ux_K Tw aty D cl ca s) (hR : ux_R aty D cl ca b n0 sc zs s hh H) {t a v ci : Nat} {j : Int32} {hh' : ux_H} {C : String} {r : vw_C} {is0 : List Int32} {vs0 : List Value} (ht : 102 < t) (hy : aty t = some (.object C)) (hr : cl[ci]? = some r) (hrC : r.1 = C) (hci : ci < 100) (hcv : ux_cell hh v = some (ci, is0, vs0))
    (hg : ux_stv hh a j (.ref v) = some (t, hh')) (hdg : decode cc pc = .ok (.aastore, 1)) (hloc : ∀ x ∈ locs, n0 ≤ x.base)
    (kk : ∀ (H' : Heap) (locs' : List Loc), ux_R aty D cl ca b n0 sc zs s hh' H' → (∀ x ∈ locs', n0 ≤ x.base) → W p l e R s m args below meth c H' locs' cells slots Q (F0 m (pc + 1) lsR rest)) : W p l e R s m args below meth c H locs cells slots Q (F0 m pc lsR (.ref (ux_ad b n0 v) :: .int j :: .ref (ux_ad b n0 a) :: rest)) := by
  obtain ⟨hj, is, vs, hcell, hlt, rfl⟩ := ux_stv_some hg
  obtain ⟨hy', hat⟩ := (hR.cell hcell).arr (by show 100 ≤ t; omega)
  obtain ⟨r', h1, cellV, g1, g2, g3, -⟩ := (hR.cell hcv).obj hci
  cases hr.symm.trans h1
  have hcls := (hK.1 ci r hr).2
  obtain ⟨kA, comp, k1, k2, k3, -⟩ := (hK.2.1 _ _ hy).2
  rw [← hrC] at k3
  have hcomp : comp = D.1 ci := Option.some.inj (k3.symm.trans hcls.1)
  subst hcomp
  obtain ⟨kC, hkC, -⟩ := hcls.2
  have ht2 : ¬ t < 102 := by omega
  have hsz : ux_sz (t, is, vs) = vs.length := by simp [ux_sz, ht2]
  refine W.aast hx hb hat (fun q h => by cases h) (fun h => by cases h) k1 k2 rfl hkC ⟨hj, by rw [arrV_size, hsz]; exact hlt⟩ g1 (fun q h => by rw [g3] at h; cases h) (by rw [g2]; exact hkC) (by rw [g2]; exact va_assign hcls) rfl rfl hdg fun H' e1 e2 e3 => ?_
  exact kk H' _ (hR.set hcell e2 e3 (ux_at_vals (v := .ref v) (by omega) hy' hlt e1)) (ux_loc hcell hloc)
theorem ux_alenW (hx : p.tables.exec = Jvm.exec) (hb : c.code = cc) (hK : ux_K Tw aty D cl ca s) (hR : ux_R aty D cl ca b n0 sc zs s hh H) {a n : Nat} (hg : ux_len sc hh a = some n) (hdg : decode cc pc = .ok (.arraylength, 1))
    (kk : W p l e R s m args below meth c H locs cells slots Q (F0 m (pc + 1) lsR (.int (Int32.ofNat n) :: rest))) : W p l e R s m args below meth c H locs cells slots Q (F0 m pc lsR (.ref (ux_ad b n0 a) :: rest)) := by
  unfold ux_len at hg
  split at hg
  · cases hg
    obtain ⟨scr, g1, g2, g3, g4, g5⟩ := hR.2.2.2.1
    exact W.alen (n := Int32.ofNat sc.length) hx hb (cell := scr) g1 g2 (by rw [g4]) rfl rfl hdg kk
  · split at hg
    · rename_i t is vs hcell
      split at hg
      · cases hg
      · rename_i h100
        obtain ⟨⟨y, hy⟩, hat⟩ := (hR.cell hcell).arr (by show 100 ≤ t; omega)
        refine W.alen (n := Int32.ofNat n) hx hb hat ((hK.2.1 _ _ hy).1 _ _) ?_ rfl rfl hdg kk
        rw [arrV_size]
        split at hg
        · rename_i h102
          cases hg
          simp [ux_sz, h102]
        · rename_i h102
          cases hg
          simp [ux_sz, h102]
    · cases hg
/-! making -/
theorem ux_newW (hx : p.tables.exec = Jvm.exec) (hb : c.code = cc) (hown : s.vm.findClass own = some m.cls) (hK : ux_K Tw aty D cl ca s) (hC : ux_okC Tw cl ty) (hR : ux_R aty D cl ca b n0 sc zs s hh H) {k ci : Nat} {r : vw_C} {dv : List Value} (hr : cl[ci]? = some r) (hci : ci < 100) (h1 : Cond.classLink own k r.1 ∈ Tw) (h2 : Cond.instantiable r.1 r.2.2 ∈ Tw) (h3 : Cond.initialized r.1 ∈ Tw) (h4 : dv.length = r.2.2) (h5 : ∀ j, j < r.2.2 → dv[j]? = some (defaultValue (ty ci j)))
    (h0 : hh.2.1 = 0) (hdg : decode cc pc = .ok (.new k, 3)) (hcells : cells + 1 ≤ R.cells) (hslots : slots + dv.length ≤ R.slots)
    (kk : ∀ (H' : Heap), ux_R aty D cl ca b n0 sc zs s (ux_new hh (ci, [], dv) dv.length) H' → W p l e R s m args below meth c H' locs (cells + 1) (slots + dv.length) Q (F0 m (pc + 3) lsR (.ref (ux_ad b n0 (hh.1.length + 1)) :: rest))) : W p l e R s m args below meth c H locs cells slots Q (F0 m pc lsR rest) := by
  have hKn := hK.1 ci _ hr
  obtain ⟨hin, hty, hnm⟩ := hC _ _ hr
  have hts : ∀ w ∈ Tw, w.before args s = true := fun w hw => hK.2.2 w hw args
  rw [h4] at hslots kk
  refine W.newcK hx hb hown (hts _ h1) (hts _ h2) (hts _ h3) rfl hdg hcells hslots hKn.2.1 rfl fun H1 kC hkC e1 z1 o1 => ?_
  have hb2 := (u_born (ty ci) hts hin hKn hkC e1 hty).to (V' := fun j => ux_tr b n0 (vp_V dv j)) (fun j hj => by
    have := h5 j hj
    simp [vp_V, this, ux_tr_dflt])
  have hk := kk H1 (hR.push h0 z1 o1 (Or.inl ⟨hci, r, hr, hb2⟩))
  rw [hR.ref h0] at hk
  exact hk
theorem ux_newaW (hx : p.tables.exec = Jvm.exec) (hb : c.code = cc) (hK : ux_K Tw aty D cl ca s) (hR : ux_R aty D cl ca b n0 sc zs s hh H) {atp : ArrayType} {y : FieldType} (hty : newarray.typeOf atp = y) (hp : ∀ C, y ≠ .object C) (hw : Cond.arrayClass y ∈ Tw) {t : Nat} (hy : aty t = some y) (ht : 100 ≤ t) {c0 : ux_C} (hc0 : c0.1 = t) {n : Int32} (hcs : ux_sz c0 = n.toNatClampNeg) (hcv : ∀ j, j < n.toNatClampNeg → ux_val b n0 c0 j = defaultValue y)
    (hn : ¬ n < 0) (hnb : n.toNatClampNeg ≤ 100000) (h0 : hh.2.1 = 0) (hdg : decode cc pc = .ok (.newarray atp, 2)) (hcells : cells + 1 ≤ R.cells) (hslots : slots + n.toNatClampNeg ≤ R.slots)
    (kk : ∀ (H' : Heap), ux_R aty D cl ca b n0 sc zs s (ux_new hh c0 n.toNatClampNeg) H' → W p l e R s m args below meth c H' locs (cells + 1) (slots + n.toNatClampNeg) Q (F0 m (pc + 2) lsR (.ref (ux_ad b n0 (hh.1.length + 1)) :: rest))) : W p l e R s m args below meth c H locs cells slots Q (F0 m pc lsR (.int n :: rest)) := by
  subst hty
  have hcb : n.toNatClampNeg * componentBytes (newarray.typeOf atp) ≤ 536870912 := by
    have : componentBytes (newarray.typeOf atp) ≤ 8 := by cases atp <;> decide
    calc n.toNatClampNeg * componentBytes (newarray.typeOf atp) ≤ 100000 * 8 := Nat.mul_le_mul hnb this
      _ ≤ 536870912 := by decide
  refine va_newaK hx hb (hK.2.2 _ hw args) rfl hdg rfl hn rfl hcb hcells hslots rfl fun H1 cA e1 z1 o1 hAr hNm => ?_
  have hcA : cA = ca t := by
    have h := (hK.2.1 _ _ hy).2
    unfold va_RA at h
    split at h
    · rename_i C hC; exact absurd hC (hp C)
    · exact Option.some.inj (hNm.symm.trans h)
  subst hcA
  have hk := kk H1 (hR.push h0 z1 o1 (Or.inr ⟨by rw [hc0]; exact ht, ⟨_, by rw [hc0]; exact hy⟩, by
    rw [e1, hc0, hcs]
    exact congrArg some (ux_arr_eq fun j hj => (hcv j hj).symm)⟩))
  rw [hR.ref h0] at hk
  exact hk
theorem ux_anewW (hx : p.tables.exec = Jvm.exec) (hb : c.code = cc) (hown : s.vm.findClass own = some m.cls) (hK : ux_K Tw aty D cl ca s) (hR : ux_R aty D cl ca b n0 sc zs s hh H) {k t : Nat} {C : String} (hy : aty t = some (.object C)) (ht : 102 < t) (h1 : Cond.classLink own k C ∈ Tw) (h2 : Cond.arrayOver (.object C) ∈ Tw) {n : Int32}
    (hn : ¬ n < 0) (hnb : n.toNatClampNeg ≤ 100000) (h0 : hh.2.1 = 0) (hdg : decode cc pc = .ok (.anewarray k, 3)) (hcells : cells + 1 ≤ R.cells) (hslots : slots + n.toNatClampNeg ≤ R.slots)
    (kk : ∀ (H' : Heap), ux_R aty D cl ca b n0 sc zs s (ux_new hh (t, [], List.replicate n.toNatClampNeg .null) n.toNatClampNeg) H' → W p l e R s m args below meth c H' locs (cells + 1) (slots + n.toNatClampNeg) Q (F0 m (pc + 3) lsR (.ref (ux_ad b n0 (hh.1.length + 1)) :: rest))) : W p l e R s m args below meth c H locs cells slots Q (F0 m pc lsR (.int n :: rest)) := by
  refine W.anew hx hb hown (hK.2.2 _ h1 args) (hK.2.2 _ h2 args) rfl hdg rfl hn (by omega) hcells hslots fun cA kA comp f1 f2 f3 f4 => ?_
  have hcA : cA = ca t := by
    obtain ⟨kA', comp', -, -, -, h4⟩ := (hK.2.1 _ _ hy).2
    exact Option.some.inj (f1.symm.trans h4)
  subst hcA
  have ht2 : ¬ t < 102 := by omega
  have hk := kk (H.push ({ cls := ca t, slots := Array.replicate n.toNatClampNeg .null, vm := .none } : Cell)) (hR.push h0 (by simp) (fun q hq => by rw [Array.getElem?_push, if_neg (Nat.ne_of_lt hq)]) (Or.inr ⟨by show 100 ≤ t; omega, ⟨_, hy⟩, by
    rw [Array.getElem?_push_size, arrV_new]
    have hs : ux_sz (t, [], List.replicate n.toNatClampNeg Value.null) = n.toNatClampNeg := by simp [ux_sz, ht2]
    show some (arrV (ca t) _ _) = some (arrV (ca t) _ _)
    rw [hs]
    exact congrArg some (ux_arr_eq fun j hj => by simp [ux_val, ht2, hj, ux_tr])⟩))
  rw [hR.ref h0] at hk
  exact hk
end UXM
end
section
/-! One instruction that touches memory. -/
section UXN
variable {p : Program} {l : Launch} {e : Env} {R : Room} {s : State} {m : MethodId} {args : Array Value} {below : List Frame} {meth : Method} {c : Code} {H : Heap} {locs : List Loc} {cells slots : Nat} {Q : State → Prop} {b n0 nL pc : Nat} {ls st st' : List Value}
variable {Tw : List Cond} {aty : Nat → Option FieldType} {D : va_G} {cl : List vw_C} {ca : Nat → ClassId} {sc : List Int32} {zs : List (String × String × String)} {hh hh' : ux_H} {ty : Nat → Nat → FieldType} {P : ux_P} {M : ux_M} {i : Nat}
set_option maxHeartbeats 4000000 in
theorem ux_memW (hF : ux_okF P M Tw cl ty) (hN : ux_okN P M Tw cl ty) (hA : ux_okA P M Tw cl aty) (hLb : ux_okL P M Tw) (hC : ux_okC Tw cl ty)
    (hx : p.tables.exec = Jvm.exec) (hb : c.code = (M i).2.1) (hown : s.vm.findClass (M i).1.cls = some m.cls) (hnme : meth.name = (M i).1.name) (hml : c.maxLocals = nL) (hK : ux_K Tw aty D cl ca s) {ins : Instr} {len len' : Nat} (hd : decode (M i).2.1 pc = .ok (ins, len)) (hl : ux_lok ins len = true)
    (h : ux_mem P sc i ins st hh = some (len', st', hh')) (hR : ux_R aty D cl ca b n0 sc zs s hh H) (hloc : ∀ x ∈ locs, n0 ≤ x.base) {nc0 ns0 : Nat} (hc0 : cells + nc0 = ux_nc hh) (hs0 : slots + ns0 = ux_ns hh) (hcR : ux_nc hh' ≤ nc0 + R.cells) (hsR : ux_ns hh' ≤ ns0 + R.slots) (hfr : 8 ≤ R.frames) (hlo : 200 ≤ R.locals)
    (k : ∀ (H' : Heap) (locs' : List Loc) (cells' slots' : Nat), cells' + nc0 = ux_nc hh' → slots' + ns0 = ux_ns hh' → ux_R aty D cl ca b n0 sc zs s hh' H' → (∀ x ∈ locs', n0 ≤ x.base) → (hh'.2.2.2 = false → hh.2.2.2 = false ∧ H' = H ∧ locs' = locs ∧ cells' = cells ∧ slots' = slots) → ux_V p l e R s m args below meth c H' locs' cells' slots' Q b n0 nL (pc + len') ls st') :
    ux_V p l e R s m args below meth c H locs cells slots Q b n0 nL pc ls st := by
  have same : hh' = hh → ux_V p l e R s m args below meth c H locs cells slots Q b n0 nL (pc + len') ls st' := by
    rintro rfl
    exact k H locs cells slots hc0 hs0 hR hloc (fun h => ⟨h, rfl, rfl, rfl, rfl⟩)
  have put : ∀ (a : Nat) (cx : ux_C), hh' = ux_set hh a cx → ∀ (H' : Heap) (locs' : List Loc), ux_R aty D cl ca b n0 sc zs s hh' H' → (∀ x ∈ locs', n0 ≤ x.base) → ux_V p l e R s m args below meth c H' locs' cells slots Q b n0 nL (pc + len') ls st' := by
    rintro a cx rfl H' locs' h1 h2
    exact k H' locs' cells slots (by rw [hc0]; simp [ux_nc, ux_set]) (by rw [hs0]; rfl) h1 h2 (fun h => by cases h)
  have mk : ∀ (cx : ux_C) (n : Nat), hh' = ux_new hh cx n → ∀ H' : Heap, ux_R aty D cl ca b n0 sc zs s hh' H' → ux_V p l e R s m args below meth c H' locs (cells + 1) (slots + n) Q b n0 nL (pc + len') ls st' := by
    rintro cx n rfl H' h1
    refine k H' locs (cells + 1) (slots + n) ?_ ?_ h1 hloc (fun h => by cases h)
    · simp [ux_nc, ux_new] at hc0 ⊢; omega
    · simp [ux_ns, ux_new] at hs0 ⊢; omega
  have room : ∀ (cx : ux_C) (n : Nat), hh' = ux_new hh cx n → cells + 1 ≤ R.cells ∧ slots + n ≤ R.slots := by
    rintro cx n rfl
    simp [ux_nc, ux_new] at hc0 hcR
    simp [ux_ns, ux_new] at hs0 hsR
    omega
  unfold ux_mem at h
  split at h
  case h_1 => -- getfield
    obtain rfl : len = 3 := by simpa [ux_lok] using hl
    split at h
    · rename_i ci j q a r hf
      cases hg : ux_get hh a ci j with
      | none => rw [hg] at h; cases h
      | some v =>
        rw [hg] at h; cases h
        obtain ⟨rr, q1, q2, q3, q4, -, -, -, -, q5⟩ := hF _ _ _ _ _ hf
        intro lsR hL
        exact ux_getW hx hb hown hK hC hR q1 q2 q3 q4 q5 hg hd (same rfl lsR hL)
    · cases h
  case h_2 => -- putfield
    obtain rfl : len = 3 := by simpa [ux_lok] using hl
    split at h
    · rename_i ci j q v a r hf
      split at h
      · rename_i hv
        cases hg : ux_put hh a ci j v with
        | none => rw [hg] at h; cases h
        | some h2 =>
          rw [hg] at h; cases h
          obtain ⟨rr, q1, q2, q3, q4, q5, q6, q70, q71, q8⟩ := hF _ _ _ _ _ hf
          have q7 : (rr.2.1 j).2.2.2 = true → (M i).1.name = "<init>" ∧ rr.1 = (M i).1.cls := fun hfl => by
            rcases hv.2 with h0 | ⟨h1, h4⟩
            · rw [q70 h0] at hfl; cases hfl
            · exact q71 h1 h4
          intro lsR hL
          have hp : ∃ cx, hh' = ux_set hh a cx := by
            unfold ux_put at hg
            split at hg
            · split at hg
              · cases hg; exact ⟨_, rfl⟩
              · cases hg
            · cases hg
          obtain ⟨cx, hcx⟩ := hp
          exact ux_putW hx hb hown hnme hK hC hR q1 q2 q3 q4 q5 q6 q7 q8 hv.1 hg hd hloc (fun H' locs' g1 g2 => put a cx hcx H' locs' g1 g2 lsR hL)
      · cases h
    · cases h
  case h_3 => -- iaload
    obtain rfl : len = 1 := by simpa [ux_lok] using hl
    split at h
    · rename_i j a r
      cases hg : ux_ld 100 sc hh a j with
      | none => rw [hg] at h; cases h
      | some v =>
        rw [hg] at h; cases h
        intro lsR hL
        exact ux_ialdW hx hb hK hA.1.1 hR hg hd (same rfl lsR hL)
    · cases h
  case h_4 => -- baload
    obtain rfl : len = 1 := by simpa [ux_lok] using hl
    split at h
    · rename_i j a r
      cases hg : ux_ld 101 sc hh a j with
      | none => rw [hg] at h; cases h
      | some v =>
        rw [hg] at h; cases h
        intro lsR hL
        exact ux_zaldW hx hb hK hA.1.2.1 hR hg hd (same rfl lsR hL)
    · cases h
  case h_5 => -- laload
    obtain rfl : len = 1 := by simpa [ux_lok] using hl
    split at h
    · split at h
      · rename_i hg
        cases h
        intro lsR hL
        exact ux_laldW hx hb hK hA.1.2.2 hR hg hd (same rfl lsR hL)
      · cases h
    · cases h
  case h_6 => -- aaload
    obtain rfl : len = 1 := by simpa [ux_lok] using hl
    split at h
    · split at h
      · rename_i hg
        split at h
        · rename_i ht
          cases h
          intro lsR hL
          exact ux_aaldW hx hb hK (fun t y h1 h2 => by obtain ⟨C, -, h3, -⟩ := hA.2.2.1 t y h1 h2; exact ⟨C, h3⟩) hR ht hg hd (same rfl lsR hL)
        · cases h
      · cases h
    · cases h
  case h_7 => -- iastore
    obtain rfl : len = 1 := by simpa [ux_lok] using hl
    split at h
    · rename_i x j a r
      cases hg : ux_st 100 hh a j x with
      | none => rw [hg] at h; cases h
      | some h2 =>
        rw [hg] at h; cases h
        obtain ⟨-, is, vs, -, -, hcx⟩ := ux_st_some hg
        intro lsR hL
        exact ux_iastW hx hb hK hA.1.1 hR hg hd hloc (fun H' locs' g1 g2 => put a _ hcx H' locs' g1 g2 lsR hL)
    · cases h
  case h_8 => -- bastore
    obtain rfl : len = 1 := by simpa [ux_lok] using hl
    split at h
    · rename_i x j a r
      split at h
      · rename_i h01
        cases hg : ux_st 101 hh a j x with
        | none => rw [hg] at h; cases h
        | some h2 =>
          rw [hg] at h; cases h
          obtain ⟨-, is, vs, -, -, hcx⟩ := ux_st_some hg
          intro lsR hL
          exact ux_zastW hx hb hK hA.1.2.1 hR h01 hg hd hloc (fun H' locs' g1 g2 => put a _ hcx H' locs' g1 g2 lsR hL)
      · cases h
    · cases h
  case h_9 => -- lastore
    obtain rfl : len = 1 := by simpa [ux_lok] using hl
    split at h
    · split at h
      · rename_i hg
        cases h
        obtain ⟨-, is, vs, -, -, hcx⟩ := ux_stv_some hg
        intro lsR hL
        exact ux_lastW hx hb hK hA.1.2.2 hR hg hd hloc (fun H' locs' g1 g2 => put _ _ hcx H' locs' g1 g2 lsR hL)
      · cases h
    · cases h
  case h_10 => -- aastore
    obtain rfl : len = 1 := by simpa [ux_lok] using hl
    split at h
    · split at h
      · rename_i hg hcv
        split at h
        · rename_i ht
          obtain ⟨ht, hci, hco⟩ := ht
          cases h
          obtain ⟨hj, is, vs, hcell, -, hcx⟩ := ux_stv_some hg
          obtain ⟨⟨y, hy⟩, -⟩ := (hR.cell hcell).arr (by show 100 ≤ _; omega)
          obtain ⟨C, rr, rfl, q2, q3⟩ := hA.2.2.1 _ y ht hy
          rw [hco] at q2
          intro lsR hL
          exact ux_aastW hx hb hK hR ht hy q2 q3 hci hcv hg hd hloc (fun H' locs' g1 g2 => put _ _ hcx H' locs' g1 g2 lsR hL)
        · cases h
      · cases h
    · cases h
  case h_11 => -- arraylength
    obtain rfl : len = 1 := by simpa [ux_lok] using hl
    split at h
    · rename_i a r
      cases hg : ux_len sc hh a with
      | none => rw [hg] at h; cases h
      | some n =>
        rw [hg] at h; cases h
        intro lsR hL
        exact ux_alenW hx hb hK hR hg hd (same rfl lsR hL)
    · cases h
  case h_12 => -- new
    obtain rfl : len = 3 := by simpa [ux_lok] using hl
    split at h
    · rename_i ci hf
      split at h
      · rename_i hci
        cases h
        obtain ⟨rr, q1, q2, q3, q4, q5, q6⟩ := hN _ _ _ hf hci.1
        intro lsR hL
        exact ux_newW hx hb hown hK hC hR q1 hci.1 q2 q3 q4 q5 q6 hci.2 hd (room _ _ rfl).1 (room _ _ rfl).2 (fun H' g1 => mk _ _ rfl H' g1 lsR hL)
      · cases h
    · cases h
  case h_13 => -- newarray
    obtain rfl : len = 2 := by simpa [ux_lok] using hl
    split at h
    · split at h
      · rename_i hn
        cases h
        intro lsR hL
        exact ux_newaW (atp := .int) (y := .int) (t := 100) hx hb hK hR rfl (fun C q => by cases q) hA.2.1.1 hA.1.1 (by decide) rfl (by simp [ux_sz]) (fun j hj => by simp [ux_val, hj, newarray.typeOf, defaultValue]) hn.1 hn.2.1 hn.2.2 hd (room _ _ rfl).1 (room _ _ rfl).2 (fun H' g1 => mk _ _ rfl H' g1 lsR hL)
      · cases h
    · split at h
      · rename_i hn
        cases h
        intro lsR hL
        exact ux_newaW (atp := .boolean) (y := .boolean) (t := 101) hx hb hK hR rfl (fun C q => by cases q) hA.2.1.2.1 hA.1.2.1 (by decide) rfl (by simp [ux_sz]) (fun j hj => by simp [ux_val, hj, newarray.typeOf, defaultValue]) hn.1 hn.2.1 hn.2.2 hd (room _ _ rfl).1 (room _ _ rfl).2 (fun H' g1 => mk _ _ rfl H' g1 lsR hL)
      · cases h
    · split at h
      · rename_i hn
        cases h
        intro lsR hL
        exact ux_newaW (atp := .long) (y := .long) (t := 102) hx hb hK hR rfl (fun C q => by cases q) hA.2.1.2.2 hA.1.2.2 (by decide) rfl (by simp [ux_sz]) (fun j hj => by simp [ux_val, hj, newarray.typeOf, defaultValue, ux_tr]) hn.1 hn.2.1 hn.2.2 hd (room _ _ rfl).1 (room _ _ rfl).2 (fun H' g1 => mk _ _ rfl H' g1 lsR hL)
      · cases h
    · cases h
  case h_14 => -- anewarray
    obtain rfl : len = 3 := by simpa [ux_lok] using hl
    split at h
    · rename_i t n r hf
      split at h
      · rename_i hn
        cases h
        obtain ⟨C, q1, q2, q3⟩ := hA.2.2.2 _ _ _ hf hn.1 hn.2.1
        intro lsR hL
        exact ux_anewW hx hb hown hK hR q1 hn.1 q2 q3 hn.2.2.1 hn.2.2.2.1 hn.2.2.2.2 hd (room _ _ rfl).1 (room _ _ rfl).2 (fun H' g1 => mk _ _ rfl H' g1 lsR hL)
      · cases h
    · cases h
  case h_15 => -- Object.<init>
    obtain rfl : len = 3 := by simpa [ux_lok] using hl
    split at h
    · rename_i j n a r hf
      split at h
      · rename_i hw
        cases h
        obtain ⟨q1, q2, q3⟩ := (hLb _ _ _ _ _ hf).1 rfl
        intro lsR hL
        refine W.objInit hx hb hown (hK.2.2 _ q1 args) (hK.2.2 _ q2 args) (hK.2.2 _ q3 args) rfl (by rw [hml]; exact hL.2.2.1) rfl hd (by omega) ?_ (same rfl lsR hL)
        have e1 : ((List.map (ux_tr b n0) st').map fun v => v.category).sum = (st'.map fun v => v.category).sum := by
          rw [List.map_map]; congr 1; exact List.map_congr_left fun v _ => ux_cat b n0 v
        show 2 * 0 + ((List.map (ux_tr b n0) st').map fun v => v.category).sum + 12 ≤ R.locals
        omega
      · cases h
    · cases h
  case h_16 => -- Math.max, Math.min
    obtain rfl : len = 3 := by simpa [ux_lok] using hl
    have e1 : ∀ r : List Value, ((List.map (ux_tr b n0) r).map fun v => v.category).sum = (r.map fun v => v.category).sum := by
      intro r
      rw [List.map_map]; congr 1; exact List.map_congr_left fun v _ => ux_cat b n0 v
    have hcc : cells ≤ R.cells := by
      have : hh' = hh := by
        split at h
        · split at h <;> cases h; rfl
        · split at h <;> cases h; rfl
        · cases h
      subst this; omega
    have hss : slots ≤ R.slots := by
      have : hh' = hh := by
        split at h
        · split at h <;> cases h; rfl
        · split at h <;> cases h; rfl
        · cases h
      subst this; omega
    split at h
    · rename_i j n y x r hf
      split at h
      · rename_i hw
        cases h
        obtain ⟨q1, q2, q3, q4⟩ := (hLb _ _ _ _ _ hf).2.1 rfl
        intro lsR hL
        exact va_mmax hx hb (by rw [hml]; exact hL.2.2.1.symm) hown (hK.2.2 _ q1 args) (hK.2.2 _ q2 args) (hK.2.2 _ q3 args) (hK.2.2 _ q4 args) (by omega) (by rw [e1]; omega) hcc hss hd (same rfl lsR hL)
      · cases h
    · rename_i j n y x r hf
      split at h
      · rename_i hw
        cases h
        obtain ⟨q1, q2, q3, q4⟩ := (hLb _ _ _ _ _ hf).2.2 rfl
        intro lsR hL
        exact va_mmin hx hb (by rw [hml]; exact hL.2.2.1.symm) hown (hK.2.2 _ q1 args) (hK.2.2 _ q2 args) (hK.2.2 _ q3 args) (hK.2.2 _ q4 args) (by omega) (by rw [e1]; omega) hcc hss hd (same rfl lsR hL)
      · cases h
    · cases h
  case h_17 => cases h
end UXN
end
section
/-! Calls, ends, exceptions. -/
theorem ux_mono {p : Program} {l : Launch} {e : Env} {R : Room} {s : State} {m : MethodId} {args : Array Value} {below : List Frame} {meth : Method} {c : Code} {H : Heap} {locs : List Loc} {cells slots : Nat} {Q Q' : State → Prop} {g : JFrame} (h : W p l e R s m args below meth c H locs cells slots Q g) (k : ∀ t, Q t → Q' t) : W p l e R s m args below meth c H locs cells slots Q' g := by
  intro T hT X
  obtain ⟨t, a, b⟩ := h T hT X
  exact ⟨t, a, k t b⟩
def ux_okW (Tw : List Cond) : Prop := ∀ w ∈ Tw, ∀ (s U : State) (a a' : Array Value), s.WarmedH U.vm → w.before a s = true → w.before a' U = true
theorem ux_K.moved {Tw : List Cond} {aty : Nat → Option FieldType} {D : va_G} {cl : List vw_C} {ca : Nat → ClassId} {s U : State} (hW : ux_okW Tw) (h : ux_K Tw aty D cl ca s) (hw : s.WarmedH U.vm) : ux_K Tw aty D cl ca U :=
  ⟨fun ci q hq => u_Kn_moved hw.alike (h.1 ci q hq), fun t y hy => ⟨arrOfT_moved hw.alike (h.2.1 t y hy).1, (h.2.1 t y hy).2.moved hw.alike⟩, fun w hwm a => hW w hwm s U a a hw (h.2.2 w hwm a)⟩
theorem ux_R.moved {aty : Nat → Option FieldType} {D : va_G} {cl : List vw_C} {ca : Nat → ClassId} {b n0 : Nat} {sc : List Int32} {zs : List (String × String × String)} {s U : State} {hh : ux_H} {H : Heap} (h : ux_R aty D cl ca b n0 sc zs s hh H) (hvm : s.vm.Alike U.vm) : ux_R aty D cl ca b n0 sc zs U hh H :=
  ⟨h.1, h.2.1, h.2.2.1, h.2.2.2.1.moved hvm, fun z hz => (h.2.2.2.2 z hz).moved hvm⟩
theorem ux_R.like {aty : Nat → Option FieldType} {D : va_G} {cl : List vw_C} {ca : Nat → ClassId} {b n0 : Nat} {sc : List Int32} {zs : List (String × String × String)} {s : State} {hh hh2 : ux_H} {H : Heap} (h : ux_R aty D cl ca b n0 sc zs s hh H) (h1 : hh2.1 = hh.1) (h2 : hh2.2.1 = hh.2.1) : ux_R aty D cl ca b n0 sc zs s hh2 H :=
  ⟨h.1, by rw [h.2.1]; simp [ux_nc, h1, h2], by rw [h1]; exact h.2.2.1, h.2.2.2⟩
def ux_out (b n0 : Nat) (ex : Nat → String × List String) (s : State) (o : ux_O) (oc : Outcome) (H : Heap) : Prop := match o with
  | .inr v => oc = .returned (v.map (ux_tr b n0))
  | .inl k => k < 3 ∧ ∃ (a : Addr) (cell : Cell), oc = .threw a ∧ H[a]? = some cell ∧ cell.vm = .none ∧ s.vm.findClass (ex k).1 = some cell.cls ∧ s.vm.assignable cell.cls cell.cls = true
/-- the end of a frame, as the evaluator says it -/
def ux_Q (aty : Nat → Option FieldType) (D : va_G) (cl : List vw_C) (ca : Nat → ClassId) (b n0 : Nat) (sc : List Int32) (zs : List (String × String × String)) (ex : Nat → String × List String) (s : State) (below : List Frame) (nc0 ns0 : Nat) (o : ux_O) (hh : ux_H) : State → Prop := fun t =>
  ∃ (oc : Outcome) (L : List Loc) (C S : Nat), t.status = .running ∧ Ended t below oc ∧ s.WarmedH t.vm ∧ s.sameButNew ({ t with vm := s.vm } : State) L C S ∧ C + nc0 = ux_nc hh ∧ S + ns0 = ux_ns hh ∧ (∀ x ∈ L, n0 ≤ x.base) ∧ (hh.2.2.2 = false → L = [] ∧ t.heap = s.heap ∧ C = 0 ∧ S = 0) ∧ ux_R aty D cl ca b n0 sc zs s hh t.heap ∧ ux_out b n0 ex s o oc t.heap
def ux_okR (P : ux_P) (M : ux_M) : Prop := ∀ i, ((P.2.2.2.2.2.2 i).2.1 = 0 ∨ (P.2.2.2.2.2.2 i).2.1 = 4 → (M i).2.2.1 = none) ∧ ((P.2.2.2.2.2.2 i).2.1 = 1 → (M i).2.2.1 = some .int) ∧ ((P.2.2.2.2.2.2 i).2.1 = 2 → (M i).2.2.1 = some .boolean) ∧ ((P.2.2.2.2.2.2 i).2.1 = 3 → ∃ C, (M i).2.2.1 = some (.object C))
section UXE
variable {p : Program} {l : Launch} {e : Env} {R : Room} {s : State} {m : MethodId} {args : Array Value} {below : List Frame} {meth : Method} {c : Code} {H : Heap} {locs : List Loc} {cells slots : Nat} {Q : State → Prop} {b n0 nL pc : Nat} {ls st : List Value}
variable {Tw : List Cond} {aty : Nat → Option FieldType} {D : va_G} {cl : List vw_C} {ca : Nat → ClassId} {sc : List Int32} {zs : List (String × String × String)} {ex : Nat → String × List String} {hh hh' : ux_H} {ty : Nat → Nat → FieldType} {P : ux_P} {M : ux_M} {i : Nat}
set_option maxHeartbeats 4000000 in
theorem ux_retW (hok : ux_okR P M) (hx : p.tables.exec = Jvm.exec) (hb : c.code = (M i).2.1) (hr : meth.sig.returnType = (M i).2.2.1) (hlk : meth.locks = false) {ins : Instr} {len : Nat} (hd : decode (M i).2.1 pc = .ok (ins, len)) (hl : ux_lok ins len = true) {v : Option Value} (h : ux_ret (P.2.2.2.2.2.2 i).2.1 ins st = some v)
    (hR : ux_R aty D cl ca b n0 sc zs s hh H) (hloc : ∀ x ∈ locs, n0 ≤ x.base) {nc0 ns0 : Nat} (hc0 : cells + nc0 = ux_nc hh) (hs0 : slots + ns0 = ux_ns hh) (hw : hh.2.2.2 = false → locs = [] ∧ H = s.heap ∧ cells = 0 ∧ slots = 0) :
    ux_V p l e R s m args below meth c H locs cells slots (ux_Q aty D cl ca b n0 sc zs ex s below nc0 ns0 (.inr v) hh) b n0 nL pc ls st := by
  have key : ∀ t : State, MQ below (fun _ _ o t => o = .returned (v.map (ux_tr b n0)) ∧ t.heap = H) args s cells slots (fun q => ∃ x ∈ locs, x.base = q) t → ux_Q aty D cl ca b n0 sc zs ex s below nc0 ns0 (.inr v) hh t := by
    rintro t ⟨o, h1, h2, ⟨rfl, h4⟩, L, ⟨-, h5, h6⟩, h7⟩
    refine ⟨_, L, cells, slots, h1, h2, h5, h6, hc0, hs0, fun x hx => ?_, fun hf => ?_, by rw [h4]; exact hR, rfl⟩
    · obtain ⟨y, hy, hyx⟩ := h7 x hx
      rw [← hyx]; exact hloc y hy
    · obtain ⟨g1, g2, g3, g4⟩ := hw hf
      refine ⟨List.eq_nil_iff_forall_not_mem.mpr fun x hx => ?_, by rw [h4, g2], g3, g4⟩
      obtain ⟨y, hy, -⟩ := h7 x hx
      rw [g1] at hy
      cases hy
  have hf : ∀ q ∈ locs, ∃ x ∈ locs, x.base = q.base := fun q hq => ⟨q, hq, rfl⟩
  unfold ux_ret at h
  split at h
  · obtain rfl : len = 1 := by simpa [ux_lok] using hl
    split at h
    · rename_i x
      split at h
      · rename_i hk
        cases h
        intro lsR hL
        rcases hk with hk | ⟨hk, hx01⟩
        · exact ux_mono (W.zret (ty := .int) hx hb (hr.trans ((hok i).2.1 hk)) rfl (fun t ht _ => ⟨rfl, ht⟩) hf hd hlk) key
        · exact ux_mono (W.zret (ty := .boolean) hx hb (hr.trans ((hok i).2.2.1 hk)) (by rcases hx01 with rfl | rfl <;> rfl) (fun t ht _ => ⟨rfl, ht⟩) hf hd hlk) key
      · cases h
    · cases h
  · obtain rfl : len = 1 := by simpa [ux_lok] using hl
    split at h
    · split at h
      · rename_i hk
        cases h
        intro lsR hL
        obtain ⟨C, hC⟩ := (hok i).2.2.2 hk
        exact ux_mono (W.aret (rt := .object C) hx hb (hr.trans hC) (Or.inl ⟨C, rfl⟩) (Or.inr ⟨_, rfl⟩) (fun t ht _ => ⟨rfl, ht⟩) hf hd hlk) key
      · cases h
    · cases h
  · obtain rfl : len = 1 := by simpa [ux_lok] using hl
    split at h
    · split at h
      · rename_i hk
        cases h
        intro lsR hL
        exact ux_mono (W.vret hx hb (hr.trans ((hok i).1 hk)) (fun t ht _ => ⟨rfl, ht⟩) hf hd hlk) key
      · cases h
    · cases h
  · cases h
end UXE
/-! 'throw new X()' in a frame that has written nothing -/
theorem ux_same0 {s s' : State} {C S : Nat} (h : s.sameButNew s' [] C S) : ∀ q : Nat, q < s.heap.size → s'.heap[q]? = s.heap[q]? := by
  intro q hq
  obtain ⟨-, -, -, -, -, h6⟩ := h
  have hc : s.heap[q]? = some s.heap[q] := Array.getElem?_eq_getElem hq
  obtain ⟨c', h1, h2, h3, h4⟩ := h6 q _ hc
  rw [h1, hc]
  have hs : c'.slots = (s.heap[q]).slots := by
    apply Array.ext_getElem?
    intro i
    exact h4 i (by simp)
  rw [h2, hs]
theorem ux_isref {args : Array Value} {s : State} {n0 : Nat} {z : String × String × String} (h : ux_Zs n0 z s s.heap) : (Cond.isRef (.static z.1 z.2.1 z.2.2)).before args s = true ∧ (Cond.laysStatic z.1 z.2.1 z.2.2).before args s = true := by
  obtain ⟨c, k, i, f, a, cell, v, h1, h2, h3, h4, h5, h6, h7, h8, h9, h10, h11, h12⟩ := h
  refine ⟨?_, ?_⟩
  · rcases h12 with rfl | ⟨t, rfl⟩
    · simp [Cond.before, Cond.holds, Cond.value, Term.eval, State.fieldNamed?, h2, h3, h4, h5, h6, h11]
    · simp [Cond.before, Cond.holds, Cond.value, Term.eval, State.fieldNamed?, h2, h3, h4, h5, h6, h11]
  · simp [Cond.before, Cond.holds, Cond.value, h1, h2, h3, h4, h5, h6, h7, h8, h9]
def ux_okT (P : ux_P) (M : ux_M) (Tw : List Cond) (zs : List (String × String × String)) (ex : Nat → String × List String) : Prop := ∀ (i k k2 x : Nat), P.2.2.2.1 i k = some (1000 + x) → P.2.2.1 i k2 = some (9, 1000 + x, 0) →
  x < 3 ∧ Cond.classLink (M i).1.cls k (ex x).1 ∈ Tw ∧ Cond.initialized (ex x).1 ∈ Tw ∧ Bundle.fit (ex x).1 = true ∧ (∀ n ∈ (ex x).2, Bundle.fit n = true) ∧ (ex x).2.length ≤ 2 ∧
  (∀ w ∈ Bundle.ownAtoms0 (M i).1.cls k2 (ex x).1 (ex x).2, w ∈ Tw ∨ ∃ z ∈ zs, w = .isRef (.static z.1 z.2.1 z.2.2) ∨ w = .laysStatic z.1 z.2.1 z.2.2)
def ux_okH (P : ux_P) (M : ux_M) : Prop := ∀ i, (P.2.2.2.2.2.2 i).2.2 = [] → (M i).2.2.2 = []
section UXT
variable {p : Program} {l : Launch} {e : Env} {R : Room} {s : State} {m : MethodId} {args : Array Value} {below : List Frame} {meth : Method} {c : Code} {H : Heap} {locs : List Loc} {cells slots : Nat} {Q : State → Prop} {b n0 nL pc : Nat} {ls st : List Value}
variable {Tw : List Cond} {aty : Nat → Option FieldType} {D : va_G} {cl : List vw_C} {ca : Nat → ClassId} {sc : List Int32} {zs : List (String × String × String)} {ex : Nat → String × List String} {hh hh' : ux_H} {ty : Nat → Nat → FieldType} {P : ux_P} {M : ux_M} {i : Nat}
set_option maxHeartbeats 4000000 in
theorem ux_thrW (hI : ux_okI P M) (hT : ux_okT P M Tw zs ex) (hH : ux_okH P M) (hx : p.tables.exec = Jvm.exec) (hb : c.code = (M i).2.1) (hown : s.vm.findClass (M i).1.cls = some m.cls) (hml : c.maxLocals = nL) (htab : c.exceptionTable.toList = tableOf (M i).2.2.2) (hlk : meth.locks = false) (htr : l.stackTraces = false) (hK : ux_K Tw aty D cl ca s) {ins : Instr} {len : Nat} (hd : decode (M i).2.1 pc = .ok (ins, len)) (hl : ux_lok ins len = true) {k : Nat} (h : ux_thr P i pc ins st hh = some k)
    (hR : ux_R aty D cl ca b n0 sc zs s hh H) {nc0 ns0 : Nat} (hc0 : cells + nc0 = ux_nc hh) (hs0 : slots + ns0 = ux_ns hh) (hcR : ux_nc hh + 1 ≤ nc0 + R.cells) (hsR : ux_ns hh + 6 ≤ ns0 + R.slots) (hfr : 8 ≤ R.frames) (hlo : 200 ≤ R.locals) (hw : hh.2.2.2 = false → locs = [] ∧ H = s.heap ∧ cells = 0 ∧ slots = 0) :
    ux_V p l e R s m args below meth c H locs cells slots (ux_Q aty D cl ca b n0 sc zs ex s below nc0 ns0 (.inl k) (hh.1, hh.2.1 + 1, hh.2.2.1 + 6, true)) b n0 nL pc ls st := by
  unfold ux_thr at h
  split at h
  · rename_i k1
    obtain rfl : len = 3 := by simpa [ux_lok] using hl
    split at h
    · rename_i q k2 hq h3 h4 h7
      split at h
      · rename_i hcond
        obtain ⟨hq1, hq2, rfl, hq4, hq5⟩ := hcond
        have hkq := Option.some.inj h
        obtain ⟨x, rfl⟩ : ∃ x, q = 1000 + x := ⟨q - 1000, by omega⟩
        obtain rfl : x = k := by omega
        obtain ⟨w0, w1, w2, w3, w4, w5, w6⟩ := hT _ _ _ _ hq hq2
        obtain ⟨rfl, rfl, rfl, rfl⟩ := hw hq4
        have hts : ∀ w ∈ Tw, w.before args s = true := fun w hw => hK.2.2 w hw args
        have hat : ∀ w ∈ Bundle.ownAtoms0 (M i).1.cls k2 (ex x).1 (ex x).2, w.before args s = true := by
          intro w hw
          rcases w6 w hw with h1 | ⟨z, hz, rfl | rfl⟩
          · exact hts w h1
          · exact (ux_isref (hR.2.2.2.2 z hz)).1
          · exact (ux_isref (hR.2.2.2.2 z hz)).2
        have hins : (Cond.instantiable (ex x).1 6).before args s = true := hat _ (by simp [Bundle.ownAtoms0])
        obtain ⟨cX, kX0, hfX, -⟩ := Cond.instantiable_spec hins
        have hnt : c.exceptionTable.toList = [] := by rw [htab, hH i hq5]; rfl
        intro lsR hL
        refine W.newcK hx hb hown (hts _ w1) hins (hts _ w2) rfl hd (by simp [ux_nc] at hc0 hcR; omega) (by simp [ux_ns] at hs0 hsR; omega) hfX rfl fun H1 kX hkX e1 z1 o1 => ?_
        refine lv_dup hx hb (hI _ _ _ _ h3).1 rfl ?_
        intro T hT2 X
        have hcell : T.heap[s.heap.size]? = some (freshCell cX kX) := by rw [hT2]; exact e1
        obtain ⟨U, g1, g2, g3, g4, g5, ce, g6, g7⟩ := X.ctorThrow0 hx (by have hq9 := X.admits.2.2.2.2.1; rw [hq9]; exact htr) (own := (M i).1.cls) (cls := (ex x).1) (names := (ex x).2) (ic := k2) hown w3 w4 hat (fun y hy => by cases hy) hfX hkX hcell (Nat.le_refl _)
          (g := F0 m (pc + 3 + 1) lsR [.ref s.heap.size, .ref s.heap.size]) rfl (by rw [hml]; exact hL.2.2.1) rfl rfl (rest := []) rfl (by rw [hb]; exact (hI _ _ _ _ h4).1) (by rw [hb]; exact (hI _ _ _ _ h7).1) (fun y hy => by rw [hnt] at hy; cases hy) (by omega) (by show 2 * 0 + 1 + (13 * ((ex x).2.length + 1) + 41) ≤ R.locals; omega) hlk
        refine ⟨U, g1, .threw s.heap.size, [], _, _, g2, g3, g4, g5, ?_, ?_, (fun y hy => by cases hy), (fun hf => by cases hf), ?_, ⟨w0, _, ce, rfl, g6, g7.vm, g7.cls, g7.self⟩⟩
        · simp [ux_nc] at hc0 ⊢; omega
        · simp [ux_ns] at hs0 ⊢; omega
        · have hsame : ∀ q : Nat, q < s.heap.size → U.heap[q]? = s.heap[q]? := fun q hq => ux_same0 g5 q hq
          have hz2 : U.heap.size = s.heap.size + 1 := by
            have h1 : U.heap.size ≤ s.heap.size + (0 + 1) := g5.2.2.1
            have h2 := (Array.getElem?_eq_some_iff.mp g6).1
            omega
          obtain ⟨r1, r2, r3, r4, r5⟩ := hR
          refine ⟨r1, ?_, fun j d hj => ?_, r4.kept (hsame b (by omega)), fun z hz => (r5 z hz).kept fun q hq => hsame q (by omega)⟩
          · rw [hz2, r2]; simp [ux_nc]; omega
          · have hlt : j < hh.1.length := (List.getElem?_eq_some_iff.mp hj).1
            exact (r3 j d hj).kept (hsame _ (by rw [r2]; simp [ux_nc]; omega))
      · cases h
    · cases h
  · cases h
end UXT
end
section
/-! A handler whose class may not have been resolved yet. -/
theorem ux_go_cold {E : CtlPost} {e : Env} {d : Bool} {acts : List Action} {s : State} {f : JFrame} {a : Addr} {Q : Handler → Pre} {x : ExceptionTableEntry} {t : List ExceptionTableEntry} {c : ClassId} {vm' : Vm} {cell : Cell} (hx : covers x f.pc = true) (h0 : x.catchType ≠ 0)
    (hg : (Jvm.resolveClass f.method.cls x.catchType).Gives e.toSetting s.vm (.ok c) vm') (hsz : vm'.classes.size ≤ s.vm.classes.size) (hcell : s.heap[a]? = some cell) (hobj : ∀ k, cell.vm ≠ .statics k) (hk : ∃ k, vm'.classes[cell.cls]? = some k) (hc : ∃ k, vm'.classes[c]? = some k) :
    Sem.wp (findHandler.go f a (x :: t)) Q E e d acts s ↔ if vm'.assignable cell.cls c = true then Q (.found x.handlerPc) d acts (s.setVm vm') else Sem.wp (findHandler.go f a t) Q E e d acts (s.setVm vm') := by
  simp only [covers] at hx
  obtain ⟨ha, ht⟩ := hg.op (op := VmOp.resolveClass f.method.cls x.catchType) rfl
  cases hfit : vm'.assignable cell.cls c <;>
    simp [findHandler.go, hx, h0, ha, ht, hsz, hcell, hobj, hk, hc, hfit, VmOp.dirties, VmOp.acts]
theorem ux_catchStep {e : Env} {s s' : State} {a : Addr} {f : JFrame} {r : List Frame} {pc : Nat} (hfind : ∀ (Q : Handler → Pre) (E : CtlPost) (d : Bool) (acts : List Action), Sem.wp (findHandler f a) Q E e d acts s ↔ Q (.found pc) d acts s') :
    (stepThrowing e s a (.java f :: r)).Is (s'.setFrames (.java { f with pc := pc, stack := [.ref a] } :: r)) [] := by
  simp only [stepThrowing, searchFrame, vmDo]
  generalize hr : Sem.go _ e false [] s = res
  obtain ⟨as, rfl, ha⟩ := Sem.eq_ok_of hr (a := Handler.found pc) (s' := s') (acts' := []) (by simp [hfind _ _ _ _])
  exact ⟨rfl, ha⟩
/-- the handlers as the evaluator has them: kinds in place of the classes' numbers -/
def ux_hs (ex : Nat → String × List String) (Tw : List Cond) (own : String) (hs hsR : List (Nat × Nat × Nat × Nat)) : Prop := hs.length = hsR.length ∧ ∀ (n : Nat) (q r : Nat × Nat × Nat × Nat), hs[n]? = some q → hsR[n]? = some r → q.1 = r.1 ∧ q.2.1 = r.2.1 ∧ q.2.2.1 = r.2.2.1 ∧ r.2.2.2 ≠ 0 ∧ q.2.2.2 < 3 ∧ Cond.classLink own r.2.2.2 (ex q.2.2.2).1 ∈ Tw
theorem ux_find {e : Env} {s : State} {own : String} {Tw : List Cond} {ex : Nat → String × List String} {f : JFrame} {a : Addr} {cell : Cell} {k tp : Nat} {args : Array Value} (hpl : e.platform.magicAccessors = ({} : Platform).magicAccessors) (hown : s.vm.findClass own = some f.method.cls) (hts : ∀ w ∈ Tw, w.before args s = true)
    (hex : ∀ j, j < 3 → j ≠ k → va_Nc (ex k).1 (ex j).1 s) (hself : s.vm.assignable cell.cls cell.cls = true) (hobj : cell.vm = .none) (hcls : s.vm.findClass (ex k).1 = some cell.cls) : ∀ (hsR hs : List (Nat × Nat × Nat × Nat)), ux_hs ex Tw own hs hsR → ux_hnd hs f.pc k = some tp → ∀ S : State, s.WarmedH S.vm → S.heap[a]? = some cell →
    ∃ vm', s.WarmedH vm' ∧ ∀ (Q : Handler → Pre) (E : CtlPost) (d : Bool) (acts : List Action), Sem.wp (findHandler.go f a (tableOf hsR)) Q E e d acts S ↔ Q (.found tp) d acts (S.setVm vm') := by
  intro hsR
  induction hsR with
  | nil =>
    intro hs hrel hnd
    have : hs = [] := List.eq_nil_of_length_eq_zero hrel.1
    subst this
    cases hnd
  | cons r rs ih =>
    intro hs hrel hnd S hW hS
    cases hs with
    | nil => exact absurd hrel.1 (by simp)
    | cons q qs =>
      have hrel' : ux_hs ex Tw own qs rs := ⟨by simpa using hrel.1, fun n q' r' h1 h2 => hrel.2 (n + 1) q' r' (by simpa using h1) (by simpa using h2)⟩
      obtain ⟨e1, e2, e3, e4, e6, e5⟩ := hrel.2 0 q r rfl rfl
      obtain ⟨qa, qb, qt, qk⟩ := q
      obtain ⟨ra, rb, rt, rk⟩ := r
      simp only at e1 e2 e3 e4 e5 e6
      subst e1; subst e2; subst e3
      show ∃ vm', _ ∧ ∀ (Q : Handler → Pre) (E : CtlPost) (d : Bool) (acts : List Action), Sem.wp (findHandler.go f a (⟨qa, qb, qt, rk⟩ :: tableOf rs)) Q E e d acts S ↔ _
      unfold ux_hnd at hnd
      by_cases hcov : qa ≤ f.pc ∧ f.pc < qb
      · have hx : covers ⟨qa, qb, qt, rk⟩ f.pc = true := by simp [covers, hcov.1, hcov.2]
        obtain ⟨c', hc', hcl⟩ := Cond.classLink_spec hown (hts _ e5) e.platform hpl
        obtain ⟨dk, _, _, kt, hd, _, _, _, _, hkt, _, hopen⟩ := hcl.here
        have hcl₀ := hW.classLinks hcl
        have hW' : s.WarmedH (S.vm.noted f.method.cls rk (.cls c')) := hW.noted hd hopen (State.rightAt_cls hcl)
        have hsz : (S.vm.noted f.method.cls rk (.cls c')).classes.size ≤ S.vm.classes.size := Nat.le_of_eq (Vm.size_noted _ _ _ _)
        obtain ⟨kk0, hkk0⟩ := Vm.classAt_of_findClass hcls
        obtain ⟨ks', hks', -⟩ := hW'.alike.2.2 _ _ hkk0
        obtain ⟨kt', hkt', -⟩ := hW'.alike.2.2 _ _ hkt
        have hgo := fun (Q : Handler → Pre) (E : CtlPost) (d : Bool) (acts : List Action) => ux_go_cold (E := E) (e := e) (d := d) (acts := acts) (s := S) (f := f) (a := a) (Q := Q) (x := ⟨qa, qb, qt, rk⟩) (t := tableOf rs) hx e4 (resolveClass_links e.toSetting hcl₀) hsz hS (fun z hz => by rw [hobj] at hz; cases hz) ⟨ks', hks'⟩ ⟨kt', hkt'⟩
        by_cases hqk : qk = k
        · subst hqk
          rw [if_pos ⟨hcov.1, hcov.2, rfl⟩] at hnd
          cases hnd
          cases hcls.symm.trans hc'
          refine ⟨_, hW', fun Q E d acts => ?_⟩
          rw [hgo, if_pos (by rw [hW'.alike.assignable]; exact hself)]
        · rw [if_neg (fun h => hqk h.2.2)] at hnd
          obtain ⟨c1, t1, g1, g2, g3⟩ := hex qk e6 hqk
          cases hcls.symm.trans g1
          cases hc'.symm.trans g2
          obtain ⟨vm', hv1, hv2⟩ := ih qs hrel' hnd (S.setVm (S.vm.noted f.method.cls rk (.cls c'))) hW' hS
          refine ⟨vm', hv1, fun Q E d acts => ?_⟩
          rw [hgo, if_neg (by rw [hW'.alike.assignable, g3]; decide), hv2]
          rfl
      · rw [if_neg (fun h => hcov ⟨h.1, h.2.1⟩)] at hnd
        have hx : covers ⟨qa, qb, qt, rk⟩ f.pc = false := by
          simp only [covers, Bool.and_eq_false_iff, decide_eq_false_iff_not]
          by_cases h1 : qa ≤ f.pc
          · exact Or.inr fun h2 => hcov ⟨h1, h2⟩
          · exact Or.inl h1
        obtain ⟨vm', hv1, hv2⟩ := ih qs hrel' hnd S hW hS
        refine ⟨vm', hv1, fun Q E d acts => ?_⟩
        rw [W.findHandler_go_skip hx, hv2]
theorem ux_weaken {tb : Tables} {e : Env} {g : Frame} {below : List Frame} {a b : State} (h : Steps tb e (g :: below) a b) : Steps tb e below a b := by
  obtain ⟨n, hn, w⟩ := h
  exact ⟨n, hn, fun k hk => Within.weaken (mid := [g]) (w k hk)⟩
/-- an exception that came out of a callee is caught -/
theorem ux_caught {p : Program} {l : Launch} {e : Env} {R : Room} {s : State} {m : MethodId} {args : Array Value} {below : List Frame} {meth : Method} {c : Code} {T : State} {locs : List Loc} {cells slots : Nat} (X : Stand p l e R s m args below meth c T locs cells slots) {own : String} {Tw : List Cond} {ex : Nat → String × List String} {g : JFrame} {a : Addr} {cell : Cell} {k tp : Nat} {hs hsR : List (Nat × Nat × Nat × Nat)}
    (hg : g.method = m) (hown : s.vm.findClass own = some m.cls) (hts : ∀ w ∈ Tw, w.before args s = true) (hex : ∀ j, j < 3 → j ≠ k → va_Nc (ex k).1 (ex j).1 s) (hself : s.vm.assignable cell.cls cell.cls = true) (hobj : cell.vm = .none) (hcls : s.vm.findClass (ex k).1 = some cell.cls) (hcell : T.heap[a]? = some cell)
    (htab : c.exceptionTable.toList = tableOf hsR) (hrel : ux_hs ex Tw own hs hsR) (hnd : ux_hnd hs g.pc k = some tp) :
    ∃ vm', Stand p l e R s m args below meth c (T.setVm vm') locs cells slots ∧ ∀ target, Steps p.tables e below ((T.setVm vm').setTop { g with pc := tp, stack := [.ref a] }) target → Steps p.tables e below ((T.setTop g).pushFrame (.throwing a)) target := by
  have hpl : e.platform.magicAccessors = ({} : Platform).magicAccessors := by rw [X.admits.platform]
  have hvm0 : ((T.setTop g).pushFrame (.throwing a)).vm = T.vm := Stand.throwing_vm T g a
  have hhp0 : ((T.setTop g).pushFrame (.throwing a)).heap = T.heap := Stand.throwing_heap T g a
  obtain ⟨vm', hW', hfind⟩ := ux_find (e := e) (f := g) (a := a) (cell := cell) hpl (by rw [hg]; exact hown) hts hex hself hobj hcls hsR hs hrel hnd ((T.setTop g).pushFrame (.throwing a)) (by rw [hvm0]; exact X.warmed) (by rw [hhp0]; exact hcell)
  refine ⟨vm', X.noted hW', fun target hrest => ?_⟩
  have h : At T g.method c below := by rw [hg]; exact X.here
  obtain ⟨hgo, hw⟩ := h.throwing a
  refine Steps.head hgo hw ?_
  have hm : ((T.setTop g).pushFrame (.throwing a)).vm.method? g.method = some meth := by rw [hvm0, hg]; exact X.method'
  have hfind2 : ∀ (Q : Handler → Pre) (E : CtlPost) (d : Bool) (acts : List Action), Sem.wp (findHandler g a) Q E e d acts ((T.setTop g).pushFrame (.throwing a)) ↔ Q (.found tp) d acts (((T.setTop g).pushFrame (.throwing a)).setVm vm') := by
    intro Q E d acts
    rw [W.findHandler_eq hm X.code, htab]
    exact hfind Q E d acts
  rw [stepThread_throwing (frames_entered h.top _), (ux_catchStep hfind2).1]
  obtain ⟨g₀, hg0⟩ := Option.isSome_iff_exists.mp h.top
  obtain ⟨r, hr⟩ := State.topJava?_eq_some.mp hg0
  have hr' : (T.setVm vm').frames = .java g₀ :: r := hr
  rw [State.setTop_of_frames _ hr'] at hrest
  have e1 : (((T.setTop g).pushFrame (.throwing a)).setVm vm').setFrames (.java { g with pc := tp, stack := [.ref a] } :: T.frames.tail) = (T.setVm vm').setFrames (.java { g with pc := tp, stack := [.ref a] } :: r) := by
    rw [State.pushFrame, State.setTop_of_frames _ hr, hr]
    show ((((T.setFrames (.java g :: r)).setFrames (.throwing a :: (T.setFrames (.java g :: r)).frames)).setFrames (.java { g with pc := tp, stack := [.ref a] } :: r)).setVm vm') = _
    rw [State.setFrames_setFrames, State.setFrames_setFrames]
    rfl
  rw [e1]
  exact hrest
end
section
/-! The evaluator tells the truth of the machine. -/
def ux_word (P : ux_P) (M : ux_M) (Tw : List Cond) (j : Nat) : Prop := ((M j).2.2.2 = [] ∧ Cond.code (M j).1 (M j).2.1 (P.2.2.2.2.2.2 j).1 (M j).2.2.1 ∈ Tw) ∨ Cond.codeWith (M j).1 (M j).2.1 (P.2.2.2.2.2.2 j).1 (M j).2.2.1 (M j).2.2.2 ∈ Tw
def ux_okG (P : ux_P) (M : ux_M) (Tw : List Cond) (cl : List vw_C) : Prop := ∀ (i k q j n : Nat), P.2.2.1 i k = some (q, j, n) → (q < 2 ∨ q = 4 ∨ q = 5 ∨ 100 ≤ q) →
  plainName (M j).1.cls = true ∧ ((M j).1.cls ≠ "java/lang/invoke/MethodHandle" ∧ (M j).1.cls ≠ "java/lang/invoke/VarHandle") ∧ (parseMethodDescriptor (M j).1.desc).map (fun d => d.parameters.length) = some n ∧ ux_word P M Tw j ∧
  (q = 0 → Cond.methodLink (M i).1.cls k (M j).1 ∈ Tw ∧ Cond.static (M j).1 ∈ Tw ∧ Cond.initialized (M j).1.cls ∈ Tw) ∧
  (q = 1 → (∃ host, Cond.methodLinkNest (M i).1.cls k (M j).1 host ∈ Tw) ∧ Cond.static (M j).1 ∈ Tw ∧ Cond.initialized (M j).1.cls ∈ Tw) ∧
  (q = 4 → (M j).1.name = "<init>" ∧ Cond.methodLink (M i).1.cls k (M j).1 ∈ Tw ∧ Cond.instanceMethod (M j).1 ∈ Tw ∧ Cond.code (M j).1 (M j).2.1 (P.2.2.2.2.2.2 j).1 none ∈ Tw) ∧
  (q = 5 → (M j).1.name = "<init>" ∧ (∃ host, Cond.methodLinkNest (M i).1.cls k (M j).1 host ∈ Tw) ∧ Cond.instanceMethod (M j).1 ∈ Tw ∧ Cond.code (M j).1 (M j).2.1 (P.2.2.2.2.2.2 j).1 none ∈ Tw) ∧
  (∀ ci, q = 100 + ci → ∃ r : vw_C, cl[ci]? = some r ∧ Cond.methodLink (M i).1.cls k (M j).1 ∈ Tw ∧ Cond.instanceMethod (M j).1 ∈ Tw ∧ Cond.selects r.1 (M j).1 (M j).1 ∈ Tw)
theorem ux_word_spec {P : ux_P} {M : ux_M} {Tw : List Cond} {j : Nat} {s : State} {mk : MethodId} (h : ux_word P M Tw j) (hts : ∀ w ∈ Tw, ∀ a : Array Value, w.before a s = true) (hn : s.methodNamed? (M j).1 = some mk) :
    ∃ methk ck, s.vm.method? mk = some methk ∧ methk.code = some ck ∧ ck.code = (M j).2.1 ∧ ck.maxLocals = (P.2.2.2.2.2.2 j).1 ∧ methk.sig.returnType = (M j).2.2.1 ∧ methk.locks = false ∧ ck.exceptionTable.toList = tableOf (M j).2.2.2 ∧ parseMethodDescriptor (M j).1.desc = some methk.sig := by
  rcases h with ⟨h0, h⟩ | h
  · obtain ⟨methk, ck, h1, h2, h3, h4, h5, h6, h7, h8⟩ := Cond.code_spec hn (hts _ h #[])
    refine ⟨methk, ck, h1, h2, h3, h4, h5, h6, ?_, h8⟩
    have h9 : ck.exceptionTable = #[] := by simpa using h7
    rw [h0, h9]
    rfl
  · obtain ⟨m', methk, ck, h0, h1, h2, h3, h4, h5, h6, h7, h8⟩ := Cond.codeWith_spec (hts _ h #[])
    cases hn.symm.trans h0
    exact ⟨methk, ck, h1, h2, h3, h4, h6, h7, by rw [← h5, table_eq], h8⟩
theorem ux_cal_some {P : ux_P} {i : Nat} {ins : Instr} {st as r : List Value} {hh : ux_H} {j : Nat} (h : ux_cal P i ins st hh = some (j, as, r)) :
    (∃ k q n, ins = .invokestatic k ∧ P.2.2.1 i k = some (q, j, n) ∧ q < 2 ∧ as.length = n ∧ st = as.reverse ++ r) ∨
    (∃ k q n a as' ci is vs, ins = .invokevirtual k ∧ P.2.2.1 i k = some (q, j, n) ∧ as = .ref a :: as' ∧ as'.length = n ∧ st = as'.reverse ++ .ref a :: r ∧ ux_cell hh a = some (ci, is, vs) ∧ q = 100 + ci ∧ ci < 100) ∨
    (∃ k q n a as', ins = .invokespecial k ∧ P.2.2.1 i k = some (q, j, n) ∧ as = .ref a :: as' ∧ as'.length = n ∧ st = as'.reverse ++ .ref a :: r ∧ (q = 4 ∨ q = 5)) := by
  have cut : ∀ (n a : Nat) (r' : List Value), st.drop n = .ref a :: r' → ((st.take n).reverse).length = n ∧ st = ((st.take n).reverse).reverse ++ .ref a :: r' := by
    intro n a r' hr
    have hlt : n < st.length := by
      have := congrArg List.length hr
      simp at this
      omega
    refine ⟨by simp; omega, ?_⟩
    rw [List.reverse_reverse, ← hr, List.take_append_drop]
  unfold ux_cal at h
  split at h
  · rename_i k
    split at h
    · rename_i q j' n hq
      split at h
      · rename_i hc
        cases h
        exact Or.inl ⟨k, q, n, rfl, hq, hc.1, by simp; omega, by rw [List.reverse_reverse, List.take_append_drop]⟩
      · cases h
    · cases h
  · rename_i k
    split at h
    · rename_i q j' n hq
      split at h
      · rename_i a r' hdr
        split at h
        · rename_i ci is vs hcell
          split at h
          · rename_i hc
            cases h
            obtain ⟨h1, h2⟩ := cut n a _ hdr
            exact Or.inr (Or.inl ⟨k, q, n, a, _, ci, is, vs, rfl, hq, rfl, h1, h2, hcell, hc.1, hc.2⟩)
          · cases h
        · cases h
      · cases h
    · cases h
  · rename_i k
    split at h
    · rename_i q j' n hq
      split at h
      · rename_i a r' hdr
        split at h
        · rename_i hc
          cases h
          obtain ⟨h1, h2⟩ := cut n a _ hdr
          exact Or.inr (Or.inr ⟨k, q, n, a, _, rfl, hq, rfl, h1, h2, hc⟩)
        · cases h
      · cases h
    · cases h
  · cases h
section UXI
variable {p : Program} {l : Launch} {e : Env} {R : Room} {s : State} {m : MethodId} {args : Array Value} {below : List Frame} {meth : Method} {c : Code} {H : Heap} {locs : List Loc} {cells slots : Nat} {Q : State → Prop} {b n0 nL pc : Nat} {ls st : List Value}
variable {Tw : List Cond} {aty : Nat → Option FieldType} {D : va_G} {cl : List vw_C} {ca : Nat → ClassId} {sc : List Int32} {zs : List (String × String × String)} {ex : Nat → String × List String} {hh hh' : ux_H} {ty : Nat → Nat → FieldType} {P : ux_P} {M : ux_M} {i : Nat}
/-- the invoking instruction: the callee is found, whatever was resolved before -/
theorem ux_invW (hG : ux_okG P M Tw cl) (hx : p.tables.exec = Jvm.exec) (hb : c.code = (M i).2.1) (hown : s.vm.findClass (M i).1.cls = some m.cls) (hK : ux_K Tw aty D cl ca s) {ins : Instr} {len : Nat} (hd : decode (M i).2.1 pc = .ok (ins, len)) (hl : ux_lok ins len = true) {j : Nat} {as r : List Value} (h : ux_cal P i ins st hh = some (j, as, r))
    (hR : ux_R aty D cl ca b n0 sc zs s hh H) {T : State} (hT : T.heap = H) (X : Stand p l e R s m args below meth c T locs cells slots) (lsR : Array Slot) :
    len = 3 ∧ plainName (M j).1.cls = true ∧ ux_word P M Tw j ∧ ∃ (vm₁ : Vm) (mk : MethodId), Stand p l e R s m args below meth c (T.setVm vm₁) locs cells slots ∧ s.methodNamed? (M j).1 = some mk ∧
      ∀ target, (∀ acts, Steps p.tables e below (doInvoke e ((T.setVm vm₁).setTop (F0 m pc lsR (r.map (ux_tr b n0)))) acts mk (as.map (ux_tr b n0)).toArray).1 target) → Steps p.tables e below (T.setTop (F0 m pc lsR (st.map (ux_tr b n0)))) target := by
  have hts : ∀ w ∈ Tw, w.before args s = true := fun w hw => hK.2.2 w hw args
  rcases ux_cal_some h with ⟨k, q, n, rfl, hq, hq2, hlen, hst⟩ | ⟨k, q, n, a, as', ci, is, vs, rfl, hq, rfl, hlen, hst, hcell, hqc, hci⟩ | ⟨k, q, n, a, as', rfl, hq, rfl, hlen, hst, hq45⟩
  · obtain rfl : len = 3 := by simpa [ux_lok] using hl
    obtain ⟨w1, w2, w3, w4, w5, w6, -, -, -⟩ := hG _ _ _ _ _ hq (Or.inl hq2)
    refine ⟨rfl, w1, w4, ?_⟩
    have hstat : Cond.static (M j).1 ∈ Tw ∧ Cond.initialized (M j).1.cls ∈ Tw := by
      by_cases h0 : q = 0
      · exact (w5 h0).2
      · exact (w6 (by omega)).2
    have hnm : ∃ mk, s.methodNamed? (M j).1 = some mk := by
      rcases w4 with ⟨-, h1⟩ | h1
      · exact Cond.code_named (hts _ h1)
      · obtain ⟨m', _, _, h0, -⟩ := Cond.codeWith_spec (hts _ h1)
        exact ⟨m', h0⟩
    obtain ⟨mk, hnamed⟩ := hnm
    obtain ⟨methk, ck, hmk, -, -, -, -, -, -, hsig⟩ := ux_word_spec w4 hK.2.2 hnamed
    have hstatic : methk.isStatic = true := Cond.static_spec hnamed hmk (hts _ hstat.1)
    obtain ⟨kP, hkP, -⟩ := className_of_methodNamed hnamed
    have hinitP : kP.init = .initialized := Cond.initialized_spec (findClass_of_methodNamed hnamed) hkP (hts _ hstat.2)
    have hpl : (as.map (ux_tr b n0)).length = methk.sig.parameters.length := by
      rw [hsig] at w3
      rw [List.length_map, hlen]
      exact (Option.some.inj w3).symm
    have hstk : (F0 m pc lsR (st.map (ux_tr b n0))).stack = (as.map (ux_tr b n0)).reverse ++ r.map (ux_tr b n0) := by
      show st.map (ux_tr b n0) = _
      rw [hst, List.map_append, List.map_reverse]
    by_cases h0 : q = 0
    · obtain ⟨vm₁, X₁, st1⟩ := X.invokestatic hx hown (hts _ (w5 h0).1) hnamed hmk hstatic hkP hinitP w2 (g := F0 m pc lsR (st.map (ux_tr b n0))) rfl hpl hstk (by rw [hb]; exact hd)
      exact ⟨vm₁, mk, X₁, hnamed, st1⟩
    · obtain ⟨host, hh0⟩ := (w6 (by omega)).1
      obtain ⟨vm₁, X₁, st1⟩ := X.invokestaticNest hx hown (hts _ hh0) hnamed hmk hstatic hkP hinitP w2 (g := F0 m pc lsR (st.map (ux_tr b n0))) rfl hpl hstk (by rw [hb]; exact hd)
      exact ⟨vm₁, mk, X₁, hnamed, st1⟩
  · obtain rfl : len = 3 := by simpa [ux_lok] using hl
    obtain ⟨w1, w2, w3, w4, -, -, -, -, w9⟩ := hG _ _ _ _ _ hq (by omega)
    refine ⟨rfl, w1, w4, ?_⟩
    obtain ⟨rc, hrc, v1, v2, v3⟩ := w9 ci hqc
    obtain ⟨mk, methM, hnamed, hmethM, hstM, habM⟩ := Cond.instanceMethod_spec (hts _ v2)
    obtain ⟨methk, ck, hmk, -, -, -, -, -, -, hsig⟩ := ux_word_spec w4 hK.2.2 hnamed
    cases hmethM.symm.trans hmk
    obtain ⟨r', hr', cellB, g1, g2, g3, -⟩ := (hR.cell hcell).obj hci
    cases hrc.symm.trans hr'
    have hfc : s.vm.findClass rc.1 = some cellB.cls := by rw [g2]; exact (hK.1 ci rc hrc).2.1
    obtain ⟨c2, r2, m2, q1, q2, q3, q4, kP, hkP, hkPi⟩ := Cond.selects_spec (hts _ v3)
    cases hfc.symm.trans q1
    cases (State.methodFound?_of_named hnamed w2).symm.trans q2
    cases hnamed.symm.trans q3
    have hselP : selectMethod e.platform s.vm cellB.cls mk = .method mk := by rw [Launch.admits_selectMethod X.admits]; exact q4
    have hpl : (as'.map (ux_tr b n0)).length = methM.sig.parameters.length := by
      rw [hsig] at w3
      rw [List.length_map, hlen]
      exact (Option.some.inj w3).symm
    have hstk : (F0 m pc lsR (st.map (ux_tr b n0))).stack = (as'.map (ux_tr b n0)).reverse ++ .ref (ux_ad b n0 a) :: r.map (ux_tr b n0) := by
      show st.map (ux_tr b n0) = _
      rw [hst, List.map_append, List.map_reverse]
      rfl
    obtain ⟨vm₁, X₁, st1⟩ := X.invokevirtual hx hown (hts _ v1) hnamed hmethM hstM hkP hkPi w2 (a := ux_ad b n0 a) (cell := cellB) (by rw [hT]; exact g1) (fun z hz => by rw [g3] at hz; cases hz) hselP hmethM habM hkP hkPi (g := F0 m pc lsR (st.map (ux_tr b n0))) rfl hpl hstk (by rw [hb]; exact hd)
    exact ⟨vm₁, mk, X₁, hnamed, st1⟩
  · obtain rfl : len = 3 := by simpa [ux_lok] using hl
    obtain ⟨w1, w2, w3, w4, -, -, w7, w8, -⟩ := hG _ _ _ _ _ hq (by omega)
    refine ⟨rfl, w1, w4, ?_⟩
    have hplm : e.platform.magicAccessors = ({} : Platform).magicAccessors := by rw [X.admits.platform]
    have hln : ∀ sig, parseMethodDescriptor (M j).1.desc = some sig → (as'.map (ux_tr b n0)).length = sig.parameters.length := by
      intro sig hs
      rw [hs] at w3
      rw [List.length_map, hlen]
      exact (Option.some.inj w3).symm
    have hstk : (F0 m pc lsR (st.map (ux_tr b n0))).stack = (as'.map (ux_tr b n0)).reverse ++ .ref (ux_ad b n0 a) :: r.map (ux_tr b n0) := by
      show st.map (ux_tr b n0) = _
      rw [hst, List.map_append, List.map_reverse]
      rfl
    rcases hq45 with h4 | h5
    · obtain ⟨u1, u2, u3, u4⟩ := w7 h4
      obtain ⟨mk, methM, cM, kP, vm₁, hnamed, hmethM, hcodeM, -, hlocalsM, -, hkP, -, hW₁, hstep₁⟩ := Steps.initColdArgs (e := e) X.here hx X.warmed hplm hown u1 w2 (hts _ u2) (hts _ u3) (hts _ u4) (f := F0 m pc lsR (st.map (ux_tr b n0))) rfl hln hstk (by rw [hb]; exact hd)
      exact ⟨vm₁, mk, X.noted hW₁, hnamed, hstep₁⟩
    · obtain ⟨u1, ⟨host, u2⟩, u3, u4⟩ := w8 h5
      obtain ⟨mk, methM, cM, kP, vm₁, hnamed, hmethM, hcodeM, -, hlocalsM, -, hkP, -, hW₁, hstep₁⟩ := Steps.initColdArgsNest (e := e) X.here hx X.warmed hplm hown u1 w2 (hts _ u2) (hts _ u3) (hts _ u4) (f := F0 m pc lsR (st.map (ux_tr b n0))) rfl hln hstk (by rw [hb]; exact hd)
      exact ⟨vm₁, mk, X.noted hW₁, hnamed, hstep₁⟩
end UXI
/-- nothing is unmade -/
theorem ux_mem_mono {P : ux_P} {sc : List Int32} {i : Nat} {ins : Instr} {st st' : List Value} {hh hh' : ux_H} {len : Nat} (h : ux_mem P sc i ins st hh = some (len, st', hh')) : ux_nc hh ≤ ux_nc hh' ∧ ux_ns hh ≤ ux_ns hh' := by
  have set : ∀ a cx, ux_nc hh ≤ ux_nc (ux_set hh a cx) ∧ ux_ns hh ≤ ux_ns (ux_set hh a cx) := fun a cx => by simp [ux_nc, ux_ns, ux_set]
  have new : ∀ cx n, ux_nc hh ≤ ux_nc (ux_new hh cx n) ∧ ux_ns hh ≤ ux_ns (ux_new hh cx n) := fun cx n => by simp [ux_nc, ux_ns, ux_new]
  have put : ∀ {a ci j v h2}, ux_put hh a ci j v = some h2 → ux_nc hh ≤ ux_nc h2 ∧ ux_ns hh ≤ ux_ns h2 := by
    intro a ci j v h2 hg
    unfold ux_put at hg
    split at hg
    · split at hg
      · cases hg; exact set _ _
      · cases hg
    · cases hg
  have stt : ∀ {t a j x h2}, ux_st t hh a j x = some h2 → ux_nc hh ≤ ux_nc h2 ∧ ux_ns hh ≤ ux_ns h2 := by
    intro t a j x h2 hg
    obtain ⟨-, is, vs, -, -, rfl⟩ := ux_st_some hg
    exact set _ _
  have stv : ∀ {t a j v h2}, ux_stv hh a j v = some (t, h2) → ux_nc hh ≤ ux_nc h2 ∧ ux_ns hh ≤ ux_ns h2 := by
    intro t a j x h2 hg
    obtain ⟨-, is, vs, -, -, rfl⟩ := ux_stv_some hg
    exact set _ _
  have rf : ux_nc hh ≤ ux_nc hh ∧ ux_ns hh ≤ ux_ns hh := ⟨Nat.le_refl _, Nat.le_refl _⟩
  unfold ux_mem at h
  split at h <;> (repeat' split at h) <;> first
    | (cases h; done)
    | (simp only [Option.map_eq_some_iff, Prod.mk.injEq] at h; obtain ⟨v, h1, -, -, rfl⟩ := h; first | exact rf | exact put h1 | exact stt h1)
    | (cases h; first | exact rf | exact new _ _ | (rename_i hg; exact stv hg) | (rename_i hg _; exact stv hg) | (rename_i hg _ _; exact stv hg))
theorem ux_run_mono {P : ux_P} {sc : List Int32} : ∀ (n d i pc : Nat) (ls st : List Value) (hh : ux_H) (o : ux_O) (hh' : ux_H), ux_run P sc n d i pc ls st hh = some (o, hh') → ux_nc hh ≤ ux_nc hh' ∧ ux_ns hh ≤ ux_ns hh' := by
  intro n
  induction n with
  | zero => intro d i pc ls st hh o hh' h; cases h
  | succ n ih =>
    intro d i pc ls st hh o hh' h
    unfold ux_run at h
    split at h
    · cases h
    · split at h
      · exact ih _ _ _ _ _ _ _ _ h
      · split at h
        · rename_i hm
          have h1 := ux_mem_mono hm
          have h2 := ih _ _ _ _ _ _ _ _ h
          omega
        · split at h
          · cases h; exact ⟨Nat.le_refl _, Nat.le_refl _⟩
          · split at h
            · cases h; simp [ux_nc, ux_ns]
            · split at h
              · split at h
                · split at h
                  · rename_i hc
                    have h1 := ih _ _ _ _ _ _ _ _ hc
                    have h2 := ih _ _ _ _ _ _ _ _ h
                    simp only [ux_nc, ux_ns] at h1 h2 ⊢
                    omega
                  · rename_i hc
                    have h1 := ih _ _ _ _ _ _ _ _ hc
                    split at h
                    · split at h
                      · cases h
                        simp only [ux_nc, ux_ns] at h1 ⊢
                        exact h1
                      · cases h
                    · split at h
                      · split at h
                        · have h2 := ih _ _ _ _ _ _ _ _ h
                          simp only [ux_nc, ux_ns] at h1 h2 ⊢
                          omega
                        · cases h
                      · cases h
                  · cases h
                · cases h
              · cases h
end
section
/-! THE EVALUATOR TELLS THE TRUTH. -/
def ux_ok (P : ux_P) (M : ux_M) (Tw : List Cond) (cl : List vw_C) (ty : Nat → Nat → FieldType) (aty : Nat → Option FieldType) (zs : List (String × String × String)) (ex : Nat → String × List String) : Prop :=
  ux_okI P M ∧ ux_okC Tw cl ty ∧ ux_okF P M Tw cl ty ∧ ux_okN P M Tw cl ty ∧ ux_okA P M Tw cl aty ∧ ux_okL P M Tw ∧ ux_okR P M ∧ ux_okT P M Tw zs ex ∧ ux_okG P M Tw cl ∧ ux_okW Tw ∧ ∀ i, ux_hs ex Tw (M i).1.cls (P.2.2.2.2.2.2 i).2.2 (M i).2.2.2
def ux_E (ex : Nat → String × List String) (s : State) : Prop := ∀ j k, j < 3 → k < 3 → j ≠ k → va_Nc (ex k).1 (ex j).1 s
theorem ux_sum_tr (b n0 : Nat) (r : List Value) : ((r.map (ux_tr b n0)).map fun v => v.category).sum = (r.map fun v => v.category).sum := by
  rw [List.map_map]
  congr 1
  exact List.map_congr_left fun v _ => ux_cat b n0 v
set_option maxHeartbeats 8000000 in
theorem ux_sound {P : ux_P} {M : ux_M} {Tw : List Cond} {cl : List vw_C} {ty : Nat → Nat → FieldType} {aty : Nat → Option FieldType} {zs : List (String × String × String)} {ex : Nat → String × List String} (hok : ux_ok P M Tw cl ty aty zs ex) {l : Launch} (htr : l.stackTraces = false) {p : Program} {e : Env} (hx : p.tables.exec = Jvm.exec) {D : va_G} {ca : Nat → ClassId} {b n0 : Nat} {sc : List Int32} :
    ∀ (n d i pc : Nat) (ls st : List Value) (hh : ux_H) (o : ux_O) (hh' : ux_H), ux_run P sc n d i pc ls st hh = some (o, hh') →
    ∀ (R : Room) (s : State) (m : MethodId) (args : Array Value) (below : List Frame) (meth : Method) (c : Code) (H : Heap) (locs : List Loc) (cells slots nc0 ns0 : Nat),
      c.code = (M i).2.1 → c.maxLocals = (P.2.2.2.2.2.2 i).1 → meth.sig.returnType = (M i).2.2.1 → meth.locks = false → c.exceptionTable.toList = tableOf (M i).2.2.2 → s.vm.findClass (M i).1.cls = some m.cls → meth.name = (M i).1.name → ux_K Tw aty D cl ca s → ux_E ex s →
      ux_R aty D cl ca b n0 sc zs s hh H → (∀ x ∈ locs, n0 ≤ x.base) → cells + nc0 = ux_nc hh → slots + ns0 = ux_ns hh → ux_nc hh' ≤ nc0 + R.cells → ux_ns hh' ≤ ns0 + R.slots → d + 8 ≤ R.frames → 64 * d + 200 ≤ R.locals → (hh.2.2.2 = false → locs = [] ∧ H = s.heap ∧ cells = 0 ∧ slots = 0) →
      ux_V p l e R s m args below meth c H locs cells slots (ux_Q aty D cl ca b n0 sc zs ex s below nc0 ns0 o hh') b n0 (P.2.2.2.2.2.2 i).1 pc ls st := by
  obtain ⟨okI, okC, okF, okN, okA, okL, okR, okT, okG, okW, okX⟩ := hok
  have okH : ux_okH P M := fun i h => by
    have := (okX i).1
    rw [h] at this
    exact List.eq_nil_of_length_eq_zero this.symm
  intro n
  induction n with
  | zero => intro d i pc ls st hh o hh' h; cases h
  | succ n ih =>
    intro d i pc ls st hh o hh' h R s m args below meth c H locs cells slots nc0 ns0 hb hml hr hlk htab hown hnme hK hE hR hloc hc0 hs0 hcR hsR hfr hlo hw
    have hmo0 := ux_run_mono (n + 1) d i pc ls st hh o hh' h
    unfold ux_run at h
    split at h
    · cases h
    · rename_i ins len hins
      obtain ⟨hd, hlok⟩ := okI _ _ _ _ hins
      split at h
      · rename_i pc' ls' st' hsim
        exact ux_simW hx hb hd hlok hsim (ih _ _ _ _ _ _ _ _ h R s m args below meth c H locs cells slots nc0 ns0 hb hml hr hlk htab hown hnme hK hE hR hloc hc0 hs0 hcR hsR hfr hlo hw)
      · split at h
        · rename_i len' st' h2 hmem
          have hmo := ux_run_mono _ _ _ _ _ _ _ _ _ h
          refine ux_memW okF okN okA okL okC hx hb hown hnme hml hK hd hlok hmem hR hloc hc0 hs0 (Nat.le_trans hmo.1 hcR) (Nat.le_trans hmo.2 hsR) (by omega) (by omega) fun H' locs' cells' slots' g1 g2 g3 g4 g5 => ?_
          refine ih _ _ _ _ _ _ _ _ h R s m args below meth c H' locs' cells' slots' nc0 ns0 hb hml hr hlk htab hown hnme hK hE g3 g4 g1 g2 hcR hsR hfr hlo fun hf => ?_
          obtain ⟨k1, k2, k3, k4, k5⟩ := g5 hf
          obtain ⟨j1, j2, j3, j4⟩ := hw k1
          exact ⟨k3.trans j1, k2.trans j2, k4.trans j3, k5.trans j4⟩
        · split at h
          · rename_i v hret
            cases h
            exact ux_retW okR hx hb hr hlk hd hlok hret hR hloc hc0 hs0 hw
          · split at h
            · rename_i k hthr
              cases h
              exact ux_thrW okI okT okH hx hb hown hml htab hlk htr hK hd hlok hthr hR hc0 hs0 (by simp [ux_nc] at hcR ⊢; omega) (by simp [ux_ns] at hsR ⊢; omega) (by omega) (by omega) hw
            · split at h
              · rename_i j as r d' hcal
                split at h
                · rename_i hcond
                  obtain ⟨hc1, hc2, hc3, hc4⟩ := hcond
                  have hcat : ∀ v ∈ as, v.category = 1 := fun v hv => by simpa using List.all_eq_true.mp hc4 v hv
                  intro lsR hL T hT X
                  obtain ⟨rfl, w1, w4, vm₁, mk, X₁, hnamed, st1⟩ := ux_invW okG hx hb hown hK hd hlok hcal hR hT X lsR
                  have hKU : ux_K Tw aty D cl ca (T.setVm vm₁) := hK.moved okW X₁.warmed
                  have hnU : (T.setVm vm₁).methodNamed? (M j).1 = some mk := X₁.named hnamed
                  obtain ⟨methk, ck, hmk, hck, hbk, hmlk, hretk, hlkk, htabk, -⟩ := ux_word_spec w4 hKU.2.2 hnU
                  have hpk : (T.setVm vm₁).plainMethod mk := State.plainMethod.of_name (fun k hk => by
                    obtain ⟨k', hk', hn⟩ := className_of_methodNamed hnU
                    cases hk.symm.trans hk'
                    rw [hn]; exact w1)
                  have hdc : decode c.code (F0 m pc lsR (r.map (ux_tr b n0))).pc = .ok (ins, 3) := by rw [hb]; exact hd
                  have hsz : (F0 m pc lsR (r.map (ux_tr b n0))).locals.size = c.maxLocals := by rw [hml]; exact hL.2.2.1
                  have hcl : cells ≤ R.cells := by omega
                  have hsl : slots ≤ R.slots := by omega
                  obtain ⟨Y₀, hin⟩ := X₁.into (g := F0 m pc lsR (r.map (ux_tr b n0))) rfl hsz hdc (as.map (ux_tr b n0)).toArray (R' := { frames := d' + 8, cells := R.cells - cells, slots := R.slots - slots, locals := 64 * d' + 200 }) hmk hck hlkk hpk (by show d' + 8 + 1 ≤ R.frames; omega)
                    (by show 2 * 0 + ((r.map (ux_tr b n0)).map fun v => v.category).sum + (ck.maxLocals + 11) + (64 * d' + 200) ≤ R.locals
                        rw [ux_sum_tr, hmlk]; omega) (by show cells + (R.cells - cells) ≤ R.cells; omega) (by show slots + (R.slots - slots) ≤ R.slots; omega)
                  have hvs : ((T.setVm vm₁).calling (F0 m pc lsR (r.map (ux_tr b n0))) mk (as.map (ux_tr b n0)).toArray).vm = vm₁ := by rw [State.calling_eq X₁.here.top]; rfl
                  have hhs : ((T.setVm vm₁).calling (F0 m pc lsR (r.map (ux_tr b n0))) mk (as.map (ux_tr b n0)).toArray).heap = H := by rw [State.calling_eq X₁.here.top]; exact hT
                  have hWs : s.WarmedH ((T.setVm vm₁).calling (F0 m pc lsR (r.map (ux_tr b n0))) mk (as.map (ux_tr b n0)).toArray).vm := by rw [hvs]; exact X₁.warmed
                  generalize hs' : (T.setVm vm₁).calling (F0 m pc lsR (r.map (ux_tr b n0))) mk (as.map (ux_tr b n0)).toArray = s' at Y₀ hvs hhs hWs
                  have hback : s'.vm.Alike s.vm := hWs.alike.symm
                  obtain ⟨lsR2, hL2, hent⟩ := ux_entry b n0 mk as (P.2.2.2.2.2.2 j).1 hcat hc2
                  have inner : ∀ (o1 : ux_O) (h1 : ux_H), ux_run P sc n d' j 0 (as ++ List.replicate ((P.2.2.2.2.2.2 j).1 - as.length) .null) [] (hh.1, hh.2.1, hh.2.2.1, false) = some (o1, h1) → ux_nc h1 ≤ ux_nc hh' → ux_ns h1 ≤ ux_ns hh' →
                      ∃ t, (∀ acts, Steps p.tables e below (doInvoke e ((T.setVm vm₁).setTop (F0 m pc lsR (r.map (ux_tr b n0)))) acts mk (as.map (ux_tr b n0)).toArray).1 t) ∧ ux_Q aty D cl ca b n0 sc zs ex s' (.java (F0 m pc lsR (r.map (ux_tr b n0))) :: below) (ux_nc hh) (ux_ns hh) o1 h1 t := by
                    intro o1 h1 hrun hn1 hn2
                    have key := ih d' j 0 _ [] _ o1 h1 hrun { frames := d' + 8, cells := R.cells - cells, slots := R.slots - slots, locals := 64 * d' + 200 } s' mk (as.map (ux_tr b n0)).toArray (.java (F0 m pc lsR (r.map (ux_tr b n0))) :: below) methk ck H [] 0 0 (ux_nc hh) (ux_ns hh) hbk hmlk hretk hlkk htabk
                      (by rw [hvs]; exact findClass_of_methodNamed hnU) (name_of_methodNamed hnU hmk).1 (hK.moved okW hWs) (fun a1 a2 b1 b2 b3 => (hE a1 a2 b1 b2 b3).moved hWs.alike) ((hR.moved hWs.alike).like rfl rfl) (fun x hx => by cases hx) (by simp [ux_nc]) (by simp [ux_ns]) (by show ux_nc h1 ≤ ux_nc hh + (R.cells - cells); omega) (by show ux_ns h1 ≤ ux_ns hh + (R.slots - slots); omega) (Nat.le_refl _) (Nat.le_refl _) (fun _ => ⟨rfl, hhs.symm, rfl, rfl⟩) lsR2 hL2
                    obtain ⟨t, hst, hq⟩ := key _ (show (((T.setVm vm₁).setTop (F0 m pc lsR (r.map (ux_tr b n0)))).pushFrame (.java (entryFrame mk (as.map (ux_tr b n0)).toArray ck.maxLocals))).heap = H from hT) Y₀
                    refine ⟨t, fun acts => ?_, hq⟩
                    rw [hin acts, hmlk, hent]
                    rw [hmlk, hent] at hst
                    exact ux_weaken hst
                  split at h
                  · rename_i v h1 hrun
                    have hmo := ux_run_mono _ _ _ _ _ _ _ _ _ h
                    obtain ⟨t, hgo, oc, L, C, S, q1, q2, q3, q4, q5, q6, q7, q8, q9, q10⟩ := inner _ _ hrun hmo.1 hmo.2
                    have q10 : oc = .returned (v.map (ux_tr b n0)) := q10
                    subst q10
                    rw [← hs'] at q3 q4
                    obtain ⟨T', X', hW', -, ht⟩ := X₁.outOf (g := F0 m pc lsR (r.map (ux_tr b n0))) rfl hdc q2 q3 q4
                    have hh1 : t.heap = T'.heap := by rw [ht]; rfl
                    have hst2 : (v.map (ux_tr b n0)).toList ++ r.map (ux_tr b n0) = (v.toList ++ r).map (ux_tr b n0) := by cases v <;> rfl
                    obtain ⟨t2, k1, k2⟩ := ih _ _ _ _ _ _ _ _ h R s m args below meth c T'.heap (locs ++ L) (cells + C) (slots + S) nc0 ns0 hb hml hr hlk htab hown hnme hK hE (((q9.moved hback).like rfl rfl) |> fun z => by rw [hh1] at z; exact z)
                      (fun x hx => by rcases List.mem_append.mp hx with g | g; exact hloc x g; exact q7 x g) (by show cells + C + nc0 = ux_nc h1; omega) (by show slots + S + ns0 = ux_ns h1; omega) hcR hsR hfr hlo (fun hf => by
                        have hf : (hh.2.2.2 || h1.2.2.2) = false := hf
                        rw [Bool.or_eq_false_iff] at hf
                        obtain ⟨j1, j2, j3, j4⟩ := hw hf.1
                        obtain ⟨i1, i2, i3, i4⟩ := q8 hf.2
                        refine ⟨by rw [j1, i1]; rfl, by rw [← hh1, i2, hhs, j2], by omega, by omega⟩) lsR hL T' rfl X'
                    refine ⟨t2, st1 t2 fun acts => (hgo acts).trans ?_, k2⟩
                    rw [ht]
                    show Steps p.tables e below (T'.setTop (F0 m (pc + 3) lsR ((v.map (ux_tr b n0)).toList ++ r.map (ux_tr b n0)))) t2
                    rw [hst2]
                    exact k1
                  · rename_i k h1 hrun
                    have hmo : ux_nc h1 ≤ ux_nc hh' ∧ ux_ns h1 ≤ ux_ns hh' := by
                      split at h
                      · split at h
                        · cases h; exact ⟨Nat.le_refl _, Nat.le_refl _⟩
                        · cases h
                      · split at h
                        · split at h
                          · have hz := ux_run_mono _ _ _ _ _ _ _ _ _ h
                            simp only [ux_nc, ux_ns] at hz ⊢
                            exact hz
                          · cases h
                        · cases h
                    obtain ⟨t, hgo, oc, L, C, S, q1, q2, q3, q4, q5, q6, q7, q8, q9, q10⟩ := inner _ _ hrun hmo.1 hmo.2
                    obtain ⟨hk3, x, cell, rfl, c1, c2, c3, c4⟩ := q10
                    rw [← hs'] at q3 q4
                    obtain ⟨T', X', hW', -, ht⟩ := X₁.outOfThrown (g := F0 m pc lsR (r.map (ux_tr b n0))) rfl q2 q3 q4
                    have hh1 : t.heap = T'.heap := by rw [ht, Stand.throwing_heap]
                    have hR1 : ux_R aty D cl ca b n0 sc zs s h1 T'.heap := by rw [← hh1]; exact q9.moved hback
                    have hl1 : ∀ x ∈ locs ++ L, n0 ≤ x.base := fun x hx => by rcases List.mem_append.mp hx with g | g; exact hloc x g; exact q7 x g
                    have c3' : s.vm.findClass (ex k).1 = some cell.cls := by rw [← hWs.alike.findClass]; exact c3
                    have c4' : s.vm.assignable cell.cls cell.cls = true := by rw [← hWs.alike.assignable]; exact c4
                    split at h
                    · split at h
                      · rename_i hnil
                        cases h
                        have hout : ∀ y ∈ c.exceptionTable.toList, covers y (F0 m pc lsR (r.map (ux_tr b n0))).pc = false := fun y hy => by
                          rw [htab, okH i hnil] at hy; cases hy
                        obtain ⟨v1, v2, v3, v4, v5⟩ := X'.leaveThrown x (g := F0 m pc lsR (r.map (ux_tr b n0))) rfl rfl rfl hout hlk
                        refine ⟨_, st1 _ fun acts => (hgo acts).trans (by rw [ht]; exact v1), .threw x, locs ++ L, cells + C, slots + S, v2, v3, v4, v5, by show cells + C + nc0 = ux_nc h1; omega, by show slots + S + ns0 = ux_ns h1; omega, hl1, fun hf => (by cases hf), (hR1.like rfl rfl), hk3, x, cell, rfl, ?_, c2, c3', c4'⟩
                        show T'.heap[x]? = some cell
                        rw [← hh1]; exact c1
                      · cases h
                    · rename_i tp hhnd
                      split at h
                      · rename_i q lq hlay
                        split at h
                        · rename_i hq
                          obtain ⟨⟨ins2, len2⟩, hp2, hlay2⟩ := Option.bind_eq_some_iff.mp hlay
                          obtain ⟨hd2, hlok2⟩ := okI _ _ _ _ hp2
                          obtain ⟨vm2, X2, st2⟩ := ux_caught X' (g := F0 m pc lsR (r.map (ux_tr b n0))) rfl hown (fun w hw => hK.2.2 w hw args) (fun j1 h3 h4 => hE j1 k h3 hk3 h4) c4' c2 c3' (by rw [← hh1]; exact c1) htab (okX i) hhnd
                          have hrec := ih _ _ _ _ _ _ _ _ h R s m args below meth c T'.heap (locs ++ L) (cells + C) (slots + S) nc0 ns0 hb hml hr hlk htab hown hnme hK hE (hR1.like rfl rfl) hl1 (by show cells + C + nc0 = ux_nc h1; omega) (by show slots + S + ns0 = ux_ns h1; omega) hcR hsR hfr hlo (fun hf => by cases hf)
                          have Wh : W p l e R s m args below meth c T'.heap (locs ++ L) (cells + C) (slots + S) (ux_Q aty D cl ca b n0 sc zs ex s below nc0 ns0 o hh') (F0 m tp lsR [.ref x]) := by
                            have hlay2 : ux_lay ins2 = some (q, lq) := hlay2
                            unfold ux_lay at hlay2
                            split at hlay2
                            · cases hlay2
                              obtain rfl : len2 = 2 := by simpa [ux_lok] using hlok2
                              exact lv_astore hx hb hd2 hL.2.2 (hL.lt hq) rfl fun lsR' h' => hrec lsR' (hL.put (v := .null) rfl (fun z => absurd rfl z) h')
                            · cases hlay2
                              obtain rfl : len2 = 1 := by simpa [ux_lok] using hlok2
                              exact lv_astore_n hx hb hd2 rfl hL.2.2 (hL.lt hq) rfl fun lsR' h' => hrec lsR' (hL.put (v := .null) rfl (fun z => absurd rfl z) h')
                            · cases hlay2
                          obtain ⟨t2, k1, k2⟩ := Wh (T'.setVm vm2) rfl X2
                          refine ⟨t2, st1 t2 fun acts => (hgo acts).trans ?_, k2⟩
                          rw [ht]
                          exact st2 t2 k1
                        · cases h
                      · cases h
                  · cases h
                · cases h
              · cases h
end
section
/-! The evaluator's judgement, goal first: ux_G .. r: from here the method ends so. -/
theorem ux_run_up {P : ux_P} {sc : List Int32} : ∀ (n d i pc : Nat) (ls st : List Value) (h : ux_H) (r : ux_O × ux_H), ux_run P sc n d i pc ls st h = some r → ∀ (n' d' : Nat), n ≤ n' → d ≤ d' → ux_run P sc n' d' i pc ls st h = some r := by
  intro n
  induction n with
  | zero => intro d i pc ls st h r hr; cases hr
  | succ n ih =>
    intro d i pc ls st h r hr n' d' hn hd
    obtain ⟨n2, rfl⟩ : ∃ k, n' = k + 1 := ⟨n' - 1, by omega⟩
    have hn2 : n ≤ n2 := by omega
    unfold ux_run at hr ⊢
    split at hr
    · cases hr
    · rename_i ins len hins
      try rw [hins]
      try simp only
      split at hr
      · rename_i hsim
        try rw [hsim]
        exact ih _ _ _ _ _ _ _ hr _ _ hn2 hd
      · rename_i hsim
        try rw [hsim]
        try simp only
        split at hr
        · rename_i hmem
          try rw [hmem]
          exact ih _ _ _ _ _ _ _ hr _ _ hn2 hd
        · rename_i hmem
          try rw [hmem]
          try simp only
          split at hr
          · rename_i hret
            try rw [hret]
            exact hr
          · rename_i hret
            try rw [hret]
            try simp only
            split at hr
            · rename_i hthr
              try rw [hthr]
              exact hr
            · rename_i hthr
              try rw [hthr]
              try simp only
              split at hr
              · rename_i j as r0 d0 hcal
                obtain ⟨d1, rfl⟩ : ∃ k, d' = k + 1 := ⟨d' - 1, by omega⟩
                try rw [hcal]
                try simp only
                split at hr
                · rename_i hcond
                  rw [if_pos hcond]
                  split at hr
                  · rename_i v h1 hin
                    rw [ih _ _ _ _ _ _ _ hin n2 d1 hn2 (by omega)]
                    exact ih _ _ _ _ _ _ _ hr _ _ hn2 (by omega)
                  · rename_i k h1 hin
                    rw [ih _ _ _ _ _ _ _ hin n2 d1 hn2 (by omega)]
                    simp only
                    split at hr
                    · rename_i hnd
                      try rw [hnd]
                      exact hr
                    · rename_i t hnd
                      try rw [hnd]
                      try simp only
                      split at hr
                      · rename_i hlay
                        try rw [hlay]
                        try simp only
                        split at hr
                        · rename_i hq
                          rw [if_pos hq]
                          exact ih _ _ _ _ _ _ _ hr _ _ hn2 (by omega)
                        · cases hr
                      · cases hr
                  · cases hr
                · cases hr
              · cases hr
def ux_G (P : ux_P) (sc : List Int32) (d i pc : Nat) (ls st : List Value) (h : ux_H) (r : ux_O × ux_H) : Prop := ∃ n, ux_run P sc n d i pc ls st h = some r
/-- a whole method -/
def ux_Y (P : ux_P) (sc : List Int32) (d j : Nat) (as : List Value) (h : ux_H) (r : ux_O × ux_H) : Prop := ux_G P sc d j 0 (as ++ List.replicate ((P.2.2.2.2.2.2 j).1 - as.length) .null) [] (h.1, h.2.1, h.2.2.1, false) r
section UXG
variable {P : ux_P} {sc : List Int32} {d i pc : Nat} {ls st : List Value} {h : ux_H} {r : ux_O × ux_H}
theorem ux_G.up {d' : Nat} (hG : ux_G P sc d i pc ls st h r) (hd : d ≤ d') : ux_G P sc d' i pc ls st h r := by
  obtain ⟨n, hn⟩ := hG
  exact ⟨n, ux_run_up n d i pc ls st h r hn n d' (Nat.le_refl _) hd⟩
theorem ux_Y.up {d' j : Nat} {as : List Value} (hG : ux_Y P sc d j as h r) (hd : d ≤ d') : ux_Y P sc d' j as h r := ux_G.up hG hd
def ux_s1 (P : ux_P) (i pc : Nat) (ls st : List Value) : Option (Nat × List Value × List Value) := match P.1 i pc with
  | some (ins, _) => ux_sim ins pc ls st
  | none => none
theorem ux_Gs {pc' : Nat} {ls' st' : List Value} (hs : ux_s1 P i pc ls st = some (pc', ls', st')) (k : ux_G P sc d i pc' ls' st' h r) : ux_G P sc d i pc ls st h r := by
  obtain ⟨n, hn⟩ := k
  refine ⟨n + 1, ?_⟩
  unfold ux_s1 at hs
  split at hs
  · rename_i ins len hins
    unfold ux_run
    rw [hins]
    simp only [hs]
    exact hn
  · cases hs
def ux_sN (P : ux_P) (i : Nat) : Nat → Nat → List Value → List Value → Option (Nat × List Value × List Value)
  | 0, pc, ls, st => some (pc, ls, st)
  | n + 1, pc, ls, st => match ux_s1 P i pc ls st with
    | some (pc', ls', st') => ux_sN P i n pc' ls' st'
    | none => none
theorem ux_GN (n : Nat) {pc' : Nat} {ls' st' : List Value} (hs : ux_sN P i n pc ls st = some (pc', ls', st')) (k : ux_G P sc d i pc' ls' st' h r) : ux_G P sc d i pc ls st h r := by
  induction n generalizing pc ls st with
  | zero => cases hs; exact k
  | succ n ih =>
    unfold ux_sN at hs
    split at hs
    · rename_i h1
      exact ux_Gs h1 (ih hs)
    · cases hs
def ux_m1 (P : ux_P) (sc : List Int32) (i pc : Nat) (ls st : List Value) (h : ux_H) : Option (Nat × List Value × ux_H) := match P.1 i pc with
  | some (ins, _) => match ux_sim ins pc ls st with
    | some _ => none
    | none => (ux_mem P sc i ins st h).map fun q => (pc + q.1, q.2.1, q.2.2)
  | none => none
theorem ux_Gm {pc' : Nat} {st' : List Value} {h' : ux_H} (hs : ux_m1 P sc i pc ls st h = some (pc', st', h')) (k : ux_G P sc d i pc' ls st' h' r) : ux_G P sc d i pc ls st h r := by
  obtain ⟨n, hn⟩ := k
  refine ⟨n + 1, ?_⟩
  unfold ux_m1 at hs
  split at hs
  · rename_i ins len hins
    split at hs
    · cases hs
    · rename_i hsim
      cases hmem : ux_mem P sc i ins st h with
      | none => rw [hmem] at hs; cases hs
      | some q =>
        obtain ⟨q1, q2, q3⟩ := q
        rw [hmem] at hs
        cases hs
        unfold ux_run
        rw [hins]
        simp only [hsim, hmem]
        exact hn
  · cases hs
def ux_r1 (P : ux_P) (sc : List Int32) (i pc : Nat) (ls st : List Value) (h : ux_H) : Option (Option Value) := match P.1 i pc with
  | some (ins, _) => match ux_sim ins pc ls st, ux_mem P sc i ins st h with
    | none, none => ux_ret (P.2.2.2.2.2.2 i).2.1 ins st
    | _, _ => none
  | none => none
theorem ux_Gr {v : Option Value} (hs : ux_r1 P sc i pc ls st h = some v) : ux_G P sc d i pc ls st h (.inr v, h) := by
  refine ⟨1, ?_⟩
  unfold ux_r1 at hs
  split at hs
  · rename_i ins len hins
    split at hs
    · rename_i h1 h2
      unfold ux_run
      rw [hins]
      simp only [h1, h2, hs]
    · cases hs
  · cases hs
def ux_t1 (P : ux_P) (sc : List Int32) (i pc : Nat) (ls st : List Value) (h : ux_H) : Option Nat := match P.1 i pc with
  | some (ins, _) => match ux_sim ins pc ls st, ux_mem P sc i ins st h, ux_ret (P.2.2.2.2.2.2 i).2.1 ins st with
    | none, none, none => ux_thr P i pc ins st h
    | _, _, _ => none
  | none => none
theorem ux_Gt {k : Nat} (hs : ux_t1 P sc i pc ls st h = some k) : ux_G P sc d i pc ls st h (.inl k, (h.1, h.2.1 + 1, h.2.2.1 + 6, true)) := by
  refine ⟨1, ?_⟩
  unfold ux_t1 at hs
  split at hs
  · rename_i ins len hins
    split at hs
    · rename_i h1 h2 h3
      unfold ux_run
      rw [hins]
      simp only [h1, h2, h3, hs]
    · cases hs
  · cases hs
/-- a call: the callee, its arguments, what stays -/
def ux_c1 (P : ux_P) (sc : List Int32) (i pc : Nat) (ls st : List Value) (h : ux_H) : Option (Nat × List Value × List Value) := match P.1 i pc with
  | some (ins, _) => match ux_sim ins pc ls st, ux_mem P sc i ins st h, ux_ret (P.2.2.2.2.2.2 i).2.1 ins st, ux_thr P i pc ins st h with
    | none, none, none, none => match ux_cal P i ins st h with
      | some (j, as, r0) => if (r0.map fun v => v.category).sum ≤ 16 ∧ as.length ≤ (P.2.2.2.2.2.2 j).1 ∧ (P.2.2.2.2.2.2 j).1 ≤ 30 ∧ (as.all fun v => v.category == 1) then some (j, as, r0) else none
      | none => none
    | _, _, _, _ => none
  | none => none
theorem ux_c1_run {j : Nat} {as r0 : List Value} (hs : ux_c1 P sc i pc ls st h = some (j, as, r0)) (n d : Nat) : ux_run P sc (n + 1) (d + 1) i pc ls st h = (match ux_run P sc n d j 0 (as ++ List.replicate ((P.2.2.2.2.2.2 j).1 - as.length) .null) [] (h.1, h.2.1, h.2.2.1, false) with
                  | some (.inr v, h') => ux_run P sc n (d + 1) i (pc + 3) ls (v.toList ++ r0) (h'.1, h'.2.1, h'.2.2.1, h.2.2.2 || h'.2.2.2)
                  | some (.inl k, h') => (match ux_hnd (P.2.2.2.2.2.2 i).2.2 pc k with
                    | none => if (P.2.2.2.2.2.2 i).2.2 = [] then some (.inl k, (h'.1, h'.2.1, h'.2.2.1, true)) else none
                    | some t => (match (P.1 i t).bind fun x => ux_lay x.1 with
                      | some (q, len) => if q < ls.length then ux_run P sc n (d + 1) i (t + len) (ls.set q .null) [] (h'.1, h'.2.1, h'.2.2.1, true) else none
                      | none => none))
                  | none => none) := by
  unfold ux_c1 at hs
  split at hs
  · rename_i ins len hins
    split at hs
    · rename_i h1 h2 h3 h4
      split at hs
      · rename_i j' as' r' hcal
        split at hs
        · rename_i hcond
          cases hs
          rw [ux_run, hins]
          simp only [h1, h2, h3, h4, hcal]
          rw [if_pos hcond]
          rfl
        · cases hs
      · cases hs
    · cases hs
  · cases hs
theorem ux_Gc {j : Nat} {as r0 : List Value} {v : Option Value} {h' : ux_H} (hs : ux_c1 P sc i pc ls st h = some (j, as, r0)) (hc : ux_Y P sc d j as h (.inr v, h'))
    (k : ux_G P sc (d + 1) i (pc + 3) ls (v.toList ++ r0) (h'.1, h'.2.1, h'.2.2.1, h.2.2.2 || h'.2.2.2) r) : ux_G P sc (d + 1) i pc ls st h r := by
  obtain ⟨n1, h1⟩ := hc
  obtain ⟨n2, h2⟩ := k
  refine ⟨max n1 n2 + 1, ?_⟩
  rw [ux_c1_run hs, ux_run_up _ _ _ _ _ _ _ _ h1 (max n1 n2) d (by omega) (Nat.le_refl _)]
  exact ux_run_up _ _ _ _ _ _ _ _ h2 _ _ (by omega) (Nat.le_refl _)
/-- a call that throws on -/
theorem ux_Gx {j k : Nat} {as r0 : List Value} {h' : ux_H} (hs : ux_c1 P sc i pc ls st h = some (j, as, r0)) (hc : ux_Y P sc d j as h (.inl k, h')) (hn : (P.2.2.2.2.2.2 i).2.2 = []) : ux_G P sc (d + 1) i pc ls st h (.inl k, (h'.1, h'.2.1, h'.2.2.1, true)) := by
  obtain ⟨n1, h1⟩ := hc
  refine ⟨n1 + 1, ?_⟩
  rw [ux_c1_run hs, h1]
  simp only [hn, ux_hnd, if_pos]
/-- a call whose exception is caught -/
theorem ux_Gh {j k t q len : Nat} {as r0 : List Value} {h' : ux_H} (hs : ux_c1 P sc i pc ls st h = some (j, as, r0)) (hc : ux_Y P sc d j as h (.inl k, h')) (hn : ux_hnd (P.2.2.2.2.2.2 i).2.2 pc k = some t) (hl : (P.1 i t).bind (fun x => ux_lay x.1) = some (q, len)) (hq : q < ls.length)
    (kk : ux_G P sc (d + 1) i (t + len) (ls.set q .null) [] (h'.1, h'.2.1, h'.2.2.1, true) r) : ux_G P sc (d + 1) i pc ls st h r := by
  obtain ⟨n1, h1⟩ := hc
  obtain ⟨n2, h2⟩ := kk
  refine ⟨max n1 n2 + 1, ?_⟩
  rw [ux_c1_run hs, ux_run_up _ _ _ _ _ _ _ _ h1 (max n1 n2) d (by omega) (Nat.le_refl _)]
  simp only [hn, hl]
  rw [if_pos hq]
  exact ux_run_up _ _ _ _ _ _ _ _ h2 _ _ (by omega) (Nat.le_refl _)
/-- a branch -/
theorem ux_Gif {c : Prop} {_ : Decidable c} {a b' : Nat} (ka : c → ux_G P sc d i a ls st h r) (kb : ¬ c → ux_G P sc d i b' ls st h r) : ux_G P sc d i (if decide c = true then a else b') ls st h r := by
  by_cases hc : c
  · rw [if_pos (decide_eq_true hc)]; exact ka hc
  · rw [if_neg (by simpa using hc)]; exact kb hc
end UXG
end
section
/-! Rows for memory, goal first; a cell by what is known of it. -/
section UXH
variable {P : ux_P} {sc : List Int32} {d i pc : Nat} {ls st : List Value} {h : ux_H} {r : ux_O × ux_H}
theorem ux_cell_set {a a2 : Nat} {c c0 : ux_C} (h0 : ux_cell h a = some c0) : ux_cell (ux_set h a c) a2 = if a2 = a then some c else ux_cell h a2 := by
  obtain ⟨k, rfl, hk⟩ := ux_cell_some h0
  have hlt := (List.getElem?_eq_some_iff.mp hk).1
  cases a2 with
  | zero => simp [ux_cell]
  | succ k2 =>
    show (h.1.set k c)[k2]? = _
    by_cases e : k2 = k
    · subst e
      rw [List.getElem?_set_self hlt]
      simp
    · rw [List.getElem?_set_ne (Ne.symm e), if_neg (by omega)]
      rfl
theorem ux_cell_self {a : Nat} {c c0 : ux_C} (h0 : ux_cell h a = some c0) : ux_cell (ux_set h a c) a = some c := by rw [ux_cell_set h0, if_pos rfl]
theorem ux_cell_ne {a a2 : Nat} {c c0 : ux_C} (h0 : ux_cell h a = some c0) (hne : a2 ≠ a) : ux_cell (ux_set h a c) a2 = ux_cell h a2 := by rw [ux_cell_set h0, if_neg hne]
theorem ux_Gget {k ci j a : Nat} {q : Bool} {is : List Int32} {vs : List Value} {v : Value} (hi : P.1 i pc = some (.getfield k, 3)) (hf : P.2.1 i k = some (ci, j, q)) (hc : ux_cell h a = some (ci, is, vs)) (hv : vs[j]? = some v)
    (kk : ux_G P sc d i (pc + 3) ls (v :: st) h r) : ux_G P sc d i pc ls (.ref a :: st) h r := by
  refine ux_Gm (pc' := pc + 3) ?_ kk
  simp [ux_m1, hi, ux_sim, ux_mem, hf, ux_get, hc, hv]
theorem ux_Gput {k ci j a : Nat} {q : Bool} {is : List Int32} {vs : List Value} {v : Value} (hi : P.1 i pc = some (.putfield k, 3)) (hf : P.2.1 i k = some (ci, j, q)) (hw : P.2.2.2.1 i (200000 + k) = some 2000 ∨ (P.2.2.2.1 i (200000 + k) = some 2001 ∧ (P.2.2.2.2.2.2 i).2.1 = 4)) (hc : ux_cell h a = some (ci, is, vs)) (hr : ux_isr v = some q) (hj : j < vs.length)
    (kk : ux_G P sc d i (pc + 3) ls st (ux_set h a (ci, is, vs.set j v)) r) : ux_G P sc d i pc ls (v :: .ref a :: st) h r := by
  refine ux_Gm (pc' := pc + 3) ?_ kk
  simp only [ux_m1, hi, ux_sim, ux_mem, hf]
  rw [if_pos ⟨hr, hw⟩]
  simp [ux_put, hc, hj]
theorem ux_Gild {a : Nat} {j x : Int32} {is : List Int32} {vs : List Value} (hi : P.1 i pc = some (.iaload, 1)) (hc : ux_cell h a = some (100, is, vs)) (hj : ¬ j < 0) (hx : is[j.toNatClampNeg]? = some x)
    (kk : ux_G P sc d i (pc + 1) ls (.int x :: st) h r) : ux_G P sc d i pc ls (.int j :: .ref a :: st) h r := by
  obtain ⟨k, rfl, -⟩ := ux_cell_some hc
  refine ux_Gm (pc' := pc + 1) ?_ kk
  simp [ux_m1, hi, ux_sim, ux_mem, ux_ld, hc, hj, hx]
theorem ux_Gsld {j x : Int32} (hi : P.1 i pc = some (.iaload, 1)) (hj : ¬ j < 0) (hx : sc[j.toNatClampNeg]? = some x)
    (kk : ux_G P sc d i (pc + 1) ls (.int x :: st) h r) : ux_G P sc d i pc ls (.int j :: .ref 0 :: st) h r := by
  refine ux_Gm (pc' := pc + 1) ?_ kk
  simp [ux_m1, hi, ux_sim, ux_mem, ux_ld, hj, hx]
theorem ux_Gist {a : Nat} {j x : Int32} {is : List Int32} {vs : List Value} (hi : P.1 i pc = some (.iastore, 1)) (hc : ux_cell h a = some (100, is, vs)) (hj : ¬ j < 0) (hx : j.toNatClampNeg < is.length)
    (kk : ux_G P sc d i (pc + 1) ls st (ux_set h a (100, is.set j.toNatClampNeg x, vs)) r) : ux_G P sc d i pc ls (.int x :: .int j :: .ref a :: st) h r := by
  refine ux_Gm (pc' := pc + 1) ?_ kk
  simp [ux_m1, hi, ux_sim, ux_mem, ux_st, hc, hj, hx]
theorem ux_Gzld {a : Nat} {j x : Int32} {is : List Int32} {vs : List Value} (hi : P.1 i pc = some (.baload, 1)) (hc : ux_cell h a = some (101, is, vs)) (hj : ¬ j < 0) (hx : is[j.toNatClampNeg]? = some x)
    (kk : ux_G P sc d i (pc + 1) ls (.int x :: st) h r) : ux_G P sc d i pc ls (.int j :: .ref a :: st) h r := by
  obtain ⟨k, rfl, -⟩ := ux_cell_some hc
  refine ux_Gm (pc' := pc + 1) ?_ kk
  simp [ux_m1, hi, ux_sim, ux_mem, ux_ld, hc, hj, hx]
theorem ux_Gzst {a : Nat} {j x : Int32} {is : List Int32} {vs : List Value} (hi : P.1 i pc = some (.bastore, 1)) (hc : ux_cell h a = some (101, is, vs)) (hj : ¬ j < 0) (hx : j.toNatClampNeg < is.length) (h01 : x = 0 ∨ x = 1)
    (kk : ux_G P sc d i (pc + 1) ls st (ux_set h a (101, is.set j.toNatClampNeg x, vs)) r) : ux_G P sc d i pc ls (.int x :: .int j :: .ref a :: st) h r := by
  refine ux_Gm (pc' := pc + 1) ?_ kk
  simp [ux_m1, hi, ux_sim, ux_mem, ux_st, hc, hj, hx, h01]
theorem ux_Gald {a t : Nat} {j : Int32} {v : Value} {is : List Int32} {vs : List Value} (hi : P.1 i pc = some (.aaload, 1)) (hc : ux_cell h a = some (t, is, vs)) (ht : 102 < t) (hj : ¬ j < 0) (hx : vs[j.toNatClampNeg]? = some v)
    (kk : ux_G P sc d i (pc + 1) ls (v :: st) h r) : ux_G P sc d i pc ls (.int j :: .ref a :: st) h r := by
  refine ux_Gm (pc' := pc + 1) ?_ kk
  simp [ux_m1, hi, ux_sim, ux_mem, ux_ldv, hc, hj, hx, ht]
theorem ux_Gast {a t v ci : Nat} {j : Int32} {is is2 : List Int32} {vs vs2 : List Value} (hi : P.1 i pc = some (.aastore, 1)) (hc : ux_cell h a = some (t, is, vs)) (hv : ux_cell h v = some (ci, is2, vs2)) (ht : 102 < t) (hci : ci < 100) (hco : P.2.2.2.2.2.1 t = ci) (hj : ¬ j < 0) (hx : j.toNatClampNeg < vs.length)
    (kk : ux_G P sc d i (pc + 1) ls st (ux_set h a (t, is, vs.set j.toNatClampNeg (.ref v))) r) : ux_G P sc d i pc ls (.ref v :: .int j :: .ref a :: st) h r := by
  refine ux_Gm (pc' := pc + 1) ?_ kk
  simp [ux_m1, hi, ux_sim, ux_mem, ux_stv, hc, hj, hx, ht, hv, hco, hci]
theorem ux_Glld {a : Nat} {j : Int32} {v : Value} {is : List Int32} {vs : List Value} (hi : P.1 i pc = some (.laload, 1)) (hc : ux_cell h a = some (102, is, vs)) (hj : ¬ j < 0) (hx : vs[j.toNatClampNeg]? = some v)
    (kk : ux_G P sc d i (pc + 1) ls (v :: st) h r) : ux_G P sc d i pc ls (.int j :: .ref a :: st) h r := by
  refine ux_Gm (pc' := pc + 1) ?_ kk
  simp [ux_m1, hi, ux_sim, ux_mem, ux_ldv, hc, hj, hx]
theorem ux_Glst {a : Nat} {j : Int32} {x : Int64} {is : List Int32} {vs : List Value} (hi : P.1 i pc = some (.lastore, 1)) (hc : ux_cell h a = some (102, is, vs)) (hj : ¬ j < 0) (hx : j.toNatClampNeg < vs.length)
    (kk : ux_G P sc d i (pc + 1) ls st (ux_set h a (102, is, vs.set j.toNatClampNeg (.long x))) r) : ux_G P sc d i pc ls (.long x :: .int j :: .ref a :: st) h r := by
  refine ux_Gm (pc' := pc + 1) ?_ kk
  simp [ux_m1, hi, ux_sim, ux_mem, ux_stv, hc, hj, hx]
end UXH
end
section
-- ===== PART A: goes FIRST, ahead of the names: the tables' words, and 'selects' of the private methods out of them =====
/-- a private method of a class that the tables say can be made, by its rows of tables_1 -/
def lw_okq (q : MethodName × Nat) : Prop := (q.1.cls ≠ "java/lang/invoke/MethodHandle" ∧ q.1.cls ≠ "java/lang/invoke/VarHandle") ∧ Cond.instantiable q.1.cls q.2 ∈ tables_1 ∧ Cond.privateMethod q.1 ∈ tables_1 ∧ Cond.instanceMethod q.1 ∈ tables_1
theorem lw_p0 : lw_okq (⟨"UnitDesk", "renew", "(I)V"⟩, 10) := ⟨⟨by decide +kernel, by decide +kernel⟩, List.mem_of_getElem? (i := 18) (by decide +kernel), List.mem_of_getElem? (i := 200) (by decide +kernel), List.mem_of_getElem? (i := 201) (by decide +kernel)⟩
theorem lw_p1 : lw_okq (⟨"UnitDesk", "compileAnew", "(I)V"⟩, 10) := ⟨⟨by decide +kernel, by decide +kernel⟩, List.mem_of_getElem? (i := 18) (by decide +kernel), List.mem_of_getElem? (i := 216) (by decide +kernel), List.mem_of_getElem? (i := 217) (by decide +kernel)⟩
theorem lw_p2 : lw_okq (⟨"UnitDesk$Compiler", "part", "(LUnitDesk$Unit;[III)Z"⟩, 3) := ⟨⟨by decide +kernel, by decide +kernel⟩, List.mem_of_getElem? (i := 30) (by decide +kernel), List.mem_of_getElem? (i := 239) (by decide +kernel), List.mem_of_getElem? (i := 240) (by decide +kernel)⟩
theorem lw_p3 : lw_okq (⟨"UnitDesk$Compiler", "expression", "(LUnitDesk$Unit;[II)I"⟩, 3) := ⟨⟨by decide +kernel, by decide +kernel⟩, List.mem_of_getElem? (i := 30) (by decide +kernel), List.mem_of_getElem? (i := 243) (by decide +kernel), List.mem_of_getElem? (i := 244) (by decide +kernel)⟩
theorem lw_p4 : lw_okq (⟨"UnitDesk$Compiler", "fault", "(II)I"⟩, 3) := ⟨⟨by decide +kernel, by decide +kernel⟩, List.mem_of_getElem? (i := 30) (by decide +kernel), List.mem_of_getElem? (i := 251) (by decide +kernel), List.mem_of_getElem? (i := 252) (by decide +kernel)⟩
theorem lw_p5 : lw_okq (⟨"UnitDesk$Compiler", "parameter", "(LUnitDesk$Unit;I)I"⟩, 3) := ⟨⟨by decide +kernel, by decide +kernel⟩, List.mem_of_getElem? (i := 30) (by decide +kernel), List.mem_of_getElem? (i := 258) (by decide +kernel), List.mem_of_getElem? (i := 259) (by decide +kernel)⟩
theorem lw_p6 : lw_okq (⟨"UnitDesk$Compiler", "calculation", "(LUnitDesk$Unit;[III)I"⟩, 3) := ⟨⟨by decide +kernel, by decide +kernel⟩, List.mem_of_getElem? (i := 30) (by decide +kernel), List.mem_of_getElem? (i := 272) (by decide +kernel), List.mem_of_getElem? (i := 273) (by decide +kernel)⟩
theorem lw_p7 : lw_okq (⟨"UnitDesk$Compiler", "choice", "(LUnitDesk$Unit;[II)I"⟩, 3) := ⟨⟨by decide +kernel, by decide +kernel⟩, List.mem_of_getElem? (i := 30) (by decide +kernel), List.mem_of_getElem? (i := 283) (by decide +kernel), List.mem_of_getElem? (i := 284) (by decide +kernel)⟩
theorem lw_p8 : lw_okq (⟨"UnitDesk$Compiler", "constant", "(LUnitDesk$Unit;II)I"⟩, 3) := ⟨⟨by decide +kernel, by decide +kernel⟩, List.mem_of_getElem? (i := 30) (by decide +kernel), List.mem_of_getElem? (i := 291) (by decide +kernel), List.mem_of_getElem? (i := 292) (by decide +kernel)⟩
theorem lw_p9 : lw_okq (⟨"UnitDesk$Compiler", "call", "(LUnitDesk$Unit;[III)I"⟩, 3) := ⟨⟨by decide +kernel, by decide +kernel⟩, List.mem_of_getElem? (i := 30) (by decide +kernel), List.mem_of_getElem? (i := 295) (by decide +kernel), List.mem_of_getElem? (i := 296) (by decide +kernel)⟩
theorem lw_p10 : lw_okq (⟨"UnitDesk$Image", "giveAddresses", "([I[LUnitDesk$Shelf;)V"⟩, 4) := ⟨⟨by decide +kernel, by decide +kernel⟩, List.mem_of_getElem? (i := 49) (by decide +kernel), List.mem_of_getElem? (i := 319) (by decide +kernel), List.mem_of_getElem? (i := 320) (by decide +kernel)⟩
theorem lw_p11 : lw_okq (⟨"UnitDesk$Image", "copyCode", "(LUnitDesk$Unit;I)V"⟩, 4) := ⟨⟨by decide +kernel, by decide +kernel⟩, List.mem_of_getElem? (i := 49) (by decide +kernel), List.mem_of_getElem? (i := 324) (by decide +kernel), List.mem_of_getElem? (i := 325) (by decide +kernel)⟩
theorem lw_p12 : lw_okq (⟨"java/lang/Throwable", "fillInStackTrace", "(I)Ljava/lang/Throwable;"⟩, 6) := ⟨⟨by decide +kernel, by decide +kernel⟩, List.mem_of_getElem? (i := 400) (by decide +kernel), List.mem_of_getElem? (i := 398) (by decide +kernel), List.mem_of_getElem? (i := 399) (by decide +kernel)⟩
theorem lw_p13 : lw_okq (⟨"UnitDesk$Machine", "openFrame", "(III)I"⟩, 8) := ⟨⟨by decide +kernel, by decide +kernel⟩, List.mem_of_getElem? (i := 73) (by decide +kernel), List.mem_of_getElem? (i := 526) (by decide +kernel), List.mem_of_getElem? (i := 527) (by decide +kernel)⟩
theorem lw_p14 : lw_okq (⟨"UnitDesk$Machine", "step", "(LUnitDesk$Image;)I"⟩, 8) := ⟨⟨by decide +kernel, by decide +kernel⟩, List.mem_of_getElem? (i := 73) (by decide +kernel), List.mem_of_getElem? (i := 538) (by decide +kernel), List.mem_of_getElem? (i := 539) (by decide +kernel)⟩
theorem lw_p15 : lw_okq (⟨"UnitDesk$Machine", "push", "(I)I"⟩, 8) := ⟨⟨by decide +kernel, by decide +kernel⟩, List.mem_of_getElem? (i := 73) (by decide +kernel), List.mem_of_getElem? (i := 547) (by decide +kernel), List.mem_of_getElem? (i := 548) (by decide +kernel)⟩
def lw_privs_1 : List (MethodName × Nat) := [(⟨"UnitDesk", "renew", "(I)V"⟩, 10), (⟨"UnitDesk", "compileAnew", "(I)V"⟩, 10), (⟨"UnitDesk$Compiler", "part", "(LUnitDesk$Unit;[III)Z"⟩, 3), (⟨"UnitDesk$Compiler", "expression", "(LUnitDesk$Unit;[II)I"⟩, 3), (⟨"UnitDesk$Compiler", "fault", "(II)I"⟩, 3), (⟨"UnitDesk$Compiler", "parameter", "(LUnitDesk$Unit;I)I"⟩, 3), (⟨"UnitDesk$Compiler", "calculation", "(LUnitDesk$Unit;[III)I"⟩, 3), (⟨"UnitDesk$Compiler", "choice", "(LUnitDesk$Unit;[II)I"⟩, 3), (⟨"UnitDesk$Compiler", "constant", "(LUnitDesk$Unit;II)I"⟩, 3), (⟨"UnitDesk$Compiler", "call", "(LUnitDesk$Unit;[III)I"⟩, 3), (⟨"UnitDesk$Image", "giveAddresses", "([I[LUnitDesk$Shelf;)V"⟩, 4), (⟨"UnitDesk$Image", "copyCode", "(LUnitDesk$Unit;I)V"⟩, 4), (⟨"java/lang/Throwable", "fillInStackTrace", "(I)Ljava/lang/Throwable;"⟩, 6), (⟨"UnitDesk$Machine", "openFrame", "(III)I"⟩, 8), (⟨"UnitDesk$Machine", "step", "(LUnitDesk$Image;)I"⟩, 8), (⟨"UnitDesk$Machine", "push", "(I)I"⟩, 8)]
theorem lw_r1 : ∀ q ∈ lw_privs_1, lw_okq q := List.forall_mem_cons.mpr ⟨lw_p0, List.forall_mem_cons.mpr ⟨lw_p1, List.forall_mem_cons.mpr ⟨lw_p2, List.forall_mem_cons.mpr ⟨lw_p3, List.forall_mem_cons.mpr ⟨lw_p4, List.forall_mem_cons.mpr ⟨lw_p5, List.forall_mem_cons.mpr ⟨lw_p6, List.forall_mem_cons.mpr ⟨lw_p7, List.forall_mem_cons.mpr ⟨lw_p8, List.forall_mem_cons.mpr ⟨lw_p9, List.forall_mem_cons.mpr ⟨lw_p10, List.forall_mem_cons.mpr ⟨lw_p11, List.forall_mem_cons.mpr ⟨lw_p12, List.forall_mem_cons.mpr ⟨lw_p13, List.forall_mem_cons.mpr ⟨lw_p14, List.forall_mem_cons.mpr ⟨lw_p15, fun _ h => absurd h List.not_mem_nil⟩⟩⟩⟩⟩⟩⟩⟩⟩⟩⟩⟩⟩⟩⟩⟩
theorem lw_p16 : lw_okq (⟨"UnitDesk$Machine", "argument", "(I)I"⟩, 8) := ⟨⟨by decide +kernel, by decide +kernel⟩, List.mem_of_getElem? (i := 73) (by decide +kernel), List.mem_of_getElem? (i := 551) (by decide +kernel), List.mem_of_getElem? (i := 552) (by decide +kernel)⟩
theorem lw_p17 : lw_okq (⟨"UnitDesk$Machine", "pop", "()I"⟩, 8) := ⟨⟨by decide +kernel, by decide +kernel⟩, List.mem_of_getElem? (i := 73) (by decide +kernel), List.mem_of_getElem? (i := 555) (by decide +kernel), List.mem_of_getElem? (i := 556) (by decide +kernel)⟩
theorem lw_p18 : lw_okq (⟨"UnitDesk$Machine", "closeFrame", "()I"⟩, 8) := ⟨⟨by decide +kernel, by decide +kernel⟩, List.mem_of_getElem? (i := 73) (by decide +kernel), List.mem_of_getElem? (i := 563) (by decide +kernel), List.mem_of_getElem? (i := 564) (by decide +kernel)⟩
theorem lw_p19 : lw_okq (⟨"UnitDesk$Machine", "calculate", "(I)I"⟩, 8) := ⟨⟨by decide +kernel, by decide +kernel⟩, List.mem_of_getElem? (i := 73) (by decide +kernel), List.mem_of_getElem? (i := 568) (by decide +kernel), List.mem_of_getElem? (i := 569) (by decide +kernel)⟩
theorem lw_p20 : lw_okq (⟨"UnitDeskModel", "fails", "(ZI)Z"⟩, 36) := ⟨⟨by decide +kernel, by decide +kernel⟩, List.mem_of_getElem? (i := 572) (by decide +kernel), List.mem_of_getElem? (i := 699) (by decide +kernel), List.mem_of_getElem? (i := 700) (by decide +kernel)⟩
theorem lw_p21 : lw_okq (⟨"UnitDeskModel", "make", "(I)V"⟩, 36) := ⟨⟨by decide +kernel, by decide +kernel⟩, List.mem_of_getElem? (i := 572) (by decide +kernel), List.mem_of_getElem? (i := 723) (by decide +kernel), List.mem_of_getElem? (i := 724) (by decide +kernel)⟩
theorem lw_p22 : lw_okq (⟨"UnitDeskModel", "fitting", "(I)I"⟩, 36) := ⟨⟨by decide +kernel, by decide +kernel⟩, List.mem_of_getElem? (i := 572) (by decide +kernel), List.mem_of_getElem? (i := 727) (by decide +kernel), List.mem_of_getElem? (i := 728) (by decide +kernel)⟩
theorem lw_p23 : lw_okq (⟨"UnitDeskModel", "fits", "(II)Z"⟩, 36) := ⟨⟨by decide +kernel, by decide +kernel⟩, List.mem_of_getElem? (i := 572) (by decide +kernel), List.mem_of_getElem? (i := 731) (by decide +kernel), List.mem_of_getElem? (i := 732) (by decide +kernel)⟩
theorem lw_p24 : lw_okq (⟨"UnitDeskModel", "compile", "(I)V"⟩, 36) := ⟨⟨by decide +kernel, by decide +kernel⟩, List.mem_of_getElem? (i := 572) (by decide +kernel), List.mem_of_getElem? (i := 735) (by decide +kernel), List.mem_of_getElem? (i := 736) (by decide +kernel)⟩
theorem lw_p25 : lw_okq (⟨"UnitDeskModel", "wrong", "(II)V"⟩, 36) := ⟨⟨by decide +kernel, by decide +kernel⟩, List.mem_of_getElem? (i := 572) (by decide +kernel), List.mem_of_getElem? (i := 739) (by decide +kernel), List.mem_of_getElem? (i := 740) (by decide +kernel)⟩
theorem lw_p26 : lw_okq (⟨"UnitDeskModel", "takes", "(III)I"⟩, 36) := ⟨⟨by decide +kernel, by decide +kernel⟩, List.mem_of_getElem? (i := 572) (by decide +kernel), List.mem_of_getElem? (i := 743) (by decide +kernel), List.mem_of_getElem? (i := 744) (by decide +kernel)⟩
theorem lw_p27 : lw_okq (⟨"UnitDeskModel", "emit", "(I)V"⟩, 36) := ⟨⟨by decide +kernel, by decide +kernel⟩, List.mem_of_getElem? (i := 572) (by decide +kernel), List.mem_of_getElem? (i := 747) (by decide +kernel), List.mem_of_getElem? (i := 748) (by decide +kernel)⟩
theorem lw_p28 : lw_okq (⟨"UnitDeskModel", "parameters", "(I)I"⟩, 36) := ⟨⟨by decide +kernel, by decide +kernel⟩, List.mem_of_getElem? (i := 572) (by decide +kernel), List.mem_of_getElem? (i := 751) (by decide +kernel), List.mem_of_getElem? (i := 752) (by decide +kernel)⟩
theorem lw_p29 : lw_okq (⟨"UnitDeskModel", "typeOf", "(II)I"⟩, 36) := ⟨⟨by decide +kernel, by decide +kernel⟩, List.mem_of_getElem? (i := 572) (by decide +kernel), List.mem_of_getElem? (i := 755) (by decide +kernel), List.mem_of_getElem? (i := 756) (by decide +kernel)⟩
theorem lw_p30 : lw_okq (⟨"UnitDeskModel", "begins", "(II)V"⟩, 36) := ⟨⟨by decide +kernel, by decide +kernel⟩, List.mem_of_getElem? (i := 572) (by decide +kernel), List.mem_of_getElem? (i := 762) (by decide +kernel), List.mem_of_getElem? (i := 763) (by decide +kernel)⟩
theorem lw_p31 : lw_okq (⟨"UnitDeskModel", "resultOf", "(I)I"⟩, 36) := ⟨⟨by decide +kernel, by decide +kernel⟩, List.mem_of_getElem? (i := 572) (by decide +kernel), List.mem_of_getElem? (i := 769) (by decide +kernel), List.mem_of_getElem? (i := 770) (by decide +kernel)⟩
def lw_privs_2 : List (MethodName × Nat) := [(⟨"UnitDesk$Machine", "argument", "(I)I"⟩, 8), (⟨"UnitDesk$Machine", "pop", "()I"⟩, 8), (⟨"UnitDesk$Machine", "closeFrame", "()I"⟩, 8), (⟨"UnitDesk$Machine", "calculate", "(I)I"⟩, 8), (⟨"UnitDeskModel", "fails", "(ZI)Z"⟩, 36), (⟨"UnitDeskModel", "make", "(I)V"⟩, 36), (⟨"UnitDeskModel", "fitting", "(I)I"⟩, 36), (⟨"UnitDeskModel", "fits", "(II)Z"⟩, 36), (⟨"UnitDeskModel", "compile", "(I)V"⟩, 36), (⟨"UnitDeskModel", "wrong", "(II)V"⟩, 36), (⟨"UnitDeskModel", "takes", "(III)I"⟩, 36), (⟨"UnitDeskModel", "emit", "(I)V"⟩, 36), (⟨"UnitDeskModel", "parameters", "(I)I"⟩, 36), (⟨"UnitDeskModel", "typeOf", "(II)I"⟩, 36), (⟨"UnitDeskModel", "begins", "(II)V"⟩, 36), (⟨"UnitDeskModel", "resultOf", "(I)I"⟩, 36)]
theorem lw_r2 : ∀ q ∈ lw_privs_2, lw_okq q := List.forall_mem_cons.mpr ⟨lw_p16, List.forall_mem_cons.mpr ⟨lw_p17, List.forall_mem_cons.mpr ⟨lw_p18, List.forall_mem_cons.mpr ⟨lw_p19, List.forall_mem_cons.mpr ⟨lw_p20, List.forall_mem_cons.mpr ⟨lw_p21, List.forall_mem_cons.mpr ⟨lw_p22, List.forall_mem_cons.mpr ⟨lw_p23, List.forall_mem_cons.mpr ⟨lw_p24, List.forall_mem_cons.mpr ⟨lw_p25, List.forall_mem_cons.mpr ⟨lw_p26, List.forall_mem_cons.mpr ⟨lw_p27, List.forall_mem_cons.mpr ⟨lw_p28, List.forall_mem_cons.mpr ⟨lw_p29, List.forall_mem_cons.mpr ⟨lw_p30, List.forall_mem_cons.mpr ⟨lw_p31, fun _ h => absurd h List.not_mem_nil⟩⟩⟩⟩⟩⟩⟩⟩⟩⟩⟩⟩⟩⟩⟩⟩
theorem lw_p32 : lw_okq (⟨"UnitDeskModel", "wanted", "(I)I"⟩, 36) := ⟨⟨by decide +kernel, by decide +kernel⟩, List.mem_of_getElem? (i := 572) (by decide +kernel), List.mem_of_getElem? (i := 773) (by decide +kernel), List.mem_of_getElem? (i := 774) (by decide +kernel)⟩
theorem lw_p33 : lw_okq (⟨"UnitDeskModel", "parted", "(I)I"⟩, 36) := ⟨⟨by decide +kernel, by decide +kernel⟩, List.mem_of_getElem? (i := 572) (by decide +kernel), List.mem_of_getElem? (i := 777) (by decide +kernel), List.mem_of_getElem? (i := 778) (by decide +kernel)⟩
theorem lw_p34 : lw_okq (⟨"UnitDeskModel", "keep", "(I)I"⟩, 36) := ⟨⟨by decide +kernel, by decide +kernel⟩, List.mem_of_getElem? (i := 572) (by decide +kernel), List.mem_of_getElem? (i := 784) (by decide +kernel), List.mem_of_getElem? (i := 785) (by decide +kernel)⟩
theorem lw_p35 : lw_okq (⟨"UnitDeskModel", "oldest", "(I)I"⟩, 36) := ⟨⟨by decide +kernel, by decide +kernel⟩, List.mem_of_getElem? (i := 572) (by decide +kernel), List.mem_of_getElem? (i := 788) (by decide +kernel), List.mem_of_getElem? (i := 789) (by decide +kernel)⟩
theorem lw_p36 : lw_okq (⟨"UnitDeskModel", "callsIn", "(II)Z"⟩, 36) := ⟨⟨by decide +kernel, by decide +kernel⟩, List.mem_of_getElem? (i := 572) (by decide +kernel), List.mem_of_getElem? (i := 792) (by decide +kernel), List.mem_of_getElem? (i := 793) (by decide +kernel)⟩
theorem lw_p37 : lw_okq (⟨"UnitDeskModel", "link", "()V"⟩, 36) := ⟨⟨by decide +kernel, by decide +kernel⟩, List.mem_of_getElem? (i := 572) (by decide +kernel), List.mem_of_getElem? (i := 796) (by decide +kernel), List.mem_of_getElem? (i := 797) (by decide +kernel)⟩
theorem lw_p38 : lw_okq (⟨"UnitDeskModel", "functionAt", "(I)I"⟩, 36) := ⟨⟨by decide +kernel, by decide +kernel⟩, List.mem_of_getElem? (i := 572) (by decide +kernel), List.mem_of_getElem? (i := 826) (by decide +kernel), List.mem_of_getElem? (i := 827) (by decide +kernel)⟩
def lw_privs_3 : List (MethodName × Nat) := [(⟨"UnitDeskModel", "wanted", "(I)I"⟩, 36), (⟨"UnitDeskModel", "parted", "(I)I"⟩, 36), (⟨"UnitDeskModel", "keep", "(I)I"⟩, 36), (⟨"UnitDeskModel", "oldest", "(I)I"⟩, 36), (⟨"UnitDeskModel", "callsIn", "(II)Z"⟩, 36), (⟨"UnitDeskModel", "link", "()V"⟩, 36), (⟨"UnitDeskModel", "functionAt", "(I)I"⟩, 36)]
theorem lw_r3 : ∀ q ∈ lw_privs_3, lw_okq q := List.forall_mem_cons.mpr ⟨lw_p32, List.forall_mem_cons.mpr ⟨lw_p33, List.forall_mem_cons.mpr ⟨lw_p34, List.forall_mem_cons.mpr ⟨lw_p35, List.forall_mem_cons.mpr ⟨lw_p36, List.forall_mem_cons.mpr ⟨lw_p37, List.forall_mem_cons.mpr ⟨lw_p38, fun _ h => absurd h List.not_mem_nil⟩⟩⟩⟩⟩⟩⟩
def lw_privs : List (MethodName × Nat) := lw_privs_1 ++ (lw_privs_2 ++ (lw_privs_3))
def lw_tbl : List Cond := k2_sels lw_privs ++ tables_1
theorem lw_privs_ok : ∀ q ∈ lw_privs, lw_okq q := by
  show ∀ q ∈ lw_privs_1 ++ (lw_privs_2 ++ (lw_privs_3)), lw_okq q
  exact List.forall_mem_append.mpr ⟨lw_r1, List.forall_mem_append.mpr ⟨lw_r2, lw_r3⟩⟩
-- ===== end of PART A; then your names; then what follows =====
end
section
/-! The tables of this claim, printed by program out of the Statement. -/
def ux_nth {α : Type} : List α → Nat → Option α
  | [], _ => none
  | a :: _, 0 => some a
  | _ :: l, n + 1 => ux_nth l n
def ux_key {α : Type} : List (Nat × α) → Nat → Option α
  | [], _ => none
  | (k, a) :: l, n => if k = n then some a else ux_key l n
theorem ux_nth_mem {α : Type} : ∀ (l : List α) (n : Nat) (a : α), ux_nth l n = some a → a ∈ l := by
  intro l
  induction l with
  | nil => intro n a h; cases h
  | cons b l ih =>
    intro n a h
    cases n with
    | zero => cases h; exact List.mem_cons_self
    | succ n => exact List.mem_cons_of_mem _ (ih n a h)
theorem ux_key_mem {α : Type} : ∀ (l : List (Nat × α)) (n : Nat) (a : α), ux_key l n = some a → (n, a) ∈ l := by
  intro l
  induction l with
  | nil => intro n a h; cases h
  | cons b l ih =>
    intro n a h
    obtain ⟨k, c⟩ := b
    unfold ux_key at h
    split at h
    · rename_i hk
      subst hk
      cases h
      exact List.mem_cons_self
    · exact List.mem_cons_of_mem _ (ih n a h)
abbrev ux_J : Type := List (Option (Instr × Nat)) × Nat × (Nat × Nat × List (Nat × Nat × Nat × Nat))
abbrev ux_Po : Type := List (Nat × Nat × Nat × Bool) × List (Nat × Nat × Nat × Nat) × List (Nat × Nat)
set_option maxRecDepth 20000 in
def uxJ0 : ux_J := ([some (.new 8, 3), none, none, some (.dup, 1), some (.invokespecial 49, 3), none, none, some (.astore_n 1, 1), some (.new 50, 3), none, none, some (.dup, 1), some (.invokespecial 52, 3), none, none, some (.astore_n 2, 1), some (.iconst 1, 1), some (.newarray .long, 2), none, some (.astore_n 3, 1), some (.iconst 0, 1), some (.istore 4, 2), none, some (.iload 4, 2), none, some (.aload_n 0, 1), some (.arraylength, 1), some (.bipush 6, 2), none, some (.isub, 1), some (.if_icmp .gt 735, 3), none, none, some (.aload_n 0, 1), some (.iload 4, 2), none, some (.iaload, 1), some (.bipush 15, 2), none, some (.iand, 1), some (.tableswitch 719 0 12 #[68, 156, 192, 267, 327, 383, 396, 452, 520, 533, 589, 693, 706], 68), none, none, none, none, none, none, none, none, none, none, none, none, none, none, none, none, none, none, none, none, none, none, none, none, none, none, none, none, none, none, none, none, none, none, none, none, none, none, none, none, none, none, none, none, none, none, none, none, none, none, none, none, none, none, none, none, none, none, none, none, none, none, none, none, none, none, none, some (.aload_n 1, 1), some (.aload_n 0, 1), some (.iload 4, 2), none, some (.iconst 1, 1), some (.iadd, 1), some (.iaload, 1), some (.aload_n 0, 1), some (.iload 4, 2), none, some (.iconst 2, 1), some (.iadd, 1), some (.iaload, 1), some (.aload_n 0, 1), some (.iload 4, 2), none, some (.iconst 3, 1), some (.iadd, 1), some (.iaload, 1), some (.aload_n 0, 1), some (.iload 4, 2), none, some (.iconst 4, 1), some (.iadd, 1), some (.iaload, 1), some (.ifCond .eq 7, 3), none, none, some (.iconst 1, 1), some (.goto 4, 3), none, none, some (.iconst 0, 1), some (.invokestatic 53, 3), none, none, some (.istore 5, 2), none, some (.aload_n 2, 1), some (.aload_n 0, 1), some (.iload 4, 2), none, some (.iconst 1, 1), some (.iadd, 1), some (.iaload, 1), some (.aload_n 0, 1), some (.iload 4, 2), none, some (.iconst 2, 1), some (.iadd, 1), some (.iaload, 1), some (.aload_n 0, 1), some (.iload 4, 2), none, some (.iconst 3, 1), some (.iadd, 1), some (.iaload, 1), some (.aload_n 0, 1), some (.iload 4, 2), none, some (.iconst 4, 1), some (.iadd, 1), some (.iaload, 1), some (.ifCond .eq 7, 3), none, none, some (.iconst 1, 1), some (.goto 4, 3), none, none, some (.iconst 0, 1), some (.invokevirtual 58, 3), none, none, some (.aload_n 2, 1), some (.invokevirtual 59, 3), none, none, some (.iload 5, 2), none, some (.if_icmp .eq 5, 3), none, none, some (.iconst 0, 1), some (.ireturn, 1), some (.goto 566, 3), none, none, some (.aload_n 1, 1), some (.aload_n 0, 1), some (.iload 4, 2), none, some (.iconst 1, 1), some (.iadd, 1), some (.iaload, 1), some (.invokestatic 63, 3), none, none, some (.istore 5, 2), none, some (.aload_n 2, 1), some (.aload_n 0, 1), some (.iload 4, 2), none, some (.iconst 1, 1), some (.iadd, 1), some (.iaload, 1), some (.invokevirtual 66, 3), none, none, some (.aload_n 2, 1), some (.invokevirtual 59, 3), none, none, some (.iload 5, 2), none, some (.if_icmp .eq 5, 3), none, none, some (.iconst 0, 1), some (.ireturn, 1), some (.goto 530, 3), none, none, some (.aload_n 1, 1), some (.aload_n 0, 1), some (.iload 4, 2), none, some (.iconst 1, 1), some (.iadd, 1), some (.iaload, 1), some (.aload_n 0, 1), some (.iload 4, 2), none, some (.iconst 2, 1), some (.iadd, 1), some (.iaload, 1), some (.aload_n 3, 1), some (.invokestatic 67, 3), none, none, some (.istore 5, 2), none, some (.aload_n 2, 1), some (.aload_n 0, 1), some (.iload 4, 2), none, some (.iconst 1, 1), some (.iadd, 1), some (.iaload, 1), some (.aload_n 0, 1), some (.iload 4, 2), none, some (.iconst 2, 1), some (.iadd, 1), some (.iaload, 1), some (.invokevirtual 70, 3), none, none, some (.istore 6, 2), none, some (.aload_n 2, 1), some (.invokevirtual 59, 3), none, none, some (.iload 5, 2), none, some (.if_icmp .eq 5, 3), none, none, some (.iconst 0, 1), some (.ireturn, 1), some (.iload 5, 2), none, some (.ifCond .ne 22, 3), none, none, some (.aload_n 3, 1), some (.iconst 0, 1), some (.laload, 1), some (.iload 6, 2), none, some (.ifCond .eq 7, 3), none, none, some (.lconst 1, 1), some (.goto 4, 3), none, none, some (.lconst 0, 1), some (.lcmp, 1), some (.ifCond .eq 5, 3), none, none, some (.iconst 0, 1), some (.ireturn, 1), some (.goto 455, 3), none, none, some (.aload_n 1, 1), some (.aload_n 0, 1), some (.iload 4, 2), none, some (.iconst 1, 1), some (.iadd, 1), some (.iaload, 1), some (.aload_n 0, 1), some (.iload 4, 2), none, some (.iconst 2, 1), some (.iadd, 1), some (.iaload, 1), some (.aload_n 0, 1), some (.iload 4, 2), none, some (.iconst 3, 1), some (.iadd, 1), some (.iaload, 1), some (.invokestatic 71, 3), none, none, some (.istore 5, 2), none, some (.aload_n 2, 1), some (.aload_n 0, 1), some (.iload 4, 2), none, some (.iconst 1, 1), some (.iadd, 1), some (.iaload, 1), some (.aload_n 0, 1), some (.iload 4, 2), none, some (.iconst 2, 1), some (.iadd, 1), some (.iaload, 1), some (.aload_n 0, 1), some (.iload 4, 2), none, some (.iconst 3, 1), some (.iadd, 1), some (.iaload, 1), some (.invokevirtual 74, 3), none, none, some (.aload_n 2, 1), some (.invokevirtual 59, 3), none, none, some (.iload 5, 2), none, some (.if_icmp .eq 5, 3), none, none, some (.iconst 0, 1), some (.ireturn, 1), some (.goto 395, 3), none, none, some (.aload_n 1, 1), some (.aload_n 0, 1), some (.iload 4, 2), none, some (.iconst 1, 1), some (.iadd, 1), some (.iaload, 1), some (.aload_n 3, 1), some (.invokestatic 75, 3), none, none, some (.istore 5, 2), none, some (.aload_n 2, 1), some (.aload_n 0, 1), some (.iload 4, 2), none, some (.iconst 1, 1), some (.iadd, 1), some (.iaload, 1), some (.invokevirtual 78, 3), none, none, some (.istore 6, 2), none, some (.aload_n 2, 1), some (.invokevirtual 59, 3), none, none, some (.iload 5, 2), none, some (.if_icmp .eq 5, 3), none, none, some (.iconst 0, 1), some (.ireturn, 1), some (.iload 5, 2), none, some (.ifCond .ne 15, 3), none, none, some (.aload_n 3, 1), some (.iconst 0, 1), some (.laload, 1), some (.iload 6, 2), none, some (.i2l, 1), some (.lcmp, 1), some (.ifCond .eq 5, 3), none, none, some (.iconst 0, 1), some (.ireturn, 1), some (.goto 339, 3), none, none, some (.aload_n 1, 1), some (.invokevirtual 79, 3), none, none, some (.aload_n 2, 1), some (.invokevirtual 82, 3), none, none, some (.if_icmp .eq 328, 3), none, none, some (.iconst 0, 1), some (.ireturn, 1), some (.aload_n 1, 1), some (.aload_n 0, 1), some (.iload 4, 2), none, some (.iconst 1, 1), some (.iadd, 1), some (.iaload, 1), some (.aload_n 3, 1), some (.invokestatic 83, 3), none, none, some (.istore 5, 2), none, some (.aload_n 2, 1), some (.aload_n 0, 1), some (.iload 4, 2), none, some (.iconst 1, 1), some (.iadd, 1), some (.iaload, 1), some (.invokevirtual 85, 3), none, none, some (.istore 6, 2), none, some (.aload_n 2, 1), some (.invokevirtual 59, 3), none, none, some (.iload 5, 2), none, some (.if_icmp .eq 5, 3), none, none, some (.iconst 0, 1), some (.ireturn, 1), some (.iload 5, 2), none, some (.ifCond .ne 15, 3), none, none, some (.aload_n 3, 1), some (.iconst 0, 1), some (.laload, 1), some (.iload 6, 2), none, some (.i2l, 1), some (.lcmp, 1), some (.ifCond .eq 5, 3), none, none, some (.iconst 0, 1), some (.ireturn, 1), some (.goto 270, 3), none, none, some (.aload_n 1, 1), some (.aload_n 0, 1), some (.iload 4, 2), none, some (.iconst 1, 1), some (.iadd, 1), some (.iaload, 1), some (.aload_n 0, 1), some (.iload 4, 2), none, some (.iconst 2, 1), some (.iadd, 1), some (.iaload, 1), some (.aload_n 3, 1), some (.invokestatic 86, 3), none, none, some (.istore 5, 2), none, some (.aload_n 2, 1), some (.aload_n 0, 1), some (.iload 4, 2), none, some (.iconst 1, 1), some (.iadd, 1), some (.iaload, 1), some (.aload_n 0, 1), some (.iload 4, 2), none, some (.iconst 2, 1), some (.iadd, 1), some (.iaload, 1), some (.invokevirtual 88, 3), none, none, some (.istore 6, 2), none, some (.aload_n 2, 1), some (.invokevirtual 59, 3), none, none, some (.iload 5, 2), none, some (.if_icmp .eq 5, 3), none, none, some (.iconst 0, 1), some (.ireturn, 1), some (.iload 5, 2), none, some (.ifCond .ne 15, 3), none, none, some (.aload_n 3, 1), some (.iconst 0, 1), some (.laload, 1), some (.iload 6, 2), none, some (.i2l, 1), some (.lcmp, 1), some (.ifCond .eq 5, 3), none, none, some (.iconst 0, 1), some (.ireturn, 1), some (.goto 202, 3), none, none, some (.aload_n 1, 1), some (.invokevirtual 89, 3), none, none, some (.aload_n 2, 1), some (.invokevirtual 92, 3), none, none, some (.if_icmp .eq 191, 3), none, none, some (.iconst 0, 1), some (.ireturn, 1), some (.aload_n 1, 1), some (.aload_n 0, 1), some (.iload 4, 2), none, some (.iconst 1, 1), some (.iadd, 1), some (.iaload, 1), some (.aload_n 3, 1), some (.invokestatic 93, 3), none, none, some (.istore 5, 2), none, some (.aload_n 2, 1), some (.aload_n 0, 1), some (.iload 4, 2), none, some (.iconst 1, 1), some (.iadd, 1), some (.iaload, 1), some (.invokevirtual 95, 3), none, none, some (.istore 6, 2), none, some (.aload_n 2, 1), some (.invokevirtual 59, 3), none, none, some (.iload 5, 2), none, some (.if_icmp .eq 5, 3), none, none, some (.iconst 0, 1), some (.ireturn, 1), some (.iload 5, 2), none, some (.ifCond .ne 15, 3), none, none, some (.aload_n 3, 1), some (.iconst 0, 1), some (.laload, 1), some (.iload 6, 2), none, some (.i2l, 1), some (.lcmp, 1), some (.ifCond .eq 5, 3), none, none, some (.iconst 0, 1), some (.ireturn, 1), some (.goto 133, 3), none, none, some (.aload_n 1, 1), some (.aload_n 0, 1), some (.iload 4, 2), none, some (.iconst 1, 1), some (.iadd, 1), some (.iaload, 1), some (.aload_n 0, 1), some (.iload 4, 2), none, some (.iconst 2, 1), some (.iadd, 1), some (.iaload, 1), some (.aload_n 0, 1), some (.iload 4, 2), none, some (.iconst 3, 1), some (.iadd, 1), some (.iaload, 1), some (.aload_n 0, 1), some (.iload 4, 2), none, some (.iconst 4, 1), some (.iadd, 1), some (.iaload, 1), some (.aload_n 0, 1), some (.iload 4, 2), none, some (.iconst 5, 1), some (.iadd, 1), some (.iaload, 1), some (.aload_n 3, 1), some (.invokestatic 96, 3), none, none, some (.istore 5, 2), none, some (.aload_n 2, 1), some (.aload_n 0, 1), some (.iload 4, 2), none, some (.iconst 1, 1), some (.iadd, 1), some (.iaload, 1), some (.aload_n 0, 1), some (.iload 4, 2), none, some (.iconst 2, 1), some (.iadd, 1), some (.iaload, 1), some (.aload_n 0, 1), some (.iload 4, 2), none, some (.iconst 3, 1), some (.iadd, 1), some (.iaload, 1), some (.aload_n 0, 1), some (.iload 4, 2), none, some (.iconst 4, 1), some (.iadd, 1), some (.iaload, 1), some (.aload_n 0, 1), some (.iload 4, 2), none, some (.iconst 5, 1), some (.iadd, 1), some (.iaload, 1), some (.invokevirtual 99, 3), none, none, some (.istore 6, 2), none, some (.aload_n 2, 1), some (.invokevirtual 59, 3), none, none, some (.iload 5, 2), none, some (.if_icmp .eq 5, 3), none, none, some (.iconst 0, 1), some (.ireturn, 1), some (.iload 5, 2), none, some (.ifCond .ne 15, 3), none, none, some (.aload_n 3, 1), some (.iconst 0, 1), some (.laload, 1), some (.iload 6, 2), none, some (.i2l, 1), some (.lcmp, 1), some (.ifCond .eq 5, 3), none, none, some (.iconst 0, 1), some (.ireturn, 1), some (.goto 29, 3), none, none, some (.aload_n 1, 1), some (.invokevirtual 100, 3), none, none, some (.aload_n 2, 1), some (.invokevirtual 103, 3), none, none, some (.if_icmp .eq 18, 3), none, none, some (.iconst 0, 1), some (.ireturn, 1), some (.aload_n 1, 1), some (.invokevirtual 104, 3), none, none, some (.aload_n 2, 1), some (.invokevirtual 107, 3), none, none, some (.if_icmp .eq 5, 3), none, none, some (.iconst 0, 1), some (.ireturn, 1), some (.iinc 4 6, 3), none, none, some (.goto (-739), 3), none, none, some (.iconst 1, 1), some (.ireturn, 1)], 9, (7, 2, []))
set_option maxRecDepth 20000 in
def uxJ1 : ux_J := ([some (.aload_n 0, 1), some (.invokespecial 3, 3), none, none, some (.aload_n 0, 1), some (.bipush 8, 2), none, some (.newarray .int, 2), none, some (.putfield 9, 3), none, none, some (.aload_n 0, 1), some (.bipush 8, 2), none, some (.anewarray 13, 3), none, none, some (.putfield 15, 3), none, none, some (.aload_n 0, 1), some (.bipush 8, 2), none, some (.anewarray 19, 3), none, none, some (.putfield 21, 3), none, none, some (.aload_n 0, 1), some (.bipush 8, 2), none, some (.newarray .int, 2), none, some (.putfield 25, 3), none, none, some (.aload_n 0, 1), some (.bipush 8, 2), none, some (.newarray .int, 2), none, some (.putfield 28, 3), none, none, some (.aload_n 0, 1), some (.bipush 8, 2), none, some (.newarray .int, 2), none, some (.putfield 31, 3), none, none, some (.aload_n 0, 1), some (.iconst 5, 1), some (.newarray .int, 2), none, some (.putfield 34, 3), none, none, some (.aload_n 0, 1), some (.new 37, 3), none, none, some (.dup, 1), some (.invokespecial 39, 3), none, none, some (.putfield 40, 3), none, none, some (.aload_n 0, 1), some (.new 44, 3), none, none, some (.dup, 1), some (.invokespecial 46, 3), none, none, some (.putfield 47, 3), none, none, some (.aload_n 0, 1), some (.new 51, 3), none, none, some (.dup, 1), some (.invokespecial 53, 3), none, none, some (.putfield 54, 3), none, none, some (.iconst 0, 1), some (.istore_n 1, 1), some (.iload_n 1, 1), some (.bipush 8, 2), none, some (.if_icmp .ge 49, 3), none, none, some (.aload_n 0, 1), some (.getfield 9, 3), none, none, some (.iload_n 1, 1), some (.iconst (-1), 1), some (.iastore, 1), some (.aload_n 0, 1), some (.getfield 15, 3), none, none, some (.iload_n 1, 1), some (.new 13, 3), none, none, some (.dup, 1), some (.invokespecial 60, 3), none, none, some (.aastore, 1), some (.aload_n 0, 1), some (.getfield 21, 3), none, none, some (.iload_n 1, 1), some (.new 19, 3), none, none, some (.dup, 1), some (.invokespecial 61, 3), none, none, some (.aastore, 1), some (.aload_n 0, 1), some (.getfield 28, 3), none, none, some (.iload_n 1, 1), some (.iconst (-1), 1), some (.iastore, 1), some (.iinc 1 1, 3), none, none, some (.goto (-49), 3), none, none, some (.return_, 1)], 0, (2, 4, []))
set_option maxRecDepth 20000 in
def uxJ2 : ux_J := ([some (.aload_n 0, 1), some (.invokespecial 3, 3), none, none, some (.aload_n 0, 1), some (.iconst 0, 1), some (.putfield 9, 3), none, none, some (.aload_n 0, 1), some (.iconst (-1), 1), some (.putfield 15, 3), none, none, some (.aload_n 0, 1), some (.iconst 0, 1), some (.putfield 18, 3), none, none, some (.return_, 1)], 1, (1, 4, []))
set_option maxRecDepth 20000 in
def uxJ3 : ux_J := ([some (.aload_n 0, 1), some (.invokespecial 3, 3), none, none, some (.aload_n 0, 1), some (.sipush 300, 3), none, none, some (.newarray .int, 2), none, some (.putfield 9, 3), none, none, some (.aload_n 0, 1), some (.bipush 8, 2), none, some (.newarray .int, 2), none, some (.putfield 15, 3), none, none, some (.aload_n 0, 1), some (.bipush 8, 2), none, some (.newarray .int, 2), none, some (.putfield 18, 3), none, none, some (.aload_n 0, 1), some (.iconst 0, 1), some (.putfield 21, 3), none, none, some (.iconst 0, 1), some (.istore_n 1, 1), some (.iload_n 1, 1), some (.bipush 8, 2), none, some (.if_icmp .ge 16, 3), none, none, some (.aload_n 0, 1), some (.getfield 15, 3), none, none, some (.iload_n 1, 1), some (.iconst (-1), 1), some (.iastore, 1), some (.iinc 1 1, 3), none, none, some (.goto (-16), 3), none, none, some (.return_, 1)], 2, (2, 4, []))
set_option maxRecDepth 20000 in
def uxJ4 : ux_J := ([some (.aload_n 0, 1), some (.invokespecial 3, 3), none, none, some (.aload_n 0, 1), some (.iconst 0, 1), some (.putfield 9, 3), none, none, some (.aload_n 0, 1), some (.iconst 0, 1), some (.putfield 15, 3), none, none, some (.aload_n 0, 1), some (.bipush 40, 2), none, some (.newarray .int, 2), none, some (.putfield 18, 3), none, none, some (.aload_n 0, 1), some (.bipush 12, 2), none, some (.newarray .int, 2), none, some (.putfield 22, 3), none, none, some (.aload_n 0, 1), some (.bipush 12, 2), none, some (.newarray .int, 2), none, some (.putfield 25, 3), none, none, some (.aload_n 0, 1), some (.iconst 0, 1), some (.putfield 28, 3), none, none, some (.aload_n 0, 1), some (.iconst 0, 1), some (.putfield 31, 3), none, none, some (.aload_n 0, 1), some (.iconst 0, 1), some (.putfield 34, 3), none, none, some (.return_, 1)], 3, (1, 4, []))
set_option maxRecDepth 20000 in
def uxJ5 : ux_J := ([some (.aload_n 0, 1), some (.invokespecial 3, 3), none, none, some (.aload_n 0, 1), some (.bipush 30, 2), none, some (.newarray .int, 2), none, some (.putfield 9, 3), none, none, some (.aload_n 0, 1), some (.iconst 0, 1), some (.putfield 15, 3), none, none, some (.return_, 1)], 5, (1, 4, []))
set_option maxRecDepth 20000 in
def uxJ6 : ux_J := ([some (.aload_n 0, 1), some (.invokespecial 3, 3), none, none, some (.aload_n 0, 1), some (.iconst 4, 1), some (.anewarray 9, 3), none, none, some (.putfield 11, 3), none, none, some (.aload_n 0, 1), some (.iconst 0, 1), some (.putfield 17, 3), none, none, some (.iconst 0, 1), some (.istore_n 1, 1), some (.iload_n 1, 1), some (.iconst 3, 1), some (.if_icmp .gt 22, 3), none, none, some (.aload_n 0, 1), some (.getfield 11, 3), none, none, some (.iload_n 1, 1), some (.new 9, 3), none, none, some (.dup, 1), some (.invokespecial 21, 3), none, none, some (.aastore, 1), some (.iinc 1 1, 3), none, none, some (.goto (-21), 3), none, none, some (.return_, 1)], 4, (2, 4, []))
set_option maxRecDepth 20000 in
def uxJ7 : ux_J := ([some (.aload_n 0, 1), some (.invokespecial 3, 3), none, none, some (.aload_n 0, 1), some (.new 9, 3), none, none, some (.dup, 1), some (.invokespecial 11, 3), none, none, some (.putfield 12, 3), none, none, some (.aload_n 0, 1), some (.bipush 8, 2), none, some (.newarray .int, 2), none, some (.putfield 18, 3), none, none, some (.aload_n 0, 1), some (.bipush 122, 2), none, some (.newarray .int, 2), none, some (.putfield 22, 3), none, none, some (.aload_n 0, 1), some (.iconst (-1), 1), some (.putfield 27, 3), none, none, some (.aload_n 0, 1), some (.iconst 0, 1), some (.putfield 31, 3), none, none, some (.return_, 1)], 6, (1, 4, []))
set_option maxRecDepth 20000 in
def uxJ8 : ux_J := ([some (.aload_n 0, 1), some (.getfield 34, 3), none, none, some (.iconst 0, 1), some (.iconst 0, 1), some (.iastore, 1), some (.aload_n 0, 1), some (.getfield 34, 3), none, none, some (.iconst 1, 1), some (.iconst 0, 1), some (.iastore, 1), some (.aload_n 0, 1), some (.getfield 34, 3), none, none, some (.iconst 2, 1), some (.iconst 0, 1), some (.iastore, 1), some (.iconst 0, 1), some (.istore_n 1, 1), some (.iload_n 1, 1), some (.bipush 8, 2), none, some (.if_icmp .ge 14, 3), none, none, some (.aload_n 0, 1), some (.iload_n 1, 1), some (.invokevirtual 93, 3), none, none, some (.iinc 1 1, 3), none, none, some (.goto (-14), 3), none, none, some (.aload_n 0, 1), some (.getfield 34, 3), none, none, some (.iconst 2, 1), some (.iaload, 1), some (.ifCond .le 5, 3), none, none, some (.iconst (-1), 1), some (.ireturn, 1), some (.aload_n 0, 1), some (.getfield 47, 3), none, none, some (.aload_n 0, 1), some (.getfield 9, 3), none, none, some (.aload_n 0, 1), some (.getfield 21, 3), none, none, some (.invokevirtual 96, 3), none, none, some (.ifCond .eq 13, 3), none, none, some (.aload_n 0, 1), some (.getfield 47, 3), none, none, some (.getfield 100, 3), none, none, some (.goto 5, 3), none, none, some (.bipush (-2), 2), none, some (.ireturn, 1)], 0, (2, 1, []))
set_option maxRecDepth 20000 in
def uxJ9 : ux_J := ([some (.aload_n 0, 1), some (.getfield 25, 3), none, none, some (.iload_n 1, 1), some (.iconst 0, 1), some (.iastore, 1), some (.aload_n 0, 1), some (.getfield 28, 3), none, none, some (.iload_n 1, 1), some (.iconst (-1), 1), some (.iastore, 1), some (.aload_n 0, 1), some (.getfield 31, 3), none, none, some (.iload_n 1, 1), some (.iconst 0, 1), some (.iastore, 1), some (.aload_n 0, 1), some (.getfield 9, 3), none, none, some (.iload_n 1, 1), some (.iaload, 1), some (.iconst (-1), 1), some (.if_icmp .ne 4, 3), none, none, some (.return_, 1), some (.aload_n 0, 1), some (.getfield 21, 3), none, none, some (.iload_n 1, 1), some (.aaload, 1), some (.aload_n 0, 1), some (.getfield 15, 3), none, none, some (.iload_n 1, 1), some (.aaload, 1), some (.iload_n 1, 1), some (.aload_n 0, 1), some (.getfield 9, 3), none, none, some (.invokevirtual 137, 3), none, none, some (.istore_n 2, 1), some (.iload_n 2, 1), some (.iconst (-1), 1), some (.if_icmp .ne 11, 3), none, none, some (.aload_n 0, 1), some (.iload_n 1, 1), some (.invokevirtual 141, 3), none, none, some (.goto 40, 3), none, none, some (.aload_n 0, 1), some (.getfield 21, 3), none, none, some (.iload_n 1, 1), some (.aaload, 1), some (.iload_n 2, 1), some (.invokevirtual 144, 3), none, none, some (.aload_n 0, 1), some (.getfield 31, 3), none, none, some (.iload_n 1, 1), some (.iconst 1, 1), some (.iastore, 1), some (.aload_n 0, 1), some (.getfield 34, 3), none, none, some (.iconst 0, 1), some (.dup2, 1), some (.iaload, 1), some (.iconst 1, 1), some (.iadd, 1), some (.iastore, 1), some (.aload_n 0, 1), some (.getfield 34, 3), none, none, some (.iconst 3, 1), some (.dup2, 1), some (.iaload, 1), some (.iconst 1, 1), some (.iadd, 1), some (.iastore, 1), some (.return_, 1)], 0, (3, 0, []))
set_option maxRecDepth 20000 in
def uxJ10 : ux_J := ([some (.iconst 0, 1), some (.istore 4, 2), none, some (.iload 4, 2), none, some (.aload_n 0, 1), some (.getfield 17, 3), none, none, some (.if_icmp .ge 28, 3), none, none, some (.aload_n 0, 1), some (.getfield 11, 3), none, none, some (.iload 4, 2), none, some (.aaload, 1), some (.aload_n 1, 1), some (.iload_n 2, 1), some (.aload_n 3, 1), some (.invokevirtual 22, 3), none, none, some (.ifCond .eq 6, 3), none, none, some (.iload 4, 2), none, some (.ireturn, 1), some (.iinc 4 1, 3), none, none, some (.goto (-31), 3), none, none, some (.iconst (-1), 1), some (.ireturn, 1)], 4, (5, 1, []))
set_option maxRecDepth 20000 in
def uxJ11 : ux_J := ([some (.aload_n 0, 1), some (.getfield 27, 3), none, none, some (.aload_n 3, 1), some (.iload_n 2, 1), some (.iaload, 1), some (.if_icmp .ne 14, 3), none, none, some (.aload_n 0, 1), some (.getfield 12, 3), none, none, some (.aload_n 1, 1), some (.invokevirtual 38, 3), none, none, some (.ifCond .ne 5, 3), none, none, some (.iconst 0, 1), some (.ireturn, 1), some (.iconst 0, 1), some (.istore 4, 2), none, some (.iload 4, 2), none, some (.bipush 8, 2), none, some (.if_icmp .ge 36, 3), none, none, some (.aload_n 0, 1), some (.getfield 18, 3), none, none, some (.iload 4, 2), none, some (.iaload, 1), some (.iconst (-1), 1), some (.if_icmp .eq 19, 3), none, none, some (.aload_n 0, 1), some (.getfield 18, 3), none, none, some (.iload 4, 2), none, some (.iaload, 1), some (.aload_n 3, 1), some (.iload 4, 2), none, some (.iaload, 1), some (.if_icmp .eq 5, 3), none, none, some (.iconst 0, 1), some (.ireturn, 1), some (.iinc 4 1, 3), none, none, some (.goto (-37), 3), none, none, some (.iconst 1, 1), some (.ireturn, 1)], 6, (5, 2, []))
set_option maxRecDepth 20000 in
def uxJ12 : ux_J := ([some (.aload_n 0, 1), some (.getfield 15, 3), none, none, some (.aload_n 1, 1), some (.getfield 15, 3), none, none, some (.if_icmp .eq 5, 3), none, none, some (.iconst 0, 1), some (.ireturn, 1), some (.iconst 0, 1), some (.istore_n 2, 1), some (.iload_n 2, 1), some (.aload_n 0, 1), some (.getfield 15, 3), none, none, some (.if_icmp .ge 26, 3), none, none, some (.aload_n 0, 1), some (.getfield 9, 3), none, none, some (.iload_n 2, 1), some (.iaload, 1), some (.aload_n 1, 1), some (.getfield 9, 3), none, none, some (.iload_n 2, 1), some (.iaload, 1), some (.if_icmp .eq 5, 3), none, none, some (.iconst 0, 1), some (.ireturn, 1), some (.iinc 2 1, 3), none, none, some (.goto (-28), 3), none, none, some (.iconst 1, 1), some (.ireturn, 1)], 5, (3, 2, []))
set_option maxRecDepth 20000 in
def uxJ13 : ux_J := ([some (.aload_n 0, 1), some (.getfield 21, 3), none, none, some (.iload_n 1, 1), some (.aaload, 1), some (.invokevirtual 147, 3), none, none, some (.astore_n 2, 1), some (.aload_n 2, 1), some (.aload_n 0, 1), some (.getfield 15, 3), none, none, some (.iload_n 1, 1), some (.aaload, 1), some (.aload_n 0, 1), some (.getfield 9, 3), none, none, some (.iload_n 1, 1), some (.iaload, 1), some (.invokevirtual 151, 3), none, none, some (.aload_n 0, 1), some (.getfield 40, 3), none, none, some (.aload_n 2, 1), some (.aload_n 0, 1), some (.getfield 9, 3), none, none, some (.invokevirtual 156, 3), none, none, some (.aload_n 0, 1), some (.getfield 31, 3), none, none, some (.iload_n 1, 1), some (.iconst 2, 1), some (.iastore, 1), some (.aload_n 0, 1), some (.getfield 34, 3), none, none, some (.iconst 1, 1), some (.dup2, 1), some (.iaload, 1), some (.iconst 1, 1), some (.iadd, 1), some (.iastore, 1), some (.aload_n 0, 1), some (.getfield 34, 3), none, none, some (.iconst 4, 1), some (.dup2, 1), some (.iaload, 1), some (.iconst 1, 1), some (.iadd, 1), some (.iastore, 1), some (.aload_n 0, 1), some (.getfield 40, 3), none, none, some (.getfield 160, 3), none, none, some (.ifCond .ne 15, 3), none, none, some (.aload_n 0, 1), some (.getfield 21, 3), none, none, some (.iload_n 1, 1), some (.aaload, 1), some (.invokevirtual 163, 3), none, none, some (.goto 39, 3), none, none, some (.aload_n 0, 1), some (.getfield 25, 3), none, none, some (.iload_n 1, 1), some (.aload_n 0, 1), some (.getfield 40, 3), none, none, some (.getfield 160, 3), none, none, some (.iastore, 1), some (.aload_n 0, 1), some (.getfield 28, 3), none, none, some (.iload_n 1, 1), some (.aload_n 0, 1), some (.getfield 40, 3), none, none, some (.getfield 166, 3), none, none, some (.iastore, 1), some (.aload_n 0, 1), some (.getfield 34, 3), none, none, some (.iconst 2, 1), some (.dup2, 1), some (.iaload, 1), some (.iconst 1, 1), some (.iadd, 1), some (.iastore, 1), some (.return_, 1)], 0, (3, 0, []))
set_option maxRecDepth 20000 in
def uxJ14 : ux_J := ([some (.aload_n 0, 1), some (.getfield 11, 3), none, none, some (.aload_n 0, 1), some (.getfield 17, 3), none, none, some (.aaload, 1), some (.areturn, 1)], 4, (1, 3, []))
set_option maxRecDepth 20000 in
def uxJ15 : ux_J := ([some (.aload_n 0, 1), some (.getfield 12, 3), none, none, some (.aload_n 1, 1), some (.invokevirtual 34, 3), none, none, some (.aload_n 0, 1), some (.iload_n 2, 1), some (.putfield 27, 3), none, none, some (.aload_n 0, 1), some (.iconst 0, 1), some (.putfield 31, 3), none, none, some (.iconst 0, 1), some (.istore_n 3, 1), some (.iload_n 3, 1), some (.bipush 8, 2), none, some (.if_icmp .ge 16, 3), none, none, some (.aload_n 0, 1), some (.getfield 18, 3), none, none, some (.iload_n 3, 1), some (.iconst (-1), 1), some (.iastore, 1), some (.iinc 3 1, 3), none, none, some (.goto (-16), 3), none, none, some (.return_, 1)], 6, (4, 0, []))
set_option maxRecDepth 20000 in
def uxJ16 : ux_J := ([some (.aload_n 0, 1), some (.aload_n 1, 1), some (.getfield 15, 3), none, none, some (.putfield 15, 3), none, none, some (.iconst 0, 1), some (.istore_n 2, 1), some (.iload_n 2, 1), some (.aload_n 0, 1), some (.getfield 15, 3), none, none, some (.if_icmp .ge 21, 3), none, none, some (.aload_n 0, 1), some (.getfield 9, 3), none, none, some (.iload_n 2, 1), some (.aload_n 1, 1), some (.getfield 9, 3), none, none, some (.iload_n 2, 1), some (.iaload, 1), some (.iastore, 1), some (.iinc 2 1, 3), none, none, some (.goto (-23), 3), none, none, some (.return_, 1)], 5, (3, 0, []))
set_option maxRecDepth 20000 in
def uxJ17 : ux_J := ([some (.aload_n 0, 1), some (.iconst 0, 1), some (.putfield 9, 3), none, none, some (.aload_n 0, 1), some (.iconst (-1), 1), some (.putfield 15, 3), none, none, some (.aload_n 0, 1), some (.iconst 0, 1), some (.putfield 18, 3), none, none, some (.aload_n 0, 1), some (.aload_n 1, 1), some (.aload_n 2, 1), some (.aload_n 1, 1), some (.getfield 21, 3), none, none, some (.invokestatic 26, 3), none, none, some (.iconst 0, 1), some (.invokevirtual 32, 3), none, none, some (.ifCond .ne 4, 3), none, none, some (.return_, 1), some (.aload_n 1, 1), some (.getfield 36, 3), none, none, some (.aload_n 0, 1), some (.getfield 18, 3), none, none, some (.invokevirtual 40, 3), none, none, some (.ifCond .eq 15, 3), none, none, some (.aload_n 0, 1), some (.bipush 6, 2), none, some (.aload_n 0, 1), some (.getfield 18, 3), none, none, some (.invokevirtual 46, 3), none, none, some (.pop, 1), some (.return_, 1), some (.aload_n 1, 1), some (.bipush 10, 2), none, some (.aload_n 1, 1), some (.getfield 21, 3), none, none, some (.invokestatic 50, 3), none, none, some (.invokevirtual 53, 3), none, none, some (.return_, 1)], 1, (3, 0, []))
set_option maxRecDepth 20000 in
def uxJ18 : ux_J := ([some (.iload_n 0, 1), some (.iconst 5, 1), some (.ishr, 1), some (.iconst 1, 1), some (.iand, 1), some (.ireturn, 1)], 8, (1, 1, []))
set_option maxRecDepth 20000 in
def uxJ19 : ux_J := ([some (.aload_n 0, 1), some (.getfield 18, 3), none, none, some (.istore 5, 2), none, some (.aload_n 0, 1), some (.aload_n 1, 1), some (.aload_n 2, 1), some (.iload 4, 2), none, some (.invokevirtual 57, 3), none, none, some (.istore 6, 2), none, some (.iload 6, 2), none, some (.iconst (-1), 1), some (.if_icmp .ne 5, 3), none, none, some (.iconst 0, 1), some (.ireturn, 1), some (.iload 6, 2), none, some (.iload_n 3, 1), some (.if_icmp .eq 13, 3), none, none, some (.aload_n 0, 1), some (.iconst 5, 1), some (.iload 5, 2), none, some (.invokevirtual 46, 3), none, none, some (.pop, 1), some (.iconst 0, 1), some (.ireturn, 1), some (.iconst 1, 1), some (.ireturn, 1)], 1, (7, 2, []))
set_option maxRecDepth 20000 in
def uxJ20 : ux_J := ([some (.aload_n 1, 1), some (.getfield 36, 3), none, none, some (.aload_n 0, 1), some (.getfield 18, 3), none, none, some (.invokevirtual 40, 3), none, none, some (.ifCond .eq 9, 3), none, none, some (.iload_n 3, 1), some (.bipush 30, 2), none, some (.if_icmp .le 13, 3), none, none, some (.aload_n 0, 1), some (.iconst 2, 1), some (.aload_n 0, 1), some (.getfield 18, 3), none, none, some (.invokevirtual 46, 3), none, none, some (.ireturn, 1), some (.aload_n 1, 1), some (.getfield 36, 3), none, none, some (.getfield 61, 3), none, none, some (.aload_n 0, 1), some (.getfield 18, 3), none, none, some (.iaload, 1), some (.istore 4, 2), none, some (.iload 4, 2), none, some (.invokestatic 65, 3), none, none, some (.ifCond .eq 13, 3), none, none, some (.aload_n 0, 1), some (.iconst 1, 1), some (.aload_n 0, 1), some (.getfield 18, 3), none, none, some (.invokevirtual 46, 3), none, none, some (.ireturn, 1), some (.iload 4, 2), none, some (.iconst 3, 1), some (.if_icmp .ge 11, 3), none, none, some (.aload_n 0, 1), some (.aload_n 1, 1), some (.iload 4, 2), none, some (.invokevirtual 68, 3), none, none, some (.ireturn, 1), some (.iload 4, 2), none, some (.bipush 8, 2), none, some (.if_icmp .ge 13, 3), none, none, some (.aload_n 0, 1), some (.aload_n 1, 1), some (.aload_n 2, 1), some (.iload 4, 2), none, some (.iload_n 3, 1), some (.invokevirtual 72, 3), none, none, some (.ireturn, 1), some (.iload 4, 2), none, some (.bipush 8, 2), none, some (.if_icmp .ne 11, 3), none, none, some (.aload_n 0, 1), some (.aload_n 1, 1), some (.aload_n 2, 1), some (.iload_n 3, 1), some (.invokevirtual 76, 3), none, none, some (.ireturn, 1), some (.iload 4, 2), none, some (.bipush 10, 2), none, some (.if_icmp .gt 22, 3), none, none, some (.aload_n 0, 1), some (.aload_n 1, 1), some (.iload 4, 2), none, some (.bipush 9, 2), none, some (.if_icmp .ne 7, 3), none, none, some (.iconst 1, 1), some (.goto 4, 3), none, none, some (.iconst 0, 1), some (.iconst 1, 1), some (.invokevirtual 79, 3), none, none, some (.ireturn, 1), some (.iload 4, 2), none, some (.bipush 100, 2), none, some (.if_icmp .ge 16, 3), none, none, some (.aload_n 0, 1), some (.aload_n 1, 1), some (.aload_n 2, 1), some (.iload 4, 2), none, some (.bipush 11, 2), none, some (.isub, 1), some (.iload_n 3, 1), some (.invokevirtual 83, 3), none, none, some (.ireturn, 1), some (.aload_n 0, 1), some (.aload_n 1, 1), some (.iload 4, 2), none, some (.bipush 100, 2), none, some (.isub, 1), some (.iconst 0, 1), some (.invokevirtual 79, 3), none, none, some (.ireturn, 1)], 1, (5, 1, []))
set_option maxRecDepth 20000 in
def uxJ21 : ux_J := ([some (.iload_n 1, 1), some (.ifCond .lt 15, 3), none, none, some (.iload_n 1, 1), some (.aload_n 0, 1), some (.getfield 15, 3), none, none, some (.if_icmp .ge 7, 3), none, none, some (.iconst 1, 1), some (.goto 4, 3), none, none, some (.iconst 0, 1), some (.ireturn, 1)], 5, (2, 2, []))
set_option maxRecDepth 20000 in
def uxJ22 : ux_J := ([some (.aload_n 0, 1), some (.iload_n 1, 1), some (.putfield 9, 3), none, none, some (.aload_n 0, 1), some (.iload_n 2, 1), some (.putfield 15, 3), none, none, some (.iconst (-1), 1), some (.ireturn, 1)], 1, (3, 1, []))
set_option maxRecDepth 20000 in
def uxJ23 : ux_J := ([some (.iload_n 0, 1), some (.ifCond .lt 15, 3), none, none, some (.iload_n 0, 1), some (.bipush 19, 2), none, some (.if_icmp .lt 13, 3), none, none, some (.iload_n 0, 1), some (.bipush 100, 2), none, some (.if_icmp .ge 7, 3), none, none, some (.iconst 1, 1), some (.goto 4, 3), none, none, some (.iconst 0, 1), some (.ireturn, 1)], 1, (1, 2, []))
set_option maxRecDepth 20000 in
def uxJ24 : ux_J := ([some (.iload_n 2, 1), some (.aload_n 1, 1), some (.getfield 21, 3), none, none, some (.invokestatic 50, 3), none, none, some (.if_icmp .lt 13, 3), none, none, some (.aload_n 0, 1), some (.iconst 3, 1), some (.aload_n 0, 1), some (.getfield 18, 3), none, none, some (.invokevirtual 46, 3), none, none, some (.ireturn, 1), some (.aload_n 0, 1), some (.dup, 1), some (.getfield 18, 3), none, none, some (.iconst 1, 1), some (.iadd, 1), some (.putfield 18, 3), none, none, some (.aload_n 1, 1), some (.iconst 1, 1), some (.iload_n 2, 1), some (.invokevirtual 53, 3), none, none, some (.aload_n 1, 1), some (.getfield 21, 3), none, none, some (.iload_n 2, 1), some (.invokestatic 86, 3), none, none, some (.ireturn, 1)], 1, (3, 1, []))
set_option maxRecDepth 20000 in
def uxJ25 : ux_J := ([some (.iload_n 0, 1), some (.iconst 3, 1), some (.iand, 1), some (.ireturn, 1)], 8, (1, 1, []))
set_option maxRecDepth 20000 in
def uxJ26 : ux_J := ([some (.aload_n 0, 1), some (.getfield 31, 3), none, none, some (.iconst 1, 1), some (.iadd, 1), some (.bipush 122, 2), none, some (.if_icmp .ge 35, 3), none, none, some (.aload_n 0, 1), some (.getfield 22, 3), none, none, some (.aload_n 0, 1), some (.getfield 31, 3), none, none, some (.iload_n 1, 1), some (.iastore, 1), some (.aload_n 0, 1), some (.getfield 22, 3), none, none, some (.aload_n 0, 1), some (.getfield 31, 3), none, none, some (.iconst 1, 1), some (.iadd, 1), some (.iload_n 2, 1), some (.iastore, 1), some (.aload_n 0, 1), some (.dup, 1), some (.getfield 31, 3), none, none, some (.iconst 2, 1), some (.iadd, 1), some (.putfield 31, 3), none, none, some (.return_, 1)], 6, (3, 0, []))
set_option maxRecDepth 20000 in
def uxJ27 : ux_J := ([some (.iload_n 0, 1), some (.iconst 2, 1), some (.iload_n 1, 1), some (.iadd, 1), some (.ishr, 1), some (.iconst 1, 1), some (.iand, 1), some (.ireturn, 1)], 8, (2, 1, []))
set_option maxRecDepth 20000 in
def uxJ28 : ux_J := ([some (.aload_n 0, 1), some (.dup, 1), some (.getfield 18, 3), none, none, some (.iconst 1, 1), some (.iadd, 1), some (.putfield 18, 3), none, none, some (.aload_n 0, 1), some (.aload_n 1, 1), some (.aload_n 2, 1), some (.iconst 0, 1), some (.iload 4, 2), none, some (.iconst 1, 1), some (.iadd, 1), some (.invokevirtual 32, 3), none, none, some (.ifCond .eq 17, 3), none, none, some (.aload_n 0, 1), some (.aload_n 1, 1), some (.aload_n 2, 1), some (.iconst 0, 1), some (.iload 4, 2), none, some (.iconst 1, 1), some (.iadd, 1), some (.invokevirtual 32, 3), none, none, some (.ifCond .ne 5, 3), none, none, some (.iconst (-1), 1), some (.ireturn, 1), some (.aload_n 1, 1), some (.iload_n 3, 1), some (.invokestatic 89, 3), none, none, some (.invokevirtual 92, 3), none, none, some (.iload_n 3, 1), some (.bipush 6, 2), none, some (.if_icmp .eq 9, 3), none, none, some (.iload_n 3, 1), some (.bipush 7, 2), none, some (.if_icmp .ne 7, 3), none, none, some (.iconst 1, 1), some (.goto 4, 3), none, none, some (.iconst 0, 1), some (.ireturn, 1)], 1, (5, 1, []))
set_option maxRecDepth 20000 in
def uxJ29 : ux_J := ([some (.iload_n 0, 1), some (.tableswitch 39 3 6 #[31, 33, 35, 37], 31), none, none, none, none, none, none, none, none, none, none, none, none, none, none, none, none, none, none, none, none, none, none, none, none, none, none, none, none, none, none, some (.iconst 2, 1), some (.ireturn, 1), some (.iconst 3, 1), some (.ireturn, 1), some (.iconst 4, 1), some (.ireturn, 1), some (.iconst 5, 1), some (.ireturn, 1), some (.bipush 6, 2), none, some (.ireturn, 1)], 1, (1, 1, []))
set_option maxRecDepth 20000 in
def uxJ30 : ux_J := ([some (.aload_n 0, 1), some (.getfield 31, 3), none, none, some (.bipush 122, 2), none, some (.if_icmp .ge 23, 3), none, none, some (.aload_n 0, 1), some (.getfield 22, 3), none, none, some (.aload_n 0, 1), some (.getfield 31, 3), none, none, some (.iload_n 1, 1), some (.iastore, 1), some (.aload_n 0, 1), some (.dup, 1), some (.getfield 31, 3), none, none, some (.iconst 1, 1), some (.iadd, 1), some (.putfield 31, 3), none, none, some (.return_, 1)], 6, (2, 0, []))
set_option maxRecDepth 20000 in
def uxJ31 : ux_J := ([some (.aload_n 0, 1), some (.dup, 1), some (.getfield 18, 3), none, none, some (.iconst 1, 1), some (.iadd, 1), some (.putfield 18, 3), none, none, some (.aload_n 0, 1), some (.aload_n 1, 1), some (.aload_n 2, 1), some (.iconst 1, 1), some (.iload_n 3, 1), some (.iconst 1, 1), some (.iadd, 1), some (.invokevirtual 32, 3), none, none, some (.ifCond .ne 5, 3), none, none, some (.iconst (-1), 1), some (.ireturn, 1), some (.aload_n 1, 1), some (.getfield 95, 3), none, none, some (.istore 4, 2), none, some (.aload_n 1, 1), some (.bipush 7, 2), none, some (.iconst 0, 1), some (.invokevirtual 53, 3), none, none, some (.aload_n 0, 1), some (.aload_n 1, 1), some (.aload_n 2, 1), some (.iload_n 3, 1), some (.iconst 1, 1), some (.iadd, 1), some (.invokevirtual 57, 3), none, none, some (.istore 5, 2), none, some (.iload 5, 2), none, some (.iconst (-1), 1), some (.if_icmp .ne 5, 3), none, none, some (.iconst (-1), 1), some (.ireturn, 1), some (.aload_n 1, 1), some (.getfield 95, 3), none, none, some (.istore 6, 2), none, some (.aload_n 1, 1), some (.bipush 8, 2), none, some (.iconst 0, 1), some (.invokevirtual 53, 3), none, none, some (.aload_n 1, 1), some (.getfield 95, 3), none, none, some (.istore 7, 2), none, some (.aload_n 0, 1), some (.aload_n 1, 1), some (.aload_n 2, 1), some (.iload 5, 2), none, some (.iload_n 3, 1), some (.iconst 1, 1), some (.iadd, 1), some (.invokevirtual 32, 3), none, none, some (.ifCond .ne 5, 3), none, none, some (.iconst (-1), 1), some (.ireturn, 1), some (.aload_n 1, 1), some (.iload 4, 2), none, some (.iload 6, 2), none, some (.iload 4, 2), none, some (.isub, 1), some (.invokevirtual 98, 3), none, none, some (.aload_n 1, 1), some (.iload 6, 2), none, some (.aload_n 1, 1), some (.getfield 95, 3), none, none, some (.iload 7, 2), none, some (.isub, 1), some (.invokevirtual 98, 3), none, none, some (.iload 5, 2), none, some (.ireturn, 1)], 1, (8, 1, []))
set_option maxRecDepth 20000 in
def uxJ32 : ux_J := ([some (.iload_n 1, 1), some (.iconst 1, 1), some (.iadd, 1), some (.istore_n 3, 1), some (.iload_n 3, 1), some (.ifCond .lt 18, 3), none, none, some (.iload_n 3, 1), some (.aload_n 0, 1), some (.getfield 31, 3), none, none, some (.if_icmp .ge 10, 3), none, none, some (.aload_n 0, 1), some (.getfield 22, 3), none, none, some (.iload_n 3, 1), some (.iload_n 2, 1), some (.iastore, 1), some (.return_, 1)], 6, (4, 0, []))
set_option maxRecDepth 20000 in
def uxJ33 : ux_J := ([some (.aload_n 0, 1), some (.dup, 1), some (.getfield 18, 3), none, none, some (.iconst 1, 1), some (.iadd, 1), some (.putfield 18, 3), none, none, some (.aload_n 1, 1), some (.iconst 0, 1), some (.iload_n 2, 1), some (.invokevirtual 53, 3), none, none, some (.iload_n 3, 1), some (.ireturn, 1)], 1, (4, 1, []))
set_option maxRecDepth 20000 in
def uxJ34 : ux_J := ([some (.aload_n 2, 1), some (.iload_n 3, 1), some (.iaload, 1), some (.istore 5, 2), none, some (.iload 5, 2), none, some (.iconst (-1), 1), some (.if_icmp .ne 13, 3), none, none, some (.aload_n 0, 1), some (.iconst 4, 1), some (.aload_n 0, 1), some (.getfield 18, 3), none, none, some (.invokevirtual 46, 3), none, none, some (.ireturn, 1), some (.aload_n 0, 1), some (.dup, 1), some (.getfield 18, 3), none, none, some (.iconst 1, 1), some (.iadd, 1), some (.putfield 18, 3), none, none, some (.aload_n 1, 1), some (.getfield 101, 3), none, none, some (.iload_n 3, 1), some (.iload 5, 2), none, some (.iastore, 1), some (.iconst 0, 1), some (.istore 6, 2), none, some (.iload 6, 2), none, some (.iload 5, 2), none, some (.invokestatic 50, 3), none, none, some (.if_icmp .ge 31, 3), none, none, some (.aload_n 0, 1), some (.aload_n 1, 1), some (.aload_n 2, 1), some (.iload 5, 2), none, some (.iload 6, 2), none, some (.invokestatic 86, 3), none, none, some (.iload 4, 2), none, some (.iconst 1, 1), some (.iadd, 1), some (.invokevirtual 32, 3), none, none, some (.ifCond .ne 5, 3), none, none, some (.iconst (-1), 1), some (.ireturn, 1), some (.iinc 6 1, 3), none, none, some (.goto (-35), 3), none, none, some (.aload_n 1, 1), some (.bipush 9, 2), none, some (.iload_n 3, 1), some (.invokevirtual 53, 3), none, none, some (.iload 5, 2), none, some (.invokestatic 26, 3), none, none, some (.ireturn, 1)], 1, (7, 1, []))
set_option maxRecDepth 20000 in
def uxJ35 : ux_J := ([some (.aload_n 0, 1), some (.aload_n 0, 1), some (.getfield 17, 3), none, none, some (.invokevirtual 26, 3), none, none, some (.aload_n 0, 1), some (.aload_n 0, 1), some (.getfield 17, 3), none, none, some (.iconst 1, 1), some (.iadd, 1), some (.iconst 3, 1), some (.invokestatic 30, 3), none, none, some (.putfield 17, 3), none, none, some (.return_, 1)], 4, (1, 0, []))
set_option maxRecDepth 20000 in
def uxJ36 : ux_J := ([some (.aload_n 0, 1), some (.getfield 11, 3), none, none, some (.iload_n 1, 1), some (.aaload, 1), some (.astore_n 2, 1), some (.iload_n 1, 1), some (.istore_n 3, 1), some (.iload_n 3, 1), some (.ifCond .le 23, 3), none, none, some (.aload_n 0, 1), some (.getfield 11, 3), none, none, some (.iload_n 3, 1), some (.aload_n 0, 1), some (.getfield 11, 3), none, none, some (.iload_n 3, 1), some (.iconst 1, 1), some (.isub, 1), some (.aaload, 1), some (.aastore, 1), some (.iinc 3 (-1), 3), none, none, some (.goto (-21), 3), none, none, some (.aload_n 0, 1), some (.getfield 11, 3), none, none, some (.iconst 0, 1), some (.aload_n 2, 1), some (.aastore, 1), some (.return_, 1)], 4, (4, 0, []))
set_option maxRecDepth 20000 in
def uxJ37 : ux_J := ([some (.iconst 0, 1), some (.istore_n 3, 1), some (.iconst 0, 1), some (.istore 4, 2), none, some (.iload 4, 2), none, some (.bipush 8, 2), none, some (.if_icmp .ge 34, 3), none, none, some (.iload_n 3, 1), some (.aload_n 1, 1), some (.iload 4, 2), none, some (.iaload, 1), some (.iconst (-1), 1), some (.if_icmp .ne 7, 3), none, none, some (.iconst 0, 1), some (.goto 13, 3), none, none, some (.aload_n 2, 1), some (.iload 4, 2), none, some (.aaload, 1), some (.invokevirtual 31, 3), none, none, some (.getfield 37, 3), none, none, some (.iadd, 1), some (.istore_n 3, 1), some (.iinc 4 1, 3), none, none, some (.goto (-35), 3), none, none, some (.iload_n 3, 1), some (.sipush 300, 3), none, none, some (.if_icmp .le 5, 3), none, none, some (.iconst 0, 1), some (.ireturn, 1), some (.aload_n 0, 1), some (.iload_n 3, 1), some (.putfield 21, 3), none, none, some (.aload_n 0, 1), some (.aload_n 1, 1), some (.aload_n 2, 1), some (.invokevirtual 40, 3), none, none, some (.iconst 0, 1), some (.istore 4, 2), none, some (.iload 4, 2), none, some (.bipush 8, 2), none, some (.if_icmp .ge 38, 3), none, none, some (.aload_n 0, 1), some (.getfield 15, 3), none, none, some (.iload 4, 2), none, some (.iaload, 1), some (.iconst (-1), 1), some (.if_icmp .eq 21, 3), none, none, some (.aload_n 0, 1), some (.aload_n 2, 1), some (.iload 4, 2), none, some (.aaload, 1), some (.invokevirtual 31, 3), none, none, some (.aload_n 0, 1), some (.getfield 15, 3), none, none, some (.iload 4, 2), none, some (.iaload, 1), some (.invokevirtual 44, 3), none, none, some (.iinc 4 1, 3), none, none, some (.goto (-39), 3), none, none, some (.iconst 1, 1), some (.ireturn, 1)], 2, (5, 2, []))
set_option maxRecDepth 20000 in
def uxJ38 : ux_J := ([some (.aload_n 0, 1), some (.getfield 11, 3), none, none, some (.iconst 0, 1), some (.aaload, 1), some (.areturn, 1)], 4, (1, 3, []))
set_option maxRecDepth 20000 in
def uxJ39 : ux_J := ([some (.iconst 0, 1), some (.istore_n 3, 1), some (.iconst 0, 1), some (.istore 4, 2), none, some (.iload 4, 2), none, some (.bipush 8, 2), none, some (.if_icmp .ge 68, 3), none, none, some (.aload_n 0, 1), some (.getfield 15, 3), none, none, some (.iload 4, 2), none, some (.iconst (-1), 1), some (.iastore, 1), some (.aload_n 0, 1), some (.getfield 18, 3), none, none, some (.iload 4, 2), none, some (.iconst 0, 1), some (.iastore, 1), some (.aload_n 1, 1), some (.iload 4, 2), none, some (.iaload, 1), some (.iconst (-1), 1), some (.if_icmp .eq 38, 3), none, none, some (.aload_n 0, 1), some (.getfield 15, 3), none, none, some (.iload 4, 2), none, some (.iload_n 3, 1), some (.iastore, 1), some (.aload_n 0, 1), some (.getfield 18, 3), none, none, some (.iload 4, 2), none, some (.aload_n 1, 1), some (.iload 4, 2), none, some (.iaload, 1), some (.invokestatic 48, 3), none, none, some (.iastore, 1), some (.iload_n 3, 1), some (.aload_n 2, 1), some (.iload 4, 2), none, some (.aaload, 1), some (.invokevirtual 31, 3), none, none, some (.getfield 37, 3), none, none, some (.iadd, 1), some (.istore_n 3, 1), some (.iinc 4 1, 3), none, none, some (.goto (-69), 3), none, none, some (.return_, 1)], 2, (5, 0, []))
set_option maxRecDepth 20000 in
def uxJ40 : ux_J := ([some (.iconst 0, 1), some (.istore_n 3, 1), some (.bipush 10, 2), none, some (.istore 4, 2), none, some (.iconst 0, 1), some (.istore 5, 2), none, some (.iload 5, 2), none, some (.aload_n 1, 1), some (.getfield 37, 3), none, none, some (.if_icmp .ge 95, 3), none, none, some (.aload_n 0, 1), some (.iload_n 2, 1), some (.iload 5, 2), none, some (.iadd, 1), some (.invokevirtual 25, 3), none, none, some (.ifCond .eq 84, 3), none, none, some (.aload_n 1, 1), some (.getfield 51, 3), none, none, some (.iload 5, 2), none, some (.iaload, 1), some (.istore 6, 2), none, some (.iload_n 3, 1), some (.ifCond .eq 44, 3), none, none, some (.aload_n 0, 1), some (.getfield 9, 3), none, none, some (.iload_n 2, 1), some (.iload 5, 2), none, some (.iadd, 1), some (.iload 4, 2), none, some (.bipush 9, 2), none, some (.if_icmp .ne 21, 3), none, none, some (.iload 6, 2), none, some (.invokestatic 54, 3), none, none, some (.ifCond .eq 13, 3), none, none, some (.aload_n 0, 1), some (.getfield 15, 3), none, none, some (.iload 6, 2), none, some (.iaload, 1), some (.goto 5, 3), none, none, some (.iload 6, 2), none, some (.iastore, 1), some (.iconst 0, 1), some (.istore_n 3, 1), some (.goto 24, 3), none, none, some (.aload_n 0, 1), some (.getfield 9, 3), none, none, some (.iload_n 2, 1), some (.iload 5, 2), none, some (.iadd, 1), some (.iload 6, 2), none, some (.iastore, 1), some (.iload 6, 2), none, some (.istore 4, 2), none, some (.iload 6, 2), none, some (.invokestatic 57, 3), none, none, some (.istore_n 3, 1), some (.iinc 5 1, 3), none, none, some (.goto (-98), 3), none, none, some (.return_, 1)], 2, (7, 0, []))
set_option maxRecDepth 20000 in
def uxJ41 : ux_J := ([some (.iload_n 1, 1), some (.ifCond .lt 15, 3), none, none, some (.iload_n 1, 1), some (.aload_n 0, 1), some (.getfield 21, 3), none, none, some (.if_icmp .ge 7, 3), none, none, some (.iconst 1, 1), some (.goto 4, 3), none, none, some (.iconst 0, 1), some (.ireturn, 1)], 2, (2, 2, []))
set_option maxRecDepth 20000 in
def uxJ42 : ux_J := ([some (.iload_n 0, 1), some (.ifCond .lt 13, 3), none, none, some (.iload_n 0, 1), some (.bipush 8, 2), none, some (.if_icmp .ge 7, 3), none, none, some (.iconst 1, 1), some (.goto 4, 3), none, none, some (.iconst 0, 1), some (.ireturn, 1)], 0, (1, 2, []))
set_option maxRecDepth 20000 in
def uxJ43 : ux_J := ([some (.iload_n 0, 1), some (.iconst 2, 1), some (.if_icmp .lt 9, 3), none, none, some (.iload_n 0, 1), some (.bipush 6, 2), none, some (.if_icmp .le 7, 3), none, none, some (.iconst 1, 1), some (.goto 4, 3), none, none, some (.iconst 0, 1), some (.ireturn, 1)], 2, (1, 2, []))
set_option maxRecDepth 20000 in
def uxJ44 : ux_J := ([some (.aload_n 0, 1), some (.getfield 47, 3), none, none, some (.getfield 100, 3), none, none, some (.ireturn, 1)], 0, (1, 1, []))
set_option maxRecDepth 20000 in
def uxJ45 : ux_J := ([some (.aload_n 0, 1), some (.getfield 54, 3), none, none, some (.getfield 131, 3), none, none, some (.ireturn, 1)], 0, (1, 1, []))
set_option maxRecDepth 20000 in
def uxJ46 : ux_J := ([some (.aload_n 0, 1), some (.getfield 54, 3), none, none, some (.getfield 134, 3), none, none, some (.ireturn, 1)], 0, (1, 1, []))
set_option maxRecDepth 20000 in
def uxJ47 : ux_J := ([some (.aload_n 0, 1), some (.iload_n 1, 1), some (.iload_n 2, 1), some (.iload_n 3, 1), some (.iload 4, 2), none, some (.invokevirtual 7, 3), none, none, some (.goto 7, 3), none, none, some (.astore 5, 2), none, some (.iconst 1, 1), some (.ireturn, 1), some (.iconst 0, 1), some (.ireturn, 1)], 9, (6, 1, [(0, 9, 12, 0)]))
set_option maxRecDepth 20000 in
def uxJ48 : ux_J := ([some (.iload_n 1, 1), some (.invokestatic 62, 3), none, none, some (.iload_n 2, 1), some (.ifCond .lt 8, 3), none, none, some (.iload_n 2, 1), some (.iconst 3, 1), some (.if_icmp .le 11, 3), none, none, some (.new 66, 3), none, none, some (.dup, 1), some (.invokespecial 68, 3), none, none, some (.athrow, 1), some (.aload_n 0, 1), some (.getfield 9, 3), none, none, some (.iload_n 1, 1), some (.iload_n 2, 1), some (.iload_n 3, 1), some (.iload 4, 2), none, some (.invokestatic 69, 3), none, none, some (.iastore, 1), some (.return_, 1)], 0, (5, 0, []))
set_option maxRecDepth 20000 in
def uxJ49 : ux_J := ([some (.iload_n 0, 1), some (.invokestatic 111, 3), none, none, some (.ifCond .ne 11, 3), none, none, some (.new 66, 3), none, none, some (.dup, 1), some (.invokespecial 68, 3), none, none, some (.athrow, 1), some (.return_, 1)], 0, (1, 0, []))
set_option maxRecDepth 20000 in
def uxJ50 : ux_J := ([some (.iload_n 1, 1), some (.iconst 1, 1), some (.iload_n 0, 1), some (.ishl, 1), some (.iconst 1, 1), some (.isub, 1), some (.iand, 1), some (.istore_n 3, 1), some (.iload_n 2, 1), some (.ifCond .eq 7, 3), none, none, some (.iconst 1, 1), some (.goto 4, 3), none, none, some (.iconst 0, 1), some (.istore 4, 2), none, some (.iload_n 0, 1), some (.iload_n 3, 1), some (.iconst 2, 1), some (.ishl, 1), some (.ior, 1), some (.iload 4, 2), none, some (.iconst 5, 1), some (.ishl, 1), some (.ior, 1), some (.ireturn, 1)], 8, (5, 1, []))
set_option maxRecDepth 20000 in
def uxJ51 : ux_J := ([some (.aload_n 0, 1), some (.iload_n 1, 1), some (.invokevirtual 15, 3), none, none, some (.goto 6, 3), none, none, some (.astore_n 2, 1), some (.iconst 1, 1), some (.ireturn, 1), some (.iconst 0, 1), some (.ireturn, 1)], 9, (3, 1, [(0, 5, 8, 0)]))
set_option maxRecDepth 20000 in
def uxJ52 : ux_J := ([some (.iload_n 1, 1), some (.invokestatic 62, 3), none, none, some (.aload_n 0, 1), some (.getfield 9, 3), none, none, some (.iload_n 1, 1), some (.iconst (-1), 1), some (.iastore, 1), some (.aload_n 0, 1), some (.getfield 15, 3), none, none, some (.iload_n 1, 1), some (.aaload, 1), some (.iconst 0, 1), some (.putfield 73, 3), none, none, some (.return_, 1)], 0, (2, 0, []))
set_option maxRecDepth 20000 in
def uxJ53 : ux_J := ([some (.aload_n 3, 1), some (.iconst 0, 1), some (.aload_n 0, 1), some (.iload_n 1, 1), some (.iload_n 2, 1), some (.invokevirtual 19, 3), none, none, some (.ifCond .eq 7, 3), none, none, some (.lconst 1, 1), some (.goto 4, 3), none, none, some (.lconst 0, 1), some (.lastore, 1), some (.goto 11, 3), none, none, some (.astore 4, 2), none, some (.iconst 1, 1), some (.ireturn, 1), some (.astore 4, 2), none, some (.iconst 2, 1), some (.ireturn, 1), some (.iconst 0, 1), some (.ireturn, 1)], 9, (5, 1, [(0, 17, 20, 0), (0, 17, 24, 1)]))
set_option maxRecDepth 20000 in
def uxJ54 : ux_J := ([some (.iload_n 1, 1), some (.invokestatic 62, 3), none, none, some (.aload_n 0, 1), some (.getfield 9, 3), none, none, some (.iload_n 1, 1), some (.iaload, 1), some (.iconst (-1), 1), some (.if_icmp .ne 11, 3), none, none, some (.new 77, 3), none, none, some (.dup, 1), some (.invokespecial 79, 3), none, none, some (.athrow, 1), some (.aload_n 0, 1), some (.getfield 15, 3), none, none, some (.iload_n 1, 1), some (.aaload, 1), some (.iload_n 2, 1), some (.invokevirtual 80, 3), none, none, some (.ireturn, 1)], 0, (3, 2, []))
set_option maxRecDepth 20000 in
def uxJ55 : ux_J := ([some (.aload_n 0, 1), some (.getfield 15, 3), none, none, some (.bipush 30, 2), none, some (.if_icmp .lt 5, 3), none, none, some (.iconst 0, 1), some (.ireturn, 1), some (.aload_n 0, 1), some (.getfield 9, 3), none, none, some (.aload_n 0, 1), some (.getfield 15, 3), none, none, some (.iload_n 1, 1), some (.iastore, 1), some (.aload_n 0, 1), some (.dup, 1), some (.getfield 15, 3), none, none, some (.iconst 1, 1), some (.iadd, 1), some (.putfield 15, 3), none, none, some (.iconst 1, 1), some (.ireturn, 1)], 5, (2, 2, []))
set_option maxRecDepth 20000 in
def uxJ56 : ux_J := ([some (.aload_n 0, 1), some (.iload_n 1, 1), some (.iload_n 2, 1), some (.iload_n 3, 1), some (.invokevirtual 25, 3), none, none, some (.goto 11, 3), none, none, some (.astore 4, 2), none, some (.iconst 1, 1), some (.ireturn, 1), some (.astore 4, 2), none, some (.iconst 2, 1), some (.ireturn, 1), some (.iconst 0, 1), some (.ireturn, 1)], 9, (5, 1, [(0, 7, 10, 0), (0, 7, 14, 2)]))
set_option maxRecDepth 20000 in
def uxJ57 : ux_J := ([some (.iload_n 1, 1), some (.invokestatic 62, 3), none, none, some (.aload_n 0, 1), some (.getfield 15, 3), none, none, some (.iload_n 1, 1), some (.aaload, 1), some (.iload_n 2, 1), some (.invokevirtual 84, 3), none, none, some (.ifCond .ne 11, 3), none, none, some (.new 87, 3), none, none, some (.dup, 1), some (.invokespecial 89, 3), none, none, some (.athrow, 1), some (.aload_n 0, 1), some (.getfield 15, 3), none, none, some (.iload_n 1, 1), some (.aaload, 1), some (.getfield 90, 3), none, none, some (.iload_n 2, 1), some (.iload_n 3, 1), some (.iastore, 1), some (.return_, 1)], 0, (4, 0, []))
set_option maxRecDepth 20000 in
def uxJ58 : ux_J := ([some (.aload_n 2, 1), some (.iconst 0, 1), some (.aload_n 0, 1), some (.iload_n 1, 1), some (.invokevirtual 31, 3), none, none, some (.i2l, 1), some (.lastore, 1), some (.goto 6, 3), none, none, some (.astore_n 3, 1), some (.iconst 1, 1), some (.ireturn, 1), some (.iconst 0, 1), some (.ireturn, 1)], 9, (4, 1, [(0, 9, 12, 0)]))
set_option maxRecDepth 20000 in
def uxJ59 : ux_J := ([some (.iload_n 1, 1), some (.invokestatic 62, 3), none, none, some (.aload_n 0, 1), some (.getfield 15, 3), none, none, some (.iload_n 1, 1), some (.aaload, 1), some (.getfield 73, 3), none, none, some (.istore_n 2, 1), some (.aload_n 0, 1), some (.getfield 15, 3), none, none, some (.iload_n 1, 1), some (.aaload, 1), some (.iconst 0, 1), some (.putfield 73, 3), none, none, some (.iload_n 2, 1), some (.ireturn, 1)], 0, (3, 1, []))
set_option maxRecDepth 20000 in
def uxJ60 : ux_J := ([some (.aload_n 2, 1), some (.iconst 0, 1), some (.aload_n 0, 1), some (.iload_n 1, 1), some (.invokevirtual 35, 3), none, none, some (.i2l, 1), some (.lastore, 1), some (.goto 6, 3), none, none, some (.astore_n 3, 1), some (.iconst 1, 1), some (.ireturn, 1), some (.iconst 0, 1), some (.ireturn, 1)], 9, (4, 1, [(0, 9, 12, 2)]))
set_option maxRecDepth 20000 in
def uxJ61 : ux_J := ([some (.iload_n 1, 1), some (.ifCond .lt 8, 3), none, none, some (.iload_n 1, 1), some (.iconst 5, 1), some (.if_icmp .lt 11, 3), none, none, some (.new 87, 3), none, none, some (.dup, 1), some (.invokespecial 89, 3), none, none, some (.athrow, 1), some (.aload_n 0, 1), some (.getfield 34, 3), none, none, some (.iload_n 1, 1), some (.iaload, 1), some (.ireturn, 1)], 0, (2, 1, []))
set_option maxRecDepth 20000 in
def uxJ62 : ux_J := ([some (.aload_n 3, 1), some (.iconst 0, 1), some (.aload_n 0, 1), some (.iload_n 1, 1), some (.iload_n 2, 1), some (.invokevirtual 38, 3), none, none, some (.i2l, 1), some (.lastore, 1), some (.goto 7, 3), none, none, some (.astore 4, 2), none, some (.iconst 1, 1), some (.ireturn, 1), some (.iconst 0, 1), some (.ireturn, 1)], 9, (5, 1, [(0, 10, 13, 0)]))
set_option maxRecDepth 20000 in
def uxJ63 : ux_J := ([some (.iload_n 1, 1), some (.invokestatic 62, 3), none, none, some (.iload_n 2, 1), some (.tableswitch 76 0 4 #[35, 42, 49, 56, 66], 35), none, none, none, none, none, none, none, none, none, none, none, none, none, none, none, none, none, none, none, none, none, none, none, none, none, none, none, none, none, none, none, none, none, none, some (.aload_n 0, 1), some (.getfield 25, 3), none, none, some (.iload_n 1, 1), some (.iaload, 1), some (.ireturn, 1), some (.aload_n 0, 1), some (.getfield 28, 3), none, none, some (.iload_n 1, 1), some (.iaload, 1), some (.ireturn, 1), some (.aload_n 0, 1), some (.getfield 31, 3), none, none, some (.iload_n 1, 1), some (.iaload, 1), some (.ireturn, 1), some (.aload_n 0, 1), some (.getfield 21, 3), none, none, some (.iload_n 1, 1), some (.aaload, 1), some (.getfield 101, 3), none, none, some (.ireturn, 1), some (.aload_n 0, 1), some (.getfield 47, 3), none, none, some (.getfield 104, 3), none, none, some (.iload_n 1, 1), some (.iaload, 1), some (.ireturn, 1), some (.new 66, 3), none, none, some (.dup, 1), some (.invokespecial 68, 3), none, none, some (.athrow, 1)], 0, (3, 1, []))
set_option maxRecDepth 20000 in
def uxJ64 : ux_J := ([some (.aload_n 2, 1), some (.iconst 0, 1), some (.aload_n 0, 1), some (.iload_n 1, 1), some (.invokevirtual 42, 3), none, none, some (.i2l, 1), some (.lastore, 1), some (.goto 6, 3), none, none, some (.astore_n 3, 1), some (.iconst 1, 1), some (.ireturn, 1), some (.iconst 0, 1), some (.ireturn, 1)], 9, (4, 1, [(0, 9, 12, 2)]))
set_option maxRecDepth 20000 in
def uxJ65 : ux_J := ([some (.aload_n 0, 1), some (.getfield 47, 3), none, none, some (.iload_n 1, 1), some (.invokevirtual 107, 3), none, none, some (.ifCond .ne 11, 3), none, none, some (.new 87, 3), none, none, some (.dup, 1), some (.invokespecial 89, 3), none, none, some (.athrow, 1), some (.aload_n 0, 1), some (.getfield 47, 3), none, none, some (.getfield 108, 3), none, none, some (.iload_n 1, 1), some (.iaload, 1), some (.ireturn, 1)], 0, (2, 1, []))
set_option maxRecDepth 20000 in
def uxJ66 : ux_J := ([some (.aload 6, 2), none, some (.iconst 0, 1), some (.aload_n 0, 1), some (.iload_n 1, 1), some (.iload_n 2, 1), some (.iload_n 3, 1), some (.iload 4, 2), none, some (.iload 5, 2), none, some (.invokevirtual 45, 3), none, none, some (.i2l, 1), some (.lastore, 1), some (.goto 7, 3), none, none, some (.astore 7, 2), none, some (.iconst 1, 1), some (.ireturn, 1), some (.iconst 0, 1), some (.ireturn, 1)], 9, (8, 1, [(0, 16, 19, 2)]))
set_option maxRecDepth 20000 in
def uxJ67 : ux_J := ([some (.iload_n 1, 1), some (.invokestatic 111, 3), none, none, some (.ifCond .eq 16, 3), none, none, some (.aload_n 0, 1), some (.getfield 47, 3), none, none, some (.getfield 104, 3), none, none, some (.iload_n 1, 1), some (.iaload, 1), some (.iconst (-1), 1), some (.if_icmp .ne 11, 3), none, none, some (.new 87, 3), none, none, some (.dup, 1), some (.invokespecial 89, 3), none, none, some (.athrow, 1), some (.aload_n 0, 1), some (.getfield 54, 3), none, none, some (.aload_n 0, 1), some (.getfield 47, 3), none, none, some (.iload_n 1, 1), some (.iload_n 2, 1), some (.iload_n 3, 1), some (.iload 4, 2), none, some (.invokevirtual 114, 3), none, none, some (.aload_n 0, 1), some (.getfield 54, 3), none, none, some (.aload_n 0, 1), some (.getfield 47, 3), none, none, some (.iconst 0, 1), some (.iload 5, 2), none, some (.sipush 1000, 3), none, none, some (.invokestatic 118, 3), none, none, some (.invokestatic 124, 3), none, none, some (.invokevirtual 127, 3), none, none, some (.ireturn, 1)], 0, (6, 1, []))
set_option maxRecDepth 20000 in
def uxJ68 : ux_J := ([some (.aload_n 1, 1), some (.getfield 37, 3), none, none, some (.iload_n 2, 1), some (.iaload, 1), some (.istore 6, 2), none, some (.aload_n 0, 1), some (.getfield 18, 3), none, none, some (.iconst 0, 1), some (.iload_n 3, 1), some (.iastore, 1), some (.aload_n 0, 1), some (.getfield 18, 3), none, none, some (.iconst 1, 1), some (.iload 4, 2), none, some (.iastore, 1), some (.aload_n 0, 1), some (.getfield 18, 3), none, none, some (.iconst 2, 1), some (.iload 5, 2), none, some (.iastore, 1), some (.aload_n 0, 1), some (.iload 6, 2), none, some (.putfield 28, 3), none, none, some (.aload_n 0, 1), some (.iconst 0, 1), some (.putfield 31, 3), none, none, some (.aload_n 0, 1), some (.aload_n 1, 1), some (.getfield 42, 3), none, none, some (.iload_n 2, 1), some (.iaload, 1), some (.iload 6, 2), none, some (.iconst 0, 1), some (.invokevirtual 45, 3), none, none, some (.pop, 1), some (.return_, 1)], 3, (7, 0, []))
set_option maxRecDepth 20000 in
def uxJ69 : ux_J := ([some (.aload_n 0, 1), some (.getfield 31, 3), none, none, some (.bipush 12, 2), none, some (.if_icmp .lt 5, 3), none, none, some (.iconst 2, 1), some (.ireturn, 1), some (.aload_n 0, 1), some (.getfield 22, 3), none, none, some (.aload_n 0, 1), some (.getfield 31, 3), none, none, some (.aload_n 0, 1), some (.getfield 28, 3), none, none, some (.iload_n 2, 1), some (.isub, 1), some (.iastore, 1), some (.aload_n 0, 1), some (.getfield 25, 3), none, none, some (.aload_n 0, 1), some (.getfield 31, 3), none, none, some (.iload_n 3, 1), some (.iastore, 1), some (.aload_n 0, 1), some (.dup, 1), some (.getfield 31, 3), none, none, some (.iconst 1, 1), some (.iadd, 1), some (.putfield 31, 3), none, none, some (.aload_n 0, 1), some (.iload_n 1, 1), some (.putfield 34, 3), none, none, some (.iconst (-1), 1), some (.ireturn, 1)], 3, (4, 1, []))
set_option maxRecDepth 20000 in
def uxJ70 : ux_J := ([some (.iconst (-1), 1), some (.istore_n 3, 1), some (.aload_n 0, 1), some (.iconst 0, 1), some (.putfield 15, 3), none, none, some (.aload_n 0, 1), some (.getfield 15, 3), none, none, some (.iload_n 2, 1), some (.if_icmp .ge 27, 3), none, none, some (.iload_n 3, 1), some (.iconst (-1), 1), some (.if_icmp .ne 22, 3), none, none, some (.aload_n 0, 1), some (.aload_n 1, 1), some (.invokevirtual 49, 3), none, none, some (.istore_n 3, 1), some (.aload_n 0, 1), some (.dup, 1), some (.getfield 15, 3), none, none, some (.iconst 1, 1), some (.iadd, 1), some (.putfield 15, 3), none, none, some (.goto (-29), 3), none, none, some (.aload_n 0, 1), some (.iload_n 3, 1), some (.ifCond .ne 12, 3), none, none, some (.aload_n 0, 1), some (.getfield 18, 3), none, none, some (.iconst 0, 1), some (.iaload, 1), some (.goto 4, 3), none, none, some (.iconst 0, 1), some (.putfield 9, 3), none, none, some (.iload_n 3, 1), some (.iconst (-1), 1), some (.if_icmp .ne 7, 3), none, none, some (.iconst 1, 1), some (.goto 4, 3), none, none, some (.iload_n 3, 1), some (.ireturn, 1)], 3, (4, 1, []))
set_option maxRecDepth 20000 in
def uxJ71 : ux_J := ([some (.aload_n 1, 1), some (.aload_n 0, 1), some (.getfield 34, 3), none, none, some (.invokevirtual 53, 3), none, none, some (.istore_n 2, 1), some (.aload_n 1, 1), some (.aload_n 0, 1), some (.getfield 34, 3), none, none, some (.iconst 1, 1), some (.iadd, 1), some (.invokevirtual 53, 3), none, none, some (.istore_n 3, 1), some (.aload_n 0, 1), some (.dup, 1), some (.getfield 34, 3), none, none, some (.iload_n 2, 1), some (.invokestatic 57, 3), none, none, some (.ifCond .eq 7, 3), none, none, some (.iconst 2, 1), some (.goto 4, 3), none, none, some (.iconst 1, 1), some (.iadd, 1), some (.putfield 34, 3), none, none, some (.iload_n 2, 1), some (.tableswitch 129 0 10 #[58, 64, 129, 129, 129, 129, 129, 74, 97, 109, 124], 58), none, none, none, none, none, none, none, none, none, none, none, none, none, none, none, none, none, none, none, none, none, none, none, none, none, none, none, none, none, none, none, none, none, none, none, none, none, none, none, none, none, none, none, none, none, none, none, none, none, none, none, none, none, none, none, none, none, some (.aload_n 0, 1), some (.iload_n 3, 1), some (.invokevirtual 61, 3), none, none, some (.ireturn, 1), some (.aload_n 0, 1), some (.aload_n 0, 1), some (.iload_n 3, 1), some (.invokevirtual 64, 3), none, none, some (.invokevirtual 61, 3), none, none, some (.ireturn, 1), some (.aload_n 0, 1), some (.dup, 1), some (.getfield 34, 3), none, none, some (.aload_n 0, 1), some (.invokevirtual 67, 3), none, none, some (.ifCond .ne 7, 3), none, none, some (.iload_n 3, 1), some (.goto 4, 3), none, none, some (.iconst 0, 1), some (.iadd, 1), some (.putfield 34, 3), none, none, some (.iconst (-1), 1), some (.ireturn, 1), some (.aload_n 0, 1), some (.dup, 1), some (.getfield 34, 3), none, none, some (.iload_n 3, 1), some (.iadd, 1), some (.putfield 34, 3), none, none, some (.iconst (-1), 1), some (.ireturn, 1), some (.aload_n 0, 1), some (.iload_n 3, 1), some (.aload_n 1, 1), some (.iload_n 3, 1), some (.invokevirtual 71, 3), none, none, some (.aload_n 0, 1), some (.getfield 34, 3), none, none, some (.invokevirtual 45, 3), none, none, some (.ireturn, 1), some (.aload_n 0, 1), some (.invokevirtual 74, 3), none, none, some (.ireturn, 1), some (.aload_n 0, 1), some (.iload_n 2, 1), some (.invokevirtual 77, 3), none, none, some (.ireturn, 1)], 3, (4, 1, []))
set_option maxRecDepth 20000 in
def uxJ72 : ux_J := ([some (.aload_n 0, 1), some (.iload_n 1, 1), some (.invokevirtual 25, 3), none, none, some (.ifCond .eq 12, 3), none, none, some (.aload_n 0, 1), some (.getfield 9, 3), none, none, some (.iload_n 1, 1), some (.iaload, 1), some (.goto 4, 3), none, none, some (.iconst 0, 1), some (.ireturn, 1)], 2, (2, 1, []))
set_option maxRecDepth 20000 in
def uxJ73 : ux_J := ([some (.aload_n 0, 1), some (.getfield 28, 3), none, none, some (.bipush 40, 2), none, some (.if_icmp .lt 5, 3), none, none, some (.iconst 3, 1), some (.ireturn, 1), some (.aload_n 0, 1), some (.getfield 18, 3), none, none, some (.aload_n 0, 1), some (.getfield 28, 3), none, none, some (.iload_n 1, 1), some (.iastore, 1), some (.aload_n 0, 1), some (.dup, 1), some (.getfield 28, 3), none, none, some (.iconst 1, 1), some (.iadd, 1), some (.putfield 28, 3), none, none, some (.iconst (-1), 1), some (.ireturn, 1)], 3, (2, 1, []))
set_option maxRecDepth 20000 in
def uxJ74 : ux_J := ([some (.aload_n 0, 1), some (.getfield 31, 3), none, none, some (.ifCond .le 19, 3), none, none, some (.aload_n 0, 1), some (.getfield 22, 3), none, none, some (.aload_n 0, 1), some (.getfield 31, 3), none, none, some (.iconst 1, 1), some (.isub, 1), some (.iaload, 1), some (.iload_n 1, 1), some (.iadd, 1), some (.goto 4, 3), none, none, some (.iconst 0, 1), some (.istore_n 2, 1), some (.iload_n 2, 1), some (.ifCond .lt 20, 3), none, none, some (.iload_n 2, 1), some (.aload_n 0, 1), some (.getfield 28, 3), none, none, some (.if_icmp .ge 12, 3), none, none, some (.aload_n 0, 1), some (.getfield 18, 3), none, none, some (.iload_n 2, 1), some (.iaload, 1), some (.goto 4, 3), none, none, some (.iconst 0, 1), some (.ireturn, 1)], 3, (3, 1, []))
set_option maxRecDepth 20000 in
def uxJ75 : ux_J := ([some (.aload_n 0, 1), some (.getfield 28, 3), none, none, some (.ifCond .gt 5, 3), none, none, some (.iconst 0, 1), some (.ireturn, 1), some (.aload_n 0, 1), some (.dup, 1), some (.getfield 28, 3), none, none, some (.iconst 1, 1), some (.isub, 1), some (.putfield 28, 3), none, none, some (.aload_n 0, 1), some (.getfield 18, 3), none, none, some (.aload_n 0, 1), some (.getfield 28, 3), none, none, some (.iaload, 1), some (.ireturn, 1)], 3, (1, 1, []))
set_option maxRecDepth 20000 in
def uxJ76 : ux_J := ([some (.iconst 0, 1), some (.istore_n 2, 1), some (.iload_n 2, 1), some (.bipush 8, 2), none, some (.if_icmp .ge 26, 3), none, none, some (.aload_n 0, 1), some (.getfield 15, 3), none, none, some (.iload_n 2, 1), some (.iaload, 1), some (.iload_n 1, 1), some (.if_icmp .ne 10, 3), none, none, some (.aload_n 0, 1), some (.getfield 18, 3), none, none, some (.iload_n 2, 1), some (.iaload, 1), some (.ireturn, 1), some (.iinc 2 1, 3), none, none, some (.goto (-26), 3), none, none, some (.iconst 0, 1), some (.ireturn, 1)], 2, (3, 1, []))
set_option maxRecDepth 20000 in
def uxJ77 : ux_J := ([some (.aload_n 0, 1), some (.invokevirtual 67, 3), none, none, some (.istore_n 1, 1), some (.aload_n 0, 1), some (.getfield 31, 3), none, none, some (.ifCond .gt 5, 3), none, none, some (.iconst 0, 1), some (.ireturn, 1), some (.aload_n 0, 1), some (.dup, 1), some (.getfield 31, 3), none, none, some (.iconst 1, 1), some (.isub, 1), some (.putfield 31, 3), none, none, some (.aload_n 0, 1), some (.iconst 0, 1), some (.aload_n 0, 1), some (.getfield 22, 3), none, none, some (.aload_n 0, 1), some (.getfield 31, 3), none, none, some (.iaload, 1), some (.invokestatic 80, 3), none, none, some (.putfield 28, 3), none, none, some (.aload_n 0, 1), some (.aload_n 0, 1), some (.getfield 25, 3), none, none, some (.aload_n 0, 1), some (.getfield 31, 3), none, none, some (.iaload, 1), some (.putfield 34, 3), none, none, some (.aload_n 0, 1), some (.iload_n 1, 1), some (.invokevirtual 61, 3), none, none, some (.pop, 1), some (.aload_n 0, 1), some (.getfield 31, 3), none, none, some (.ifCond .ne 7, 3), none, none, some (.iconst 0, 1), some (.goto 4, 3), none, none, some (.iconst (-1), 1), some (.ireturn, 1)], 3, (2, 1, []))
set_option maxRecDepth 20000 in
def uxJ78 : ux_J := ([some (.aload_n 0, 1), some (.invokevirtual 67, 3), none, none, some (.istore_n 2, 1), some (.aload_n 0, 1), some (.invokevirtual 67, 3), none, none, some (.istore_n 3, 1), some (.iload_n 1, 1), some (.tableswitch 68 2 5 #[29, 37, 45, 53], 29), none, none, none, none, none, none, none, none, none, none, none, none, none, none, none, none, none, none, none, none, none, none, none, none, none, none, none, none, some (.aload_n 0, 1), some (.iload_n 3, 1), some (.iload_n 2, 1), some (.iadd, 1), some (.invokevirtual 61, 3), none, none, some (.ireturn, 1), some (.aload_n 0, 1), some (.iload_n 3, 1), some (.iload_n 2, 1), some (.isub, 1), some (.invokevirtual 61, 3), none, none, some (.ireturn, 1), some (.aload_n 0, 1), some (.iload_n 3, 1), some (.iload_n 2, 1), some (.imul, 1), some (.invokevirtual 61, 3), none, none, some (.ireturn, 1), some (.aload_n 0, 1), some (.iload_n 3, 1), some (.iload_n 2, 1), some (.if_icmp .ge 7, 3), none, none, some (.iconst 1, 1), some (.goto 4, 3), none, none, some (.iconst 0, 1), some (.invokevirtual 61, 3), none, none, some (.ireturn, 1), some (.aload_n 0, 1), some (.iload_n 3, 1), some (.iload_n 2, 1), some (.if_icmp .ne 7, 3), none, none, some (.iconst 1, 1), some (.goto 4, 3), none, none, some (.iconst 0, 1), some (.invokevirtual 61, 3), none, none, some (.ireturn, 1)], 3, (4, 1, []))
set_option maxRecDepth 20000 in
def uxJ79 : ux_J := ([some (.aload_n 0, 1), some (.invokespecial 1, 3), none, none, some (.aload_n 0, 1), some (.bipush 8, 2), none, some (.newarray .boolean, 2), none, some (.putfield 7, 3), none, none, some (.aload_n 0, 1), some (.bipush 8, 2), none, some (.newarray .int, 2), none, some (.putfield 13, 3), none, none, some (.aload_n 0, 1), some (.bipush 8, 2), none, some (.newarray .int, 2), none, some (.putfield 17, 3), none, none, some (.aload_n 0, 1), some (.sipush 240, 3), none, none, some (.newarray .int, 2), none, some (.putfield 20, 3), none, none, some (.aload_n 0, 1), some (.bipush 24, 2), none, some (.newarray .int, 2), none, some (.putfield 23, 3), none, none, some (.aload_n 0, 1), some (.bipush 24, 2), none, some (.newarray .int, 2), none, some (.putfield 26, 3), none, none, some (.aload_n 0, 1), some (.sipush 720, 3), none, none, some (.newarray .int, 2), none, some (.putfield 29, 3), none, none, some (.aload_n 0, 1), some (.sipush 216, 3), none, none, some (.newarray .int, 2), none, some (.putfield 32, 3), none, none, some (.aload_n 0, 1), some (.bipush 24, 2), none, some (.newarray .int, 2), none, some (.putfield 35, 3), none, none, some (.aload_n 0, 1), some (.sipush 1920, 3), none, none, some (.newarray .int, 2), none, some (.putfield 38, 3), none, none, some (.aload_n 0, 1), some (.bipush 8, 2), none, some (.newarray .int, 2), none, some (.putfield 41, 3), none, none, some (.aload_n 0, 1), some (.bipush 8, 2), none, some (.newarray .int, 2), none, some (.putfield 44, 3), none, none, some (.aload_n 0, 1), some (.bipush 8, 2), none, some (.newarray .int, 2), none, some (.putfield 47, 3), none, none, some (.aload_n 0, 1), some (.bipush 8, 2), none, some (.newarray .int, 2), none, some (.putfield 50, 3), none, none, some (.aload_n 0, 1), some (.iconst 5, 1), some (.newarray .int, 2), none, some (.putfield 53, 3), none, none, some (.aload_n 0, 1), some (.sipush 300, 3), none, none, some (.newarray .int, 2), none, some (.putfield 56, 3), none, none, some (.aload_n 0, 1), some (.bipush 8, 2), none, some (.newarray .int, 2), none, some (.putfield 59, 3), none, none, some (.aload_n 0, 1), some (.bipush 8, 2), none, some (.newarray .int, 2), none, some (.putfield 62, 3), none, none, some (.aload_n 0, 1), some (.bipush 32, 2), none, some (.newarray .int, 2), none, some (.putfield 65, 3), none, none, some (.aload_n 0, 1), some (.bipush 32, 2), none, some (.newarray .int, 2), none, some (.putfield 68, 3), none, none, some (.aload_n 0, 1), some (.bipush 32, 2), none, some (.newarray .int, 2), none, some (.putfield 71, 3), none, none, some (.aload_n 0, 1), some (.bipush 32, 2), none, some (.newarray .int, 2), none, some (.putfield 74, 3), none, none, some (.aload_n 0, 1), some (.bipush 32, 2), none, some (.newarray .int, 2), none, some (.putfield 77, 3), none, none, some (.aload_n 0, 1), some (.bipush 80, 2), none, some (.newarray .int, 2), none, some (.putfield 80, 3), none, none, some (.aload_n 0, 1), some (.bipush 41, 2), none, some (.newarray .int, 2), none, some (.putfield 83, 3), none, none, some (.aload_n 0, 1), some (.bipush 12, 2), none, some (.newarray .int, 2), none, some (.putfield 86, 3), none, none, some (.aload_n 0, 1), some (.bipush 12, 2), none, some (.newarray .int, 2), none, some (.putfield 89, 3), none, none, some (.iconst 0, 1), some (.istore_n 1, 1), some (.iload_n 1, 1), some (.bipush 8, 2), none, some (.if_icmp .ge 23, 3), none, none, some (.aload_n 0, 1), some (.getfield 44, 3), none, none, some (.iload_n 1, 1), some (.iconst (-1), 1), some (.iastore, 1), some (.aload_n 0, 1), some (.getfield 59, 3), none, none, some (.iload_n 1, 1), some (.iconst (-1), 1), some (.iastore, 1), some (.iinc 1 1, 3), none, none, some (.goto (-23), 3), none, none, some (.return_, 1)], 7, (2, 4, []))
set_option maxRecDepth 20000 in
def uxJ80 : ux_J := ([some (.aload_n 0, 1), some (.getfield 92, 3), none, none, some (.ireturn, 1)], 7, (1, 1, []))
set_option maxRecDepth 20000 in
def uxJ81 : ux_J := ([some (.aload_n 0, 1), some (.iload_n 1, 1), some (.bipush 8, 2), none, some (.invokestatic 96, 3), none, none, some (.ifCond .ne 11, 3), none, none, some (.iload_n 2, 1), some (.iconst 4, 1), some (.invokestatic 96, 3), none, none, some (.ifCond .eq 7, 3), none, none, some (.iconst 1, 1), some (.goto 4, 3), none, none, some (.iconst 0, 1), some (.iconst 1, 1), some (.invokevirtual 100, 3), none, none, some (.ifCond .eq 4, 3), none, none, some (.return_, 1), some (.aload_n 0, 1), some (.getfield 7, 3), none, none, some (.iload_n 1, 1), some (.iconst 1, 1), some (.bastore, 1), some (.aload_n 0, 1), some (.getfield 13, 3), none, none, some (.iload_n 1, 1), some (.iload_n 2, 1), some (.iload_n 3, 1), some (.iconst 1, 1), some (.iload_n 2, 1), some (.ishl, 1), some (.iconst 1, 1), some (.isub, 1), some (.iand, 1), some (.iconst 2, 1), some (.ishl, 1), some (.ior, 1), some (.iload 4, 2), none, some (.ifCond .eq 8, 3), none, none, some (.bipush 32, 2), none, some (.goto 4, 3), none, none, some (.iconst 0, 1), some (.ior, 1), some (.iastore, 1), some (.return_, 1)], 7, (5, 0, []))
set_option maxRecDepth 20000 in
def uxJ82 : ux_J := ([some (.iload_n 0, 1), some (.ifCond .lt 8, 3), none, none, some (.iload_n 0, 1), some (.iload_n 1, 1), some (.if_icmp .lt 7, 3), none, none, some (.iconst 1, 1), some (.goto 4, 3), none, none, some (.iconst 0, 1), some (.ireturn, 1)], 7, (2, 2, []))
set_option maxRecDepth 20000 in
def uxJ83 : ux_J := ([some (.aload_n 0, 1), some (.iload_n 1, 1), some (.ifCond .eq 7, 3), none, none, some (.iload_n 2, 1), some (.goto 4, 3), none, none, some (.iconst 0, 1), some (.putfield 92, 3), none, none, some (.iload_n 1, 1), some (.ireturn, 1)], 7, (3, 2, []))
set_option maxRecDepth 20000 in
def uxJ84 : ux_J := ([some (.aload_n 0, 1), some (.iload_n 1, 1), some (.bipush 8, 2), none, some (.invokestatic 96, 3), none, none, some (.iconst 1, 1), some (.invokevirtual 100, 3), none, none, some (.ifCond .eq 4, 3), none, none, some (.return_, 1), some (.aload_n 0, 1), some (.getfield 7, 3), none, none, some (.iload_n 1, 1), some (.iconst 0, 1), some (.bastore, 1), some (.aload_n 0, 1), some (.getfield 17, 3), none, none, some (.iload_n 1, 1), some (.iconst 0, 1), some (.iastore, 1), some (.return_, 1)], 7, (2, 0, []))
set_option maxRecDepth 20000 in
def uxJ85 : ux_J := ([some (.aload_n 0, 1), some (.iload_n 1, 1), some (.bipush 8, 2), none, some (.invokestatic 96, 3), none, none, some (.iconst 1, 1), some (.invokevirtual 100, 3), none, none, some (.ifCond .ne 36, 3), none, none, some (.aload_n 0, 1), some (.aload_n 0, 1), some (.getfield 7, 3), none, none, some (.iload_n 1, 1), some (.baload, 1), some (.ifCond .ne 7, 3), none, none, some (.iconst 1, 1), some (.goto 4, 3), none, none, some (.iconst 0, 1), some (.iconst 2, 1), some (.invokevirtual 100, 3), none, none, some (.ifCond .ne 14, 3), none, none, some (.aload_n 0, 1), some (.getfield 17, 3), none, none, some (.iload_n 1, 1), some (.iaload, 1), some (.bipush 30, 2), none, some (.if_icmp .ne 5, 3), none, none, some (.iconst 0, 1), some (.ireturn, 1), some (.aload_n 0, 1), some (.getfield 20, 3), none, none, some (.bipush 30, 2), none, some (.iload_n 1, 1), some (.imul, 1), some (.aload_n 0, 1), some (.getfield 17, 3), none, none, some (.iload_n 1, 1), some (.iaload, 1), some (.iadd, 1), some (.iload_n 2, 1), some (.iastore, 1), some (.aload_n 0, 1), some (.getfield 17, 3), none, none, some (.iload_n 1, 1), some (.dup2, 1), some (.iaload, 1), some (.iconst 1, 1), some (.iadd, 1), some (.iastore, 1), some (.iconst 1, 1), some (.ireturn, 1)], 7, (3, 2, []))
set_option maxRecDepth 20000 in
def uxJ86 : ux_J := ([some (.aload_n 0, 1), some (.iload_n 1, 1), some (.bipush 8, 2), none, some (.invokestatic 96, 3), none, none, some (.iconst 1, 1), some (.invokevirtual 100, 3), none, none, some (.ifCond .ne 21, 3), none, none, some (.aload_n 0, 1), some (.iload_n 2, 1), some (.aload_n 0, 1), some (.getfield 17, 3), none, none, some (.iload_n 1, 1), some (.iaload, 1), some (.invokestatic 96, 3), none, none, some (.iconst 2, 1), some (.invokevirtual 100, 3), none, none, some (.ifCond .eq 4, 3), none, none, some (.return_, 1), some (.aload_n 0, 1), some (.getfield 20, 3), none, none, some (.bipush 30, 2), none, some (.iload_n 1, 1), some (.imul, 1), some (.iload_n 2, 1), some (.iadd, 1), some (.iload_n 3, 1), some (.iastore, 1), some (.return_, 1)], 7, (4, 0, []))
set_option maxRecDepth 20000 in
def uxJ87 : ux_J := ([some (.aload_n 0, 1), some (.iload_n 1, 1), some (.bipush 8, 2), none, some (.invokestatic 96, 3), none, none, some (.iconst 1, 1), some (.invokevirtual 100, 3), none, none, some (.ifCond .eq 5, 3), none, none, some (.iconst 0, 1), some (.ireturn, 1), some (.aload_n 0, 1), some (.getfield 17, 3), none, none, some (.iload_n 1, 1), some (.iaload, 1), some (.istore_n 2, 1), some (.aload_n 0, 1), some (.getfield 17, 3), none, none, some (.iload_n 1, 1), some (.iconst 0, 1), some (.iastore, 1), some (.iload_n 2, 1), some (.ireturn, 1)], 7, (3, 1, []))
set_option maxRecDepth 20000 in
def uxJ88 : ux_J := ([some (.aload_n 0, 1), some (.iconst 0, 1), some (.putfield 92, 3), none, none, some (.aload_n 0, 1), some (.getfield 53, 3), none, none, some (.iconst 0, 1), some (.iconst 0, 1), some (.iastore, 1), some (.aload_n 0, 1), some (.getfield 53, 3), none, none, some (.iconst 1, 1), some (.iconst 0, 1), some (.iastore, 1), some (.aload_n 0, 1), some (.getfield 53, 3), none, none, some (.iconst 2, 1), some (.iconst 0, 1), some (.iastore, 1), some (.iconst 0, 1), some (.istore_n 1, 1), some (.iconst 0, 1), some (.istore_n 2, 1), some (.iload_n 2, 1), some (.bipush 8, 2), none, some (.if_icmp .ge 41, 3), none, none, some (.aload_n 0, 1), some (.iload_n 2, 1), some (.invokevirtual 185, 3), none, none, some (.iload_n 1, 1), some (.aload_n 0, 1), some (.getfield 50, 3), none, none, some (.iload_n 2, 1), some (.iaload, 1), some (.ifCond .ge 7, 3), none, none, some (.iconst 0, 1), some (.goto 14, 3), none, none, some (.aload_n 0, 1), some (.getfield 35, 3), none, none, some (.aload_n 0, 1), some (.getfield 50, 3), none, none, some (.iload_n 2, 1), some (.iaload, 1), some (.iaload, 1), some (.iadd, 1), some (.istore_n 1, 1), some (.iinc 2 1, 3), none, none, some (.goto (-41), 3), none, none, some (.aload_n 0, 1), some (.getfield 53, 3), none, none, some (.iconst 3, 1), some (.dup2, 1), some (.iaload, 1), some (.aload_n 0, 1), some (.getfield 53, 3), none, none, some (.iconst 0, 1), some (.iaload, 1), some (.iadd, 1), some (.iastore, 1), some (.aload_n 0, 1), some (.getfield 53, 3), none, none, some (.iconst 4, 1), some (.dup2, 1), some (.iaload, 1), some (.aload_n 0, 1), some (.getfield 53, 3), none, none, some (.iconst 1, 1), some (.iaload, 1), some (.iadd, 1), some (.iastore, 1), some (.aload_n 0, 1), some (.getfield 53, 3), none, none, some (.iconst 2, 1), some (.iaload, 1), some (.ifCond .le 5, 3), none, none, some (.iconst (-1), 1), some (.ireturn, 1), some (.iload_n 1, 1), some (.sipush 300, 3), none, none, some (.if_icmp .le 6, 3), none, none, some (.bipush (-2), 2), none, some (.ireturn, 1), some (.aload_n 0, 1), some (.invokevirtual 188, 3), none, none, some (.aload_n 0, 1), some (.getfield 179, 3), none, none, some (.ireturn, 1)], 7, (3, 1, []))
set_option maxRecDepth 20000 in
def uxJ89 : ux_J := ([some (.aload_n 0, 1), some (.getfield 41, 3), none, none, some (.iload_n 1, 1), some (.iconst 0, 1), some (.iastore, 1), some (.aload_n 0, 1), some (.getfield 44, 3), none, none, some (.iload_n 1, 1), some (.iconst (-1), 1), some (.iastore, 1), some (.aload_n 0, 1), some (.getfield 47, 3), none, none, some (.iload_n 1, 1), some (.iconst 0, 1), some (.iastore, 1), some (.aload_n 0, 1), some (.getfield 50, 3), none, none, some (.iload_n 1, 1), some (.iconst (-1), 1), some (.iastore, 1), some (.aload_n 0, 1), some (.getfield 7, 3), none, none, some (.iload_n 1, 1), some (.baload, 1), some (.ifCond .ne 4, 3), none, none, some (.return_, 1), some (.aload_n 0, 1), some (.iload_n 1, 1), some (.invokevirtual 167, 3), none, none, some (.istore_n 2, 1), some (.aload_n 0, 1), some (.getfield 47, 3), none, none, some (.iload_n 1, 1), some (.iload_n 2, 1), some (.ifCond .lt 7, 3), none, none, some (.iconst 1, 1), some (.goto 4, 3), none, none, some (.iconst 2, 1), some (.iastore, 1), some (.aload_n 0, 1), some (.getfield 53, 3), none, none, some (.iload_n 2, 1), some (.ifCond .lt 7, 3), none, none, some (.iconst 0, 1), some (.goto 4, 3), none, none, some (.iconst 1, 1), some (.dup2, 1), some (.iaload, 1), some (.iconst 1, 1), some (.iadd, 1), some (.iastore, 1), some (.iload_n 2, 1), some (.ifCond .ge 52, 3), none, none, some (.aload_n 0, 1), some (.iload_n 1, 1), some (.invokevirtual 170, 3), none, none, some (.aload_n 0, 1), some (.getfield 41, 3), none, none, some (.iload_n 1, 1), some (.aload_n 0, 1), some (.getfield 107, 3), none, none, some (.iastore, 1), some (.aload_n 0, 1), some (.getfield 44, 3), none, none, some (.iload_n 1, 1), some (.aload_n 0, 1), some (.getfield 110, 3), none, none, some (.iastore, 1), some (.aload_n 0, 1), some (.getfield 107, 3), none, none, some (.ifCond .le 14, 3), none, none, some (.aload_n 0, 1), some (.getfield 53, 3), none, none, some (.iconst 2, 1), some (.dup2, 1), some (.iaload, 1), some (.iconst 1, 1), some (.iadd, 1), some (.iastore, 1), some (.return_, 1), some (.aload_n 0, 1), some (.iload_n 1, 1), some (.invokevirtual 173, 3), none, none, some (.istore_n 2, 1), some (.aload_n 0, 1), some (.dup, 1), some (.getfield 176, 3), none, none, some (.iconst 1, 1), some (.iadd, 1), some (.putfield 176, 3), none, none, some (.aload_n 0, 1), some (.getfield 23, 3), none, none, some (.iload_n 2, 1), some (.aload_n 0, 1), some (.getfield 176, 3), none, none, some (.iastore, 1), some (.aload_n 0, 1), some (.getfield 50, 3), none, none, some (.iload_n 1, 1), some (.iload_n 2, 1), some (.iastore, 1), some (.return_, 1)], 7, (3, 0, []))
set_option maxRecDepth 20000 in
def uxJ90 : ux_J := ([some (.iconst 3, 1), some (.iload_n 1, 1), some (.imul, 1), some (.istore_n 2, 1), some (.iload_n 2, 1), some (.iconst 3, 1), some (.iload_n 1, 1), some (.imul, 1), some (.iconst 3, 1), some (.iadd, 1), some (.if_icmp .ge 20, 3), none, none, some (.aload_n 0, 1), some (.iload_n 2, 1), some (.iload_n 1, 1), some (.invokevirtual 158, 3), none, none, some (.ifCond .eq 5, 3), none, none, some (.iload_n 2, 1), some (.ireturn, 1), some (.iinc 2 1, 3), none, none, some (.goto (-23), 3), none, none, some (.iconst (-1), 1), some (.ireturn, 1)], 7, (3, 1, []))
set_option maxRecDepth 20000 in
def uxJ91 : ux_J := ([some (.aload_n 0, 1), some (.getfield 23, 3), none, none, some (.iload_n 1, 1), some (.iaload, 1), some (.ifCond .le 22, 3), none, none, some (.aload_n 0, 1), some (.getfield 26, 3), none, none, some (.iload_n 1, 1), some (.iaload, 1), some (.aload_n 0, 1), some (.getfield 17, 3), none, none, some (.iload_n 2, 1), some (.iaload, 1), some (.if_icmp .ne 7, 3), none, none, some (.iconst 1, 1), some (.goto 4, 3), none, none, some (.iconst 0, 1), some (.istore_n 3, 1), some (.iconst 0, 1), some (.istore 4, 2), none, some (.iload 4, 2), none, some (.aload_n 0, 1), some (.getfield 17, 3), none, none, some (.iload_n 2, 1), some (.iaload, 1), some (.if_icmp .ge 46, 3), none, none, some (.iload_n 3, 1), some (.ifCond .eq 42, 3), none, none, some (.aload_n 0, 1), some (.getfield 29, 3), none, none, some (.bipush 30, 2), none, some (.iload_n 1, 1), some (.imul, 1), some (.iload 4, 2), none, some (.iadd, 1), some (.iaload, 1), some (.aload_n 0, 1), some (.getfield 20, 3), none, none, some (.bipush 30, 2), none, some (.iload_n 2, 1), some (.imul, 1), some (.iload 4, 2), none, some (.iadd, 1), some (.iaload, 1), some (.if_icmp .ne 7, 3), none, none, some (.iconst 1, 1), some (.goto 4, 3), none, none, some (.iconst 0, 1), some (.istore_n 3, 1), some (.iinc 4 1, 3), none, none, some (.goto (-51), 3), none, none, some (.iconst 0, 1), some (.istore 4, 2), none, some (.iload 4, 2), none, some (.bipush 8, 2), none, some (.if_icmp .ge 60, 3), none, none, some (.iload_n 3, 1), some (.ifCond .eq 56, 3), none, none, some (.aload_n 0, 1), some (.getfield 32, 3), none, none, some (.bipush 9, 2), none, some (.iload_n 1, 1), some (.imul, 1), some (.iload 4, 2), none, some (.iadd, 1), some (.iaload, 1), some (.istore 5, 2), none, some (.iload 5, 2), none, some (.ifCond .lt 25, 3), none, none, some (.aload_n 0, 1), some (.getfield 7, 3), none, none, some (.iload 4, 2), none, some (.baload, 1), some (.ifCond .eq 19, 3), none, none, some (.iload 5, 2), none, some (.aload_n 0, 1), some (.getfield 13, 3), none, none, some (.iload 4, 2), none, some (.iaload, 1), some (.if_icmp .ne 7, 3), none, none, some (.iconst 1, 1), some (.goto 4, 3), none, none, some (.iconst 0, 1), some (.istore_n 3, 1), some (.iinc 4 1, 3), none, none, some (.goto (-61), 3), none, none, some (.iload_n 3, 1), some (.ireturn, 1)], 7, (6, 2, []))
set_option maxRecDepth 20000 in
def uxJ92 : ux_J := ([some (.aload_n 0, 1), some (.iconst 0, 1), some (.putfield 107, 3), none, none, some (.aload_n 0, 1), some (.iconst (-1), 1), some (.putfield 110, 3), none, none, some (.aload_n 0, 1), some (.iconst 0, 1), some (.putfield 113, 3), none, none, some (.aload_n 0, 1), some (.iconst 0, 1), some (.putfield 104, 3), none, none, some (.iconst 0, 1), some (.istore_n 2, 1), some (.iconst 1, 1), some (.istore_n 3, 1), some (.iload_n 3, 1), some (.ifCond .eq 147, 3), none, none, some (.aload_n 0, 1), some (.getfield 107, 3), none, none, some (.ifCond .ne 140, 3), none, none, some (.iload_n 2, 1), some (.aload_n 0, 1), some (.getfield 17, 3), none, none, some (.iload_n 1, 1), some (.iaload, 1), some (.if_icmp .ne 10, 3), none, none, some (.aload_n 0, 1), some (.iconst 2, 1), some (.iload_n 2, 1), some (.invokevirtual 124, 3), none, none, some (.return_, 1), some (.iload_n 2, 1), some (.istore 4, 2), none, some (.aload_n 0, 1), some (.iload_n 1, 1), some (.aload_n 0, 1), some (.getfield 20, 3), none, none, some (.bipush 30, 2), none, some (.iload_n 1, 1), some (.imul, 1), some (.iload_n 2, 1), some (.iadd, 1), some (.iaload, 1), some (.iload_n 2, 1), some (.invokevirtual 148, 3), none, none, some (.istore 5, 2), none, some (.iinc 2 1, 3), none, none, some (.iload 5, 2), none, some (.iconst 2, 1), some (.if_icmp .eq 89, 3), none, none, some (.iload_n 3, 1), some (.ifCond .eq 85, 3), none, none, some (.aload_n 0, 1), some (.getfield 107, 3), none, none, some (.ifCond .ne 78, 3), none, none, some (.aload_n 0, 1), some (.iload_n 1, 1), some (.invokevirtual 152, 3), none, none, some (.istore 6, 2), none, some (.iload 6, 2), none, some (.iconst 2, 1), some (.if_icmp .eq 17, 3), none, none, some (.iload 6, 2), none, some (.iload 5, 2), none, some (.if_icmp .eq 10, 3), none, none, some (.aload_n 0, 1), some (.iconst 5, 1), some (.iload 4, 2), none, some (.invokevirtual 124, 3), none, none, some (.aload_n 0, 1), some (.getfield 113, 3), none, none, some (.ifCond .le 7, 3), none, none, some (.iconst 1, 1), some (.goto 4, 3), none, none, some (.iconst 0, 1), some (.istore_n 3, 1), some (.iload_n 3, 1), some (.ifCond .eq 31, 3), none, none, some (.aload_n 0, 1), some (.getfield 107, 3), none, none, some (.ifCond .ne 24, 3), none, none, some (.aload_n 0, 1), some (.getfield 71, 3), none, none, some (.aload_n 0, 1), some (.getfield 113, 3), none, none, some (.iconst 1, 1), some (.isub, 1), some (.iaload, 1), some (.istore 4, 2), none, some (.aload_n 0, 1), some (.iload 5, 2), none, some (.invokevirtual 155, 3), none, none, some (.istore 5, 2), none, some (.goto (-89), 3), none, none, some (.goto (-145), 3), none, none, some (.aload_n 0, 1), some (.getfield 107, 3), none, none, some (.ifCond .ne 20, 3), none, none, some (.iload_n 2, 1), some (.aload_n 0, 1), some (.getfield 17, 3), none, none, some (.iload_n 1, 1), some (.iaload, 1), some (.if_icmp .ge 10, 3), none, none, some (.aload_n 0, 1), some (.bipush 6, 2), none, some (.iload_n 2, 1), some (.invokevirtual 124, 3), none, none, some (.aload_n 0, 1), some (.bipush 10, 2), none, some (.invokevirtual 116, 3), none, none, some (.aload_n 0, 1), some (.aload_n 0, 1), some (.iload_n 1, 1), some (.invokevirtual 120, 3), none, none, some (.invokevirtual 116, 3), none, none, some (.return_, 1)], 7, (7, 0, []))
set_option maxRecDepth 20000 in
def uxJ93 : ux_J := ([some (.aload_n 0, 1), some (.getfield 107, 3), none, none, some (.ifCond .le 4, 3), none, none, some (.return_, 1), some (.aload_n 0, 1), some (.iload_n 1, 1), some (.putfield 107, 3), none, none, some (.aload_n 0, 1), some (.iload_n 2, 1), some (.putfield 110, 3), none, none, some (.return_, 1)], 7, (3, 0, []))
set_option maxRecDepth 20000 in
def uxJ94 : ux_J := ([some (.iload_n 2, 1), some (.bipush 100, 2), none, some (.if_icmp .lt 18, 3), none, none, some (.aload_n 0, 1), some (.iconst 0, 1), some (.invokevirtual 116, 3), none, none, some (.aload_n 0, 1), some (.iload_n 2, 1), some (.bipush 100, 2), none, some (.isub, 1), some (.invokevirtual 116, 3), none, none, some (.iconst 0, 1), some (.ireturn, 1), some (.iload_n 2, 1), some (.bipush 9, 2), none, some (.if_icmp .eq 9, 3), none, none, some (.iload_n 2, 1), some (.bipush 10, 2), none, some (.if_icmp .ne 25, 3), none, none, some (.aload_n 0, 1), some (.iconst 0, 1), some (.invokevirtual 116, 3), none, none, some (.aload_n 0, 1), some (.iload_n 2, 1), some (.bipush 9, 2), none, some (.if_icmp .ne 7, 3), none, none, some (.iconst 1, 1), some (.goto 4, 3), none, none, some (.iconst 0, 1), some (.invokevirtual 116, 3), none, none, some (.iconst 1, 1), some (.ireturn, 1), some (.iload_n 2, 1), some (.ifCond .lt 53, 3), none, none, some (.iload_n 2, 1), some (.iconst 3, 1), some (.if_icmp .ge 48, 3), none, none, some (.iload_n 2, 1), some (.aload_n 0, 1), some (.iload_n 1, 1), some (.invokevirtual 120, 3), none, none, some (.if_icmp .lt 9, 3), none, none, some (.aload_n 0, 1), some (.iconst 3, 1), some (.iload_n 3, 1), some (.invokevirtual 124, 3), none, none, some (.aload_n 0, 1), some (.iconst 1, 1), some (.invokevirtual 116, 3), none, none, some (.aload_n 0, 1), some (.iload_n 2, 1), some (.invokevirtual 116, 3), none, none, some (.iload_n 2, 1), some (.aload_n 0, 1), some (.iload_n 1, 1), some (.invokevirtual 120, 3), none, none, some (.if_icmp .ge 12, 3), none, none, some (.aload_n 0, 1), some (.iload_n 1, 1), some (.iload_n 2, 1), some (.invokevirtual 128, 3), none, none, some (.goto 4, 3), none, none, some (.iconst 0, 1), some (.ireturn, 1), some (.iload_n 2, 1), some (.invokestatic 132, 3), none, none, some (.ifCond .ne 9, 3), none, none, some (.iload_n 2, 1), some (.bipush 8, 2), none, some (.if_icmp .ne 11, 3), none, none, some (.aload_n 0, 1), some (.iload_n 2, 1), some (.iload_n 3, 1), some (.invokevirtual 136, 3), none, none, some (.iconst 2, 1), some (.ireturn, 1), some (.iload_n 2, 1), some (.invokestatic 139, 3), none, none, some (.ifCond .ne 11, 3), none, none, some (.aload_n 0, 1), some (.iconst 1, 1), some (.iload_n 3, 1), some (.invokevirtual 124, 3), none, none, some (.iconst 2, 1), some (.ireturn, 1), some (.iload_n 2, 1), some (.bipush 11, 2), none, some (.isub, 1), some (.istore 4, 2), none, some (.aload_n 0, 1), some (.getfield 7, 3), none, none, some (.iload 4, 2), none, some (.baload, 1), some (.ifCond .ne 9, 3), none, none, some (.aload_n 0, 1), some (.iconst 4, 1), some (.iload_n 3, 1), some (.invokevirtual 124, 3), none, none, some (.aload_n 0, 1), some (.getfield 107, 3), none, none, some (.ifCond .le 5, 3), none, none, some (.iconst 2, 1), some (.ireturn, 1), some (.aload_n 0, 1), some (.iload 4, 2), none, some (.invokevirtual 120, 3), none, none, some (.ifCond .le 11, 3), none, none, some (.aload_n 0, 1), some (.iload_n 2, 1), some (.iload_n 3, 1), some (.invokevirtual 136, 3), none, none, some (.iconst 2, 1), some (.ireturn, 1), some (.aload_n 0, 1), some (.bipush 9, 2), none, some (.invokevirtual 116, 3), none, none, some (.aload_n 0, 1), some (.iload 4, 2), none, some (.invokevirtual 116, 3), none, none, some (.aload_n 0, 1), some (.iload 4, 2), none, some (.invokevirtual 142, 3), none, none, some (.ireturn, 1)], 7, (5, 1, []))
set_option maxRecDepth 20000 in
def uxJ95 : ux_J := ([some (.aload_n 0, 1), some (.getfield 80, 3), none, none, some (.aload_n 0, 1), some (.getfield 104, 3), none, none, some (.iload_n 1, 1), some (.iastore, 1), some (.aload_n 0, 1), some (.dup, 1), some (.getfield 104, 3), none, none, some (.iconst 1, 1), some (.iadd, 1), some (.putfield 104, 3), none, none, some (.return_, 1)], 7, (2, 0, []))
set_option maxRecDepth 20000 in
def uxJ96 : ux_J := ([some (.aload_n 0, 1), some (.getfield 13, 3), none, none, some (.iload_n 1, 1), some (.iaload, 1), some (.iconst 3, 1), some (.iand, 1), some (.ireturn, 1)], 7, (2, 1, []))
set_option maxRecDepth 20000 in
def uxJ97 : ux_J := ([some (.aload_n 0, 1), some (.getfield 13, 3), none, none, some (.iload_n 1, 1), some (.iaload, 1), some (.iconst 2, 1), some (.iload_n 2, 1), some (.iadd, 1), some (.ishr, 1), some (.iconst 1, 1), some (.iand, 1), some (.ireturn, 1)], 7, (3, 1, []))
set_option maxRecDepth 20000 in
def uxJ98 : ux_J := ([some (.iload_n 0, 1), some (.iconst 3, 1), some (.if_icmp .lt 13, 3), none, none, some (.iload_n 0, 1), some (.bipush 7, 2), none, some (.if_icmp .gt 7, 3), none, none, some (.iconst 1, 1), some (.goto 4, 3), none, none, some (.iconst 0, 1), some (.ireturn, 1)], 7, (1, 2, []))
set_option maxRecDepth 20000 in
def uxJ99 : ux_J := ([some (.aload_n 0, 1), some (.getfield 65, 3), none, none, some (.aload_n 0, 1), some (.getfield 113, 3), none, none, some (.iload_n 1, 1), some (.iastore, 1), some (.aload_n 0, 1), some (.getfield 68, 3), none, none, some (.aload_n 0, 1), some (.getfield 113, 3), none, none, some (.iconst 0, 1), some (.iastore, 1), some (.aload_n 0, 1), some (.getfield 71, 3), none, none, some (.aload_n 0, 1), some (.getfield 113, 3), none, none, some (.iload_n 2, 1), some (.iastore, 1), some (.aload_n 0, 1), some (.dup, 1), some (.getfield 113, 3), none, none, some (.iconst 1, 1), some (.iadd, 1), some (.putfield 113, 3), none, none, some (.return_, 1)], 7, (3, 0, []))
set_option maxRecDepth 20000 in
def uxJ100 : ux_J := ([some (.iload_n 0, 1), some (.bipush 11, 2), none, some (.if_icmp .lt 13, 3), none, none, some (.iload_n 0, 1), some (.bipush 19, 2), none, some (.if_icmp .ge 7, 3), none, none, some (.iconst 1, 1), some (.goto 4, 3), none, none, some (.iconst 0, 1), some (.ireturn, 1)], 7, (1, 2, []))
set_option maxRecDepth 20000 in
def uxJ101 : ux_J := ([some (.aload_n 0, 1), some (.getfield 13, 3), none, none, some (.iload_n 1, 1), some (.iaload, 1), some (.iconst 5, 1), some (.ishr, 1), some (.ireturn, 1)], 7, (2, 1, []))
set_option maxRecDepth 20000 in
def uxJ102 : ux_J := ([some (.aload_n 0, 1), some (.getfield 113, 3), none, none, some (.ifCond .ne 9, 3), none, none, some (.aload_n 0, 1), some (.iload_n 1, 1), some (.invokevirtual 142, 3), none, none, some (.ireturn, 1), some (.aload_n 0, 1), some (.getfield 65, 3), none, none, some (.aload_n 0, 1), some (.getfield 113, 3), none, none, some (.iconst 1, 1), some (.isub, 1), some (.iaload, 1), some (.istore_n 2, 1), some (.aload_n 0, 1), some (.getfield 68, 3), none, none, some (.aload_n 0, 1), some (.getfield 113, 3), none, none, some (.iconst 1, 1), some (.isub, 1), some (.iaload, 1), some (.istore_n 3, 1), some (.iload_n 2, 1), some (.invokestatic 132, 3), none, none, some (.ifCond .eq 5, 3), none, none, some (.iconst 0, 1), some (.ireturn, 1), some (.iload_n 2, 1), some (.bipush 8, 2), none, some (.if_icmp .ne 32, 3), none, none, some (.iload_n 3, 1), some (.ifCond .ne 7, 3), none, none, some (.iconst 1, 1), some (.goto 23, 3), none, none, some (.iload_n 3, 1), some (.iconst 1, 1), some (.if_icmp .ne 7, 3), none, none, some (.iconst 2, 1), some (.goto 14, 3), none, none, some (.aload_n 0, 1), some (.getfield 74, 3), none, none, some (.aload_n 0, 1), some (.getfield 113, 3), none, none, some (.iconst 1, 1), some (.isub, 1), some (.iaload, 1), some (.ireturn, 1), some (.aload_n 0, 1), some (.iload_n 2, 1), some (.bipush 11, 2), none, some (.isub, 1), some (.iload_n 3, 1), some (.invokevirtual 128, 3), none, none, some (.ireturn, 1)], 7, (4, 1, []))
set_option maxRecDepth 20000 in
def uxJ103 : ux_J := ([some (.aload_n 0, 1), some (.getfield 113, 3), none, none, some (.iconst 1, 1), some (.isub, 1), some (.istore_n 2, 1), some (.aload_n 0, 1), some (.getfield 65, 3), none, none, some (.iload_n 2, 1), some (.iaload, 1), some (.istore_n 3, 1), some (.aload_n 0, 1), some (.getfield 68, 3), none, none, some (.iload_n 2, 1), some (.dup2, 1), some (.iaload, 1), some (.iconst 1, 1), some (.iadd, 1), some (.iastore, 1), some (.aload_n 0, 1), some (.getfield 68, 3), none, none, some (.iload_n 2, 1), some (.iaload, 1), some (.istore 4, 2), none, some (.iload_n 3, 1), some (.bipush 8, 2), none, some (.if_icmp .ne 30, 3), none, none, some (.iload 4, 2), none, some (.iconst 1, 1), some (.if_icmp .ne 24, 3), none, none, some (.aload_n 0, 1), some (.bipush 7, 2), none, some (.invokevirtual 116, 3), none, none, some (.aload_n 0, 1), some (.getfield 77, 3), none, none, some (.iload_n 2, 1), some (.aload_n 0, 1), some (.getfield 104, 3), none, none, some (.iastore, 1), some (.aload_n 0, 1), some (.iconst 0, 1), some (.invokevirtual 116, 3), none, none, some (.iload_n 3, 1), some (.bipush 8, 2), none, some (.if_icmp .ne 63, 3), none, none, some (.iload 4, 2), none, some (.iconst 2, 1), some (.if_icmp .ne 57, 3), none, none, some (.aload_n 0, 1), some (.getfield 74, 3), none, none, some (.iload_n 2, 1), some (.iload_n 1, 1), some (.iastore, 1), some (.aload_n 0, 1), some (.bipush 8, 2), none, some (.invokevirtual 116, 3), none, none, some (.aload_n 0, 1), some (.getfield 80, 3), none, none, some (.aload_n 0, 1), some (.getfield 77, 3), none, none, some (.iload_n 2, 1), some (.iaload, 1), some (.aload_n 0, 1), some (.getfield 104, 3), none, none, some (.iconst 1, 1), some (.iadd, 1), some (.aload_n 0, 1), some (.getfield 77, 3), none, none, some (.iload_n 2, 1), some (.iaload, 1), some (.isub, 1), some (.iconst 1, 1), some (.isub, 1), some (.iastore, 1), some (.aload_n 0, 1), some (.getfield 77, 3), none, none, some (.iload_n 2, 1), some (.aload_n 0, 1), some (.getfield 104, 3), none, none, some (.iastore, 1), some (.aload_n 0, 1), some (.iconst 0, 1), some (.invokevirtual 116, 3), none, none, some (.iload_n 3, 1), some (.invokestatic 132, 3), none, none, some (.ifCond .eq 7, 3), none, none, some (.iconst 2, 1), some (.goto 21, 3), none, none, some (.iload_n 3, 1), some (.bipush 8, 2), none, some (.if_icmp .ne 7, 3), none, none, some (.iconst 3, 1), some (.goto 11, 3), none, none, some (.aload_n 0, 1), some (.iload_n 3, 1), some (.bipush 11, 2), none, some (.isub, 1), some (.invokevirtual 120, 3), none, none, some (.istore 5, 2), none, some (.iload 4, 2), none, some (.iload 5, 2), none, some (.if_icmp .ge 5, 3), none, none, some (.iconst 2, 1), some (.ireturn, 1), some (.aload_n 0, 1), some (.dup, 1), some (.getfield 113, 3), none, none, some (.iconst 1, 1), some (.isub, 1), some (.putfield 113, 3), none, none, some (.iload_n 3, 1), some (.invokestatic 132, 3), none, none, some (.ifCond .eq 15, 3), none, none, some (.aload_n 0, 1), some (.iload_n 3, 1), some (.iconst 1, 1), some (.isub, 1), some (.invokevirtual 116, 3), none, none, some (.iload_n 3, 1), some (.invokestatic 145, 3), none, none, some (.ireturn, 1), some (.iload_n 3, 1), some (.bipush 8, 2), none, some (.if_icmp .ne 34, 3), none, none, some (.aload_n 0, 1), some (.getfield 80, 3), none, none, some (.aload_n 0, 1), some (.getfield 77, 3), none, none, some (.iload_n 2, 1), some (.iaload, 1), some (.aload_n 0, 1), some (.getfield 104, 3), none, none, some (.aload_n 0, 1), some (.getfield 77, 3), none, none, some (.iload_n 2, 1), some (.iaload, 1), some (.isub, 1), some (.iconst 1, 1), some (.isub, 1), some (.iastore, 1), some (.aload_n 0, 1), some (.getfield 74, 3), none, none, some (.iload_n 2, 1), some (.iaload, 1), some (.ireturn, 1), some (.aload_n 0, 1), some (.bipush 9, 2), none, some (.invokevirtual 116, 3), none, none, some (.aload_n 0, 1), some (.iload_n 3, 1), some (.bipush 11, 2), none, some (.isub, 1), some (.invokevirtual 116, 3), none, none, some (.aload_n 0, 1), some (.iload_n 3, 1), some (.bipush 11, 2), none, some (.isub, 1), some (.invokevirtual 142, 3), none, none, some (.ireturn, 1)], 7, (6, 1, []))
set_option maxRecDepth 20000 in
def uxJ104 : ux_J := ([some (.iload_n 0, 1), some (.bipush 6, 2), none, some (.if_icmp .ge 7, 3), none, none, some (.iconst 0, 1), some (.goto 4, 3), none, none, some (.iconst 1, 1), some (.ireturn, 1)], 7, (1, 1, []))
set_option maxRecDepth 20000 in
def uxJ105 : ux_J := ([some (.aload_n 0, 1), some (.iload_n 1, 1), some (.invokevirtual 161, 3), none, none, some (.istore_n 2, 1), some (.aload_n 0, 1), some (.getfield 26, 3), none, none, some (.iload_n 2, 1), some (.aload_n 0, 1), some (.getfield 17, 3), none, none, some (.iload_n 1, 1), some (.iaload, 1), some (.iastore, 1), some (.iconst 0, 1), some (.istore_n 3, 1), some (.iload_n 3, 1), some (.aload_n 0, 1), some (.getfield 17, 3), none, none, some (.iload_n 1, 1), some (.iaload, 1), some (.if_icmp .ge 31, 3), none, none, some (.aload_n 0, 1), some (.getfield 29, 3), none, none, some (.bipush 30, 2), none, some (.iload_n 2, 1), some (.imul, 1), some (.iload_n 3, 1), some (.iadd, 1), some (.aload_n 0, 1), some (.getfield 20, 3), none, none, some (.bipush 30, 2), none, some (.iload_n 1, 1), some (.imul, 1), some (.iload_n 3, 1), some (.iadd, 1), some (.iaload, 1), some (.iastore, 1), some (.iinc 3 1, 3), none, none, some (.goto (-35), 3), none, none, some (.iconst 0, 1), some (.istore_n 3, 1), some (.iload_n 3, 1), some (.bipush 8, 2), none, some (.if_icmp .ge 39, 3), none, none, some (.aload_n 0, 1), some (.getfield 32, 3), none, none, some (.bipush 9, 2), none, some (.iload_n 2, 1), some (.imul, 1), some (.iload_n 3, 1), some (.iadd, 1), some (.aload_n 0, 1), some (.iload_n 1, 1), some (.iload_n 3, 1), some (.invokevirtual 164, 3), none, none, some (.ifCond .eq 12, 3), none, none, some (.aload_n 0, 1), some (.getfield 13, 3), none, none, some (.iload_n 3, 1), some (.iaload, 1), some (.goto 4, 3), none, none, some (.iconst (-1), 1), some (.iastore, 1), some (.iinc 3 1, 3), none, none, some (.goto (-39), 3), none, none, some (.aload_n 0, 1), some (.getfield 35, 3), none, none, some (.iload_n 2, 1), some (.aload_n 0, 1), some (.getfield 104, 3), none, none, some (.iastore, 1), some (.iconst 0, 1), some (.istore_n 3, 1), some (.iload_n 3, 1), some (.aload_n 0, 1), some (.getfield 104, 3), none, none, some (.if_icmp .ge 26, 3), none, none, some (.aload_n 0, 1), some (.getfield 38, 3), none, none, some (.bipush 80, 2), none, some (.iload_n 2, 1), some (.imul, 1), some (.iload_n 3, 1), some (.iadd, 1), some (.aload_n 0, 1), some (.getfield 80, 3), none, none, some (.iload_n 3, 1), some (.iaload, 1), some (.iastore, 1), some (.iinc 3 1, 3), none, none, some (.goto (-28), 3), none, none, some (.iload_n 2, 1), some (.ireturn, 1)], 7, (4, 1, []))
set_option maxRecDepth 20000 in
def uxJ106 : ux_J := ([some (.iconst 3, 1), some (.iload_n 1, 1), some (.imul, 1), some (.istore_n 2, 1), some (.iload_n 2, 1), some (.iconst 1, 1), some (.iadd, 1), some (.istore_n 3, 1), some (.iload_n 3, 1), some (.iconst 3, 1), some (.iload_n 1, 1), some (.imul, 1), some (.iconst 3, 1), some (.iadd, 1), some (.if_icmp .ge 30, 3), none, none, some (.aload_n 0, 1), some (.getfield 23, 3), none, none, some (.iload_n 3, 1), some (.iaload, 1), some (.aload_n 0, 1), some (.getfield 23, 3), none, none, some (.iload_n 2, 1), some (.iaload, 1), some (.if_icmp .ge 7, 3), none, none, some (.iload_n 3, 1), some (.goto 4, 3), none, none, some (.iload_n 2, 1), some (.istore_n 2, 1), some (.iinc 3 1, 3), none, none, some (.goto (-33), 3), none, none, some (.iload_n 2, 1), some (.ireturn, 1)], 7, (4, 1, []))
set_option maxRecDepth 20000 in
def uxJ107 : ux_J := ([some (.iload_n 1, 1), some (.iload_n 2, 1), some (.if_icmp .ne 7, 3), none, none, some (.iconst 1, 1), some (.goto 4, 3), none, none, some (.iconst 0, 1), some (.istore_n 3, 1), some (.bipush 30, 2), none, some (.iload_n 1, 1), some (.imul, 1), some (.istore 4, 2), none, some (.iload 4, 2), none, some (.bipush 30, 2), none, some (.iload_n 1, 1), some (.imul, 1), some (.aload_n 0, 1), some (.getfield 17, 3), none, none, some (.iload_n 1, 1), some (.iaload, 1), some (.iadd, 1), some (.if_icmp .ge 33, 3), none, none, some (.iload_n 3, 1), some (.ifCond .ne 17, 3), none, none, some (.aload_n 0, 1), some (.getfield 20, 3), none, none, some (.iload 4, 2), none, some (.iaload, 1), some (.bipush 11, 2), none, some (.iload_n 2, 1), some (.iadd, 1), some (.if_icmp .ne 7, 3), none, none, some (.iconst 1, 1), some (.goto 4, 3), none, none, some (.iconst 0, 1), some (.istore_n 3, 1), some (.iinc 4 1, 3), none, none, some (.goto (-43), 3), none, none, some (.iload_n 3, 1), some (.ireturn, 1)], 7, (5, 2, []))
set_option maxRecDepth 20000 in
def uxJ108 : ux_J := ([some (.aload_n 0, 1), some (.iconst 0, 1), some (.putfield 179, 3), none, none, some (.iconst 0, 1), some (.istore_n 1, 1), some (.iload_n 1, 1), some (.bipush 8, 2), none, some (.if_icmp .ge 76, 3), none, none, some (.aload_n 0, 1), some (.getfield 59, 3), none, none, some (.iload_n 1, 1), some (.aload_n 0, 1), some (.getfield 50, 3), none, none, some (.iload_n 1, 1), some (.iaload, 1), some (.ifCond .ge 7, 3), none, none, some (.iconst (-1), 1), some (.goto 7, 3), none, none, some (.aload_n 0, 1), some (.getfield 179, 3), none, none, some (.iastore, 1), some (.aload_n 0, 1), some (.getfield 62, 3), none, none, some (.iload_n 1, 1), some (.aload_n 0, 1), some (.iload_n 1, 1), some (.invokevirtual 120, 3), none, none, some (.iastore, 1), some (.aload_n 0, 1), some (.dup, 1), some (.getfield 179, 3), none, none, some (.aload_n 0, 1), some (.getfield 50, 3), none, none, some (.iload_n 1, 1), some (.iaload, 1), some (.ifCond .ge 7, 3), none, none, some (.iconst 0, 1), some (.goto 14, 3), none, none, some (.aload_n 0, 1), some (.getfield 35, 3), none, none, some (.aload_n 0, 1), some (.getfield 50, 3), none, none, some (.iload_n 1, 1), some (.iaload, 1), some (.iaload, 1), some (.iadd, 1), some (.putfield 179, 3), none, none, some (.iinc 1 1, 3), none, none, some (.goto (-76), 3), none, none, some (.iconst 0, 1), some (.istore_n 1, 1), some (.iload_n 1, 1), some (.bipush 8, 2), none, some (.if_icmp .ge 129, 3), none, none, some (.aload_n 0, 1), some (.getfield 50, 3), none, none, some (.iload_n 1, 1), some (.iaload, 1), some (.istore_n 2, 1), some (.iconst 0, 1), some (.istore_n 3, 1), some (.iload_n 2, 1), some (.ifCond .lt 110, 3), none, none, some (.iload_n 3, 1), some (.aload_n 0, 1), some (.getfield 35, 3), none, none, some (.iload_n 2, 1), some (.iaload, 1), some (.if_icmp .ge 100, 3), none, none, some (.aload_n 0, 1), some (.getfield 38, 3), none, none, some (.bipush 80, 2), none, some (.iload_n 2, 1), some (.imul, 1), some (.iload_n 3, 1), some (.iadd, 1), some (.iaload, 1), some (.istore 4, 2), none, some (.aload_n 0, 1), some (.getfield 56, 3), none, none, some (.aload_n 0, 1), some (.getfield 59, 3), none, none, some (.iload_n 1, 1), some (.iaload, 1), some (.iload_n 3, 1), some (.iadd, 1), some (.iload 4, 2), none, some (.iastore, 1), some (.iload 4, 2), none, some (.invokestatic 182, 3), none, none, some (.iconst 2, 1), some (.if_icmp .ne 52, 3), none, none, some (.aload_n 0, 1), some (.getfield 38, 3), none, none, some (.bipush 80, 2), none, some (.iload_n 2, 1), some (.imul, 1), some (.iload_n 3, 1), some (.iadd, 1), some (.iconst 1, 1), some (.iadd, 1), some (.iaload, 1), some (.istore 5, 2), none, some (.aload_n 0, 1), some (.getfield 56, 3), none, none, some (.aload_n 0, 1), some (.getfield 59, 3), none, none, some (.iload_n 1, 1), some (.iaload, 1), some (.iload_n 3, 1), some (.iadd, 1), some (.iconst 1, 1), some (.iadd, 1), some (.iload 4, 2), none, some (.bipush 9, 2), none, some (.if_icmp .ne 13, 3), none, none, some (.aload_n 0, 1), some (.getfield 59, 3), none, none, some (.iload 5, 2), none, some (.iaload, 1), some (.goto 5, 3), none, none, some (.iload 5, 2), none, some (.iastore, 1), some (.iload_n 3, 1), some (.iload 4, 2), none, some (.invokestatic 182, 3), none, none, some (.iadd, 1), some (.istore_n 3, 1), some (.goto (-108), 3), none, none, some (.iinc 1 1, 3), none, none, some (.goto (-129), 3), none, none, some (.return_, 1)], 7, (6, 0, []))
set_option maxRecDepth 20000 in
def uxJ109 : ux_J := ([some (.iload_n 0, 1), some (.iconst 2, 1), some (.if_icmp .lt 13, 3), none, none, some (.iload_n 0, 1), some (.bipush 6, 2), none, some (.if_icmp .gt 7, 3), none, none, some (.iconst 1, 1), some (.goto 4, 3), none, none, some (.iconst 2, 1), some (.ireturn, 1)], 7, (1, 1, []))
set_option maxRecDepth 20000 in
def uxJ110 : ux_J := ([some (.aload_n 0, 1), some (.iload_n 1, 1), some (.iconst 5, 1), some (.invokestatic 96, 3), none, none, some (.iconst 1, 1), some (.invokevirtual 100, 3), none, none, some (.ifCond .eq 7, 3), none, none, some (.iconst 0, 1), some (.goto 9, 3), none, none, some (.aload_n 0, 1), some (.getfield 53, 3), none, none, some (.iload_n 1, 1), some (.iaload, 1), some (.ireturn, 1)], 7, (2, 1, []))
set_option maxRecDepth 20000 in
def uxJ111 : ux_J := ([some (.aload_n 0, 1), some (.iload_n 1, 1), some (.bipush 8, 2), none, some (.invokestatic 96, 3), none, none, some (.ifCond .ne 11, 3), none, none, some (.iload_n 2, 1), some (.iconst 5, 1), some (.invokestatic 96, 3), none, none, some (.ifCond .eq 7, 3), none, none, some (.iconst 1, 1), some (.goto 4, 3), none, none, some (.iconst 0, 1), some (.iconst 1, 1), some (.invokevirtual 100, 3), none, none, some (.ifCond .eq 5, 3), none, none, some (.iconst 0, 1), some (.ireturn, 1), some (.iconst 0, 1), some (.istore_n 3, 1), some (.iconst 3, 1), some (.iload_n 1, 1), some (.imul, 1), some (.istore 4, 2), none, some (.iload 4, 2), none, some (.iconst 3, 1), some (.iload_n 1, 1), some (.imul, 1), some (.iconst 3, 1), some (.iadd, 1), some (.if_icmp .ge 27, 3), none, none, some (.iload_n 3, 1), some (.aload_n 0, 1), some (.getfield 23, 3), none, none, some (.iload 4, 2), none, some (.iaload, 1), some (.ifCond .le 7, 3), none, none, some (.iconst 1, 1), some (.goto 4, 3), none, none, some (.iconst 0, 1), some (.iadd, 1), some (.istore_n 3, 1), some (.iinc 4 1, 3), none, none, some (.goto (-31), 3), none, none, some (.iload_n 2, 1), some (.tableswitch 53 0 3 #[30, 37, 44, 51], 30), none, none, none, none, none, none, none, none, none, none, none, none, none, none, none, none, none, none, none, none, none, none, none, none, none, none, none, none, none, some (.aload_n 0, 1), some (.getfield 41, 3), none, none, some (.iload_n 1, 1), some (.iaload, 1), some (.ireturn, 1), some (.aload_n 0, 1), some (.getfield 44, 3), none, none, some (.iload_n 1, 1), some (.iaload, 1), some (.ireturn, 1), some (.aload_n 0, 1), some (.getfield 47, 3), none, none, some (.iload_n 1, 1), some (.iaload, 1), some (.ireturn, 1), some (.iload_n 3, 1), some (.ireturn, 1), some (.aload_n 0, 1), some (.getfield 59, 3), none, none, some (.iload_n 1, 1), some (.iaload, 1), some (.ireturn, 1)], 7, (5, 1, []))
set_option maxRecDepth 20000 in
def uxJ112 : ux_J := ([some (.aload_n 0, 1), some (.iconst 0, 1), some (.putfield 92, 3), none, none, some (.aload_n 0, 1), some (.getfield 179, 3), none, none, some (.ireturn, 1)], 7, (1, 1, []))
set_option maxRecDepth 20000 in
def uxJ113 : ux_J := ([some (.aload_n 0, 1), some (.iload_n 1, 1), some (.aload_n 0, 1), some (.getfield 179, 3), none, none, some (.invokestatic 96, 3), none, none, some (.iconst 1, 1), some (.invokevirtual 100, 3), none, none, some (.ifCond .eq 7, 3), none, none, some (.iconst 0, 1), some (.goto 9, 3), none, none, some (.aload_n 0, 1), some (.getfield 56, 3), none, none, some (.iload_n 1, 1), some (.iaload, 1), some (.ireturn, 1)], 7, (2, 1, []))
set_option maxRecDepth 20000 in
def uxJ114 : ux_J := ([some (.aload_n 0, 1), some (.iload_n 1, 1), some (.bipush 8, 2), none, some (.invokestatic 96, 3), none, none, some (.iconst 1, 1), some (.invokevirtual 100, 3), none, none, some (.ifCond .ne 25, 3), none, none, some (.aload_n 0, 1), some (.aload_n 0, 1), some (.getfield 59, 3), none, none, some (.iload_n 1, 1), some (.iaload, 1), some (.ifCond .ge 7, 3), none, none, some (.iconst 1, 1), some (.goto 4, 3), none, none, some (.iconst 0, 1), some (.iconst 1, 1), some (.invokevirtual 100, 3), none, none, some (.ifCond .eq 5, 3), none, none, some (.iconst 0, 1), some (.ireturn, 1), some (.iload 5, 2), none, some (.ifCond .ge 7, 3), none, none, some (.iconst 0, 1), some (.goto 19, 3), none, none, some (.iload 5, 2), none, some (.sipush 1000, 3), none, none, some (.if_icmp .le 9, 3), none, none, some (.sipush 1000, 3), none, none, some (.goto 5, 3), none, none, some (.iload 5, 2), none, some (.istore 6, 2), none, some (.aload_n 0, 1), some (.iconst 0, 1), some (.putfield 191, 3), none, none, some (.aload_n 0, 1), some (.iconst 0, 1), some (.putfield 194, 3), none, none, some (.aload_n 0, 1), some (.getfield 62, 3), none, none, some (.iload_n 1, 1), some (.iaload, 1), some (.istore 7, 2), none, some (.aload_n 0, 1), some (.getfield 83, 3), none, none, some (.iconst 0, 1), some (.iload_n 2, 1), some (.iastore, 1), some (.aload_n 0, 1), some (.getfield 83, 3), none, none, some (.iconst 1, 1), some (.iload_n 3, 1), some (.iastore, 1), some (.aload_n 0, 1), some (.getfield 83, 3), none, none, some (.iconst 2, 1), some (.iload 4, 2), none, some (.iastore, 1), some (.iconst 1, 1), some (.istore 8, 2), none, some (.aload_n 0, 1), some (.getfield 89, 3), none, none, some (.iconst 0, 1), some (.iconst 0, 1), some (.iastore, 1), some (.aload_n 0, 1), some (.getfield 59, 3), none, none, some (.iload_n 1, 1), some (.iaload, 1), some (.istore 9, 2), none, some (.iload 8, 2), none, some (.ifCond .le 319, 3), none, none, some (.aload_n 0, 1), some (.getfield 194, 3), none, none, some (.iload 6, 2), none, some (.if_icmp .ne 5, 3), none, none, some (.iconst 1, 1), some (.ireturn, 1), some (.aload_n 0, 1), some (.dup, 1), some (.getfield 194, 3), none, none, some (.iconst 1, 1), some (.iadd, 1), some (.putfield 194, 3), none, none, some (.aload_n 0, 1), some (.getfield 56, 3), none, none, some (.iload 9, 2), none, some (.iaload, 1), some (.istore 10, 2), none, some (.iload 10, 2), none, some (.invokestatic 182, 3), none, none, some (.iconst 2, 1), some (.if_icmp .ne 15, 3), none, none, some (.aload_n 0, 1), some (.getfield 56, 3), none, none, some (.iload 9, 2), none, some (.iconst 1, 1), some (.iadd, 1), some (.iaload, 1), some (.goto 4, 3), none, none, some (.iconst 0, 1), some (.istore 11, 2), none, some (.iload 9, 2), none, some (.iload 10, 2), none, some (.invokestatic 182, 3), none, none, some (.iadd, 1), some (.istore 9, 2), none, some (.iload 10, 2), none, some (.iconst 2, 1), some (.if_icmp .ge 52, 3), none, none, some (.iload 7, 2), none, some (.bipush 40, 2), none, some (.if_icmp .ne 5, 3), none, none, some (.iconst 3, 1), some (.ireturn, 1), some (.aload_n 0, 1), some (.getfield 83, 3), none, none, some (.iload 7, 2), none, some (.iload 10, 2), none, some (.ifCond .ne 8, 3), none, none, some (.iload 11, 2), none, some (.goto 20, 3), none, none, some (.aload_n 0, 1), some (.getfield 83, 3), none, none, some (.aload_n 0, 1), some (.getfield 89, 3), none, none, some (.iload 8, 2), none, some (.iconst 1, 1), some (.isub, 1), some (.iaload, 1), some (.iload 11, 2), none, some (.iadd, 1), some (.iaload, 1), some (.iastore, 1), some (.iinc 7 1, 3), none, none, some (.goto 197, 3), none, none, some (.iload 10, 2), none, some (.bipush 7, 2), none, some (.if_icmp .ge 39, 3), none, none, some (.iinc 7 (-1), 3), none, none, some (.aload_n 0, 1), some (.getfield 83, 3), none, none, some (.iload 7, 2), none, some (.iconst 1, 1), some (.isub, 1), some (.iload 10, 2), none, some (.aload_n 0, 1), some (.getfield 83, 3), none, none, some (.iload 7, 2), none, some (.iconst 1, 1), some (.isub, 1), some (.iaload, 1), some (.aload_n 0, 1), some (.getfield 83, 3), none, none, some (.iload 7, 2), none, some (.iaload, 1), some (.invokestatic 197, 3), none, none, some (.iastore, 1), some (.goto 154, 3), none, none, some (.iload 10, 2), none, some (.bipush 7, 2), none, some (.if_icmp .ne 30, 3), none, none, some (.iinc 7 (-1), 3), none, none, some (.iload 9, 2), none, some (.aload_n 0, 1), some (.getfield 83, 3), none, none, some (.iload 7, 2), none, some (.iaload, 1), some (.ifCond .ne 8, 3), none, none, some (.iload 11, 2), none, some (.goto 4, 3), none, none, some (.iconst 0, 1), some (.iadd, 1), some (.istore 9, 2), none, some (.goto 120, 3), none, none, some (.iload 10, 2), none, some (.bipush 8, 2), none, some (.if_icmp .ne 13, 3), none, none, some (.iload 9, 2), none, some (.iload 11, 2), none, some (.iadd, 1), some (.istore 9, 2), none, some (.goto 103, 3), none, none, some (.iload 10, 2), none, some (.bipush 9, 2), none, some (.if_icmp .ne 52, 3), none, none, some (.iload 8, 2), none, some (.bipush 12, 2), none, some (.if_icmp .ne 5, 3), none, none, some (.iconst 2, 1), some (.ireturn, 1), some (.aload_n 0, 1), some (.getfield 86, 3), none, none, some (.iload 8, 2), none, some (.iload 9, 2), none, some (.iastore, 1), some (.aload_n 0, 1), some (.getfield 89, 3), none, none, some (.iload 8, 2), none, some (.iload 7, 2), none, some (.aload_n 0, 1), some (.getfield 62, 3), none, none, some (.aload_n 0, 1), some (.iload 11, 2), none, some (.invokevirtual 200, 3), none, none, some (.iaload, 1), some (.isub, 1), some (.iastore, 1), some (.iinc 8 1, 3), none, none, some (.iload 11, 2), none, some (.istore 9, 2), none, some (.goto 47, 3), none, none, some (.iinc 8 (-1), 3), none, none, some (.aload_n 0, 1), some (.getfield 83, 3), none, none, some (.aload_n 0, 1), some (.getfield 89, 3), none, none, some (.iload 8, 2), none, some (.iaload, 1), some (.aload_n 0, 1), some (.getfield 83, 3), none, none, some (.iload 7, 2), none, some (.iconst 1, 1), some (.isub, 1), some (.iaload, 1), some (.iastore, 1), some (.aload_n 0, 1), some (.getfield 89, 3), none, none, some (.iload 8, 2), none, some (.iaload, 1), some (.iconst 1, 1), some (.iadd, 1), some (.istore 7, 2), none, some (.aload_n 0, 1), some (.getfield 86, 3), none, none, some (.iload 8, 2), none, some (.iaload, 1), some (.istore 9, 2), none, some (.goto (-318), 3), none, none, some (.aload_n 0, 1), some (.aload_n 0, 1), some (.getfield 83, 3), none, none, some (.iconst 0, 1), some (.iaload, 1), some (.putfield 191, 3), none, none, some (.iconst 0, 1), some (.ireturn, 1)], 7, (12, 1, []))
set_option maxRecDepth 20000 in
def uxJ115 : ux_J := ([some (.iload_n 0, 1), some (.tableswitch 54 2 5 #[31, 35, 39, 43], 31), none, none, none, none, none, none, none, none, none, none, none, none, none, none, none, none, none, none, none, none, none, none, none, none, none, none, none, none, none, none, some (.iload_n 1, 1), some (.iload_n 2, 1), some (.iadd, 1), some (.ireturn, 1), some (.iload_n 1, 1), some (.iload_n 2, 1), some (.isub, 1), some (.ireturn, 1), some (.iload_n 1, 1), some (.iload_n 2, 1), some (.imul, 1), some (.ireturn, 1), some (.iload_n 1, 1), some (.iload_n 2, 1), some (.if_icmp .ge 7, 3), none, none, some (.iconst 1, 1), some (.goto 4, 3), none, none, some (.iconst 0, 1), some (.ireturn, 1), some (.iload_n 1, 1), some (.iload_n 2, 1), some (.if_icmp .ne 7, 3), none, none, some (.iconst 1, 1), some (.goto 4, 3), none, none, some (.iconst 0, 1), some (.ireturn, 1)], 7, (3, 1, []))
set_option maxRecDepth 20000 in
def uxJ116 : ux_J := ([some (.iconst 0, 1), some (.istore_n 2, 1), some (.aload_n 0, 1), some (.getfield 59, 3), none, none, some (.iload_n 2, 1), some (.iaload, 1), some (.iload_n 1, 1), some (.if_icmp .eq 9, 3), none, none, some (.iinc 2 1, 3), none, none, some (.goto (-13), 3), none, none, some (.iload_n 2, 1), some (.ireturn, 1)], 7, (3, 1, []))
set_option maxRecDepth 20000 in
def uxJ117 : ux_J := ([some (.aload_n 0, 1), some (.iconst 0, 1), some (.putfield 92, 3), none, none, some (.aload_n 0, 1), some (.getfield 191, 3), none, none, some (.ireturn, 1)], 7, (1, 1, []))
set_option maxRecDepth 20000 in
def uxJ118 : ux_J := ([some (.aload_n 0, 1), some (.iconst 0, 1), some (.putfield 92, 3), none, none, some (.aload_n 0, 1), some (.getfield 194, 3), none, none, some (.ireturn, 1)], 7, (1, 1, []))
def uxJ : List ux_J := [uxJ0, uxJ1, uxJ2, uxJ3, uxJ4, uxJ5, uxJ6, uxJ7, uxJ8, uxJ9, uxJ10, uxJ11, uxJ12, uxJ13, uxJ14, uxJ15, uxJ16, uxJ17, uxJ18, uxJ19, uxJ20, uxJ21, uxJ22, uxJ23, uxJ24, uxJ25, uxJ26, uxJ27, uxJ28, uxJ29, uxJ30, uxJ31, uxJ32, uxJ33, uxJ34, uxJ35, uxJ36, uxJ37, uxJ38, uxJ39, uxJ40, uxJ41, uxJ42, uxJ43, uxJ44, uxJ45, uxJ46, uxJ47, uxJ48, uxJ49, uxJ50, uxJ51, uxJ52, uxJ53, uxJ54, uxJ55, uxJ56, uxJ57, uxJ58, uxJ59, uxJ60, uxJ61, uxJ62, uxJ63, uxJ64, uxJ65, uxJ66, uxJ67, uxJ68, uxJ69, uxJ70, uxJ71, uxJ72, uxJ73, uxJ74, uxJ75, uxJ76, uxJ77, uxJ78, uxJ79, uxJ80, uxJ81, uxJ82, uxJ83, uxJ84, uxJ85, uxJ86, uxJ87, uxJ88, uxJ89, uxJ90, uxJ91, uxJ92, uxJ93, uxJ94, uxJ95, uxJ96, uxJ97, uxJ98, uxJ99, uxJ100, uxJ101, uxJ102, uxJ103, uxJ104, uxJ105, uxJ106, uxJ107, uxJ108, uxJ109, uxJ110, uxJ111, uxJ112, uxJ113, uxJ114, uxJ115, uxJ116, uxJ117, uxJ118]
def uxL0 : ux_Po := ([(9, 0, 0, true), (15, 0, 1, true), (21, 0, 2, true), (25, 0, 3, true), (28, 0, 4, true), (31, 0, 5, true), (34, 0, 6, true), (40, 0, 7, true), (47, 0, 8, true), (54, 0, 9, true), (73, 5, 1, false), (90, 5, 0, true), (100, 2, 3, false), (101, 4, 1, false), (104, 2, 1, true), (108, 2, 0, true), (131, 3, 0, false), (134, 3, 1, false), (160, 1, 0, false), (166, 1, 1, false)], [(3, 6, 0, 0), (39, 5, 2, 0), (46, 4, 3, 0), (53, 5, 4, 0), (60, 5, 5, 0), (61, 4, 6, 0), (62, 0, 49, 1), (68, 9, 1000, 0), (69, 0, 50, 3), (79, 9, 1001, 0), (80, 105, 55, 1), (84, 105, 21, 1), (89, 9, 1002, 0), (93, 100, 9, 1), (96, 102, 37, 2), (107, 102, 41, 1), (111, 0, 42, 1), (114, 103, 68, 5), (118, 8, 0, 0), (124, 7, 0, 0), (127, 103, 70, 2), (137, 104, 10, 3), (141, 100, 13, 1), (144, 104, 36, 1), (147, 104, 14, 0), (151, 106, 15, 2), (156, 101, 17, 2), (163, 104, 35, 0)], [(13, 5), (19, 4), (37, 1), (44, 2), (51, 3), (66, 1000), (77, 1001), (87, 1002), (100013, 103), (100019, 104), (200009, 2001), (200015, 2001), (200021, 2001), (200025, 2001), (200028, 2001), (200031, 2001), (200034, 2001), (200040, 2001), (200047, 2001), (200054, 2001), (200073, 2000)])
def uxL1 : ux_Po := ([(9, 1, 0, false), (15, 1, 1, false), (18, 1, 2, false), (21, 6, 3, false), (36, 6, 0, true), (61, 5, 0, true), (95, 6, 4, false), (101, 6, 1, true)], [(3, 6, 0, 0), (26, 0, 18, 1), (32, 101, 19, 4), (40, 105, 21, 1), (46, 101, 22, 2), (50, 0, 25, 1), (53, 106, 26, 2), (57, 101, 20, 3), (65, 0, 23, 1), (68, 101, 24, 2), (72, 101, 28, 4), (76, 101, 31, 3), (79, 101, 33, 3), (83, 101, 34, 4), (86, 0, 27, 2), (89, 0, 29, 1), (92, 106, 30, 1), (98, 106, 32, 2)], [(200009, 2000), (200015, 2000), (200018, 2000)])
def uxL2 : ux_Po := ([(9, 2, 0, true), (15, 2, 1, true), (18, 2, 2, true), (21, 2, 3, false), (37, 6, 4, false), (51, 6, 2, true)], [(3, 6, 0, 0), (25, 102, 41, 1), (31, 104, 38, 0), (40, 102, 39, 2), (44, 102, 40, 2), (48, 0, 25, 1), (54, 1, 42, 1), (57, 0, 43, 1)], [(200009, 2001), (200015, 2001), (200018, 2001), (200021, 2000)])
def uxL3 : ux_Po := ([(9, 3, 0, false), (15, 3, 1, false), (18, 3, 2, true), (22, 3, 3, true), (25, 3, 4, true), (28, 3, 5, false), (31, 3, 6, false), (34, 3, 7, false), (37, 2, 2, true), (42, 2, 1, true)], [(3, 6, 0, 0), (45, 103, 69, 3), (49, 103, 71, 1), (53, 102, 72, 1), (57, 0, 43, 1), (61, 103, 73, 1), (64, 103, 74, 1), (67, 103, 75, 0), (71, 102, 76, 1), (74, 103, 77, 0), (77, 103, 78, 1), (80, 7, 0, 0)], [(200009, 2000), (200015, 2000), (200018, 2001), (200022, 2001), (200025, 2001), (200028, 2000), (200031, 2000), (200034, 2000)])
def uxL4 : ux_Po := ([(11, 4, 0, true), (17, 4, 1, false)], [(3, 6, 0, 0), (21, 5, 7, 0), (22, 106, 11, 3), (26, 104, 36, 1), (30, 8, 0, 0)], [(9, 6), (100009, 105), (200011, 2001), (200017, 2000)])
def uxL5 : ux_Po := ([(9, 5, 0, true), (15, 5, 1, false)], [(3, 6, 0, 0)], [(200009, 2001), (200015, 2000)])
def uxL6 : ux_Po := ([(12, 6, 0, true), (18, 6, 1, true), (22, 6, 2, true), (27, 6, 3, false), (31, 6, 4, false)], [(3, 6, 0, 0), (11, 5, 5, 0), (34, 105, 16, 1), (38, 105, 12, 1)], [(9, 5), (200012, 2001), (200018, 2001), (200022, 2001), (200027, 2000), (200031, 2000)])
def uxL7 : ux_Po := ([(7, 7, 1, true), (13, 7, 2, true), (17, 7, 3, true), (20, 7, 4, true), (23, 7, 5, true), (26, 7, 6, true), (29, 7, 7, true), (32, 7, 8, true), (35, 7, 9, true), (38, 7, 10, true), (41, 7, 12, true), (44, 7, 13, true), (47, 7, 14, true), (50, 7, 15, true), (53, 7, 16, true), (56, 7, 18, true), (59, 7, 19, true), (62, 7, 20, true), (65, 7, 21, true), (68, 7, 22, true), (71, 7, 23, true), (74, 7, 24, true), (77, 7, 25, true), (80, 7, 27, true), (83, 7, 33, true), (86, 7, 34, true), (89, 7, 35, true), (92, 7, 0, false), (104, 7, 28, false), (107, 7, 29, false), (110, 7, 30, false), (113, 7, 26, false), (176, 7, 11, false), (179, 7, 17, false), (191, 7, 31, false), (194, 7, 32, false)], [(1, 6, 0, 0), (96, 0, 82, 2), (100, 107, 83, 2), (116, 107, 95, 1), (120, 107, 96, 1), (124, 107, 93, 2), (128, 107, 97, 2), (132, 0, 98, 1), (136, 107, 99, 2), (139, 0, 100, 1), (142, 107, 101, 1), (145, 0, 104, 1), (148, 107, 94, 3), (152, 107, 102, 1), (155, 107, 103, 1), (158, 107, 91, 2), (161, 107, 106, 1), (164, 107, 107, 2), (167, 107, 90, 1), (170, 107, 92, 1), (173, 107, 105, 1), (182, 0, 109, 1), (185, 107, 89, 1), (188, 107, 108, 0), (197, 0, 115, 3), (200, 107, 116, 1)], [(200007, 2001), (200013, 2001), (200017, 2001), (200020, 2001), (200023, 2001), (200026, 2001), (200029, 2001), (200032, 2001), (200035, 2001), (200038, 2001), (200041, 2001), (200044, 2001), (200047, 2001), (200050, 2001), (200053, 2001), (200056, 2001), (200059, 2001), (200062, 2001), (200065, 2001), (200068, 2001), (200071, 2001), (200074, 2001), (200077, 2001), (200080, 2001), (200083, 2001), (200086, 2001), (200089, 2001), (200092, 2000), (200104, 2000), (200107, 2000), (200110, 2000), (200113, 2000), (200176, 2000), (200179, 2000), (200191, 2000), (200194, 2000)])
def uxL8 : ux_Po := ([], [], [])
def uxL9 : ux_Po := ([], [(7, 100, 48, 4), (15, 100, 52, 1), (19, 100, 54, 2), (25, 100, 57, 3), (31, 100, 59, 1), (35, 100, 61, 1), (38, 100, 63, 2), (42, 100, 65, 1), (45, 100, 67, 5), (49, 4, 1, 0), (52, 4, 79, 0), (53, 0, 47, 5), (58, 107, 81, 4), (59, 107, 80, 0), (63, 0, 51, 2), (66, 107, 84, 1), (67, 0, 53, 4), (70, 107, 85, 2), (71, 0, 56, 4), (74, 107, 86, 3), (75, 0, 58, 3), (78, 107, 87, 1), (79, 100, 8, 0), (82, 107, 88, 0), (83, 0, 60, 3), (85, 107, 110, 1), (86, 0, 62, 4), (88, 107, 111, 2), (89, 100, 44, 0), (92, 107, 112, 0), (93, 0, 64, 3), (95, 107, 113, 1), (96, 0, 66, 7), (99, 107, 114, 5), (100, 100, 45, 0), (103, 107, 117, 0), (104, 100, 46, 0), (107, 107, 118, 0)], [(8, 0), (50, 7)])
def uxL : List ux_Po := [uxL0, uxL1, uxL2, uxL3, uxL4, uxL5, uxL6, uxL7, uxL8, uxL9]
def uxDv (ci : Nat) : List Value := (ux_nth ([[.null, .null, .null, .null, .null, .null, .null, .null, .null, .null], [.int 0, .int 0, .int 0], [.null, .null, .null, .int 0], [.int 0, .int 0, .null, .null, .null, .int 0, .int 0, .int 0], [.null, .int 0], [.null, .int 0], [.null, .null, .null, .int 0, .int 0], [.int 0, .null, .null, .null, .null, .null, .null, .null, .null, .null, .null, .int 0, .null, .null, .null, .null, .null, .int 0, .null, .null, .null, .null, .null, .null, .null, .null, .int 0, .null, .int 0, .int 0, .int 0, .int 0, .int 0, .null, .null, .null]] : List (List Value)) ci).getD []
def uxCo (t : Nat) : Nat := if t = 103 then 5 else if t = 104 then 4 else 6
def uxIf (i pc : Nat) : Option (Instr × Nat) := match ux_nth uxJ i with
  | some q => (match ux_nth q.1 pc with
    | some o => o
    | none => none)
  | none => none
def uxPo (i : Nat) : Option ux_Po := match ux_nth uxJ i with
  | some q => ux_nth uxL q.2.1
  | none => none
def uxFf (i k : Nat) : Option (Nat × Nat × Bool) := match uxPo i with
  | some c => ux_key c.1 k
  | none => none
def uxGf (i k : Nat) : Option (Nat × Nat × Nat) := match uxPo i with
  | some c => ux_key c.2.1 k
  | none => none
def uxNf (i k : Nat) : Option Nat := match uxPo i with
  | some c => ux_key c.2.2 k
  | none => none
def uxMf (i : Nat) : Nat × Nat × List (Nat × Nat × Nat × Nat) := match ux_nth uxJ i with
  | some q => q.2.2
  | none => (0, 9, [])
def uxP : ux_P := (uxIf, uxFf, uxGf, uxNf, uxDv, uxCo, uxMf)
abbrev ux_Ms : Type := MethodName × ByteArray × Option FieldType × List (Nat × Nat × Nat × Nat)
def uxM0 : ux_Ms := (⟨"UnitDeskLaw", "law", "([I)Z"⟩, code, some (FieldType.boolean), [])
def uxM1 : ux_Ms := (⟨"UnitDesk", "<init>", "()V"⟩, prog_1_method_1_code, none, [])
def uxM2 : ux_Ms := (⟨"UnitDesk$Compiler", "<init>", "()V"⟩, prog_2_method_1_code, none, [])
def uxM3 : ux_Ms := (⟨"UnitDesk$Image", "<init>", "()V"⟩, prog_3_method_1_code, none, [])
def uxM4 : ux_Ms := (⟨"UnitDesk$Machine", "<init>", "()V"⟩, prog_4_method_1_code, none, [])
def uxM5 : ux_Ms := (⟨"UnitDesk$Text", "<init>", "()V"⟩, prog_7_method_1_code, none, [])
def uxM6 : ux_Ms := (⟨"UnitDesk$Shelf", "<init>", "()V"⟩, prog_5_method_1_code, none, [])
def uxM7 : ux_Ms := (⟨"UnitDesk$Unit", "<init>", "()V"⟩, prog_8_method_1_code, none, [])
def uxM8 : ux_Ms := (⟨"UnitDesk", "build", "()I"⟩, prog_1_method_7_code, some (FieldType.int), [])
def uxM9 : ux_Ms := (⟨"UnitDesk", "renew", "(I)V"⟩, prog_1_method_17_code, none, [])
def uxM10 : ux_Ms := (⟨"UnitDesk$Shelf", "fitting", "(LUnitDesk$Text;I[I)I"⟩, prog_5_method_2_code, some (FieldType.int), [])
def uxM11 : ux_Ms := (⟨"UnitDesk$Unit", "fits", "(LUnitDesk$Text;I[I)Z"⟩, prog_8_method_3_code, some (FieldType.boolean), [])
def uxM12 : ux_Ms := (⟨"UnitDesk$Text", "matches", "(LUnitDesk$Text;)Z"⟩, prog_7_method_5_code, some (FieldType.boolean), [])
def uxM13 : ux_Ms := (⟨"UnitDesk", "compileAnew", "(I)V"⟩, prog_1_method_18_code, none, [])
def uxM14 : ux_Ms := (⟨"UnitDesk$Shelf", "spare", "()LUnitDesk$Unit;"⟩, prog_5_method_4_code, some ((FieldType.object "UnitDesk$Unit")), [])
def uxM15 : ux_Ms := (⟨"UnitDesk$Unit", "begin", "(LUnitDesk$Text;I)V"⟩, prog_8_method_2_code, none, [])
def uxM16 : ux_Ms := (⟨"UnitDesk$Text", "copy", "(LUnitDesk$Text;)V"⟩, prog_7_method_4_code, none, [])
def uxM17 : ux_Ms := (⟨"UnitDesk$Compiler", "compile", "(LUnitDesk$Unit;[I)V"⟩, prog_2_method_2_code, none, [])
def uxM18 : ux_Ms := (⟨"UnitDesk$Signature", "result", "(I)I"⟩, prog_6_method_5_code, some (FieldType.int), [])
def uxM19 : ux_Ms := (⟨"UnitDesk$Compiler", "part", "(LUnitDesk$Unit;[III)Z"⟩, prog_2_method_4_code, some (FieldType.boolean), [])
def uxM20 : ux_Ms := (⟨"UnitDesk$Compiler", "expression", "(LUnitDesk$Unit;[II)I"⟩, prog_2_method_5_code, some (FieldType.int), [])
def uxM21 : ux_Ms := (⟨"UnitDesk$Text", "has", "(I)Z"⟩, prog_7_method_2_code, some (FieldType.boolean), [])
def uxM22 : ux_Ms := (⟨"UnitDesk$Compiler", "fault", "(II)I"⟩, prog_2_method_3_code, some (FieldType.int), [])
def uxM23 : ux_Ms := (⟨"UnitDesk$Compiler", "isNone", "(I)Z"⟩, prog_2_method_6_code, some (FieldType.boolean), [])
def uxM24 : ux_Ms := (⟨"UnitDesk$Compiler", "parameter", "(LUnitDesk$Unit;I)I"⟩, prog_2_method_8_code, some (FieldType.int), [])
def uxM25 : ux_Ms := (⟨"UnitDesk$Signature", "parameters", "(I)I"⟩, prog_6_method_3_code, some (FieldType.int), [])
def uxM26 : ux_Ms := (⟨"UnitDesk$Unit", "put", "(II)V"⟩, prog_8_method_5_code, none, [])
def uxM27 : ux_Ms := (⟨"UnitDesk$Signature", "type", "(II)I"⟩, prog_6_method_4_code, some (FieldType.int), [])
def uxM28 : ux_Ms := (⟨"UnitDesk$Compiler", "calculation", "(LUnitDesk$Unit;[III)I"⟩, prog_2_method_9_code, some (FieldType.int), [])
def uxM29 : ux_Ms := (⟨"UnitDesk$Compiler", "operationOf", "(I)I"⟩, prog_2_method_10_code, some (FieldType.int), [])
def uxM30 : ux_Ms := (⟨"UnitDesk$Unit", "put", "(I)V"⟩, prog_8_method_4_code, none, [])
def uxM31 : ux_Ms := (⟨"UnitDesk$Compiler", "choice", "(LUnitDesk$Unit;[II)I"⟩, prog_2_method_11_code, some (FieldType.int), [])
def uxM32 : ux_Ms := (⟨"UnitDesk$Unit", "setOperand", "(II)V"⟩, prog_8_method_6_code, none, [])
def uxM33 : ux_Ms := (⟨"UnitDesk$Compiler", "constant", "(LUnitDesk$Unit;II)I"⟩, prog_2_method_7_code, some (FieldType.int), [])
def uxM34 : ux_Ms := (⟨"UnitDesk$Compiler", "call", "(LUnitDesk$Unit;[III)I"⟩, prog_2_method_12_code, some (FieldType.int), [])
def uxM35 : ux_Ms := (⟨"UnitDesk$Shelf", "keepSpare", "()V"⟩, prog_5_method_5_code, none, [])
def uxM36 : ux_Ms := (⟨"UnitDesk$Shelf", "bringToFront", "(I)V"⟩, prog_5_method_6_code, none, [])
def uxM37 : ux_Ms := (⟨"UnitDesk$Image", "link", "([I[LUnitDesk$Shelf;)Z"⟩, prog_3_method_4_code, some (FieldType.boolean), [])
def uxM38 : ux_Ms := (⟨"UnitDesk$Shelf", "latest", "()LUnitDesk$Unit;"⟩, prog_5_method_3_code, some ((FieldType.object "UnitDesk$Unit")), [])
def uxM39 : ux_Ms := (⟨"UnitDesk$Image", "giveAddresses", "([I[LUnitDesk$Shelf;)V"⟩, prog_3_method_5_code, none, [])
def uxM40 : ux_Ms := (⟨"UnitDesk$Image", "copyCode", "(LUnitDesk$Unit;I)V"⟩, prog_3_method_6_code, none, [])
def uxM41 : ux_Ms := (⟨"UnitDesk$Image", "has", "(I)Z"⟩, prog_3_method_2_code, some (FieldType.boolean), [])
def uxM42 : ux_Ms := (⟨"UnitDesk", "isFunction", "(I)Z"⟩, prog_1_method_15_code, some (FieldType.boolean), [])
def uxM43 : ux_Ms := (⟨"UnitDesk$Image", "hasOperand", "(I)Z"⟩, prog_3_method_7_code, some (FieldType.boolean), [])
def uxM44 : ux_Ms := (⟨"UnitDesk", "size", "()I"⟩, prog_1_method_10_code, some (FieldType.int), [])
def uxM45 : ux_Ms := (⟨"UnitDesk", "value", "()I"⟩, prog_1_method_13_code, some (FieldType.int), [])
def uxM46 : ux_Ms := (⟨"UnitDesk", "used", "()I"⟩, prog_1_method_14_code, some (FieldType.int), [])
def uxM47 : ux_Ms := (⟨"UnitDeskLaw", "sign", "(LUnitDesk;IIIZ)I"⟩, method_3_code, some (FieldType.int), [(0, 9, 12, 13)])
def uxM48 : ux_Ms := (⟨"UnitDesk", "sign", "(IIIZ)V"⟩, prog_1_method_2_code, none, [])
def uxM49 : ux_Ms := (⟨"UnitDesk", "requireFunction", "(I)V"⟩, prog_1_method_16_code, none, [])
def uxM50 : ux_Ms := (⟨"UnitDesk$Signature", "of", "(IIZ)I"⟩, prog_6_method_2_code, some (FieldType.int), [])
def uxM51 : ux_Ms := (⟨"UnitDeskLaw", "drop", "(LUnitDesk;I)I"⟩, method_4_code, some (FieldType.int), [(0, 5, 8, 13)])
def uxM52 : ux_Ms := (⟨"UnitDesk", "drop", "(I)V"⟩, prog_1_method_3_code, none, [])
def uxM53 : ux_Ms := (⟨"UnitDeskLaw", "token", "(LUnitDesk;II[J)I"⟩, method_5_code, some (FieldType.int), [(0, 17, 20, 13), (0, 17, 24, 23)])
def uxM54 : ux_Ms := (⟨"UnitDesk", "token", "(II)Z"⟩, prog_1_method_4_code, some (FieldType.boolean), [])
def uxM55 : ux_Ms := (⟨"UnitDesk$Text", "append", "(I)Z"⟩, prog_7_method_3_code, some (FieldType.boolean), [])
def uxM56 : ux_Ms := (⟨"UnitDeskLaw", "edit", "(LUnitDesk;III)I"⟩, method_6_code, some (FieldType.int), [(0, 7, 10, 13), (0, 7, 14, 29)])
def uxM57 : ux_Ms := (⟨"UnitDesk", "edit", "(III)V"⟩, prog_1_method_5_code, none, [])
def uxM58 : ux_Ms := (⟨"UnitDeskLaw", "wipe", "(LUnitDesk;I[J)I"⟩, method_7_code, some (FieldType.int), [(0, 9, 12, 13)])
def uxM59 : ux_Ms := (⟨"UnitDesk", "wipe", "(I)I"⟩, prog_1_method_6_code, some (FieldType.int), [])
def uxM60 : ux_Ms := (⟨"UnitDeskLaw", "count", "(LUnitDesk;I[J)I"⟩, method_8_code, some (FieldType.int), [(0, 9, 12, 29)])
def uxM61 : ux_Ms := (⟨"UnitDesk", "count", "(I)I"⟩, prog_1_method_8_code, some (FieldType.int), [])
def uxM62 : ux_Ms := (⟨"UnitDeskLaw", "look", "(LUnitDesk;II[J)I"⟩, method_9_code, some (FieldType.int), [(0, 10, 13, 13)])
def uxM63 : ux_Ms := (⟨"UnitDesk", "look", "(II)I"⟩, prog_1_method_9_code, some (FieldType.int), [])
def uxM64 : ux_Ms := (⟨"UnitDeskLaw", "word", "(LUnitDesk;I[J)I"⟩, method_10_code, some (FieldType.int), [(0, 9, 12, 29)])
def uxM65 : ux_Ms := (⟨"UnitDesk", "word", "(I)I"⟩, prog_1_method_11_code, some (FieldType.int), [])
def uxM66 : ux_Ms := (⟨"UnitDeskLaw", "run", "(LUnitDesk;IIIII[J)I"⟩, method_11_code, some (FieldType.int), [(0, 16, 19, 29)])
def uxM67 : ux_Ms := (⟨"UnitDesk", "run", "(IIIII)I"⟩, prog_1_method_12_code, some (FieldType.int), [])
def uxM68 : ux_Ms := (⟨"UnitDesk$Machine", "begin", "(LUnitDesk$Image;IIII)V"⟩, prog_4_method_2_code, none, [])
def uxM69 : ux_Ms := (⟨"UnitDesk$Machine", "openFrame", "(III)I"⟩, prog_4_method_8_code, some (FieldType.int), [])
def uxM70 : ux_Ms := (⟨"UnitDesk$Machine", "work", "(LUnitDesk$Image;I)I"⟩, prog_4_method_3_code, some (FieldType.int), [])
def uxM71 : ux_Ms := (⟨"UnitDesk$Machine", "step", "(LUnitDesk$Image;)I"⟩, prog_4_method_4_code, some (FieldType.int), [])
def uxM72 : ux_Ms := (⟨"UnitDesk$Image", "at", "(I)I"⟩, prog_3_method_3_code, some (FieldType.int), [])
def uxM73 : ux_Ms := (⟨"UnitDesk$Machine", "push", "(I)I"⟩, prog_4_method_5_code, some (FieldType.int), [])
def uxM74 : ux_Ms := (⟨"UnitDesk$Machine", "argument", "(I)I"⟩, prog_4_method_7_code, some (FieldType.int), [])
def uxM75 : ux_Ms := (⟨"UnitDesk$Machine", "pop", "()I"⟩, prog_4_method_6_code, some (FieldType.int), [])
def uxM76 : ux_Ms := (⟨"UnitDesk$Image", "parametersAt", "(I)I"⟩, prog_3_method_8_code, some (FieldType.int), [])
def uxM77 : ux_Ms := (⟨"UnitDesk$Machine", "closeFrame", "()I"⟩, prog_4_method_9_code, some (FieldType.int), [])
def uxM78 : ux_Ms := (⟨"UnitDesk$Machine", "calculate", "(I)I"⟩, prog_4_method_10_code, some (FieldType.int), [])
def uxM79 : ux_Ms := (⟨"UnitDeskModel", "<init>", "()V"⟩, prog_10_method_1_code, none, [])
def uxM80 : ux_Ms := (⟨"UnitDeskModel", "thrown", "()I"⟩, prog_10_method_2_code, some (FieldType.int), [])
def uxM81 : ux_Ms := (⟨"UnitDeskModel", "sign", "(IIIZ)V"⟩, prog_10_method_5_code, none, [])
def uxM82 : ux_Ms := (⟨"UnitDeskModel", "out", "(II)Z"⟩, prog_10_method_4_code, some (FieldType.boolean), [])
def uxM83 : ux_Ms := (⟨"UnitDeskModel", "fails", "(ZI)Z"⟩, prog_10_method_3_code, some (FieldType.boolean), [])
def uxM84 : ux_Ms := (⟨"UnitDeskModel", "drop", "(I)V"⟩, prog_10_method_9_code, none, [])
def uxM85 : ux_Ms := (⟨"UnitDeskModel", "token", "(II)Z"⟩, prog_10_method_10_code, some (FieldType.boolean), [])
def uxM86 : ux_Ms := (⟨"UnitDeskModel", "edit", "(III)V"⟩, prog_10_method_11_code, none, [])
def uxM87 : ux_Ms := (⟨"UnitDeskModel", "wipe", "(I)I"⟩, prog_10_method_12_code, some (FieldType.int), [])
def uxM88 : ux_Ms := (⟨"UnitDeskModel", "build", "()I"⟩, prog_10_method_31_code, some (FieldType.int), [])
def uxM89 : ux_Ms := (⟨"UnitDeskModel", "make", "(I)V"⟩, prog_10_method_28_code, none, [])
def uxM90 : ux_Ms := (⟨"UnitDeskModel", "fitting", "(I)I"⟩, prog_10_method_25_code, some (FieldType.int), [])
def uxM91 : ux_Ms := (⟨"UnitDeskModel", "fits", "(II)Z"⟩, prog_10_method_24_code, some (FieldType.boolean), [])
def uxM92 : ux_Ms := (⟨"UnitDeskModel", "compile", "(I)V"⟩, prog_10_method_22_code, none, [])
def uxM93 : ux_Ms := (⟨"UnitDeskModel", "wrong", "(II)V"⟩, prog_10_method_14_code, none, [])
def uxM94 : ux_Ms := (⟨"UnitDeskModel", "takes", "(III)I"⟩, prog_10_method_19_code, some (FieldType.int), [])
def uxM95 : ux_Ms := (⟨"UnitDeskModel", "emit", "(I)V"⟩, prog_10_method_13_code, none, [])
def uxM96 : ux_Ms := (⟨"UnitDeskModel", "parameters", "(I)I"⟩, prog_10_method_6_code, some (FieldType.int), [])
def uxM97 : ux_Ms := (⟨"UnitDeskModel", "typeOf", "(II)I"⟩, prog_10_method_7_code, some (FieldType.int), [])
def uxM98 : ux_Ms := (⟨"UnitDeskModel", "isSign", "(I)Z"⟩, prog_10_method_16_code, some (FieldType.boolean), [])
def uxM99 : ux_Ms := (⟨"UnitDeskModel", "begins", "(II)V"⟩, prog_10_method_15_code, none, [])
def uxM100 : ux_Ms := (⟨"UnitDeskModel", "isCall", "(I)Z"⟩, prog_10_method_17_code, some (FieldType.boolean), [])
def uxM101 : ux_Ms := (⟨"UnitDeskModel", "resultOf", "(I)I"⟩, prog_10_method_8_code, some (FieldType.int), [])
def uxM102 : ux_Ms := (⟨"UnitDeskModel", "wanted", "(I)I"⟩, prog_10_method_20_code, some (FieldType.int), [])
def uxM103 : ux_Ms := (⟨"UnitDeskModel", "parted", "(I)I"⟩, prog_10_method_21_code, some (FieldType.int), [])
def uxM104 : ux_Ms := (⟨"UnitDeskModel", "typeOfSign", "(I)I"⟩, prog_10_method_18_code, some (FieldType.int), [])
def uxM105 : ux_Ms := (⟨"UnitDeskModel", "keep", "(I)I"⟩, prog_10_method_27_code, some (FieldType.int), [])
def uxM106 : ux_Ms := (⟨"UnitDeskModel", "oldest", "(I)I"⟩, prog_10_method_26_code, some (FieldType.int), [])
def uxM107 : ux_Ms := (⟨"UnitDeskModel", "callsIn", "(II)Z"⟩, prog_10_method_23_code, some (FieldType.boolean), [])
def uxM108 : ux_Ms := (⟨"UnitDeskModel", "link", "()V"⟩, prog_10_method_30_code, none, [])
def uxM109 : ux_Ms := (⟨"UnitDeskModel", "wordsOf", "(I)I"⟩, prog_10_method_29_code, some (FieldType.int), [])
def uxM110 : ux_Ms := (⟨"UnitDeskModel", "count", "(I)I"⟩, prog_10_method_32_code, some (FieldType.int), [])
def uxM111 : ux_Ms := (⟨"UnitDeskModel", "look", "(II)I"⟩, prog_10_method_33_code, some (FieldType.int), [])
def uxM112 : ux_Ms := (⟨"UnitDeskModel", "size", "()I"⟩, prog_10_method_34_code, some (FieldType.int), [])
def uxM113 : ux_Ms := (⟨"UnitDeskModel", "word", "(I)I"⟩, prog_10_method_35_code, some (FieldType.int), [])
def uxM114 : ux_Ms := (⟨"UnitDeskModel", "run", "(IIIII)I"⟩, prog_10_method_38_code, some (FieldType.int), [])
def uxM115 : ux_Ms := (⟨"UnitDeskModel", "reckon", "(III)I"⟩, prog_10_method_36_code, some (FieldType.int), [])
def uxM116 : ux_Ms := (⟨"UnitDeskModel", "functionAt", "(I)I"⟩, prog_10_method_37_code, some (FieldType.int), [])
def uxM117 : ux_Ms := (⟨"UnitDeskModel", "value", "()I"⟩, prog_10_method_39_code, some (FieldType.int), [])
def uxM118 : ux_Ms := (⟨"UnitDeskModel", "used", "()I"⟩, prog_10_method_40_code, some (FieldType.int), [])
def uxMs : List ux_Ms := [uxM0, uxM1, uxM2, uxM3, uxM4, uxM5, uxM6, uxM7, uxM8, uxM9, uxM10, uxM11, uxM12, uxM13, uxM14, uxM15, uxM16, uxM17, uxM18, uxM19, uxM20, uxM21, uxM22, uxM23, uxM24, uxM25, uxM26, uxM27, uxM28, uxM29, uxM30, uxM31, uxM32, uxM33, uxM34, uxM35, uxM36, uxM37, uxM38, uxM39, uxM40, uxM41, uxM42, uxM43, uxM44, uxM45, uxM46, uxM47, uxM48, uxM49, uxM50, uxM51, uxM52, uxM53, uxM54, uxM55, uxM56, uxM57, uxM58, uxM59, uxM60, uxM61, uxM62, uxM63, uxM64, uxM65, uxM66, uxM67, uxM68, uxM69, uxM70, uxM71, uxM72, uxM73, uxM74, uxM75, uxM76, uxM77, uxM78, uxM79, uxM80, uxM81, uxM82, uxM83, uxM84, uxM85, uxM86, uxM87, uxM88, uxM89, uxM90, uxM91, uxM92, uxM93, uxM94, uxM95, uxM96, uxM97, uxM98, uxM99, uxM100, uxM101, uxM102, uxM103, uxM104, uxM105, uxM106, uxM107, uxM108, uxM109, uxM110, uxM111, uxM112, uxM113, uxM114, uxM115, uxM116, uxM117, uxM118]
def uxM : ux_M := fun i => (ux_nth uxMs i).getD uxM0
def uxT0 : u_T := fun k => (ux_nth ([("UnitDesk", "signatures", "[I", true), ("UnitDesk", "texts", "[LUnitDesk$Text;", true), ("UnitDesk", "shelves", "[LUnitDesk$Shelf;", true), ("UnitDesk", "faultKinds", "[I", true), ("UnitDesk", "faultPlaces", "[I", true), ("UnitDesk", "deeds", "[I", true), ("UnitDesk", "counts", "[I", true), ("UnitDesk", "compiler", "LUnitDesk$Compiler;", true), ("UnitDesk", "image", "LUnitDesk$Image;", true), ("UnitDesk", "machine", "LUnitDesk$Machine;", true)] : List (String × String × String × Bool)) k).getD ("", "", "", false)
def uxT1 : u_T := fun k => (ux_nth ([("UnitDesk$Compiler", "faultKind", "I", false), ("UnitDesk$Compiler", "faultPlace", "I", false), ("UnitDesk$Compiler", "place", "I", false)] : List (String × String × String × Bool)) k).getD ("", "", "", false)
def uxT2 : u_T := fun k => (ux_nth ([("UnitDesk$Image", "words", "[I", true), ("UnitDesk$Image", "addresses", "[I", true), ("UnitDesk$Image", "parameters", "[I", true), ("UnitDesk$Image", "length", "I", false)] : List (String × String × String × Bool)) k).getD ("", "", "", false)
def uxT3 : u_T := fun k => (ux_nth ([("UnitDesk$Machine", "result", "I", false), ("UnitDesk$Machine", "spent", "I", false), ("UnitDesk$Machine", "stack", "[I", true), ("UnitDesk$Machine", "bases", "[I", true), ("UnitDesk$Machine", "returns", "[I", true), ("UnitDesk$Machine", "height", "I", false), ("UnitDesk$Machine", "frames", "I", false), ("UnitDesk$Machine", "next", "I", false)] : List (String × String × String × Bool)) k).getD ("", "", "", false)
def uxT4 : u_T := fun k => (ux_nth ([("UnitDesk$Shelf", "units", "[LUnitDesk$Unit;", true), ("UnitDesk$Shelf", "kept", "I", false)] : List (String × String × String × Bool)) k).getD ("", "", "", false)
def uxT5 : u_T := fun k => (ux_nth ([("UnitDesk$Text", "tokens", "[I", true), ("UnitDesk$Text", "length", "I", false)] : List (String × String × String × Bool)) k).getD ("", "", "", false)
def uxT6 : u_T := fun k => (ux_nth ([("UnitDesk$Unit", "text", "LUnitDesk$Text;", true), ("UnitDesk$Unit", "called", "[I", true), ("UnitDesk$Unit", "code", "[I", true), ("UnitDesk$Unit", "signature", "I", false), ("UnitDesk$Unit", "length", "I", false)] : List (String × String × String × Bool)) k).getD ("", "", "", false)
def uxT7 : u_T := fun k => (ux_nth ([("UnitDeskModel", "thrown", "I", false), ("UnitDeskModel", "there", "[Z", true), ("UnitDeskModel", "signature", "[I", true), ("UnitDeskModel", "length", "[I", true), ("UnitDeskModel", "text", "[I", true), ("UnitDeskModel", "used", "[I", true), ("UnitDeskModel", "unitLength", "[I", true), ("UnitDeskModel", "unitText", "[I", true), ("UnitDeskModel", "unitSignature", "[I", true), ("UnitDeskModel", "unitSize", "[I", true), ("UnitDeskModel", "unitCode", "[I", true), ("UnitDeskModel", "stamp", "I", false), ("UnitDeskModel", "kind", "[I", true), ("UnitDeskModel", "place", "[I", true), ("UnitDeskModel", "done", "[I", true), ("UnitDeskModel", "chosen", "[I", true), ("UnitDeskModel", "counts", "[I", true), ("UnitDeskModel", "words", "I", false), ("UnitDeskModel", "image", "[I", true), ("UnitDeskModel", "address", "[I", true), ("UnitDeskModel", "arity", "[I", true), ("UnitDeskModel", "open", "[I", true), ("UnitDeskModel", "part", "[I", true), ("UnitDeskModel", "from", "[I", true), ("UnitDeskModel", "second", "[I", true), ("UnitDeskModel", "hole", "[I", true), ("UnitDeskModel", "depth", "I", false), ("UnitDeskModel", "code", "[I", true), ("UnitDeskModel", "size", "I", false), ("UnitDeskModel", "fault", "I", false), ("UnitDeskModel", "faultAt", "I", false), ("UnitDeskModel", "value", "I", false), ("UnitDeskModel", "fuelUsed", "I", false), ("UnitDeskModel", "stack", "[I", true), ("UnitDeskModel", "back", "[I", true), ("UnitDeskModel", "base", "[I", true)] : List (String × String × String × Bool)) k).getD ("", "", "", false)
def uxCl : List vw_C := [("UnitDesk", uxT0, 10), ("UnitDesk$Compiler", uxT1, 3), ("UnitDesk$Image", uxT2, 4), ("UnitDesk$Machine", uxT3, 8), ("UnitDesk$Shelf", uxT4, 2), ("UnitDesk$Text", uxT5, 2), ("UnitDesk$Unit", uxT6, 5), ("UnitDeskModel", uxT7, 36)]
def uxTyL : List (List FieldType) := [[.array .int, .array (.object "UnitDesk$Text"), .array (.object "UnitDesk$Shelf"), .array .int, .array .int, .array .int, .array .int, .object "UnitDesk$Compiler", .object "UnitDesk$Image", .object "UnitDesk$Machine"], [.int, .int, .int], [.array .int, .array .int, .array .int, .int], [.int, .int, .array .int, .array .int, .array .int, .int, .int, .int], [.array (.object "UnitDesk$Unit"), .int], [.array .int, .int], [.object "UnitDesk$Text", .array .int, .array .int, .int, .int], [.int, .array .boolean, .array .int, .array .int, .array .int, .array .int, .array .int, .array .int, .array .int, .array .int, .array .int, .int, .array .int, .array .int, .array .int, .array .int, .array .int, .int, .array .int, .array .int, .array .int, .array .int, .array .int, .array .int, .array .int, .array .int, .int, .array .int, .int, .int, .int, .int, .int, .array .int, .array .int, .array .int]]
def uxTy (ci k : Nat) : FieldType := (ux_nth ((ux_nth uxTyL ci).getD []) k).getD .int
def uxAty (t : Nat) : Option FieldType := if t < 100 then none else ux_nth ([.int, .boolean, .long, .object "UnitDesk$Text", .object "UnitDesk$Shelf", .object "UnitDesk$Unit"] : List FieldType) (t - 100)
def uxOn : List String := ["UnitDesk", "UnitDesk$Compiler", "UnitDesk$Image", "UnitDesk$Machine", "UnitDesk$Shelf", "UnitDesk$Text", "UnitDesk$Unit", "UnitDeskModel", "UnitDesk$Signature", "UnitDeskLaw"]
def uxEx (k : Nat) : String × List String := if k = 0 then ("java/lang/IllegalArgumentException", ["java/lang/RuntimeException", "java/lang/Exception"]) else if k = 1 then ("java/lang/IllegalStateException", ["java/lang/RuntimeException", "java/lang/Exception"]) else ("java/util/NoSuchElementException", ["java/lang/RuntimeException", "java/lang/Exception"])
def uxZs : List (String × String × String) := [("java/lang/Throwable", "UNASSIGNED_STACK", "[Ljava/lang/StackTraceElement;"), ("java/lang/Throwable", "SUPPRESSED_SENTINEL", "Ljava/util/List;")]
def uxGood (w : Cond) : Bool := match w with
  | .methodLinkNest _ _ _ _ => true
  | .arrayOver (.object _) => true
  | .declares _ => true
  | .castable _ _ => true
  | w => goodWord w
def uxTw : List Cond := lw_tbl.filter uxGood
end
section
/-! The tables are those of the Statement: checks by program, and what they give. -/
def ux_in (w : Cond) : Bool := decide (w ∈ uxTw)
theorem ux_in_of {w : Cond} (h : ux_in w = true) : w ∈ uxTw := of_decide_eq_true h
def ux_pos (n : Nat) (w : Cond) : Bool := decide (lw_tbl[n]? = some w) && uxGood w
theorem ux_pos_mem {n : Nat} {w : Cond} (h : ux_pos n w = true) : w ∈ uxTw := by
  unfold ux_pos at h
  rw [Bool.and_eq_true, decide_eq_true_eq] at h
  exact List.mem_filter.mpr ⟨List.mem_of_getElem? h.1, h.2⟩
theorem ux_okW_uxTw : ux_okW uxTw := by
  intro w hw s U a a' hW h
  have hg := (List.mem_filter.mp hw).2
  unfold uxGood at hg
  split at hg
  · exact va_Nw.use rfl (va_Nw.warmM hW (va_Nw.of rfl h))
  · exact va_AO.use (va_AO.moved hW.alike (va_AO.of h))
  · exact va_Nw.use rfl (va_Nw.warmD hW (va_Nw.of rfl h))
  · exact va_Nw.use rfl (va_tabs rfl (rfl : (s.setVm U.vm).vm = U.vm) (by rw [Cond.castable_setVm hW.alike]; exact va_Nw.of rfl h))
  · exact word_at hW (good_of_word hg) h
def ux_chkI (b : ByteArray) : Nat → List (Option (Instr × Nat)) → Bool
  | _, [] => true
  | pc, o :: r => (match o with
    | none => true
    | some q => decide (decode b pc = .ok q) && ux_lok q.1 q.2) && ux_chkI b (pc + 1) r
theorem ux_chkI_at {b : ByteArray} : ∀ (l : List (Option (Instr × Nat))) (pc n : Nat) (q : Instr × Nat), ux_chkI b pc l = true → ux_nth l n = some (some q) → decode b (pc + n) = .ok q ∧ ux_lok q.1 q.2 = true := by
  intro l
  induction l with
  | nil => intro pc n q _ h; cases h
  | cons o r ih =>
    intro pc n q hc h
    unfold ux_chkI at hc
    rw [Bool.and_eq_true] at hc
    cases n with
    | zero =>
      cases h
      have h1 := hc.1
      simp only [Bool.and_eq_true, decide_eq_true_eq] at h1
      exact h1
    | succ n =>
      have := ih (pc + 1) n q hc.2 h
      rw [show pc + 1 + n = pc + (n + 1) by omega] at this
      exact this
def ux_all2 {α β : Type} (f : α → β → Bool) : List α → List β → Bool
  | [], [] => true
  | a :: l, b :: r => f a b && ux_all2 f l r
  | _, _ => false
theorem ux_all2_at {α β : Type} {f : α → β → Bool} : ∀ (l : List α) (r : List β) (n : Nat) (a : α), ux_all2 f l r = true → ux_nth l n = some a → ∃ b, ux_nth r n = some b ∧ f a b = true := by
  intro l
  induction l with
  | nil => intro r n a _ h; cases h
  | cons x l ih =>
    intro r n a hc h
    cases r with
    | nil => cases hc
    | cons y r =>
      unfold ux_all2 at hc
      rw [Bool.and_eq_true] at hc
      cases n with
      | zero => cases h; exact ⟨y, rfl, hc.1⟩
      | succ n => exact ih r n a hc.2 h
def ux_chkH (own : String) (q r : Nat × Nat × Nat × Nat) : Bool := decide (q.1 = r.1 ∧ q.2.1 = r.2.1 ∧ q.2.2.1 = r.2.2.1 ∧ r.2.2.2 ≠ 0 ∧ q.2.2.2 < 3) && ux_in (.classLink own r.2.2.2 (uxEx q.2.2.2).1)
def ux_chk2 (q : ux_J) (m : ux_Ms) : Bool :=
  decide (ux_nth uxOn q.2.1 = some m.1.cls) && decide (q.2.2.2.1 = 0 ∨ q.2.2.2.1 = 4 → m.2.2.1 = none) && decide (q.2.2.2.1 = 1 → m.2.2.1 = some .int) && decide (q.2.2.2.1 = 2 → m.2.2.1 = some .boolean) && (!decide (q.2.2.2.1 = 3) || (match m.2.2.1 with
    | some (.object _) => true
    | _ => false)) && decide (q.2.2.2.1 = 4 → m.1.name = "<init>") && ux_all2 (ux_chkH m.1.cls) q.2.2.2.2 m.2.2.2
def ux_fN (news : List (Nat × Nat)) (own : String) (e : Nat × Nat × Nat × Bool) : Bool := match uxCl[e.2.1]? with
  | none => false
  | some r => decide (e.2.2.1 < r.2.2 ∧ (r.2.1 e.2.2.1).1 = r.1) && ux_in (.fieldLink own e.1 r.1 (r.2.1 e.2.2.1).2.1 (r.2.1 e.2.2.1).2.2.1) && decide (e.2.2.2 = false → uxTy e.2.1 e.2.2.1 = .int) && decide (e.2.2.2 = true → (uxTy e.2.1 e.2.2.1).isReference = true) && decide (ux_key news (200000 + e.1) = some 2000 → (r.2.1 e.2.2.1).2.2.2 = false) && decide (ux_key news (200000 + e.1) = some 2001 → r.1 = own) && decide (e.2.1 < 100)
def ux_nN (own : String) (e : Nat × Nat) : Bool :=
  if e.2 < 100 then (match uxCl[e.2]? with
    | none => false
    | some r => ux_in (.classLink own e.1 r.1) && ux_in (.instantiable r.1 r.2.2) && ux_in (.initialized r.1) && decide ((uxDv e.2).length = r.2.2) && decide (∀ j, j < r.2.2 → (uxDv e.2)[j]? = some (defaultValue (uxTy e.2 j))))
  else if e.2 < 1000 then decide (100000 ≤ e.1) && (match uxAty e.2 with
    | some (.object C) => ux_in (.classLink own (e.1 - 100000) C) && ux_in (.arrayOver (.object C))
    | _ => false)
  else if e.2 < 1003 then ux_in (.classLink own e.1 (uxEx (e.2 - 1000)).1) && ux_in (.initialized (uxEx (e.2 - 1000)).1)
  else decide (2000 ≤ e.2)
def ux_isZ (w : Cond) : Bool := uxZs.any fun z => decide (w = .isRef (.static z.1 z.2.1 z.2.2)) || decide (w = .laysStatic z.1 z.2.1 z.2.2)
def ux_gN (own : String) (e : Nat × Nat × Nat × Nat) : Bool :=
  if e.2.1 = 6 then ux_in (.methodLink own e.1 Lib.objectInit) && ux_in (.instanceMethod Lib.objectInit) && ux_in (.code Lib.objectInit ⟨#[0xb1]⟩ 1 none)
  else if e.2.1 = 7 then ux_in (.methodLink own e.1 Lib.Math.max.name) && ux_in (.static Lib.Math.max.name) && ux_in (.initialized "java/lang/Math") && ux_in (.code Lib.Math.max.name Lib.Math.max.code 2 (some .int))
  else if e.2.1 = 8 then ux_in (.methodLink own e.1 Lib.Math.min.name) && ux_in (.static Lib.Math.min.name) && ux_in (.initialized "java/lang/Math") && ux_in (.code Lib.Math.min.name Lib.Math.min.code 2 (some .int))
  else if e.2.1 = 9 then decide (1000 ≤ e.2.2.1 ∧ e.2.2.1 < 1003) && (Bundle.ownAtoms0 own e.1 (uxEx (e.2.2.1 - 1000)).1 (uxEx (e.2.2.1 - 1000)).2).all (fun w => ux_isZ w || ux_in w)
  else (match ux_nth uxMs e.2.2.1 with
    | none => false
    | some m => plainName m.1.cls && decide (m.1.cls ≠ "java/lang/invoke/MethodHandle" ∧ m.1.cls ≠ "java/lang/invoke/VarHandle" ∧ (parseMethodDescriptor m.1.desc).map (fun d => d.parameters.length) = some e.2.2.2) && decide (0 < e.2.2.1 ∧ e.2.2.1 < 119) &&
      (if e.2.1 = 0 then ux_in (.methodLink own e.1 m.1) && ux_in (.static m.1) && ux_in (.initialized m.1.cls)
       else if e.2.1 = 1 then ux_in (.methodLinkNest own e.1 m.1 "UnitDesk") && ux_in (.static m.1) && ux_in (.initialized m.1.cls)
       else if e.2.1 = 4 then decide (m.1.name = "<init>") && ux_in (.methodLink own e.1 m.1) && ux_in (.instanceMethod m.1) && decide (m.2.2.1 = none ∧ m.2.2.2 = [])
       else if e.2.1 = 5 then decide (m.1.name = "<init>") && ux_in (.methodLinkNest own e.1 m.1 "UnitDesk") && ux_in (.instanceMethod m.1) && decide (m.2.2.1 = none ∧ m.2.2.2 = [])
       else decide (100 ≤ e.2.1) && (match uxCl[e.2.1 - 100]? with
         | none => false
         | some r => ux_in (.methodLink own e.1 m.1) && ux_in (.instanceMethod m.1) && ux_in (.selects r.1 m.1 m.1))))
def ux_chkF (c : ux_Po) (own : String) : Bool := c.1.all (ux_fN c.2.2 own)
def ux_chkG (c : ux_Po) (own : String) : Bool := c.2.1.all (ux_gN own)
def ux_chkN (c : ux_Po) (own : String) : Bool := c.2.2.all (ux_nN own)
def ux_chkC : Nat → List vw_C → Bool
  | _, [] => true
  | ci, r :: l => (u_ws r.1 r.2.1 r.2.2).all ux_in && decide (∀ k, k < r.2.2 → parseFieldDescriptor (r.2.1 k).2.2.1 = some (uxTy ci k)) && decide (∀ a, a < r.2.2 → ∀ b, b < r.2.2 → a ≠ b → (r.2.1 a).2.1 ≠ (r.2.1 b).2.1) && ux_chkC (ci + 1) l
set_option maxRecDepth 20000 in
theorem uxC_chk : ux_chkC 0 uxCl = true := by decide +kernel
set_option maxRecDepth 20000 in
theorem uxF_chk : ux_all2 ux_chkF uxL uxOn = true := by decide +kernel
set_option maxRecDepth 20000 in
theorem uxN_chk : ux_all2 ux_chkN uxL uxOn = true := by decide +kernel
set_option maxRecDepth 20000 in
theorem ux2_chk : ux_all2 ux_chk2 uxJ uxMs = true := by decide +kernel
end
section
set_option maxRecDepth 20000 in
theorem uxG_0 : ux_chkG uxL0 "UnitDesk" = true := by decide +kernel
set_option maxRecDepth 20000 in
theorem uxG_1 : ux_chkG uxL1 "UnitDesk$Compiler" = true := by decide +kernel
set_option maxRecDepth 20000 in
theorem uxG_2 : ux_chkG uxL2 "UnitDesk$Image" = true := by decide +kernel
set_option maxRecDepth 20000 in
theorem uxG_3 : ux_chkG uxL3 "UnitDesk$Machine" = true := by decide +kernel
set_option maxRecDepth 20000 in
theorem uxG_4 : ux_chkG uxL4 "UnitDesk$Shelf" = true := by decide +kernel
set_option maxRecDepth 20000 in
theorem uxG_5 : ux_chkG uxL5 "UnitDesk$Text" = true := by decide +kernel
set_option maxRecDepth 20000 in
theorem uxG_6 : ux_chkG uxL6 "UnitDesk$Unit" = true := by decide +kernel
set_option maxRecDepth 20000 in
theorem uxG_7 : ux_chkG uxL7 "UnitDeskModel" = true := by decide +kernel
set_option maxRecDepth 20000 in
theorem uxG_8 : ux_chkG uxL8 "UnitDesk$Signature" = true := by decide +kernel
set_option maxRecDepth 20000 in
theorem uxG_9 : ux_chkG uxL9 "UnitDeskLaw" = true := by decide +kernel
end
section
theorem uxW_1 : ux_pos 60 (.code (uxM 1).1 (uxM 1).2.1 2 (uxM 1).2.2.1) = true := by decide +kernel
theorem uxW_2 : ux_pos 72 (.code (uxM 2).1 (uxM 2).2.1 1 (uxM 2).2.2.1) = true := by decide +kernel
theorem uxW_3 : ux_pos 91 (.code (uxM 3).1 (uxM 3).2.1 2 (uxM 3).2.2.1) = true := by decide +kernel
theorem uxW_4 : ux_pos 115 (.code (uxM 4).1 (uxM 4).2.1 1 (uxM 4).2.2.1) = true := by decide +kernel
theorem uxW_5 : ux_pos 147 (.code (uxM 5).1 (uxM 5).2.1 1 (uxM 5).2.2.1) = true := by decide +kernel
theorem uxW_6 : ux_pos 162 (.code (uxM 6).1 (uxM 6).2.1 2 (uxM 6).2.2.1) = true := by decide +kernel
theorem uxW_7 : ux_pos 169 (.code (uxM 7).1 (uxM 7).2.1 1 (uxM 7).2.2.1) = true := by decide +kernel
theorem uxW_8 : ux_pos 237 (.code (uxM 8).1 (uxM 8).2.1 2 (uxM 8).2.2.1) = true := by decide +kernel
theorem uxW_9 : ux_pos 241 (.code (uxM 9).1 (uxM 9).2.1 3 (uxM 9).2.2.1) = true := by decide +kernel
theorem uxW_10 : ux_pos 245 (.code (uxM 10).1 (uxM 10).2.1 5 (uxM 10).2.2.1) = true := by decide +kernel
theorem uxW_11 : ux_pos 249 (.code (uxM 11).1 (uxM 11).2.1 5 (uxM 11).2.2.1) = true := by decide +kernel
theorem uxW_12 : ux_pos 253 (.code (uxM 12).1 (uxM 12).2.1 3 (uxM 12).2.2.1) = true := by decide +kernel
theorem uxW_13 : ux_pos 257 (.code (uxM 13).1 (uxM 13).2.1 3 (uxM 13).2.2.1) = true := by decide +kernel
theorem uxW_14 : ux_pos 261 (.code (uxM 14).1 (uxM 14).2.1 1 (uxM 14).2.2.1) = true := by decide +kernel
theorem uxW_15 : ux_pos 265 (.code (uxM 15).1 (uxM 15).2.1 4 (uxM 15).2.2.1) = true := by decide +kernel
theorem uxW_16 : ux_pos 269 (.code (uxM 16).1 (uxM 16).2.1 3 (uxM 16).2.2.1) = true := by decide +kernel
theorem uxW_17 : ux_pos 273 (.code (uxM 17).1 (uxM 17).2.1 3 (uxM 17).2.2.1) = true := by decide +kernel
theorem uxW_18 : ux_pos 276 (.code (uxM 18).1 (uxM 18).2.1 1 (uxM 18).2.2.1) = true := by decide +kernel
theorem uxW_19 : ux_pos 280 (.code (uxM 19).1 (uxM 19).2.1 7 (uxM 19).2.2.1) = true := by decide +kernel
theorem uxW_20 : ux_pos 284 (.code (uxM 20).1 (uxM 20).2.1 5 (uxM 20).2.2.1) = true := by decide +kernel
theorem uxW_21 : ux_pos 288 (.code (uxM 21).1 (uxM 21).2.1 2 (uxM 21).2.2.1) = true := by decide +kernel
theorem uxW_22 : ux_pos 292 (.code (uxM 22).1 (uxM 22).2.1 3 (uxM 22).2.2.1) = true := by decide +kernel
theorem uxW_23 : ux_pos 295 (.code (uxM 23).1 (uxM 23).2.1 1 (uxM 23).2.2.1) = true := by decide +kernel
theorem uxW_24 : ux_pos 299 (.code (uxM 24).1 (uxM 24).2.1 3 (uxM 24).2.2.1) = true := by decide +kernel
theorem uxW_25 : ux_pos 302 (.code (uxM 25).1 (uxM 25).2.1 1 (uxM 25).2.2.1) = true := by decide +kernel
theorem uxW_26 : ux_pos 306 (.code (uxM 26).1 (uxM 26).2.1 3 (uxM 26).2.2.1) = true := by decide +kernel
theorem uxW_27 : ux_pos 309 (.code (uxM 27).1 (uxM 27).2.1 2 (uxM 27).2.2.1) = true := by decide +kernel
theorem uxW_28 : ux_pos 313 (.code (uxM 28).1 (uxM 28).2.1 5 (uxM 28).2.2.1) = true := by decide +kernel
theorem uxW_29 : ux_pos 316 (.code (uxM 29).1 (uxM 29).2.1 1 (uxM 29).2.2.1) = true := by decide +kernel
theorem uxW_30 : ux_pos 320 (.code (uxM 30).1 (uxM 30).2.1 2 (uxM 30).2.2.1) = true := by decide +kernel
theorem uxW_31 : ux_pos 324 (.code (uxM 31).1 (uxM 31).2.1 8 (uxM 31).2.2.1) = true := by decide +kernel
theorem uxW_32 : ux_pos 328 (.code (uxM 32).1 (uxM 32).2.1 4 (uxM 32).2.2.1) = true := by decide +kernel
theorem uxW_33 : ux_pos 332 (.code (uxM 33).1 (uxM 33).2.1 4 (uxM 33).2.2.1) = true := by decide +kernel
theorem uxW_34 : ux_pos 336 (.code (uxM 34).1 (uxM 34).2.1 7 (uxM 34).2.2.1) = true := by decide +kernel
theorem uxW_35 : ux_pos 340 (.code (uxM 35).1 (uxM 35).2.1 1 (uxM 35).2.2.1) = true := by decide +kernel
theorem uxW_36 : ux_pos 344 (.code (uxM 36).1 (uxM 36).2.1 4 (uxM 36).2.2.1) = true := by decide +kernel
theorem uxW_37 : ux_pos 352 (.code (uxM 37).1 (uxM 37).2.1 5 (uxM 37).2.2.1) = true := by decide +kernel
theorem uxW_38 : ux_pos 356 (.code (uxM 38).1 (uxM 38).2.1 1 (uxM 38).2.2.1) = true := by decide +kernel
theorem uxW_39 : ux_pos 360 (.code (uxM 39).1 (uxM 39).2.1 5 (uxM 39).2.2.1) = true := by decide +kernel
theorem uxW_40 : ux_pos 365 (.code (uxM 40).1 (uxM 40).2.1 7 (uxM 40).2.2.1) = true := by decide +kernel
theorem uxW_41 : ux_pos 369 (.code (uxM 41).1 (uxM 41).2.1 2 (uxM 41).2.2.1) = true := by decide +kernel
theorem uxW_42 : ux_pos 372 (.code (uxM 42).1 (uxM 42).2.1 1 (uxM 42).2.2.1) = true := by decide +kernel
theorem uxW_43 : ux_pos 375 (.code (uxM 43).1 (uxM 43).2.1 1 (uxM 43).2.2.1) = true := by decide +kernel
theorem uxW_44 : ux_pos 379 (.code (uxM 44).1 (uxM 44).2.1 1 (uxM 44).2.2.1) = true := by decide +kernel
theorem uxW_45 : ux_pos 383 (.code (uxM 45).1 (uxM 45).2.1 1 (uxM 45).2.2.1) = true := by decide +kernel
theorem uxW_46 : ux_pos 387 (.code (uxM 46).1 (uxM 46).2.1 1 (uxM 46).2.2.1) = true := by decide +kernel
theorem uxW_47 : ux_pos 390 (.codeWith (uxM 47).1 (uxM 47).2.1 6 (uxM 47).2.2.1 (uxM 47).2.2.2) = true := by decide +kernel
theorem uxW_48 : ux_pos 395 (.code (uxM 48).1 (uxM 48).2.1 5 (uxM 48).2.2.1) = true := by decide +kernel
theorem uxW_49 : ux_pos 398 (.code (uxM 49).1 (uxM 49).2.1 1 (uxM 49).2.2.1) = true := by decide +kernel
theorem uxW_50 : ux_pos 465 (.code (uxM 50).1 (uxM 50).2.1 5 (uxM 50).2.2.1) = true := by decide +kernel
theorem uxW_51 : ux_pos 468 (.codeWith (uxM 51).1 (uxM 51).2.1 3 (uxM 51).2.2.1 (uxM 51).2.2.2) = true := by decide +kernel
theorem uxW_52 : ux_pos 472 (.code (uxM 52).1 (uxM 52).2.1 2 (uxM 52).2.2.1) = true := by decide +kernel
theorem uxW_53 : ux_pos 475 (.codeWith (uxM 53).1 (uxM 53).2.1 5 (uxM 53).2.2.1 (uxM 53).2.2.2) = true := by decide +kernel
theorem uxW_54 : ux_pos 480 (.code (uxM 54).1 (uxM 54).2.1 3 (uxM 54).2.2.1) = true := by decide +kernel
theorem uxW_55 : ux_pos 499 (.code (uxM 55).1 (uxM 55).2.1 2 (uxM 55).2.2.1) = true := by decide +kernel
theorem uxW_56 : ux_pos 502 (.codeWith (uxM 56).1 (uxM 56).2.1 5 (uxM 56).2.2.1 (uxM 56).2.2.2) = true := by decide +kernel
theorem uxW_57 : ux_pos 507 (.code (uxM 57).1 (uxM 57).2.1 4 (uxM 57).2.2.1) = true := by decide +kernel
theorem uxW_58 : ux_pos 526 (.codeWith (uxM 58).1 (uxM 58).2.1 4 (uxM 58).2.2.1 (uxM 58).2.2.2) = true := by decide +kernel
theorem uxW_59 : ux_pos 530 (.code (uxM 59).1 (uxM 59).2.1 3 (uxM 59).2.2.1) = true := by decide +kernel
theorem uxW_60 : ux_pos 533 (.codeWith (uxM 60).1 (uxM 60).2.1 4 (uxM 60).2.2.1 (uxM 60).2.2.2) = true := by decide +kernel
theorem uxW_61 : ux_pos 537 (.code (uxM 61).1 (uxM 61).2.1 2 (uxM 61).2.2.1) = true := by decide +kernel
theorem uxW_62 : ux_pos 540 (.codeWith (uxM 62).1 (uxM 62).2.1 5 (uxM 62).2.2.1 (uxM 62).2.2.2) = true := by decide +kernel
theorem uxW_63 : ux_pos 544 (.code (uxM 63).1 (uxM 63).2.1 3 (uxM 63).2.2.1) = true := by decide +kernel
theorem uxW_64 : ux_pos 547 (.codeWith (uxM 64).1 (uxM 64).2.1 4 (uxM 64).2.2.1 (uxM 64).2.2.2) = true := by decide +kernel
theorem uxW_65 : ux_pos 551 (.code (uxM 65).1 (uxM 65).2.1 2 (uxM 65).2.2.1) = true := by decide +kernel
theorem uxW_66 : ux_pos 555 (.codeWith (uxM 66).1 (uxM 66).2.1 8 (uxM 66).2.2.1 (uxM 66).2.2.2) = true := by decide +kernel
theorem uxW_67 : ux_pos 559 (.code (uxM 67).1 (uxM 67).2.1 6 (uxM 67).2.2.1) = true := by decide +kernel
theorem uxW_68 : ux_pos 563 (.code (uxM 68).1 (uxM 68).2.1 7 (uxM 68).2.2.1) = true := by decide +kernel
theorem uxW_69 : ux_pos 567 (.code (uxM 69).1 (uxM 69).2.1 4 (uxM 69).2.2.1) = true := by decide +kernel
theorem uxW_70 : ux_pos 575 (.code (uxM 70).1 (uxM 70).2.1 4 (uxM 70).2.2.1) = true := by decide +kernel
theorem uxW_71 : ux_pos 579 (.code (uxM 71).1 (uxM 71).2.1 4 (uxM 71).2.2.1) = true := by decide +kernel
theorem uxW_72 : ux_pos 583 (.code (uxM 72).1 (uxM 72).2.1 2 (uxM 72).2.2.1) = true := by decide +kernel
theorem uxW_73 : ux_pos 588 (.code (uxM 73).1 (uxM 73).2.1 2 (uxM 73).2.2.1) = true := by decide +kernel
theorem uxW_74 : ux_pos 592 (.code (uxM 74).1 (uxM 74).2.1 3 (uxM 74).2.2.1) = true := by decide +kernel
theorem uxW_75 : ux_pos 596 (.code (uxM 75).1 (uxM 75).2.1 1 (uxM 75).2.2.1) = true := by decide +kernel
theorem uxW_76 : ux_pos 600 (.code (uxM 76).1 (uxM 76).2.1 3 (uxM 76).2.2.1) = true := by decide +kernel
theorem uxW_77 : ux_pos 604 (.code (uxM 77).1 (uxM 77).2.1 2 (uxM 77).2.2.1) = true := by decide +kernel
theorem uxW_78 : ux_pos 609 (.code (uxM 78).1 (uxM 78).2.1 4 (uxM 78).2.2.1) = true := by decide +kernel
theorem uxW_79 : ux_pos 614 (.code (uxM 79).1 (uxM 79).2.1 2 (uxM 79).2.2.1) = true := by decide +kernel
theorem uxW_80 : ux_pos 729 (.code (uxM 80).1 (uxM 80).2.1 1 (uxM 80).2.2.1) = true := by decide +kernel
theorem uxW_81 : ux_pos 733 (.code (uxM 81).1 (uxM 81).2.1 5 (uxM 81).2.2.1) = true := by decide +kernel
theorem uxW_82 : ux_pos 736 (.code (uxM 82).1 (uxM 82).2.1 2 (uxM 82).2.2.1) = true := by decide +kernel
theorem uxW_83 : ux_pos 740 (.code (uxM 83).1 (uxM 83).2.1 3 (uxM 83).2.2.1) = true := by decide +kernel
theorem uxW_84 : ux_pos 744 (.code (uxM 84).1 (uxM 84).2.1 2 (uxM 84).2.2.1) = true := by decide +kernel
theorem uxW_85 : ux_pos 748 (.code (uxM 85).1 (uxM 85).2.1 3 (uxM 85).2.2.1) = true := by decide +kernel
theorem uxW_86 : ux_pos 752 (.code (uxM 86).1 (uxM 86).2.1 4 (uxM 86).2.2.1) = true := by decide +kernel
theorem uxW_87 : ux_pos 756 (.code (uxM 87).1 (uxM 87).2.1 3 (uxM 87).2.2.1) = true := by decide +kernel
theorem uxW_88 : ux_pos 760 (.code (uxM 88).1 (uxM 88).2.1 3 (uxM 88).2.2.1) = true := by decide +kernel
theorem uxW_89 : ux_pos 764 (.code (uxM 89).1 (uxM 89).2.1 3 (uxM 89).2.2.1) = true := by decide +kernel
theorem uxW_90 : ux_pos 768 (.code (uxM 90).1 (uxM 90).2.1 3 (uxM 90).2.2.1) = true := by decide +kernel
theorem uxW_91 : ux_pos 772 (.code (uxM 91).1 (uxM 91).2.1 6 (uxM 91).2.2.1) = true := by decide +kernel
theorem uxW_92 : ux_pos 776 (.code (uxM 92).1 (uxM 92).2.1 7 (uxM 92).2.2.1) = true := by decide +kernel
theorem uxW_93 : ux_pos 780 (.code (uxM 93).1 (uxM 93).2.1 3 (uxM 93).2.2.1) = true := by decide +kernel
theorem uxW_94 : ux_pos 784 (.code (uxM 94).1 (uxM 94).2.1 5 (uxM 94).2.2.1) = true := by decide +kernel
theorem uxW_95 : ux_pos 788 (.code (uxM 95).1 (uxM 95).2.1 2 (uxM 95).2.2.1) = true := by decide +kernel
theorem uxW_96 : ux_pos 792 (.code (uxM 96).1 (uxM 96).2.1 2 (uxM 96).2.2.1) = true := by decide +kernel
theorem uxW_97 : ux_pos 796 (.code (uxM 97).1 (uxM 97).2.1 3 (uxM 97).2.2.1) = true := by decide +kernel
theorem uxW_98 : ux_pos 799 (.code (uxM 98).1 (uxM 98).2.1 1 (uxM 98).2.2.1) = true := by decide +kernel
theorem uxW_99 : ux_pos 803 (.code (uxM 99).1 (uxM 99).2.1 3 (uxM 99).2.2.1) = true := by decide +kernel
theorem uxW_100 : ux_pos 806 (.code (uxM 100).1 (uxM 100).2.1 1 (uxM 100).2.2.1) = true := by decide +kernel
theorem uxW_101 : ux_pos 810 (.code (uxM 101).1 (uxM 101).2.1 2 (uxM 101).2.2.1) = true := by decide +kernel
theorem uxW_102 : ux_pos 814 (.code (uxM 102).1 (uxM 102).2.1 4 (uxM 102).2.2.1) = true := by decide +kernel
theorem uxW_103 : ux_pos 818 (.code (uxM 103).1 (uxM 103).2.1 6 (uxM 103).2.2.1) = true := by decide +kernel
theorem uxW_104 : ux_pos 821 (.code (uxM 104).1 (uxM 104).2.1 1 (uxM 104).2.2.1) = true := by decide +kernel
theorem uxW_105 : ux_pos 825 (.code (uxM 105).1 (uxM 105).2.1 4 (uxM 105).2.2.1) = true := by decide +kernel
theorem uxW_106 : ux_pos 829 (.code (uxM 106).1 (uxM 106).2.1 4 (uxM 106).2.2.1) = true := by decide +kernel
theorem uxW_107 : ux_pos 833 (.code (uxM 107).1 (uxM 107).2.1 5 (uxM 107).2.2.1) = true := by decide +kernel
theorem uxW_108 : ux_pos 837 (.code (uxM 108).1 (uxM 108).2.1 6 (uxM 108).2.2.1) = true := by decide +kernel
theorem uxW_109 : ux_pos 840 (.code (uxM 109).1 (uxM 109).2.1 1 (uxM 109).2.2.1) = true := by decide +kernel
theorem uxW_110 : ux_pos 844 (.code (uxM 110).1 (uxM 110).2.1 2 (uxM 110).2.2.1) = true := by decide +kernel
theorem uxW_111 : ux_pos 848 (.code (uxM 111).1 (uxM 111).2.1 5 (uxM 111).2.2.1) = true := by decide +kernel
theorem uxW_112 : ux_pos 852 (.code (uxM 112).1 (uxM 112).2.1 1 (uxM 112).2.2.1) = true := by decide +kernel
theorem uxW_113 : ux_pos 856 (.code (uxM 113).1 (uxM 113).2.1 2 (uxM 113).2.2.1) = true := by decide +kernel
theorem uxW_114 : ux_pos 860 (.code (uxM 114).1 (uxM 114).2.1 12 (uxM 114).2.2.1) = true := by decide +kernel
theorem uxW_115 : ux_pos 863 (.code (uxM 115).1 (uxM 115).2.1 3 (uxM 115).2.2.1) = true := by decide +kernel
theorem uxW_116 : ux_pos 867 (.code (uxM 116).1 (uxM 116).2.1 3 (uxM 116).2.2.1) = true := by decide +kernel
theorem uxW_117 : ux_pos 871 (.code (uxM 117).1 (uxM 117).2.1 1 (uxM 117).2.2.1) = true := by decide +kernel
theorem uxW_118 : ux_pos 875 (.code (uxM 118).1 (uxM 118).2.1 1 (uxM 118).2.2.1) = true := by decide +kernel
theorem uxWall : ∀ j, 0 < j → j < 119 → ((uxM j).2.2.2 = [] ∧ Cond.code (uxM j).1 (uxM j).2.1 (uxP.2.2.2.2.2.2 j).1 (uxM j).2.2.1 ∈ uxTw) ∨ ((uxM j).2.2.2 ≠ [] ∧ Cond.codeWith (uxM j).1 (uxM j).2.1 (uxP.2.2.2.2.2.2 j).1 (uxM j).2.2.1 (uxM j).2.2.2 ∈ uxTw) := by
  intro j h0 h1
  match j, h0, h1 with
  | 1, _, _ => exact Or.inl ⟨rfl, ux_pos_mem uxW_1⟩
  | 2, _, _ => exact Or.inl ⟨rfl, ux_pos_mem uxW_2⟩
  | 3, _, _ => exact Or.inl ⟨rfl, ux_pos_mem uxW_3⟩
  | 4, _, _ => exact Or.inl ⟨rfl, ux_pos_mem uxW_4⟩
  | 5, _, _ => exact Or.inl ⟨rfl, ux_pos_mem uxW_5⟩
  | 6, _, _ => exact Or.inl ⟨rfl, ux_pos_mem uxW_6⟩
  | 7, _, _ => exact Or.inl ⟨rfl, ux_pos_mem uxW_7⟩
  | 8, _, _ => exact Or.inl ⟨rfl, ux_pos_mem uxW_8⟩
  | 9, _, _ => exact Or.inl ⟨rfl, ux_pos_mem uxW_9⟩
  | 10, _, _ => exact Or.inl ⟨rfl, ux_pos_mem uxW_10⟩
  | 11, _, _ => exact Or.inl ⟨rfl, ux_pos_mem uxW_11⟩
  | 12, _, _ => exact Or.inl ⟨rfl, ux_pos_mem uxW_12⟩
  | 13, _, _ => exact Or.inl ⟨rfl, ux_pos_mem uxW_13⟩
  | 14, _, _ => exact Or.inl ⟨rfl, ux_pos_mem uxW_14⟩
  | 15, _, _ => exact Or.inl ⟨rfl, ux_pos_mem uxW_15⟩
  | 16, _, _ => exact Or.inl ⟨rfl, ux_pos_mem uxW_16⟩
  | 17, _, _ => exact Or.inl ⟨rfl, ux_pos_mem uxW_17⟩
  | 18, _, _ => exact Or.inl ⟨rfl, ux_pos_mem uxW_18⟩
  | 19, _, _ => exact Or.inl ⟨rfl, ux_pos_mem uxW_19⟩
  | 20, _, _ => exact Or.inl ⟨rfl, ux_pos_mem uxW_20⟩
  | 21, _, _ => exact Or.inl ⟨rfl, ux_pos_mem uxW_21⟩
  | 22, _, _ => exact Or.inl ⟨rfl, ux_pos_mem uxW_22⟩
  | 23, _, _ => exact Or.inl ⟨rfl, ux_pos_mem uxW_23⟩
  | 24, _, _ => exact Or.inl ⟨rfl, ux_pos_mem uxW_24⟩
  | 25, _, _ => exact Or.inl ⟨rfl, ux_pos_mem uxW_25⟩
  | 26, _, _ => exact Or.inl ⟨rfl, ux_pos_mem uxW_26⟩
  | 27, _, _ => exact Or.inl ⟨rfl, ux_pos_mem uxW_27⟩
  | 28, _, _ => exact Or.inl ⟨rfl, ux_pos_mem uxW_28⟩
  | 29, _, _ => exact Or.inl ⟨rfl, ux_pos_mem uxW_29⟩
  | 30, _, _ => exact Or.inl ⟨rfl, ux_pos_mem uxW_30⟩
  | 31, _, _ => exact Or.inl ⟨rfl, ux_pos_mem uxW_31⟩
  | 32, _, _ => exact Or.inl ⟨rfl, ux_pos_mem uxW_32⟩
  | 33, _, _ => exact Or.inl ⟨rfl, ux_pos_mem uxW_33⟩
  | 34, _, _ => exact Or.inl ⟨rfl, ux_pos_mem uxW_34⟩
  | 35, _, _ => exact Or.inl ⟨rfl, ux_pos_mem uxW_35⟩
  | 36, _, _ => exact Or.inl ⟨rfl, ux_pos_mem uxW_36⟩
  | 37, _, _ => exact Or.inl ⟨rfl, ux_pos_mem uxW_37⟩
  | 38, _, _ => exact Or.inl ⟨rfl, ux_pos_mem uxW_38⟩
  | 39, _, _ => exact Or.inl ⟨rfl, ux_pos_mem uxW_39⟩
  | 40, _, _ => exact Or.inl ⟨rfl, ux_pos_mem uxW_40⟩
  | 41, _, _ => exact Or.inl ⟨rfl, ux_pos_mem uxW_41⟩
  | 42, _, _ => exact Or.inl ⟨rfl, ux_pos_mem uxW_42⟩
  | 43, _, _ => exact Or.inl ⟨rfl, ux_pos_mem uxW_43⟩
  | 44, _, _ => exact Or.inl ⟨rfl, ux_pos_mem uxW_44⟩
  | 45, _, _ => exact Or.inl ⟨rfl, ux_pos_mem uxW_45⟩
  | 46, _, _ => exact Or.inl ⟨rfl, ux_pos_mem uxW_46⟩
  | 47, _, _ => exact Or.inr ⟨by decide +kernel, ux_pos_mem uxW_47⟩
  | 48, _, _ => exact Or.inl ⟨rfl, ux_pos_mem uxW_48⟩
  | 49, _, _ => exact Or.inl ⟨rfl, ux_pos_mem uxW_49⟩
  | 50, _, _ => exact Or.inl ⟨rfl, ux_pos_mem uxW_50⟩
  | 51, _, _ => exact Or.inr ⟨by decide +kernel, ux_pos_mem uxW_51⟩
  | 52, _, _ => exact Or.inl ⟨rfl, ux_pos_mem uxW_52⟩
  | 53, _, _ => exact Or.inr ⟨by decide +kernel, ux_pos_mem uxW_53⟩
  | 54, _, _ => exact Or.inl ⟨rfl, ux_pos_mem uxW_54⟩
  | 55, _, _ => exact Or.inl ⟨rfl, ux_pos_mem uxW_55⟩
  | 56, _, _ => exact Or.inr ⟨by decide +kernel, ux_pos_mem uxW_56⟩
  | 57, _, _ => exact Or.inl ⟨rfl, ux_pos_mem uxW_57⟩
  | 58, _, _ => exact Or.inr ⟨by decide +kernel, ux_pos_mem uxW_58⟩
  | 59, _, _ => exact Or.inl ⟨rfl, ux_pos_mem uxW_59⟩
  | 60, _, _ => exact Or.inr ⟨by decide +kernel, ux_pos_mem uxW_60⟩
  | 61, _, _ => exact Or.inl ⟨rfl, ux_pos_mem uxW_61⟩
  | 62, _, _ => exact Or.inr ⟨by decide +kernel, ux_pos_mem uxW_62⟩
  | 63, _, _ => exact Or.inl ⟨rfl, ux_pos_mem uxW_63⟩
  | 64, _, _ => exact Or.inr ⟨by decide +kernel, ux_pos_mem uxW_64⟩
  | 65, _, _ => exact Or.inl ⟨rfl, ux_pos_mem uxW_65⟩
  | 66, _, _ => exact Or.inr ⟨by decide +kernel, ux_pos_mem uxW_66⟩
  | 67, _, _ => exact Or.inl ⟨rfl, ux_pos_mem uxW_67⟩
  | 68, _, _ => exact Or.inl ⟨rfl, ux_pos_mem uxW_68⟩
  | 69, _, _ => exact Or.inl ⟨rfl, ux_pos_mem uxW_69⟩
  | 70, _, _ => exact Or.inl ⟨rfl, ux_pos_mem uxW_70⟩
  | 71, _, _ => exact Or.inl ⟨rfl, ux_pos_mem uxW_71⟩
  | 72, _, _ => exact Or.inl ⟨rfl, ux_pos_mem uxW_72⟩
  | 73, _, _ => exact Or.inl ⟨rfl, ux_pos_mem uxW_73⟩
  | 74, _, _ => exact Or.inl ⟨rfl, ux_pos_mem uxW_74⟩
  | 75, _, _ => exact Or.inl ⟨rfl, ux_pos_mem uxW_75⟩
  | 76, _, _ => exact Or.inl ⟨rfl, ux_pos_mem uxW_76⟩
  | 77, _, _ => exact Or.inl ⟨rfl, ux_pos_mem uxW_77⟩
  | 78, _, _ => exact Or.inl ⟨rfl, ux_pos_mem uxW_78⟩
  | 79, _, _ => exact Or.inl ⟨rfl, ux_pos_mem uxW_79⟩
  | 80, _, _ => exact Or.inl ⟨rfl, ux_pos_mem uxW_80⟩
  | 81, _, _ => exact Or.inl ⟨rfl, ux_pos_mem uxW_81⟩
  | 82, _, _ => exact Or.inl ⟨rfl, ux_pos_mem uxW_82⟩
  | 83, _, _ => exact Or.inl ⟨rfl, ux_pos_mem uxW_83⟩
  | 84, _, _ => exact Or.inl ⟨rfl, ux_pos_mem uxW_84⟩
  | 85, _, _ => exact Or.inl ⟨rfl, ux_pos_mem uxW_85⟩
  | 86, _, _ => exact Or.inl ⟨rfl, ux_pos_mem uxW_86⟩
  | 87, _, _ => exact Or.inl ⟨rfl, ux_pos_mem uxW_87⟩
  | 88, _, _ => exact Or.inl ⟨rfl, ux_pos_mem uxW_88⟩
  | 89, _, _ => exact Or.inl ⟨rfl, ux_pos_mem uxW_89⟩
  | 90, _, _ => exact Or.inl ⟨rfl, ux_pos_mem uxW_90⟩
  | 91, _, _ => exact Or.inl ⟨rfl, ux_pos_mem uxW_91⟩
  | 92, _, _ => exact Or.inl ⟨rfl, ux_pos_mem uxW_92⟩
  | 93, _, _ => exact Or.inl ⟨rfl, ux_pos_mem uxW_93⟩
  | 94, _, _ => exact Or.inl ⟨rfl, ux_pos_mem uxW_94⟩
  | 95, _, _ => exact Or.inl ⟨rfl, ux_pos_mem uxW_95⟩
  | 96, _, _ => exact Or.inl ⟨rfl, ux_pos_mem uxW_96⟩
  | 97, _, _ => exact Or.inl ⟨rfl, ux_pos_mem uxW_97⟩
  | 98, _, _ => exact Or.inl ⟨rfl, ux_pos_mem uxW_98⟩
  | 99, _, _ => exact Or.inl ⟨rfl, ux_pos_mem uxW_99⟩
  | 100, _, _ => exact Or.inl ⟨rfl, ux_pos_mem uxW_100⟩
  | 101, _, _ => exact Or.inl ⟨rfl, ux_pos_mem uxW_101⟩
  | 102, _, _ => exact Or.inl ⟨rfl, ux_pos_mem uxW_102⟩
  | 103, _, _ => exact Or.inl ⟨rfl, ux_pos_mem uxW_103⟩
  | 104, _, _ => exact Or.inl ⟨rfl, ux_pos_mem uxW_104⟩
  | 105, _, _ => exact Or.inl ⟨rfl, ux_pos_mem uxW_105⟩
  | 106, _, _ => exact Or.inl ⟨rfl, ux_pos_mem uxW_106⟩
  | 107, _, _ => exact Or.inl ⟨rfl, ux_pos_mem uxW_107⟩
  | 108, _, _ => exact Or.inl ⟨rfl, ux_pos_mem uxW_108⟩
  | 109, _, _ => exact Or.inl ⟨rfl, ux_pos_mem uxW_109⟩
  | 110, _, _ => exact Or.inl ⟨rfl, ux_pos_mem uxW_110⟩
  | 111, _, _ => exact Or.inl ⟨rfl, ux_pos_mem uxW_111⟩
  | 112, _, _ => exact Or.inl ⟨rfl, ux_pos_mem uxW_112⟩
  | 113, _, _ => exact Or.inl ⟨rfl, ux_pos_mem uxW_113⟩
  | 114, _, _ => exact Or.inl ⟨rfl, ux_pos_mem uxW_114⟩
  | 115, _, _ => exact Or.inl ⟨rfl, ux_pos_mem uxW_115⟩
  | 116, _, _ => exact Or.inl ⟨rfl, ux_pos_mem uxW_116⟩
  | 117, _, _ => exact Or.inl ⟨rfl, ux_pos_mem uxW_117⟩
  | 118, _, _ => exact Or.inl ⟨rfl, ux_pos_mem uxW_118⟩
  | n + 119, _, h => omega
end
section
theorem ux_chkI_cut {b : ByteArray} : ∀ (n pc : Nat) (l : List (Option (Instr × Nat))), ux_chkI b pc (l.take n) = true → ux_chkI b (pc + n) (l.drop n) = true → ux_chkI b pc l = true := by
  intro n
  induction n with
  | zero => intro pc l _ h; exact h
  | succ n ih =>
    intro pc l h1 h2
    cases l with
    | nil => rfl
    | cons o r =>
      rw [List.take_succ_cons] at h1
      rw [List.drop_succ_cons] at h2
      unfold ux_chkI at h1 ⊢
      rw [Bool.and_eq_true] at h1 ⊢
      exact ⟨h1.1, ih (pc + 1) r h1.2 (by rw [show pc + 1 + n = pc + (n + 1) by omega]; exact h2)⟩
theorem uxD_0_0 : ux_chkI (uxM 0).2.1 0 (uxJ0.1.take 64) = true := by decide +kernel
theorem uxD_0_1 : ux_chkI (uxM 0).2.1 64 ((uxJ0.1.drop 64).take 64) = true := by decide +kernel
theorem uxD_0_2 : ux_chkI (uxM 0).2.1 128 (((uxJ0.1.drop 64).drop 64).take 64) = true := by decide +kernel
theorem uxD_0_3 : ux_chkI (uxM 0).2.1 192 ((((uxJ0.1.drop 64).drop 64).drop 64).take 64) = true := by decide +kernel
theorem uxD_0_4 : ux_chkI (uxM 0).2.1 256 (((((uxJ0.1.drop 64).drop 64).drop 64).drop 64).take 64) = true := by decide +kernel
theorem uxD_0_5 : ux_chkI (uxM 0).2.1 320 ((((((uxJ0.1.drop 64).drop 64).drop 64).drop 64).drop 64).take 64) = true := by decide +kernel
theorem uxD_0_6 : ux_chkI (uxM 0).2.1 384 (((((((uxJ0.1.drop 64).drop 64).drop 64).drop 64).drop 64).drop 64).take 64) = true := by decide +kernel
theorem uxD_0_7 : ux_chkI (uxM 0).2.1 448 ((((((((uxJ0.1.drop 64).drop 64).drop 64).drop 64).drop 64).drop 64).drop 64).take 64) = true := by decide +kernel
theorem uxD_0_8 : ux_chkI (uxM 0).2.1 512 (((((((((uxJ0.1.drop 64).drop 64).drop 64).drop 64).drop 64).drop 64).drop 64).drop 64).take 64) = true := by decide +kernel
theorem uxD_0_9 : ux_chkI (uxM 0).2.1 576 ((((((((((uxJ0.1.drop 64).drop 64).drop 64).drop 64).drop 64).drop 64).drop 64).drop 64).drop 64).take 64) = true := by decide +kernel
theorem uxD_0_10 : ux_chkI (uxM 0).2.1 640 (((((((((((uxJ0.1.drop 64).drop 64).drop 64).drop 64).drop 64).drop 64).drop 64).drop 64).drop 64).drop 64).take 64) = true := by decide +kernel
theorem uxD_0_11 : ux_chkI (uxM 0).2.1 704 (((((((((((uxJ0.1.drop 64).drop 64).drop 64).drop 64).drop 64).drop 64).drop 64).drop 64).drop 64).drop 64).drop 64) = true := by decide +kernel
theorem uxD_0 : ux_chkI (uxM 0).2.1 0 uxJ0.1 = true := ux_chkI_cut 64 _ _ uxD_0_0 (ux_chkI_cut 64 _ _ uxD_0_1 (ux_chkI_cut 64 _ _ uxD_0_2 (ux_chkI_cut 64 _ _ uxD_0_3 (ux_chkI_cut 64 _ _ uxD_0_4 (ux_chkI_cut 64 _ _ uxD_0_5 (ux_chkI_cut 64 _ _ uxD_0_6 (ux_chkI_cut 64 _ _ uxD_0_7 (ux_chkI_cut 64 _ _ uxD_0_8 (ux_chkI_cut 64 _ _ uxD_0_9 (ux_chkI_cut 64 _ _ uxD_0_10 (uxD_0_11)))))))))))
theorem uxD_1_0 : ux_chkI (uxM 1).2.1 0 (uxJ1.1.take 64) = true := by decide +kernel
theorem uxD_1_1 : ux_chkI (uxM 1).2.1 64 ((uxJ1.1.drop 64).take 64) = true := by decide +kernel
theorem uxD_1_2 : ux_chkI (uxM 1).2.1 128 ((uxJ1.1.drop 64).drop 64) = true := by decide +kernel
theorem uxD_1 : ux_chkI (uxM 1).2.1 0 uxJ1.1 = true := ux_chkI_cut 64 _ _ uxD_1_0 (ux_chkI_cut 64 _ _ uxD_1_1 (uxD_1_2))
theorem uxD_2_0 : ux_chkI (uxM 2).2.1 0 uxJ2.1 = true := by decide +kernel
theorem uxD_2 : ux_chkI (uxM 2).2.1 0 uxJ2.1 = true := uxD_2_0
theorem uxD_3_0 : ux_chkI (uxM 3).2.1 0 uxJ3.1 = true := by decide +kernel
theorem uxD_3 : ux_chkI (uxM 3).2.1 0 uxJ3.1 = true := uxD_3_0
theorem uxD_4_0 : ux_chkI (uxM 4).2.1 0 uxJ4.1 = true := by decide +kernel
theorem uxD_4 : ux_chkI (uxM 4).2.1 0 uxJ4.1 = true := uxD_4_0
theorem uxD_5_0 : ux_chkI (uxM 5).2.1 0 uxJ5.1 = true := by decide +kernel
theorem uxD_5 : ux_chkI (uxM 5).2.1 0 uxJ5.1 = true := uxD_5_0
theorem uxD_6_0 : ux_chkI (uxM 6).2.1 0 uxJ6.1 = true := by decide +kernel
theorem uxD_6 : ux_chkI (uxM 6).2.1 0 uxJ6.1 = true := uxD_6_0
theorem uxD_7_0 : ux_chkI (uxM 7).2.1 0 uxJ7.1 = true := by decide +kernel
theorem uxD_7 : ux_chkI (uxM 7).2.1 0 uxJ7.1 = true := uxD_7_0
theorem uxD_8_0 : ux_chkI (uxM 8).2.1 0 (uxJ8.1.take 64) = true := by decide +kernel
theorem uxD_8_1 : ux_chkI (uxM 8).2.1 64 (uxJ8.1.drop 64) = true := by decide +kernel
theorem uxD_8 : ux_chkI (uxM 8).2.1 0 uxJ8.1 = true := ux_chkI_cut 64 _ _ uxD_8_0 (uxD_8_1)
theorem uxD_9_0 : ux_chkI (uxM 9).2.1 0 (uxJ9.1.take 64) = true := by decide +kernel
theorem uxD_9_1 : ux_chkI (uxM 9).2.1 64 (uxJ9.1.drop 64) = true := by decide +kernel
theorem uxD_9 : ux_chkI (uxM 9).2.1 0 uxJ9.1 = true := ux_chkI_cut 64 _ _ uxD_9_0 (uxD_9_1)
theorem uxD_10_0 : ux_chkI (uxM 10).2.1 0 uxJ10.1 = true := by decide +kernel
theorem uxD_10 : ux_chkI (uxM 10).2.1 0 uxJ10.1 = true := uxD_10_0
theorem uxD_11_0 : ux_chkI (uxM 11).2.1 0 (uxJ11.1.take 64) = true := by decide +kernel
theorem uxD_11_1 : ux_chkI (uxM 11).2.1 64 (uxJ11.1.drop 64) = true := by decide +kernel
theorem uxD_11 : ux_chkI (uxM 11).2.1 0 uxJ11.1 = true := ux_chkI_cut 64 _ _ uxD_11_0 (uxD_11_1)
theorem uxD_12_0 : ux_chkI (uxM 12).2.1 0 uxJ12.1 = true := by decide +kernel
theorem uxD_12 : ux_chkI (uxM 12).2.1 0 uxJ12.1 = true := uxD_12_0
theorem uxD_13_0 : ux_chkI (uxM 13).2.1 0 (uxJ13.1.take 64) = true := by decide +kernel
theorem uxD_13_1 : ux_chkI (uxM 13).2.1 64 (uxJ13.1.drop 64) = true := by decide +kernel
theorem uxD_13 : ux_chkI (uxM 13).2.1 0 uxJ13.1 = true := ux_chkI_cut 64 _ _ uxD_13_0 (uxD_13_1)
theorem uxD_14_0 : ux_chkI (uxM 14).2.1 0 uxJ14.1 = true := by decide +kernel
theorem uxD_14 : ux_chkI (uxM 14).2.1 0 uxJ14.1 = true := uxD_14_0
theorem uxD_15_0 : ux_chkI (uxM 15).2.1 0 uxJ15.1 = true := by decide +kernel
theorem uxD_15 : ux_chkI (uxM 15).2.1 0 uxJ15.1 = true := uxD_15_0
theorem uxD_16_0 : ux_chkI (uxM 16).2.1 0 uxJ16.1 = true := by decide +kernel
theorem uxD_16 : ux_chkI (uxM 16).2.1 0 uxJ16.1 = true := uxD_16_0
theorem uxD_17_0 : ux_chkI (uxM 17).2.1 0 (uxJ17.1.take 64) = true := by decide +kernel
theorem uxD_17_1 : ux_chkI (uxM 17).2.1 64 (uxJ17.1.drop 64) = true := by decide +kernel
theorem uxD_17 : ux_chkI (uxM 17).2.1 0 uxJ17.1 = true := ux_chkI_cut 64 _ _ uxD_17_0 (uxD_17_1)
theorem uxD_18_0 : ux_chkI (uxM 18).2.1 0 uxJ18.1 = true := by decide +kernel
theorem uxD_18 : ux_chkI (uxM 18).2.1 0 uxJ18.1 = true := uxD_18_0
end
section
theorem uxD_19_0 : ux_chkI (uxM 19).2.1 0 uxJ19.1 = true := by decide +kernel
theorem uxD_19 : ux_chkI (uxM 19).2.1 0 uxJ19.1 = true := uxD_19_0
theorem uxD_20_0 : ux_chkI (uxM 20).2.1 0 (uxJ20.1.take 64) = true := by decide +kernel
theorem uxD_20_1 : ux_chkI (uxM 20).2.1 64 ((uxJ20.1.drop 64).take 64) = true := by decide +kernel
theorem uxD_20_2 : ux_chkI (uxM 20).2.1 128 ((uxJ20.1.drop 64).drop 64) = true := by decide +kernel
theorem uxD_20 : ux_chkI (uxM 20).2.1 0 uxJ20.1 = true := ux_chkI_cut 64 _ _ uxD_20_0 (ux_chkI_cut 64 _ _ uxD_20_1 (uxD_20_2))
theorem uxD_21_0 : ux_chkI (uxM 21).2.1 0 uxJ21.1 = true := by decide +kernel
theorem uxD_21 : ux_chkI (uxM 21).2.1 0 uxJ21.1 = true := uxD_21_0
theorem uxD_22_0 : ux_chkI (uxM 22).2.1 0 uxJ22.1 = true := by decide +kernel
theorem uxD_22 : ux_chkI (uxM 22).2.1 0 uxJ22.1 = true := uxD_22_0
theorem uxD_23_0 : ux_chkI (uxM 23).2.1 0 uxJ23.1 = true := by decide +kernel
theorem uxD_23 : ux_chkI (uxM 23).2.1 0 uxJ23.1 = true := uxD_23_0
theorem uxD_24_0 : ux_chkI (uxM 24).2.1 0 uxJ24.1 = true := by decide +kernel
theorem uxD_24 : ux_chkI (uxM 24).2.1 0 uxJ24.1 = true := uxD_24_0
theorem uxD_25_0 : ux_chkI (uxM 25).2.1 0 uxJ25.1 = true := by decide +kernel
theorem uxD_25 : ux_chkI (uxM 25).2.1 0 uxJ25.1 = true := uxD_25_0
theorem uxD_26_0 : ux_chkI (uxM 26).2.1 0 uxJ26.1 = true := by decide +kernel
theorem uxD_26 : ux_chkI (uxM 26).2.1 0 uxJ26.1 = true := uxD_26_0
theorem uxD_27_0 : ux_chkI (uxM 27).2.1 0 uxJ27.1 = true := by decide +kernel
theorem uxD_27 : ux_chkI (uxM 27).2.1 0 uxJ27.1 = true := uxD_27_0
theorem uxD_28_0 : ux_chkI (uxM 28).2.1 0 (uxJ28.1.take 64) = true := by decide +kernel
theorem uxD_28_1 : ux_chkI (uxM 28).2.1 64 (uxJ28.1.drop 64) = true := by decide +kernel
theorem uxD_28 : ux_chkI (uxM 28).2.1 0 uxJ28.1 = true := ux_chkI_cut 64 _ _ uxD_28_0 (uxD_28_1)
theorem uxD_29_0 : ux_chkI (uxM 29).2.1 0 uxJ29.1 = true := by decide +kernel
theorem uxD_29 : ux_chkI (uxM 29).2.1 0 uxJ29.1 = true := uxD_29_0
theorem uxD_30_0 : ux_chkI (uxM 30).2.1 0 uxJ30.1 = true := by decide +kernel
theorem uxD_30 : ux_chkI (uxM 30).2.1 0 uxJ30.1 = true := uxD_30_0
theorem uxD_31_0 : ux_chkI (uxM 31).2.1 0 (uxJ31.1.take 64) = true := by decide +kernel
theorem uxD_31_1 : ux_chkI (uxM 31).2.1 64 (uxJ31.1.drop 64) = true := by decide +kernel
theorem uxD_31 : ux_chkI (uxM 31).2.1 0 uxJ31.1 = true := ux_chkI_cut 64 _ _ uxD_31_0 (uxD_31_1)
theorem uxD_32_0 : ux_chkI (uxM 32).2.1 0 uxJ32.1 = true := by decide +kernel
theorem uxD_32 : ux_chkI (uxM 32).2.1 0 uxJ32.1 = true := uxD_32_0
theorem uxD_33_0 : ux_chkI (uxM 33).2.1 0 uxJ33.1 = true := by decide +kernel
theorem uxD_33 : ux_chkI (uxM 33).2.1 0 uxJ33.1 = true := uxD_33_0
theorem uxD_34_0 : ux_chkI (uxM 34).2.1 0 (uxJ34.1.take 64) = true := by decide +kernel
theorem uxD_34_1 : ux_chkI (uxM 34).2.1 64 (uxJ34.1.drop 64) = true := by decide +kernel
theorem uxD_34 : ux_chkI (uxM 34).2.1 0 uxJ34.1 = true := ux_chkI_cut 64 _ _ uxD_34_0 (uxD_34_1)
theorem uxD_35_0 : ux_chkI (uxM 35).2.1 0 uxJ35.1 = true := by decide +kernel
theorem uxD_35 : ux_chkI (uxM 35).2.1 0 uxJ35.1 = true := uxD_35_0
theorem uxD_36_0 : ux_chkI (uxM 36).2.1 0 uxJ36.1 = true := by decide +kernel
theorem uxD_36 : ux_chkI (uxM 36).2.1 0 uxJ36.1 = true := uxD_36_0
theorem uxD_37_0 : ux_chkI (uxM 37).2.1 0 (uxJ37.1.take 64) = true := by decide +kernel
theorem uxD_37_1 : ux_chkI (uxM 37).2.1 64 (uxJ37.1.drop 64) = true := by decide +kernel
theorem uxD_37 : ux_chkI (uxM 37).2.1 0 uxJ37.1 = true := ux_chkI_cut 64 _ _ uxD_37_0 (uxD_37_1)
theorem uxD_38_0 : ux_chkI (uxM 38).2.1 0 uxJ38.1 = true := by decide +kernel
theorem uxD_38 : ux_chkI (uxM 38).2.1 0 uxJ38.1 = true := uxD_38_0
theorem uxD_39_0 : ux_chkI (uxM 39).2.1 0 (uxJ39.1.take 64) = true := by decide +kernel
theorem uxD_39_1 : ux_chkI (uxM 39).2.1 64 (uxJ39.1.drop 64) = true := by decide +kernel
theorem uxD_39 : ux_chkI (uxM 39).2.1 0 uxJ39.1 = true := ux_chkI_cut 64 _ _ uxD_39_0 (uxD_39_1)
theorem uxD_40_0 : ux_chkI (uxM 40).2.1 0 (uxJ40.1.take 64) = true := by decide +kernel
theorem uxD_40_1 : ux_chkI (uxM 40).2.1 64 (uxJ40.1.drop 64) = true := by decide +kernel
theorem uxD_40 : ux_chkI (uxM 40).2.1 0 uxJ40.1 = true := ux_chkI_cut 64 _ _ uxD_40_0 (uxD_40_1)
theorem uxD_41_0 : ux_chkI (uxM 41).2.1 0 uxJ41.1 = true := by decide +kernel
theorem uxD_41 : ux_chkI (uxM 41).2.1 0 uxJ41.1 = true := uxD_41_0
theorem uxD_42_0 : ux_chkI (uxM 42).2.1 0 uxJ42.1 = true := by decide +kernel
theorem uxD_42 : ux_chkI (uxM 42).2.1 0 uxJ42.1 = true := uxD_42_0
theorem uxD_43_0 : ux_chkI (uxM 43).2.1 0 uxJ43.1 = true := by decide +kernel
theorem uxD_43 : ux_chkI (uxM 43).2.1 0 uxJ43.1 = true := uxD_43_0
theorem uxD_44_0 : ux_chkI (uxM 44).2.1 0 uxJ44.1 = true := by decide +kernel
theorem uxD_44 : ux_chkI (uxM 44).2.1 0 uxJ44.1 = true := uxD_44_0
theorem uxD_45_0 : ux_chkI (uxM 45).2.1 0 uxJ45.1 = true := by decide +kernel
theorem uxD_45 : ux_chkI (uxM 45).2.1 0 uxJ45.1 = true := uxD_45_0
theorem uxD_46_0 : ux_chkI (uxM 46).2.1 0 uxJ46.1 = true := by decide +kernel
theorem uxD_46 : ux_chkI (uxM 46).2.1 0 uxJ46.1 = true := uxD_46_0
theorem uxD_47_0 : ux_chkI (uxM 47).2.1 0 uxJ47.1 = true := by decide +kernel
theorem uxD_47 : ux_chkI (uxM 47).2.1 0 uxJ47.1 = true := uxD_47_0
theorem uxD_48_0 : ux_chkI (uxM 48).2.1 0 uxJ48.1 = true := by decide +kernel
theorem uxD_48 : ux_chkI (uxM 48).2.1 0 uxJ48.1 = true := uxD_48_0
theorem uxD_49_0 : ux_chkI (uxM 49).2.1 0 uxJ49.1 = true := by decide +kernel
theorem uxD_49 : ux_chkI (uxM 49).2.1 0 uxJ49.1 = true := uxD_49_0
theorem uxD_50_0 : ux_chkI (uxM 50).2.1 0 uxJ50.1 = true := by decide +kernel
theorem uxD_50 : ux_chkI (uxM 50).2.1 0 uxJ50.1 = true := uxD_50_0
theorem uxD_51_0 : ux_chkI (uxM 51).2.1 0 uxJ51.1 = true := by decide +kernel
theorem uxD_51 : ux_chkI (uxM 51).2.1 0 uxJ51.1 = true := uxD_51_0
theorem uxD_52_0 : ux_chkI (uxM 52).2.1 0 uxJ52.1 = true := by decide +kernel
theorem uxD_52 : ux_chkI (uxM 52).2.1 0 uxJ52.1 = true := uxD_52_0
theorem uxD_53_0 : ux_chkI (uxM 53).2.1 0 uxJ53.1 = true := by decide +kernel
theorem uxD_53 : ux_chkI (uxM 53).2.1 0 uxJ53.1 = true := uxD_53_0
theorem uxD_54_0 : ux_chkI (uxM 54).2.1 0 uxJ54.1 = true := by decide +kernel
theorem uxD_54 : ux_chkI (uxM 54).2.1 0 uxJ54.1 = true := uxD_54_0
theorem uxD_55_0 : ux_chkI (uxM 55).2.1 0 uxJ55.1 = true := by decide +kernel
theorem uxD_55 : ux_chkI (uxM 55).2.1 0 uxJ55.1 = true := uxD_55_0
theorem uxD_56_0 : ux_chkI (uxM 56).2.1 0 uxJ56.1 = true := by decide +kernel
theorem uxD_56 : ux_chkI (uxM 56).2.1 0 uxJ56.1 = true := uxD_56_0
theorem uxD_57_0 : ux_chkI (uxM 57).2.1 0 uxJ57.1 = true := by decide +kernel
theorem uxD_57 : ux_chkI (uxM 57).2.1 0 uxJ57.1 = true := uxD_57_0
theorem uxD_58_0 : ux_chkI (uxM 58).2.1 0 uxJ58.1 = true := by decide +kernel
theorem uxD_58 : ux_chkI (uxM 58).2.1 0 uxJ58.1 = true := uxD_58_0
theorem uxD_59_0 : ux_chkI (uxM 59).2.1 0 uxJ59.1 = true := by decide +kernel
theorem uxD_59 : ux_chkI (uxM 59).2.1 0 uxJ59.1 = true := uxD_59_0
theorem uxD_60_0 : ux_chkI (uxM 60).2.1 0 uxJ60.1 = true := by decide +kernel
theorem uxD_60 : ux_chkI (uxM 60).2.1 0 uxJ60.1 = true := uxD_60_0
theorem uxD_61_0 : ux_chkI (uxM 61).2.1 0 uxJ61.1 = true := by decide +kernel
theorem uxD_61 : ux_chkI (uxM 61).2.1 0 uxJ61.1 = true := uxD_61_0
theorem uxD_62_0 : ux_chkI (uxM 62).2.1 0 uxJ62.1 = true := by decide +kernel
theorem uxD_62 : ux_chkI (uxM 62).2.1 0 uxJ62.1 = true := uxD_62_0
theorem uxD_63_0 : ux_chkI (uxM 63).2.1 0 (uxJ63.1.take 64) = true := by decide +kernel
theorem uxD_63_1 : ux_chkI (uxM 63).2.1 64 (uxJ63.1.drop 64) = true := by decide +kernel
theorem uxD_63 : ux_chkI (uxM 63).2.1 0 uxJ63.1 = true := ux_chkI_cut 64 _ _ uxD_63_0 (uxD_63_1)
theorem uxD_64_0 : ux_chkI (uxM 64).2.1 0 uxJ64.1 = true := by decide +kernel
theorem uxD_64 : ux_chkI (uxM 64).2.1 0 uxJ64.1 = true := uxD_64_0
theorem uxD_65_0 : ux_chkI (uxM 65).2.1 0 uxJ65.1 = true := by decide +kernel
theorem uxD_65 : ux_chkI (uxM 65).2.1 0 uxJ65.1 = true := uxD_65_0
theorem uxD_66_0 : ux_chkI (uxM 66).2.1 0 uxJ66.1 = true := by decide +kernel
theorem uxD_66 : ux_chkI (uxM 66).2.1 0 uxJ66.1 = true := uxD_66_0
end
section
theorem uxD_67_0 : ux_chkI (uxM 67).2.1 0 (uxJ67.1.take 64) = true := by decide +kernel
theorem uxD_67_1 : ux_chkI (uxM 67).2.1 64 (uxJ67.1.drop 64) = true := by decide +kernel
theorem uxD_67 : ux_chkI (uxM 67).2.1 0 uxJ67.1 = true := ux_chkI_cut 64 _ _ uxD_67_0 (uxD_67_1)
theorem uxD_68_0 : ux_chkI (uxM 68).2.1 0 uxJ68.1 = true := by decide +kernel
theorem uxD_68 : ux_chkI (uxM 68).2.1 0 uxJ68.1 = true := uxD_68_0
theorem uxD_69_0 : ux_chkI (uxM 69).2.1 0 uxJ69.1 = true := by decide +kernel
theorem uxD_69 : ux_chkI (uxM 69).2.1 0 uxJ69.1 = true := uxD_69_0
theorem uxD_70_0 : ux_chkI (uxM 70).2.1 0 (uxJ70.1.take 64) = true := by decide +kernel
theorem uxD_70_1 : ux_chkI (uxM 70).2.1 64 (uxJ70.1.drop 64) = true := by decide +kernel
theorem uxD_70 : ux_chkI (uxM 70).2.1 0 uxJ70.1 = true := ux_chkI_cut 64 _ _ uxD_70_0 (uxD_70_1)
theorem uxD_71_0 : ux_chkI (uxM 71).2.1 0 (uxJ71.1.take 64) = true := by decide +kernel
theorem uxD_71_1 : ux_chkI (uxM 71).2.1 64 ((uxJ71.1.drop 64).take 64) = true := by decide +kernel
theorem uxD_71_2 : ux_chkI (uxM 71).2.1 128 ((uxJ71.1.drop 64).drop 64) = true := by decide +kernel
theorem uxD_71 : ux_chkI (uxM 71).2.1 0 uxJ71.1 = true := ux_chkI_cut 64 _ _ uxD_71_0 (ux_chkI_cut 64 _ _ uxD_71_1 (uxD_71_2))
theorem uxD_72_0 : ux_chkI (uxM 72).2.1 0 uxJ72.1 = true := by decide +kernel
theorem uxD_72 : ux_chkI (uxM 72).2.1 0 uxJ72.1 = true := uxD_72_0
theorem uxD_73_0 : ux_chkI (uxM 73).2.1 0 uxJ73.1 = true := by decide +kernel
theorem uxD_73 : ux_chkI (uxM 73).2.1 0 uxJ73.1 = true := uxD_73_0
theorem uxD_74_0 : ux_chkI (uxM 74).2.1 0 uxJ74.1 = true := by decide +kernel
theorem uxD_74 : ux_chkI (uxM 74).2.1 0 uxJ74.1 = true := uxD_74_0
theorem uxD_75_0 : ux_chkI (uxM 75).2.1 0 uxJ75.1 = true := by decide +kernel
theorem uxD_75 : ux_chkI (uxM 75).2.1 0 uxJ75.1 = true := uxD_75_0
theorem uxD_76_0 : ux_chkI (uxM 76).2.1 0 uxJ76.1 = true := by decide +kernel
theorem uxD_76 : ux_chkI (uxM 76).2.1 0 uxJ76.1 = true := uxD_76_0
theorem uxD_77_0 : ux_chkI (uxM 77).2.1 0 (uxJ77.1.take 64) = true := by decide +kernel
theorem uxD_77_1 : ux_chkI (uxM 77).2.1 64 (uxJ77.1.drop 64) = true := by decide +kernel
theorem uxD_77 : ux_chkI (uxM 77).2.1 0 uxJ77.1 = true := ux_chkI_cut 64 _ _ uxD_77_0 (uxD_77_1)
theorem uxD_78_0 : ux_chkI (uxM 78).2.1 0 (uxJ78.1.take 64) = true := by decide +kernel
theorem uxD_78_1 : ux_chkI (uxM 78).2.1 64 (uxJ78.1.drop 64) = true := by decide +kernel
theorem uxD_78 : ux_chkI (uxM 78).2.1 0 uxJ78.1 = true := ux_chkI_cut 64 _ _ uxD_78_0 (uxD_78_1)
theorem uxD_79_0 : ux_chkI (uxM 79).2.1 0 (uxJ79.1.take 64) = true := by decide +kernel
theorem uxD_79_1 : ux_chkI (uxM 79).2.1 64 ((uxJ79.1.drop 64).take 64) = true := by decide +kernel
theorem uxD_79_2 : ux_chkI (uxM 79).2.1 128 (((uxJ79.1.drop 64).drop 64).take 64) = true := by decide +kernel
theorem uxD_79_3 : ux_chkI (uxM 79).2.1 192 (((uxJ79.1.drop 64).drop 64).drop 64) = true := by decide +kernel
theorem uxD_79 : ux_chkI (uxM 79).2.1 0 uxJ79.1 = true := ux_chkI_cut 64 _ _ uxD_79_0 (ux_chkI_cut 64 _ _ uxD_79_1 (ux_chkI_cut 64 _ _ uxD_79_2 (uxD_79_3)))
theorem uxD_80_0 : ux_chkI (uxM 80).2.1 0 uxJ80.1 = true := by decide +kernel
theorem uxD_80 : ux_chkI (uxM 80).2.1 0 uxJ80.1 = true := uxD_80_0
theorem uxD_81_0 : ux_chkI (uxM 81).2.1 0 (uxJ81.1.take 64) = true := by decide +kernel
theorem uxD_81_1 : ux_chkI (uxM 81).2.1 64 (uxJ81.1.drop 64) = true := by decide +kernel
theorem uxD_81 : ux_chkI (uxM 81).2.1 0 uxJ81.1 = true := ux_chkI_cut 64 _ _ uxD_81_0 (uxD_81_1)
theorem uxD_82_0 : ux_chkI (uxM 82).2.1 0 uxJ82.1 = true := by decide +kernel
theorem uxD_82 : ux_chkI (uxM 82).2.1 0 uxJ82.1 = true := uxD_82_0
theorem uxD_83_0 : ux_chkI (uxM 83).2.1 0 uxJ83.1 = true := by decide +kernel
theorem uxD_83 : ux_chkI (uxM 83).2.1 0 uxJ83.1 = true := uxD_83_0
theorem uxD_84_0 : ux_chkI (uxM 84).2.1 0 uxJ84.1 = true := by decide +kernel
theorem uxD_84 : ux_chkI (uxM 84).2.1 0 uxJ84.1 = true := uxD_84_0
theorem uxD_85_0 : ux_chkI (uxM 85).2.1 0 (uxJ85.1.take 64) = true := by decide +kernel
theorem uxD_85_1 : ux_chkI (uxM 85).2.1 64 (uxJ85.1.drop 64) = true := by decide +kernel
theorem uxD_85 : ux_chkI (uxM 85).2.1 0 uxJ85.1 = true := ux_chkI_cut 64 _ _ uxD_85_0 (uxD_85_1)
theorem uxD_86_0 : ux_chkI (uxM 86).2.1 0 uxJ86.1 = true := by decide +kernel
theorem uxD_86 : ux_chkI (uxM 86).2.1 0 uxJ86.1 = true := uxD_86_0
theorem uxD_87_0 : ux_chkI (uxM 87).2.1 0 uxJ87.1 = true := by decide +kernel
theorem uxD_87 : ux_chkI (uxM 87).2.1 0 uxJ87.1 = true := uxD_87_0
theorem uxD_88_0 : ux_chkI (uxM 88).2.1 0 (uxJ88.1.take 64) = true := by decide +kernel
theorem uxD_88_1 : ux_chkI (uxM 88).2.1 64 ((uxJ88.1.drop 64).take 64) = true := by decide +kernel
theorem uxD_88_2 : ux_chkI (uxM 88).2.1 128 ((uxJ88.1.drop 64).drop 64) = true := by decide +kernel
theorem uxD_88 : ux_chkI (uxM 88).2.1 0 uxJ88.1 = true := ux_chkI_cut 64 _ _ uxD_88_0 (ux_chkI_cut 64 _ _ uxD_88_1 (uxD_88_2))
theorem uxD_89_0 : ux_chkI (uxM 89).2.1 0 (uxJ89.1.take 64) = true := by decide +kernel
theorem uxD_89_1 : ux_chkI (uxM 89).2.1 64 ((uxJ89.1.drop 64).take 64) = true := by decide +kernel
theorem uxD_89_2 : ux_chkI (uxM 89).2.1 128 ((uxJ89.1.drop 64).drop 64) = true := by decide +kernel
theorem uxD_89 : ux_chkI (uxM 89).2.1 0 uxJ89.1 = true := ux_chkI_cut 64 _ _ uxD_89_0 (ux_chkI_cut 64 _ _ uxD_89_1 (uxD_89_2))
theorem uxD_90_0 : ux_chkI (uxM 90).2.1 0 uxJ90.1 = true := by decide +kernel
theorem uxD_90 : ux_chkI (uxM 90).2.1 0 uxJ90.1 = true := uxD_90_0
theorem uxD_91_0 : ux_chkI (uxM 91).2.1 0 (uxJ91.1.take 64) = true := by decide +kernel
theorem uxD_91_1 : ux_chkI (uxM 91).2.1 64 ((uxJ91.1.drop 64).take 64) = true := by decide +kernel
theorem uxD_91_2 : ux_chkI (uxM 91).2.1 128 ((uxJ91.1.drop 64).drop 64) = true := by decide +kernel
theorem uxD_91 : ux_chkI (uxM 91).2.1 0 uxJ91.1 = true := ux_chkI_cut 64 _ _ uxD_91_0 (ux_chkI_cut 64 _ _ uxD_91_1 (uxD_91_2))
end
section
theorem uxD_92_0 : ux_chkI (uxM 92).2.1 0 (uxJ92.1.take 64) = true := by decide +kernel
theorem uxD_92_1 : ux_chkI (uxM 92).2.1 64 ((uxJ92.1.drop 64).take 64) = true := by decide +kernel
theorem uxD_92_2 : ux_chkI (uxM 92).2.1 128 (((uxJ92.1.drop 64).drop 64).take 64) = true := by decide +kernel
theorem uxD_92_3 : ux_chkI (uxM 92).2.1 192 (((uxJ92.1.drop 64).drop 64).drop 64) = true := by decide +kernel
theorem uxD_92 : ux_chkI (uxM 92).2.1 0 uxJ92.1 = true := ux_chkI_cut 64 _ _ uxD_92_0 (ux_chkI_cut 64 _ _ uxD_92_1 (ux_chkI_cut 64 _ _ uxD_92_2 (uxD_92_3)))
theorem uxD_93_0 : ux_chkI (uxM 93).2.1 0 uxJ93.1 = true := by decide +kernel
theorem uxD_93 : ux_chkI (uxM 93).2.1 0 uxJ93.1 = true := uxD_93_0
theorem uxD_94_0 : ux_chkI (uxM 94).2.1 0 (uxJ94.1.take 64) = true := by decide +kernel
theorem uxD_94_1 : ux_chkI (uxM 94).2.1 64 ((uxJ94.1.drop 64).take 64) = true := by decide +kernel
theorem uxD_94_2 : ux_chkI (uxM 94).2.1 128 (((uxJ94.1.drop 64).drop 64).take 64) = true := by decide +kernel
theorem uxD_94_3 : ux_chkI (uxM 94).2.1 192 (((uxJ94.1.drop 64).drop 64).drop 64) = true := by decide +kernel
theorem uxD_94 : ux_chkI (uxM 94).2.1 0 uxJ94.1 = true := ux_chkI_cut 64 _ _ uxD_94_0 (ux_chkI_cut 64 _ _ uxD_94_1 (ux_chkI_cut 64 _ _ uxD_94_2 (uxD_94_3)))
theorem uxD_95_0 : ux_chkI (uxM 95).2.1 0 uxJ95.1 = true := by decide +kernel
theorem uxD_95 : ux_chkI (uxM 95).2.1 0 uxJ95.1 = true := uxD_95_0
theorem uxD_96_0 : ux_chkI (uxM 96).2.1 0 uxJ96.1 = true := by decide +kernel
theorem uxD_96 : ux_chkI (uxM 96).2.1 0 uxJ96.1 = true := uxD_96_0
theorem uxD_97_0 : ux_chkI (uxM 97).2.1 0 uxJ97.1 = true := by decide +kernel
theorem uxD_97 : ux_chkI (uxM 97).2.1 0 uxJ97.1 = true := uxD_97_0
theorem uxD_98_0 : ux_chkI (uxM 98).2.1 0 uxJ98.1 = true := by decide +kernel
theorem uxD_98 : ux_chkI (uxM 98).2.1 0 uxJ98.1 = true := uxD_98_0
theorem uxD_99_0 : ux_chkI (uxM 99).2.1 0 uxJ99.1 = true := by decide +kernel
theorem uxD_99 : ux_chkI (uxM 99).2.1 0 uxJ99.1 = true := uxD_99_0
theorem uxD_100_0 : ux_chkI (uxM 100).2.1 0 uxJ100.1 = true := by decide +kernel
theorem uxD_100 : ux_chkI (uxM 100).2.1 0 uxJ100.1 = true := uxD_100_0
theorem uxD_101_0 : ux_chkI (uxM 101).2.1 0 uxJ101.1 = true := by decide +kernel
theorem uxD_101 : ux_chkI (uxM 101).2.1 0 uxJ101.1 = true := uxD_101_0
theorem uxD_102_0 : ux_chkI (uxM 102).2.1 0 (uxJ102.1.take 64) = true := by decide +kernel
theorem uxD_102_1 : ux_chkI (uxM 102).2.1 64 (uxJ102.1.drop 64) = true := by decide +kernel
theorem uxD_102 : ux_chkI (uxM 102).2.1 0 uxJ102.1 = true := ux_chkI_cut 64 _ _ uxD_102_0 (uxD_102_1)
theorem uxD_103_0 : ux_chkI (uxM 103).2.1 0 (uxJ103.1.take 64) = true := by decide +kernel
theorem uxD_103_1 : ux_chkI (uxM 103).2.1 64 ((uxJ103.1.drop 64).take 64) = true := by decide +kernel
theorem uxD_103_2 : ux_chkI (uxM 103).2.1 128 (((uxJ103.1.drop 64).drop 64).take 64) = true := by decide +kernel
theorem uxD_103_3 : ux_chkI (uxM 103).2.1 192 ((((uxJ103.1.drop 64).drop 64).drop 64).take 64) = true := by decide +kernel
theorem uxD_103_4 : ux_chkI (uxM 103).2.1 256 ((((uxJ103.1.drop 64).drop 64).drop 64).drop 64) = true := by decide +kernel
theorem uxD_103 : ux_chkI (uxM 103).2.1 0 uxJ103.1 = true := ux_chkI_cut 64 _ _ uxD_103_0 (ux_chkI_cut 64 _ _ uxD_103_1 (ux_chkI_cut 64 _ _ uxD_103_2 (ux_chkI_cut 64 _ _ uxD_103_3 (uxD_103_4))))
theorem uxD_104_0 : ux_chkI (uxM 104).2.1 0 uxJ104.1 = true := by decide +kernel
theorem uxD_104 : ux_chkI (uxM 104).2.1 0 uxJ104.1 = true := uxD_104_0
theorem uxD_105_0 : ux_chkI (uxM 105).2.1 0 (uxJ105.1.take 64) = true := by decide +kernel
theorem uxD_105_1 : ux_chkI (uxM 105).2.1 64 ((uxJ105.1.drop 64).take 64) = true := by decide +kernel
theorem uxD_105_2 : ux_chkI (uxM 105).2.1 128 ((uxJ105.1.drop 64).drop 64) = true := by decide +kernel
theorem uxD_105 : ux_chkI (uxM 105).2.1 0 uxJ105.1 = true := ux_chkI_cut 64 _ _ uxD_105_0 (ux_chkI_cut 64 _ _ uxD_105_1 (uxD_105_2))
theorem uxD_106_0 : ux_chkI (uxM 106).2.1 0 uxJ106.1 = true := by decide +kernel
theorem uxD_106 : ux_chkI (uxM 106).2.1 0 uxJ106.1 = true := uxD_106_0
theorem uxD_107_0 : ux_chkI (uxM 107).2.1 0 (uxJ107.1.take 64) = true := by decide +kernel
theorem uxD_107_1 : ux_chkI (uxM 107).2.1 64 (uxJ107.1.drop 64) = true := by decide +kernel
theorem uxD_107 : ux_chkI (uxM 107).2.1 0 uxJ107.1 = true := ux_chkI_cut 64 _ _ uxD_107_0 (uxD_107_1)
theorem uxD_108_0 : ux_chkI (uxM 108).2.1 0 (uxJ108.1.take 64) = true := by decide +kernel
theorem uxD_108_1 : ux_chkI (uxM 108).2.1 64 ((uxJ108.1.drop 64).take 64) = true := by decide +kernel
theorem uxD_108_2 : ux_chkI (uxM 108).2.1 128 (((uxJ108.1.drop 64).drop 64).take 64) = true := by decide +kernel
theorem uxD_108_3 : ux_chkI (uxM 108).2.1 192 (((uxJ108.1.drop 64).drop 64).drop 64) = true := by decide +kernel
theorem uxD_108 : ux_chkI (uxM 108).2.1 0 uxJ108.1 = true := ux_chkI_cut 64 _ _ uxD_108_0 (ux_chkI_cut 64 _ _ uxD_108_1 (ux_chkI_cut 64 _ _ uxD_108_2 (uxD_108_3)))
theorem uxD_109_0 : ux_chkI (uxM 109).2.1 0 uxJ109.1 = true := by decide +kernel
theorem uxD_109 : ux_chkI (uxM 109).2.1 0 uxJ109.1 = true := uxD_109_0
theorem uxD_110_0 : ux_chkI (uxM 110).2.1 0 uxJ110.1 = true := by decide +kernel
theorem uxD_110 : ux_chkI (uxM 110).2.1 0 uxJ110.1 = true := uxD_110_0
theorem uxD_111_0 : ux_chkI (uxM 111).2.1 0 (uxJ111.1.take 64) = true := by decide +kernel
theorem uxD_111_1 : ux_chkI (uxM 111).2.1 64 ((uxJ111.1.drop 64).take 64) = true := by decide +kernel
theorem uxD_111_2 : ux_chkI (uxM 111).2.1 128 ((uxJ111.1.drop 64).drop 64) = true := by decide +kernel
theorem uxD_111 : ux_chkI (uxM 111).2.1 0 uxJ111.1 = true := ux_chkI_cut 64 _ _ uxD_111_0 (ux_chkI_cut 64 _ _ uxD_111_1 (uxD_111_2))
theorem uxD_112_0 : ux_chkI (uxM 112).2.1 0 uxJ112.1 = true := by decide +kernel
theorem uxD_112 : ux_chkI (uxM 112).2.1 0 uxJ112.1 = true := uxD_112_0
theorem uxD_113_0 : ux_chkI (uxM 113).2.1 0 uxJ113.1 = true := by decide +kernel
theorem uxD_113 : ux_chkI (uxM 113).2.1 0 uxJ113.1 = true := uxD_113_0
end
section
theorem uxD_114_0 : ux_chkI (uxM 114).2.1 0 (uxJ114.1.take 64) = true := by decide +kernel
theorem uxD_114_1 : ux_chkI (uxM 114).2.1 64 ((uxJ114.1.drop 64).take 64) = true := by decide +kernel
theorem uxD_114_2 : ux_chkI (uxM 114).2.1 128 (((uxJ114.1.drop 64).drop 64).take 64) = true := by decide +kernel
theorem uxD_114_3 : ux_chkI (uxM 114).2.1 192 ((((uxJ114.1.drop 64).drop 64).drop 64).take 64) = true := by decide +kernel
theorem uxD_114_4 : ux_chkI (uxM 114).2.1 256 (((((uxJ114.1.drop 64).drop 64).drop 64).drop 64).take 64) = true := by decide +kernel
theorem uxD_114_5 : ux_chkI (uxM 114).2.1 320 ((((((uxJ114.1.drop 64).drop 64).drop 64).drop 64).drop 64).take 64) = true := by decide +kernel
theorem uxD_114_6 : ux_chkI (uxM 114).2.1 384 (((((((uxJ114.1.drop 64).drop 64).drop 64).drop 64).drop 64).drop 64).take 64) = true := by decide +kernel
theorem uxD_114_7 : ux_chkI (uxM 114).2.1 448 (((((((uxJ114.1.drop 64).drop 64).drop 64).drop 64).drop 64).drop 64).drop 64) = true := by decide +kernel
theorem uxD_114 : ux_chkI (uxM 114).2.1 0 uxJ114.1 = true := ux_chkI_cut 64 _ _ uxD_114_0 (ux_chkI_cut 64 _ _ uxD_114_1 (ux_chkI_cut 64 _ _ uxD_114_2 (ux_chkI_cut 64 _ _ uxD_114_3 (ux_chkI_cut 64 _ _ uxD_114_4 (ux_chkI_cut 64 _ _ uxD_114_5 (ux_chkI_cut 64 _ _ uxD_114_6 (uxD_114_7)))))))
theorem uxD_115_0 : ux_chkI (uxM 115).2.1 0 (uxJ115.1.take 64) = true := by decide +kernel
theorem uxD_115_1 : ux_chkI (uxM 115).2.1 64 (uxJ115.1.drop 64) = true := by decide +kernel
theorem uxD_115 : ux_chkI (uxM 115).2.1 0 uxJ115.1 = true := ux_chkI_cut 64 _ _ uxD_115_0 (uxD_115_1)
theorem uxD_116_0 : ux_chkI (uxM 116).2.1 0 uxJ116.1 = true := by decide +kernel
theorem uxD_116 : ux_chkI (uxM 116).2.1 0 uxJ116.1 = true := uxD_116_0
theorem uxD_117_0 : ux_chkI (uxM 117).2.1 0 uxJ117.1 = true := by decide +kernel
theorem uxD_117 : ux_chkI (uxM 117).2.1 0 uxJ117.1 = true := uxD_117_0
theorem uxD_118_0 : ux_chkI (uxM 118).2.1 0 uxJ118.1 = true := by decide +kernel
theorem uxD_118 : ux_chkI (uxM 118).2.1 0 uxJ118.1 = true := uxD_118_0
end
section
theorem uxDall : ∀ (j : Nat) (q : ux_J), ux_nth uxJ j = some q → ux_chkI (uxM j).2.1 0 q.1 = true := by
  intro j q h
  match j, h with
  | 0, h => exact Option.some.inj h ▸ uxD_0
  | 1, h => exact Option.some.inj h ▸ uxD_1
  | 2, h => exact Option.some.inj h ▸ uxD_2
  | 3, h => exact Option.some.inj h ▸ uxD_3
  | 4, h => exact Option.some.inj h ▸ uxD_4
  | 5, h => exact Option.some.inj h ▸ uxD_5
  | 6, h => exact Option.some.inj h ▸ uxD_6
  | 7, h => exact Option.some.inj h ▸ uxD_7
  | 8, h => exact Option.some.inj h ▸ uxD_8
  | 9, h => exact Option.some.inj h ▸ uxD_9
  | 10, h => exact Option.some.inj h ▸ uxD_10
  | 11, h => exact Option.some.inj h ▸ uxD_11
  | 12, h => exact Option.some.inj h ▸ uxD_12
  | 13, h => exact Option.some.inj h ▸ uxD_13
  | 14, h => exact Option.some.inj h ▸ uxD_14
  | 15, h => exact Option.some.inj h ▸ uxD_15
  | 16, h => exact Option.some.inj h ▸ uxD_16
  | 17, h => exact Option.some.inj h ▸ uxD_17
  | 18, h => exact Option.some.inj h ▸ uxD_18
  | 19, h => exact Option.some.inj h ▸ uxD_19
  | 20, h => exact Option.some.inj h ▸ uxD_20
  | 21, h => exact Option.some.inj h ▸ uxD_21
  | 22, h => exact Option.some.inj h ▸ uxD_22
  | 23, h => exact Option.some.inj h ▸ uxD_23
  | 24, h => exact Option.some.inj h ▸ uxD_24
  | 25, h => exact Option.some.inj h ▸ uxD_25
  | 26, h => exact Option.some.inj h ▸ uxD_26
  | 27, h => exact Option.some.inj h ▸ uxD_27
  | 28, h => exact Option.some.inj h ▸ uxD_28
  | 29, h => exact Option.some.inj h ▸ uxD_29
  | 30, h => exact Option.some.inj h ▸ uxD_30
  | 31, h => exact Option.some.inj h ▸ uxD_31
  | 32, h => exact Option.some.inj h ▸ uxD_32
  | 33, h => exact Option.some.inj h ▸ uxD_33
  | 34, h => exact Option.some.inj h ▸ uxD_34
  | 35, h => exact Option.some.inj h ▸ uxD_35
  | 36, h => exact Option.some.inj h ▸ uxD_36
  | 37, h => exact Option.some.inj h ▸ uxD_37
  | 38, h => exact Option.some.inj h ▸ uxD_38
  | 39, h => exact Option.some.inj h ▸ uxD_39
  | 40, h => exact Option.some.inj h ▸ uxD_40
  | 41, h => exact Option.some.inj h ▸ uxD_41
  | 42, h => exact Option.some.inj h ▸ uxD_42
  | 43, h => exact Option.some.inj h ▸ uxD_43
  | 44, h => exact Option.some.inj h ▸ uxD_44
  | 45, h => exact Option.some.inj h ▸ uxD_45
  | 46, h => exact Option.some.inj h ▸ uxD_46
  | 47, h => exact Option.some.inj h ▸ uxD_47
  | 48, h => exact Option.some.inj h ▸ uxD_48
  | 49, h => exact Option.some.inj h ▸ uxD_49
  | 50, h => exact Option.some.inj h ▸ uxD_50
  | 51, h => exact Option.some.inj h ▸ uxD_51
  | 52, h => exact Option.some.inj h ▸ uxD_52
  | 53, h => exact Option.some.inj h ▸ uxD_53
  | 54, h => exact Option.some.inj h ▸ uxD_54
  | 55, h => exact Option.some.inj h ▸ uxD_55
  | 56, h => exact Option.some.inj h ▸ uxD_56
  | 57, h => exact Option.some.inj h ▸ uxD_57
  | 58, h => exact Option.some.inj h ▸ uxD_58
  | 59, h => exact Option.some.inj h ▸ uxD_59
  | 60, h => exact Option.some.inj h ▸ uxD_60
  | 61, h => exact Option.some.inj h ▸ uxD_61
  | 62, h => exact Option.some.inj h ▸ uxD_62
  | 63, h => exact Option.some.inj h ▸ uxD_63
  | 64, h => exact Option.some.inj h ▸ uxD_64
  | 65, h => exact Option.some.inj h ▸ uxD_65
  | 66, h => exact Option.some.inj h ▸ uxD_66
  | 67, h => exact Option.some.inj h ▸ uxD_67
  | 68, h => exact Option.some.inj h ▸ uxD_68
  | 69, h => exact Option.some.inj h ▸ uxD_69
  | 70, h => exact Option.some.inj h ▸ uxD_70
  | 71, h => exact Option.some.inj h ▸ uxD_71
  | 72, h => exact Option.some.inj h ▸ uxD_72
  | 73, h => exact Option.some.inj h ▸ uxD_73
  | 74, h => exact Option.some.inj h ▸ uxD_74
  | 75, h => exact Option.some.inj h ▸ uxD_75
  | 76, h => exact Option.some.inj h ▸ uxD_76
  | 77, h => exact Option.some.inj h ▸ uxD_77
  | 78, h => exact Option.some.inj h ▸ uxD_78
  | 79, h => exact Option.some.inj h ▸ uxD_79
  | 80, h => exact Option.some.inj h ▸ uxD_80
  | 81, h => exact Option.some.inj h ▸ uxD_81
  | 82, h => exact Option.some.inj h ▸ uxD_82
  | 83, h => exact Option.some.inj h ▸ uxD_83
  | 84, h => exact Option.some.inj h ▸ uxD_84
  | 85, h => exact Option.some.inj h ▸ uxD_85
  | 86, h => exact Option.some.inj h ▸ uxD_86
  | 87, h => exact Option.some.inj h ▸ uxD_87
  | 88, h => exact Option.some.inj h ▸ uxD_88
  | 89, h => exact Option.some.inj h ▸ uxD_89
  | 90, h => exact Option.some.inj h ▸ uxD_90
  | 91, h => exact Option.some.inj h ▸ uxD_91
  | 92, h => exact Option.some.inj h ▸ uxD_92
  | 93, h => exact Option.some.inj h ▸ uxD_93
  | 94, h => exact Option.some.inj h ▸ uxD_94
  | 95, h => exact Option.some.inj h ▸ uxD_95
  | 96, h => exact Option.some.inj h ▸ uxD_96
  | 97, h => exact Option.some.inj h ▸ uxD_97
  | 98, h => exact Option.some.inj h ▸ uxD_98
  | 99, h => exact Option.some.inj h ▸ uxD_99
  | 100, h => exact Option.some.inj h ▸ uxD_100
  | 101, h => exact Option.some.inj h ▸ uxD_101
  | 102, h => exact Option.some.inj h ▸ uxD_102
  | 103, h => exact Option.some.inj h ▸ uxD_103
  | 104, h => exact Option.some.inj h ▸ uxD_104
  | 105, h => exact Option.some.inj h ▸ uxD_105
  | 106, h => exact Option.some.inj h ▸ uxD_106
  | 107, h => exact Option.some.inj h ▸ uxD_107
  | 108, h => exact Option.some.inj h ▸ uxD_108
  | 109, h => exact Option.some.inj h ▸ uxD_109
  | 110, h => exact Option.some.inj h ▸ uxD_110
  | 111, h => exact Option.some.inj h ▸ uxD_111
  | 112, h => exact Option.some.inj h ▸ uxD_112
  | 113, h => exact Option.some.inj h ▸ uxD_113
  | 114, h => exact Option.some.inj h ▸ uxD_114
  | 115, h => exact Option.some.inj h ▸ uxD_115
  | 116, h => exact Option.some.inj h ▸ uxD_116
  | 117, h => exact Option.some.inj h ▸ uxD_117
  | 118, h => exact Option.some.inj h ▸ uxD_118
  | n + 119, h => cases h
end
section
/-! The tables meet what the evaluator's truth asks. -/
theorem uxG_chk : ux_all2 ux_chkG uxL uxOn = true := by
  show (ux_chkG uxL0 "UnitDesk" && (ux_chkG uxL1 "UnitDesk$Compiler" && (ux_chkG uxL2 "UnitDesk$Image" && (ux_chkG uxL3 "UnitDesk$Machine" && (ux_chkG uxL4 "UnitDesk$Shelf" && (ux_chkG uxL5 "UnitDesk$Text" && (ux_chkG uxL6 "UnitDesk$Unit" && (ux_chkG uxL7 "UnitDeskModel" && (ux_chkG uxL8 "UnitDesk$Signature" && (ux_chkG uxL9 "UnitDeskLaw" && true)))))))))) = true
  rw [uxG_0, uxG_1, uxG_2, uxG_3, uxG_4, uxG_5, uxG_6, uxG_7, uxG_8, uxG_9]
  rfl
theorem uxJ_spec {i : Nat} {q : ux_J} (h : ux_nth uxJ i = some q) : ux_nth uxMs i = some (uxM i) ∧ ux_chk2 q (uxM i) = true := by
  obtain ⟨m, h1, h2⟩ := ux_all2_at _ _ _ _ ux2_chk h
  have h3 : uxM i = m := by unfold uxM; rw [h1]; rfl
  rw [h3]
  exact ⟨h1, h2⟩
theorem uxPo_spec {i : Nat} {c : ux_Po} (h : uxPo i = some c) : ∃ q, ux_nth uxJ i = some q ∧ ux_chk2 q (uxM i) = true ∧ ux_nth uxL q.2.1 = some c ∧ ux_nth uxOn q.2.1 = some (uxM i).1.cls := by
  unfold uxPo at h
  split at h
  · rename_i q hq
    obtain ⟨-, h2⟩ := uxJ_spec hq
    refine ⟨q, hq, h2, h, ?_⟩
    unfold ux_chk2 at h2
    simp only [Bool.and_eq_true, decide_eq_true_eq] at h2
    exact h2.1.1.1.1.1.1
  · cases h
theorem uxPo_F {i : Nat} {c : ux_Po} (h : uxPo i = some c) : ux_chkF c (uxM i).1.cls = true ∧ ux_chkG c (uxM i).1.cls = true ∧ ux_chkN c (uxM i).1.cls = true := by
  obtain ⟨q, -, -, h3, h4⟩ := uxPo_spec h
  obtain ⟨n1, a1, b1⟩ := ux_all2_at _ _ _ _ uxF_chk h3
  obtain ⟨n2, a2, b2⟩ := ux_all2_at _ _ _ _ uxG_chk h3
  obtain ⟨n3, a3, b3⟩ := ux_all2_at _ _ _ _ uxN_chk h3
  cases h4.symm.trans a1
  cases h4.symm.trans a2
  cases h4.symm.trans a3
  exact ⟨b1, b2, b3⟩
theorem uxN_spec {i k v : Nat} (h : uxNf i k = some v) : ux_nN (uxM i).1.cls (k, v) = true := by
  unfold uxNf at h
  split at h
  · rename_i c hc
    exact List.all_eq_true.mp (uxPo_F hc).2.2 _ (ux_key_mem _ _ _ h)
  · cases h
theorem uxG_spec {i k q j n : Nat} (h : uxGf i k = some (q, j, n)) : ux_gN (uxM i).1.cls (k, q, j, n) = true := by
  unfold uxGf at h
  split at h
  · rename_i c hc
    exact List.all_eq_true.mp (uxPo_F hc).2.1 _ (ux_key_mem _ _ _ h)
  · cases h
theorem ux_ok_I : ux_okI uxP uxM := by
  intro i pc ins len h
  have h : uxIf i pc = some (ins, len) := h
  unfold uxIf at h
  split at h
  · rename_i q hq
    split at h
    · rename_i o ho
      subst h
      have := ux_chkI_at _ 0 pc _ (uxDall i q hq) ho
      rw [Nat.zero_add] at this
      exact this
    · cases h
  · cases h
theorem ux_chkC_at : ∀ (l : List vw_C) (c0 ci : Nat) (q : vw_C), ux_chkC c0 l = true → l[ci]? = some q → (∀ w ∈ u_ws q.1 q.2.1 q.2.2, w ∈ uxTw) ∧ (∀ k, k < q.2.2 → parseFieldDescriptor (q.2.1 k).2.2.1 = some (uxTy (c0 + ci) k)) ∧ ∀ a, a < q.2.2 → ∀ b, b < q.2.2 → a ≠ b → (q.2.1 a).2.1 ≠ (q.2.1 b).2.1 := by
  intro l
  induction l with
  | nil => intro c0 ci q _ h; simp at h
  | cons r l ih =>
    intro c0 ci q hc h
    unfold ux_chkC at hc
    simp only [Bool.and_eq_true, decide_eq_true_eq] at hc
    cases ci with
    | zero =>
      have h1 : r = q := by simpa using h
      subst h1
      exact ⟨fun w hw => ux_in_of (List.all_eq_true.mp hc.1.1.1 w hw), hc.1.1.2, hc.1.2⟩
    | succ ci =>
      have := ih (c0 + 1) ci q hc.2 (by simpa using h)
      rw [show c0 + 1 + ci = c0 + (ci + 1) by omega] at this
      exact this
theorem ux_ok_C : ux_okC uxTw uxCl uxTy := by
  intro ci q h
  have := ux_chkC_at uxCl 0 ci q uxC_chk h
  rw [Nat.zero_add] at this
  exact this
theorem ux_ok_F : ux_okF uxP uxM uxTw uxCl uxTy := by
  intro i k ci j q h
  have h : uxFf i k = some (ci, j, q) := h
  unfold uxFf at h
  split at h
  · rename_i c hc
    have h1 := List.all_eq_true.mp (uxPo_F hc).1 _ (ux_key_mem _ _ _ h)
    obtain ⟨z, hz, hz2, -, -⟩ := uxPo_spec hc
    unfold ux_fN at h1
    split at h1
    · cases h1
    · rename_i r hr
      simp only [Bool.and_eq_true, decide_eq_true_eq] at h1
      obtain ⟨⟨⟨⟨⟨⟨a1, a2⟩, a3⟩, a4⟩, a5⟩, a6⟩, a7⟩ := h1
      have hN : ∀ x, uxP.2.2.2.1 i x = ux_key c.2.2 x := fun x => by
        show uxNf i x = _
        unfold uxNf
        rw [hc]
      have hM : (uxP.2.2.2.2.2.2 i) = z.2.2 := by
        show uxMf i = _
        unfold uxMf
        rw [hz]
      refine ⟨r, hr, a1.1, a1.2, ux_in_of a2, a3, a4, fun hp => a5 (by rw [← hN]; exact hp), fun hp h4 => ⟨?_, a6 (by rw [← hN]; exact hp)⟩, a7⟩
      unfold ux_chk2 at hz2
      simp only [Bool.and_eq_true, decide_eq_true_eq] at hz2
      exact hz2.1.2 (by rw [hM] at h4; exact h4)
  · cases h
end
section
theorem ux_ok_N : ux_okN uxP uxM uxTw uxCl uxTy := by
  intro i k ci h hci
  have h1 := uxN_spec (show uxNf i k = some ci from h)
  unfold ux_nN at h1
  rw [if_pos hci] at h1
  simp only at h1
  split at h1
  · cases h1
  · rename_i r hr
    simp only [Bool.and_eq_true, decide_eq_true_eq] at h1
    obtain ⟨⟨⟨⟨a1, a2⟩, a3⟩, a4⟩, a5⟩ := h1
    exact ⟨r, hr, ux_in_of a1, ux_in_of a2, ux_in_of a3, a4, a5⟩
theorem ux_ac1 : ux_in (.arrayClass .int) = true := by decide +kernel
theorem ux_ac2 : ux_in (.arrayClass .boolean) = true := by decide +kernel
theorem ux_ac3 : ux_in (.arrayClass .long) = true := by decide +kernel
theorem ux_ok_A : ux_okA uxP uxM uxTw uxCl uxAty := by
  refine ⟨⟨rfl, rfl, rfl⟩, ⟨ux_in_of ux_ac1, ux_in_of ux_ac2, ux_in_of ux_ac3⟩, fun t y ht hy => ?_, fun i k t h h1 h2 => ?_⟩
  · unfold uxAty at hy
    rw [if_neg (by omega)] at hy
    match t, ht, hy with
    | 103, _, hy => cases hy; exact ⟨_, _, rfl, rfl, rfl⟩
    | 104, _, hy => cases hy; exact ⟨_, _, rfl, rfl, rfl⟩
    | 105, _, hy => cases hy; exact ⟨_, _, rfl, rfl, rfl⟩
    | n + 106, _, hy =>
      rw [show n + 106 - 100 = n + 6 by omega] at hy
      cases hy
  · have h3 := uxN_spec (show uxNf i (100000 + k) = some t from h)
    unfold ux_nN at h3
    simp only at h3
    rw [if_neg (by omega), if_pos h2, Bool.and_eq_true] at h3
    obtain ⟨-, h4⟩ := h3
    split at h4
    · rename_i C hC
      rw [Bool.and_eq_true] at h4
      have e : 100000 + k - 100000 = k := by omega
      rw [e] at h4
      exact ⟨C, hC, ux_in_of h4.1, ux_in_of h4.2⟩
    · cases h4
theorem ux_ok_L : ux_okL uxP uxM uxTw := by
  intro i k q j n h
  have h1 := uxG_spec (show uxGf i k = some (q, j, n) from h)
  unfold ux_gN at h1
  simp only at h1
  refine ⟨fun hq => ?_, fun hq => ?_, fun hq => ?_⟩
  · subst hq
    simp only [if_true, Bool.and_eq_true] at h1
    exact ⟨ux_in_of h1.1.1, ux_in_of h1.1.2, ux_in_of h1.2⟩
  · subst hq
    rw [if_neg (by decide), if_pos rfl] at h1
    simp only [Bool.and_eq_true] at h1
    exact ⟨ux_in_of h1.1.1.1, ux_in_of h1.1.1.2, ux_in_of h1.1.2, ux_in_of h1.2⟩
  · subst hq
    rw [if_neg (by decide), if_neg (by decide), if_pos rfl] at h1
    simp only [Bool.and_eq_true] at h1
    exact ⟨ux_in_of h1.1.1.1, ux_in_of h1.1.1.2, ux_in_of h1.1.2, ux_in_of h1.2⟩
theorem uxMf_none {i : Nat} (h : ux_nth uxJ i = none) : uxMf i = (0, 9, []) := by unfold uxMf; rw [h]
theorem uxMf_some {i : Nat} {q : ux_J} (h : ux_nth uxJ i = some q) : uxMf i = q.2.2 := by unfold uxMf; rw [h]
theorem ux_ok_R : ux_okR uxP uxM := by
  intro i
  show ((uxMf i).2.1 = 0 ∨ (uxMf i).2.1 = 4 → _) ∧ ((uxMf i).2.1 = 1 → _) ∧ ((uxMf i).2.1 = 2 → _) ∧ ((uxMf i).2.1 = 3 → _)
  cases hq : ux_nth uxJ i with
  | none =>
    rw [uxMf_none hq]
    exact ⟨(fun h => by rcases h with h | h <;> cases h), (fun h => by cases h), (fun h => by cases h), (fun h => by cases h)⟩
  | some q =>
    rw [uxMf_some hq]
    obtain ⟨-, h2⟩ := uxJ_spec hq
    unfold ux_chk2 at h2
    simp only [Bool.and_eq_true, decide_eq_true_eq] at h2
    obtain ⟨⟨⟨⟨⟨⟨-, a1⟩, a2⟩, a3⟩, a4⟩, -⟩, -⟩ := h2
    refine ⟨a1, a2, a3, fun h3 => ?_⟩
    rw [Bool.or_eq_true] at a4
    rcases a4 with a4 | a4
    · simp [h3] at a4
    · split at a4
      · rename_i C hC; exact ⟨C, hC⟩
      · cases a4
theorem ux_fit_ex : ∀ x, x < 3 → Bundle.fit (uxEx x).1 = true ∧ (∀ n ∈ (uxEx x).2, Bundle.fit n = true) ∧ (uxEx x).2.length ≤ 2 := by decide +kernel
theorem ux_isZ_spec {w : Cond} (h : ux_isZ w = true) : ∃ z ∈ uxZs, w = .isRef (.static z.1 z.2.1 z.2.2) ∨ w = .laysStatic z.1 z.2.1 z.2.2 := by
  unfold ux_isZ at h
  obtain ⟨z, hz, h1⟩ := List.any_eq_true.mp h
  rw [Bool.or_eq_true, decide_eq_true_eq, decide_eq_true_eq] at h1
  exact ⟨z, hz, h1⟩
theorem ux_ok_T : ux_okT uxP uxM uxTw uxZs uxEx := by
  intro i k k2 x h1 h2
  have g1 := uxN_spec (show uxNf i k = some (1000 + x) from h1)
  have g2 := uxG_spec (show uxGf i k2 = some (9, 1000 + x, 0) from h2)
  unfold ux_gN at g2
  simp only at g2
  rw [if_neg (by decide), if_neg (by decide), if_neg (by decide), if_pos trivial, Bool.and_eq_true, decide_eq_true_eq] at g2
  obtain ⟨g2, g3⟩ := g2
  have g2 : 1000 ≤ 1000 + x ∧ 1000 + x < 1003 := g2
  have hx : x < 3 := by omega
  have e : 1000 + x - 1000 = x := by omega
  rw [e] at g3
  unfold ux_nN at g1
  simp only at g1
  rw [if_neg (by omega), if_neg (by omega), if_pos (by omega), e, Bool.and_eq_true] at g1
  obtain ⟨f1, f2, f3⟩ := ux_fit_ex x hx
  refine ⟨hx, ux_in_of g1.1, ux_in_of g1.2, f1, f2, f3, fun w hw => ?_⟩
  have := List.all_eq_true.mp g3 w hw
  rw [Bool.or_eq_true] at this
  rcases this with h | h
  · exact Or.inr (ux_isZ_spec h)
  · exact Or.inl (ux_in_of h)
theorem ux_ok_G : ux_okG uxP uxM uxTw uxCl := by
  intro i k q j n h hq
  have h1 := uxG_spec (show uxGf i k = some (q, j, n) from h)
  unfold ux_gN at h1
  simp only at h1
  rw [if_neg (by omega), if_neg (by omega), if_neg (by omega), if_neg (by omega)] at h1
  split at h1
  · cases h1
  · rename_i m hm
    have hM : uxM j = m := by unfold uxM; rw [hm]; rfl
    rw [hM]
    simp only [Bool.and_eq_true, decide_eq_true_eq] at h1
    obtain ⟨⟨⟨a1, a2⟩, a3⟩, a4⟩ := h1
    have hW0 := uxWall j a3.1 a3.2
    have hW : ux_word uxP uxM uxTw j := hW0.elim Or.inl (fun z => Or.inr z.2)
    refine ⟨a1, ⟨a2.1, a2.2.1⟩, a2.2.2, hW, fun h0 => ?_, fun h0 => ?_, fun h0 => ?_, fun h0 => ?_, fun ci h0 => ?_⟩
    · rw [if_pos h0] at a4
      simp only [Bool.and_eq_true] at a4
      exact ⟨ux_in_of a4.1.1, ux_in_of a4.1.2, ux_in_of a4.2⟩
    · rw [if_neg (by omega), if_pos h0] at a4
      simp only [Bool.and_eq_true] at a4
      exact ⟨⟨_, ux_in_of a4.1.1⟩, ux_in_of a4.1.2, ux_in_of a4.2⟩
    · rw [if_neg (by omega), if_neg (by omega), if_pos h0] at a4
      simp only [Bool.and_eq_true, decide_eq_true_eq] at a4
      refine ⟨a4.1.1.1, ux_in_of a4.1.1.2, ux_in_of a4.1.2, ?_⟩
      rcases hW0 with ⟨-, hW⟩ | ⟨hW, -⟩
      · rw [hM, a4.2.1] at hW; exact hW
      · rw [hM] at hW; exact absurd a4.2.2 hW
    · rw [if_neg (by omega), if_neg (by omega), if_neg (by omega), if_pos h0] at a4
      simp only [Bool.and_eq_true, decide_eq_true_eq] at a4
      refine ⟨a4.1.1.1, ⟨_, ux_in_of a4.1.1.2⟩, ux_in_of a4.1.2, ?_⟩
      rcases hW0 with ⟨-, hW⟩ | ⟨hW, -⟩
      · rw [hM, a4.2.1] at hW; exact hW
      · rw [hM] at hW; exact absurd a4.2.2 hW
    · rw [if_neg (by omega), if_neg (by omega), if_neg (by omega), if_neg (by omega), Bool.and_eq_true] at a4
      have a5 := a4.2
      rw [h0, show 100 + ci - 100 = ci by omega] at a5
      split at a5
      · cases a5
      · rename_i r hr
        simp only [Bool.and_eq_true] at a5
        exact ⟨r, hr, ux_in_of a5.1.1, ux_in_of a5.1.2, ux_in_of a5.2⟩
end
section
theorem ux_all2_len {α β : Type} {f : α → β → Bool} : ∀ (l : List α) (r : List β), ux_all2 f l r = true → l.length = r.length := by
  intro l
  induction l with
  | nil => intro r h; cases r with
    | nil => rfl
    | cons y r => cases h
  | cons x l ih =>
    intro r h
    cases r with
    | nil => cases h
    | cons y r =>
      unfold ux_all2 at h
      rw [Bool.and_eq_true] at h
      rw [List.length_cons, List.length_cons, ih r h.2]
theorem ux_all2_get {α β : Type} {f : α → β → Bool} : ∀ (l : List α) (r : List β) (n : Nat) (a : α) (b : β), ux_all2 f l r = true → l[n]? = some a → r[n]? = some b → f a b = true := by
  intro l
  induction l with
  | nil => intro r n a b _ h; simp at h
  | cons x l ih =>
    intro r n a b hc h1 h2
    cases r with
    | nil => cases hc
    | cons y r =>
      unfold ux_all2 at hc
      rw [Bool.and_eq_true] at hc
      cases n with
      | zero =>
        have e1 : x = a := by simpa using h1
        have e2 : y = b := by simpa using h2
        rw [← e1, ← e2]
        exact hc.1
      | succ n => exact ih r n a b hc.2 (by simpa using h1) (by simpa using h2)
theorem uxMs_len : uxMs.length = uxJ.length := rfl
theorem uxM_far {i : Nat} (h : ux_nth uxJ i = none) : uxM i = uxM0 := by
  have hn : ∀ {α β : Type} (l : List α) (r : List β), r.length = l.length → ∀ i, ux_nth l i = none → ux_nth r i = none := by
    intro α β l
    induction l with
    | nil => intro r hr i _; rw [List.eq_nil_of_length_eq_zero hr]; rfl
    | cons x l ih =>
      intro r hr i h
      cases r with
      | nil => rfl
      | cons y r =>
        cases i with
        | zero => cases h
        | succ i => exact ih r (by simpa using hr) i h
  unfold uxM
  rw [hn uxJ uxMs uxMs_len i h]
  rfl
theorem ux_ok_X : ∀ i, ux_hs uxEx uxTw (uxM i).1.cls (uxP.2.2.2.2.2.2 i).2.2 (uxM i).2.2.2 := by
  intro i
  show ux_hs uxEx uxTw (uxM i).1.cls (uxMf i).2.2 (uxM i).2.2.2
  cases hq : ux_nth uxJ i with
  | none =>
    rw [uxMf_none hq, uxM_far hq]
    exact ⟨rfl, fun n q r h1 _ => by simp at h1⟩
  | some q =>
    rw [uxMf_some hq]
    obtain ⟨-, h2⟩ := uxJ_spec hq
    unfold ux_chk2 at h2
    simp only [Bool.and_eq_true, decide_eq_true_eq] at h2
    have h3 := h2.2
    refine ⟨ux_all2_len _ _ h3, fun n a b h4 h5 => ?_⟩
    have h6 := ux_all2_get _ _ n a b h3 h4 h5
    unfold ux_chkH at h6
    simp only [Bool.and_eq_true, decide_eq_true_eq] at h6
    obtain ⟨⟨g1, g2, g3, g4, g5⟩, g6⟩ := h6
    exact ⟨g1, g2, g3, g4, g5, ux_in_of g6⟩
theorem ux_ok_all : ux_ok uxP uxM uxTw uxCl uxTy uxAty uxZs uxEx := ⟨ux_ok_I, ux_ok_C, ux_ok_F, ux_ok_N, ux_ok_A, ux_ok_L, ux_ok_R, ux_ok_T, ux_ok_G, ux_okW_uxTw, ux_ok_X⟩
end
section
/-! The law's start: the machine's side of the claim, out of the evaluator alone. -/
def ux_Law : Prop := ∀ sc : List Int32, sc.length ≤ 3072 → ∃ (d : Nat) (hh : ux_H), ux_Y uxP sc d 0 [.ref 0] ([], 0, 0, false) (.inr (some (.int 1)), hh) ∧ d ≤ 1000 ∧ ux_nc hh ≤ 601024 ∧ ux_ns hh ≤ 7293034
theorem ux_inst : ∀ q ∈ uxCl, ux_in (.instantiable q.1 q.2.2) = true := by decide +kernel
theorem ux_known {s : State} {args : Array Value} (hts : ∀ w ∈ uxTw, w.before args s = true) : ∃ D : va_G, ∀ (ci : Nat) (q : vw_C), uxCl[ci]? = some q → u_Kn s q.1 q.2.1 q.2.2 (D.1 ci) (D.2 ci) := by
  have h : ∀ ci : Nat, ∃ (cC : ClassId) (iS : Nat → Nat), ∀ q : vw_C, uxCl[ci]? = some q → u_Kn s q.1 q.2.1 q.2.2 cC iS := by
    intro ci
    cases hq : uxCl[ci]? with
    | none => exact ⟨0, fun _ => 0, fun q h => by cases h⟩
    | some q =>
      obtain ⟨cC, iS, h1⟩ := u_known hts (ux_ok_C ci q hq).1 (hts _ (ux_in_of (ux_inst q (List.mem_of_getElem? hq))))
      exact ⟨cC, iS, fun q' h' => by cases h'; exact h1⟩
  exact ⟨(fun ci => Classical.choose (h ci), fun ci => Classical.choose (Classical.choose_spec (h ci))), fun ci q hq => Classical.choose_spec (Classical.choose_spec (h ci)) q hq⟩
theorem ux_arr1 {s : State} {args : Array Value} {y : FieldType} (hp : ∀ C, y ≠ .object C) (h : (Cond.arrayClass y).before args s = true) : ∃ cA : ClassId, ArrOfT s cA y ∧ va_RA s cA y := by
  obtain ⟨c, k, comp, h1, h2, h3⟩ := Cond.arrayClass_spec h
  refine ⟨c, fun n z => ⟨(fun k h => by cases h), k, h2, comp, h3⟩, ?_⟩
  unfold va_RA
  split
  · rename_i C; exact absurd rfl (hp C)
  · exact h1
theorem ux_arr2 {s : State} {args : Array Value} {C : String} (h : (Cond.arrayOver (.object C)).before args s = true) : ∃ cA : ClassId, ArrOfT s cA (.object C) ∧ va_RA s cA (.object C) := by
  obtain ⟨comp, c, k, h1, -, h3, h4, h5⟩ := Cond.arrayOver_spec h
  exact ⟨c, fun n z => ⟨(fun k h => by cases h), k, h3, comp, h4⟩, k, comp, h3, h4, h1, h5⟩
theorem ux_ao1 : ux_in (.arrayOver (.object "UnitDesk$Text")) = true := by decide +kernel
theorem ux_ao2 : ux_in (.arrayOver (.object "UnitDesk$Shelf")) = true := by decide +kernel
theorem ux_ao3 : ux_in (.arrayOver (.object "UnitDesk$Unit")) = true := by decide +kernel
theorem ux_arrs {s : State} {args : Array Value} (hts : ∀ w ∈ uxTw, w.before args s = true) : ∃ ca : Nat → ClassId, ∀ (t : Nat) (y : FieldType), uxAty t = some y → ArrOfT s (ca t) y ∧ va_RA s (ca t) y := by
  have h : ∀ t : Nat, ∃ cA : ClassId, ∀ y : FieldType, uxAty t = some y → ArrOfT s cA y ∧ va_RA s cA y := by
    intro t
    cases hq : uxAty t with
    | none => exact ⟨0, fun y h => by cases h⟩
    | some y =>
      have key : ∃ cA : ClassId, ArrOfT s cA y ∧ va_RA s cA y := by
        unfold uxAty at hq
        split at hq
        · cases hq
        · rename_i ht
          obtain ⟨n, rfl⟩ : ∃ n, t = n + 100 := ⟨t - 100, by omega⟩
          rw [show n + 100 - 100 = n by omega] at hq
          match n, hq with
          | 0, hq => cases hq; exact ux_arr1 (fun C h => by cases h) (hts _ (ux_in_of ux_ac1))
          | 1, hq => cases hq; exact ux_arr1 (fun C h => by cases h) (hts _ (ux_in_of ux_ac2))
          | 2, hq => cases hq; exact ux_arr1 (fun C h => by cases h) (hts _ (ux_in_of ux_ac3))
          | 3, hq => cases hq; exact ux_arr2 (hts _ (ux_in_of ux_ao1))
          | 4, hq => cases hq; exact ux_arr2 (hts _ (ux_in_of ux_ao2))
          | 5, hq => cases hq; exact ux_arr2 (hts _ (ux_in_of ux_ao3))
          | n + 6, hq => cases hq
      obtain ⟨cA, h1⟩ := key
      exact ⟨cA, fun y' h' => by cases h'; exact h1⟩
  exact ⟨fun t => Classical.choose (h t), fun t y hy => Classical.choose_spec (h t) y hy⟩
theorem ux_stat {s : State} {args : Array Value} {z : String × String × String} (h1 : (Cond.laysStatic z.1 z.2.1 z.2.2).before args s = true) (h2 : (Cond.isRef (.static z.1 z.2.1 z.2.2)).before args s = true) : ux_Zs s.heap.size z s s.heap := by
  obtain ⟨c, k, i, f, a, cell, hc, hi, hst, ha, hcell, hs, hcls, hlt, hty⟩ := Cond.laysStatic_spec h1
  obtain ⟨u, hu⟩ := Cond.staticRefV hi hst ha hcell hs h2
  refine ⟨c, k, i, f, a, cell, u.v, hc, hi, hst, ha, hcell, hs, hcls, hlt, hty, (Array.getElem?_eq_some_iff.mp hcell).1, hu, ?_⟩
  have := u.ok
  cases hv : u.v with
  | null => exact Or.inl rfl
  | ref t => exact Or.inr ⟨t, rfl⟩
  | _ => rw [hv] at this; cases this
theorem ux_nc6 : ∀ j, j < 3 → ∀ k, k < 3 → j ≠ k → Cond.not (.castable (uxEx k).1 (uxEx j).1) ∈ flatC (Jvm.Cond.and given_1 narrow_1) := by decide +kernel
theorem ux_zr : ∀ z ∈ uxZs, Cond.isRef (.static z.1 z.2.1 z.2.2) ∈ flatC (Jvm.Cond.and given_1 narrow_1) := by decide +kernel
theorem ux_zl : ∀ z ∈ uxZs, Cond.laysStatic z.1 z.2.1 z.2.2 ∈ lw_tbl := by decide +kernel
/-- what holds at the law's entry -/
def uy_At (p : Program) (l : Launch) (s : State) (m : MethodId) (meth : Method) (c : Code) (b : Nat) (sc : List Int32) : Prop :=
  p.tables.exec = Jvm.exec ∧ c.code = code ∧ meth.sig.returnType = ret ∧ c.maxLocals = 7 ∧ s.vm.findClass "UnitDeskLaw" = some m.cls ∧ (∀ w ∈ lw_tbl, w.before #[Value.ref b] s = true) ∧ va_X b sc.length (fun j => sc.getD j 0) s s.heap ∧ b < s.heap.size ∧ meth.locks = false ∧ (Jvm.Cond.and given_1 narrow_1).before #[Value.ref b] s = true ∧ c.exceptionTable.toList = [] ∧ meth.name = "law" ∧ l.stackTraces = false
def uy_Q (s : State) (o : Outcome) (t : State) : Prop := o = .returned (some (.int 1)) ∧ Framed s o t [] 601024 7293034
theorem uy_start (hev : ux_Law) {p : Program} {e : Env} {s : State} {m : MethodId} {below : List Frame} {meth : Method} {c : Code} {l : Launch} {b : Nat} {sc : List Int32} (hL : sc.length ≤ 3072) (C0 : uy_At p l s m meth c b sc) :
    W p l e room_1 s m #[Value.ref b] below meth c s.heap [] 0 0 (fun t => ∃ o, t.status = .running ∧ Ended t below o ∧ uy_Q s o t) (entryFrame m ([Value.ref b] : List Value).toArray 7) := by
  obtain ⟨hx, hb, hr, hml, hown, hts0, hX, hbl, hlk, hgv, htab, hnm, htr⟩ := C0
  have hts : ∀ w ∈ uxTw, ∀ a : Array Value, w.before a s = true := fun w hw a => ux_okW_uxTw w hw s s #[Value.ref b] a (State.WarmedH.refl s) (hts0 w (List.mem_filter.mp hw).1)
  obtain ⟨D, hD⟩ := ux_known (args := #[Value.ref b]) (fun w hw => hts w hw _)
  obtain ⟨ca, hca⟩ := ux_arrs (args := #[Value.ref b]) (fun w hw => hts w hw _)
  have hK : ux_K uxTw uxAty D uxCl ca s := ⟨hD, hca, hts⟩
  have hfl := flat_of_before _ hgv
  have hE : ux_E uxEx s := fun j k h1 h2 h3 => va_Nc.of (hfl _ (ux_nc6 j h1 k h2 h3))
  have hZ : ∀ z ∈ uxZs, ux_Zs s.heap.size z s s.heap := fun z hz => ux_stat (hts0 _ (ux_zl z hz)) (hfl _ (ux_zr z hz))
  obtain ⟨d, hh, ⟨n, hrun⟩, hd, hnc, hns⟩ := hev sc hL
  have hR : ux_R uxAty D uxCl ca b s.heap.size sc uxZs s ([], 0, 0, false) s.heap := ⟨hbl, rfl, fun k c h => by simp at h, hX, hZ⟩
  have key := ux_sound ux_ok_all htr (e := e) hx n d 0 0 _ [] _ _ hh hrun room_1 s m #[Value.ref b] below meth c s.heap [] 0 0 0 0 hb hml hr hlk htab hown hnm hK hE hR (fun x h => by cases h) rfl rfl (by show ux_nc hh ≤ 0 + 601024; omega) (by show ux_ns hh ≤ 0 + 7293034; omega) (by show d + 8 ≤ 2048; omega) (by show 64 * d + 200 ≤ 84000; omega) (fun _ => ⟨rfl, rfl, rfl, rfl⟩)
  obtain ⟨lsR, hL2, hent⟩ := ux_entry b s.heap.size m [.ref 0] 7 (fun v hv => by rw [List.mem_singleton.mp hv]; rfl) (by decide)
  have hent2 : entryFrame m ([Value.ref b] : List Value).toArray 7 = F0 m 0 lsR [] := hent
  rw [hent2]
  refine ux_mono (key lsR hL2) ?_
  rintro t ⟨oc, L, C, S, q1, q2, q3, q4, q5, q6, q7, q8, q9, q10⟩
  have q10 : oc = .returned (some (.int 1)) := q10
  subst q10
  refine ⟨_, q1, q2, rfl, ⟨_, rfl⟩, q3, q4.weaken (fun y hy hlt => absurd hlt (Nat.not_lt.mpr (q7 y hy))) ?_ ?_⟩
  · simp at q5; omega
  · simp at q6; omega
end
section
theorem uy_flags {l : Launch} (h : l.flags = flags0) : l.stackTraces = false := by
  unfold Launch.stackTraces
  rw [h]
  decide +kernel
def uy_P (b : Addr) (xs : List Int32) (args : Array Value) (s : State) : Prop := args = #[.ref b] ∧ s.IntsAt b xs ∧ xs.length ≤ 3072 ∧ (Jvm.Cond.and given_1 narrow_1).before args s = true
set_option maxHeartbeats 4000000 in
theorem uy_walk (hev : ux_Law) (l : Launch) (htr : l.stackTraces = false) (b : Addr) (xs : List Int32) : MetFree l x (headSpec (Jvm.Cond.code x code maxLocals ret :: tables_1) room_1) (uy_P b xs) (fun _ _ _ _ _ => True) (fun _ s o t => uy_Q s o t) := by
  refine MetFree.of_bodyS (code := code) (maxLocals := maxLocals) (ret := ret) (by decide) ?_ ?_
  · intro args s m h hn
    obtain ⟨meth, c, h1, h2, h3, h4, h5, h6, -, -⟩ := Cond.code_spec hn (atoms_spec (ws := Jvm.Cond.code x code maxLocals ret :: tables_1) h _ List.mem_cons_self)
    exact ⟨meth, c, h1, h2, h3, h4, h5, h6⟩
  · intro p e s m args below meth c s₁ B hml0 hP _
    obtain ⟨rfl, hx, hbd, hgv⟩ := hP
    obtain ⟨scr, harrAt, hlist, hof, hsmall⟩ := hx
    obtain ⟨hcb, hkn, -, -⟩ := State.arrayAt?_spec harrAt
    have hown : s.vm.findClass "UnitDeskLaw" = some m.cls := findClass_of_methodNamed B.named
    have hts0 : ∀ c ∈ (Jvm.Cond.code x code maxLocals ret :: tables_1), c.before #[Value.ref b] s = true := atoms_spec (ws := Jvm.Cond.code x code maxLocals ret :: tables_1) B.pre
    have hts : ∀ w ∈ lw_tbl, w.before #[Value.ref b] s = true := k2_hts_sels lw_privs (fun w hw => hts0 w (List.mem_cons_of_mem _ hw)) lw_privs_ok
    have hml : c.maxLocals = 7 := B.maxLocals_eq (hts0 _ List.mem_cons_self)
    have X₀ : Stand p l e room_1 s m #[Value.ref b] below meth c s₁ [] 0 0 := Stand.of_body B
    have hh0 : s₁.heap = s.heap := by rw [B.state]; rfl
    have hsz : scr.slots.size = xs.length := by rw [← Array.length_toList, hlist, List.length_map]
    have hval : ∀ j : Nat, j < xs.length → scr.slots[j]? = some (.int (xs.getD j 0)) := fun j hj => by
      rw [← Array.getElem?_toList, hlist]
      simp [hj]
    have hbl : b < s.heap.size := (Array.getElem?_eq_some_iff.mp hcb).1
    have hX : va_X b xs.length (fun j => xs.getD j 0) s s.heap := ⟨scr, hcb, hof, hkn, hsz, hval⟩
    have hem : c.exceptionTable.toList = [] := by
      have h9 := B.noHandlers (hts0 _ List.mem_cons_self)
      have h8 : c.exceptionTable = #[] := by simpa using h9
      rw [h8]
    have K := uy_start hev (p := p) (e := e) (s := s) (m := m) (below := below) (meth := meth) (c := c) (l := l) (b := b) hbd ⟨B.exec, B.bytes, B.returns, hml, hown, hts, hX, hbl, B.notSynchronized, hgv, hem, (name_of_methodNamed B.named B.method).1, htr⟩
    obtain ⟨t, a1, o, b1, b2, b3⟩ := K s₁ hh0 X₀
    exact ⟨t, o, a1, b1, b2, b3⟩
theorem uy_pre_spec {args : Array Value} {s : State} (h : (Jvm.Cond.and given_1 narrow_1).before args s = true) (hr : rest_1_c.before args s = true) : ∃ (b : Addr) (xs : List Int32), uy_P b xs args s := by
  have hs := flat_of_before _ h
  have hq := flat_of_before _ hr
  have hc : (Cond.count 1).before args s = true := hs _ (by decide +kernel)
  have harr : (Cond.arrayOf (.arg 0) .int).before args s = true := hs _ (by decide +kernel)
  have hle : (Cond.le (.length (.arg 0)) (.int 3072)).before args s = true := hs _ (by decide +kernel)
  have hlen : (Cond.isInt (.length (.arg 0))).before args s = true := hq _ (by decide +kernel)
  have hall : (Cond.all (.arg 0) (.isInt (.elem (.arg 0) (.index 0)))).before args s = true := hq _ (by decide +kernel)
  obtain ⟨b, xs, hb, hx⟩ := State.ints_of_pre rfl harr hlen hall
  have hsm : xs.length < 2 ^ 31 := hx.choose_spec.2.2.2
  have hev : (Term.length (.arg 0)).eval args s none [] s = some (.int xs.length.toInt32) := hx.length_eval hb
  have hv := Cond.le_ints hev (show (Term.int 3072).eval args s none [] s = some (.int 3072) from rfl)
  have hd : xs.length.toInt32 ≤ 3072 := by
    simpa [Cond.before, Cond.holds, hv] using hle
  have hN : xs.length ≤ 3072 := (Int32.ofNat_le_ofNat hsm (by decide)).mp (show Int32.ofNat xs.length ≤ Int32.ofNat 3072 from hd)
  exact ⟨b, xs, Cond.one_arg hc (show args[0]? = some (.ref b) from hb), hx, hN, h⟩
theorem uy_comes (hev : ux_Law) (l : Launch) (htr : l.stackTraces = false) : Comes l x (Jvm.Cond.code x code maxLocals ret :: tables_1) room_1 (fun tb e args s => Calls_1 tb e args s ∧ rest_1 tb e args s ∧ Pre_1 tb e args s)
    (fun _ _ _ s o t => uy_Q s o t) := by
  intro p e ha hc hk s m args below hf hfit hheap happ hpre
  obtain ⟨b, xs, hP⟩ := uy_pre_spec hpre.2.2 hpre.2.1
  obtain ⟨k, o, h1, h2, h3, hQ⟩ := uy_walk hev l htr b xs p e ha hc hk s m args below hf ((Spec.applies_iff_loose hf).mp happ).1 hP trivial
  exact ⟨k, o, h1, h2, h3, hQ⟩
theorem uy_limb (hev : ux_Law) (L : Cond) (hL : ∀ (args : Array Value) (s t : State), L.after args s (.returned (some (.int 1))) t = true) :
    ArmFor flags0 classFile x code maxLocals ret World_1 tables_1 room_1 Calls_1 rest_1 Pre_1
      (fun tb e a s o t => postC L tb e a s o t ∧ Framed s o t (fieldLocs frame_1_writes a s ++ arrayLocs frame_1_arrays a s ++ staticLocs frame_1_statics s) 601024 7293034) := by
  intro l hfl _ _ p e ha hc hk s m args below hf hfit hheap happ hpre
  obtain ⟨k, o, h1, h2, h3, rfl, hF⟩ := uy_comes hev l (uy_flags hfl) p e ha hc hk s m args below hf hfit hheap happ hpre
  exact ⟨k, _, h1, h2, h3, hL args s _, hF⟩
/-- THE CLAIM, out of what the evaluator says of the law -/
theorem i_vc_of (hev : ux_Law) : Claimed_1_1 ∧ Claimed_1_2 := ⟨uy_limb hev limb_1_1 (fun args s t => by simp [limb_1_1, Cond.after, Cond.holds, Cond.value]), uy_limb hev limb_1_2 (fun args s t => Cond.after_iff.mpr (by
  first | (rw [show limb_1_2 = Cond.eq .result (.int 1) from rfl, Cond.eq_ints (x := 1) (y := 1) rfl rfl]; simp; done) | (simp [limb_1_2, Cond.value, Term.eval]; done)))⟩
end
section
/-! Memory as a function: ux_B .. K: from here the method ends, and K holds of how it ends. -/
abbrev ux_Ev : Type := Nat → Option ux_C
abbrev ux_K1 : Type := ux_O → ux_Ev → Nat → Nat → Bool → Prop
def ux_up (E : ux_Ev) (a : Nat) (c : ux_C) : ux_Ev := fun b => if b = a then some c else E b
def ux_Vw (h : ux_H) (E : ux_Ev) : Prop := ∀ a, ux_cell h a = E a
def ux_B (P : ux_P) (sc : List Int32) (d i pc : Nat) (ls st : List Value) (E : ux_Ev) (x z : Nat) (w : Bool) (K : ux_K1) : Prop :=
  ∀ h : ux_H, ux_Vw h E → h.2 = (x, z, w) → ∃ (o : ux_O) (h' : ux_H) (E' : ux_Ev), ux_G P sc d i pc ls st h (o, h') ∧ ux_Vw h' E' ∧ K o E' h'.2.1 h'.2.2.1 h'.2.2.2
def ux_Bm (P : ux_P) (sc : List Int32) (d j : Nat) (as : List Value) (E : ux_Ev) (x z : Nat) (K : ux_K1) : Prop :=
  ux_B P sc d j 0 (as ++ List.replicate ((P.2.2.2.2.2.2 j).1 - as.length) .null) [] E x z false K
section UXB
variable {P : ux_P} {sc : List Int32} {d i pc : Nat} {ls st : List Value} {E : ux_Ev} {x z : Nat} {w : Bool} {K : ux_K1}
theorem ux_Vw.up {h : ux_H} (hv : ux_Vw h E) {a : Nat} {c c0 : ux_C} (h0 : E a = some c0) : ux_Vw (ux_set h a c) (ux_up E a c) := by
  intro b
  rw [ux_cell_set (by rw [hv a]; exact h0), hv b]
  rfl
theorem ux_BN (n : Nat) {pc' : Nat} {ls' st' : List Value} (hs : ux_sN P i n pc ls st = some (pc', ls', st')) (k : ux_B P sc d i pc' ls' st' E x z w K) : ux_B P sc d i pc ls st E x z w K := by
  intro h hv h2
  obtain ⟨o, h', E', g1, g2⟩ := k h hv h2
  exact ⟨o, h', E', ux_GN n hs g1, g2⟩
theorem ux_Bs {pc' : Nat} {ls' st' : List Value} (hs : ux_s1 P i pc ls st = some (pc', ls', st')) (k : ux_B P sc d i pc' ls' st' E x z w K) : ux_B P sc d i pc ls st E x z w K := by
  intro h hv h2
  obtain ⟨o, h', E', g1, g2⟩ := k h hv h2
  exact ⟨o, h', E', ux_Gs hs g1, g2⟩
theorem ux_Bif {c : Prop} {_ : Decidable c} {a b' : Nat} (ka : c → ux_B P sc d i a ls st E x z w K) (kb : ¬ c → ux_B P sc d i b' ls st E x z w K) : ux_B P sc d i (if decide c = true then a else b') ls st E x z w K := by
  by_cases hc : c
  · rw [if_pos (decide_eq_true hc)]; exact ka hc
  · rw [if_neg (by simpa using hc)]; exact kb hc
theorem ux_Bget {k ci j a : Nat} {q : Bool} {is : List Int32} {vs : List Value} {v : Value} (hi : P.1 i pc = some (.getfield k, 3)) (hf : P.2.1 i k = some (ci, j, q)) (hc : E a = some (ci, is, vs)) (hv : vs[j]? = some v)
    (kk : ux_B P sc d i (pc + 3) ls (v :: st) E x z w K) : ux_B P sc d i pc ls (.ref a :: st) E x z w K := by
  intro h hw h2
  obtain ⟨o, h', E', g1, g2⟩ := kk h hw h2
  exact ⟨o, h', E', ux_Gget hi hf (by rw [hw a]; exact hc) hv g1, g2⟩
theorem ux_Bput {k ci j a : Nat} {q : Bool} {is : List Int32} {vs : List Value} {v : Value} (hi : P.1 i pc = some (.putfield k, 3)) (hf : P.2.1 i k = some (ci, j, q)) (hp : P.2.2.2.1 i (200000 + k) = some 2000) (hc : E a = some (ci, is, vs)) (hr : ux_isr v = some q) (hj : j < vs.length)
    (kk : ux_B P sc d i (pc + 3) ls st (ux_up E a (ci, is, vs.set j v)) x z true K) : ux_B P sc d i pc ls (v :: .ref a :: st) E x z w K := by
  intro h hw h2
  obtain ⟨o, h', E', g1, g2⟩ := kk (ux_set h a (ci, is, vs.set j v)) (hw.up hc) (by rw [show (ux_set h a (ci, is, vs.set j v)).2 = (h.2.1, h.2.2.1, true) from rfl, h2])
  exact ⟨o, h', E', ux_Gput hi hf (Or.inl hp) (by rw [hw a]; exact hc) hr hj g1, g2⟩
theorem ux_Bild {a : Nat} {j y : Int32} {is : List Int32} {vs : List Value} (hi : P.1 i pc = some (.iaload, 1)) (hc : E a = some (100, is, vs)) (hj : ¬ j < 0) (hx : is[j.toNatClampNeg]? = some y)
    (kk : ux_B P sc d i (pc + 1) ls (.int y :: st) E x z w K) : ux_B P sc d i pc ls (.int j :: .ref a :: st) E x z w K := by
  intro h hw h2
  obtain ⟨o, h', E', g1, g2⟩ := kk h hw h2
  exact ⟨o, h', E', ux_Gild hi (by rw [hw a]; exact hc) hj hx g1, g2⟩
theorem ux_Bsld {j y : Int32} (hi : P.1 i pc = some (.iaload, 1)) (hj : ¬ j < 0) (hx : sc[j.toNatClampNeg]? = some y)
    (kk : ux_B P sc d i (pc + 1) ls (.int y :: st) E x z w K) : ux_B P sc d i pc ls (.int j :: .ref 0 :: st) E x z w K := by
  intro h hw h2
  obtain ⟨o, h', E', g1, g2⟩ := kk h hw h2
  exact ⟨o, h', E', ux_Gsld hi hj hx g1, g2⟩
theorem ux_Bist {a : Nat} {j y : Int32} {is : List Int32} {vs : List Value} (hi : P.1 i pc = some (.iastore, 1)) (hc : E a = some (100, is, vs)) (hj : ¬ j < 0) (hx : j.toNatClampNeg < is.length)
    (kk : ux_B P sc d i (pc + 1) ls st (ux_up E a (100, is.set j.toNatClampNeg y, vs)) x z true K) : ux_B P sc d i pc ls (.int y :: .int j :: .ref a :: st) E x z w K := by
  intro h hw h2
  obtain ⟨o, h', E', g1, g2⟩ := kk (ux_set h a (100, is.set j.toNatClampNeg y, vs)) (hw.up hc) (by rw [show (ux_set h a (100, is.set j.toNatClampNeg y, vs)).2 = (h.2.1, h.2.2.1, true) from rfl, h2])
  exact ⟨o, h', E', ux_Gist hi (by rw [hw a]; exact hc) hj hx g1, g2⟩
theorem ux_Bzld {a : Nat} {j y : Int32} {is : List Int32} {vs : List Value} (hi : P.1 i pc = some (.baload, 1)) (hc : E a = some (101, is, vs)) (hj : ¬ j < 0) (hx : is[j.toNatClampNeg]? = some y)
    (kk : ux_B P sc d i (pc + 1) ls (.int y :: st) E x z w K) : ux_B P sc d i pc ls (.int j :: .ref a :: st) E x z w K := by
  intro h hw h2
  obtain ⟨o, h', E', g1, g2⟩ := kk h hw h2
  exact ⟨o, h', E', ux_Gzld hi (by rw [hw a]; exact hc) hj hx g1, g2⟩
theorem ux_Bzst {a : Nat} {j y : Int32} {is : List Int32} {vs : List Value} (hi : P.1 i pc = some (.bastore, 1)) (hc : E a = some (101, is, vs)) (hj : ¬ j < 0) (hx : j.toNatClampNeg < is.length) (h01 : y = 0 ∨ y = 1)
    (kk : ux_B P sc d i (pc + 1) ls st (ux_up E a (101, is.set j.toNatClampNeg y, vs)) x z true K) : ux_B P sc d i pc ls (.int y :: .int j :: .ref a :: st) E x z w K := by
  intro h hw h2
  obtain ⟨o, h', E', g1, g2⟩ := kk (ux_set h a (101, is.set j.toNatClampNeg y, vs)) (hw.up hc) (by rw [show (ux_set h a (101, is.set j.toNatClampNeg y, vs)).2 = (h.2.1, h.2.2.1, true) from rfl, h2])
  exact ⟨o, h', E', ux_Gzst hi (by rw [hw a]; exact hc) hj hx h01 g1, g2⟩
theorem ux_Bald {a t : Nat} {j : Int32} {v : Value} {is : List Int32} {vs : List Value} (hi : P.1 i pc = some (.aaload, 1)) (hc : E a = some (t, is, vs)) (ht : 102 < t) (hj : ¬ j < 0) (hx : vs[j.toNatClampNeg]? = some v)
    (kk : ux_B P sc d i (pc + 1) ls (v :: st) E x z w K) : ux_B P sc d i pc ls (.int j :: .ref a :: st) E x z w K := by
  intro h hw h2
  obtain ⟨o, h', E', g1, g2⟩ := kk h hw h2
  exact ⟨o, h', E', ux_Gald hi (by rw [hw a]; exact hc) ht hj hx g1, g2⟩
theorem ux_Bast {a t v ci : Nat} {j : Int32} {is is2 : List Int32} {vs vs2 : List Value} (hi : P.1 i pc = some (.aastore, 1)) (hc : E a = some (t, is, vs)) (hv : E v = some (ci, is2, vs2)) (ht : 102 < t) (hci : ci < 100) (hco : P.2.2.2.2.2.1 t = ci) (hj : ¬ j < 0) (hx : j.toNatClampNeg < vs.length)
    (kk : ux_B P sc d i (pc + 1) ls st (ux_up E a (t, is, vs.set j.toNatClampNeg (.ref v))) x z true K) : ux_B P sc d i pc ls (.ref v :: .int j :: .ref a :: st) E x z w K := by
  intro h hw h2
  obtain ⟨o, h', E', g1, g2⟩ := kk (ux_set h a (t, is, vs.set j.toNatClampNeg (.ref v))) (hw.up hc) (by rw [show (ux_set h a (t, is, vs.set j.toNatClampNeg (.ref v))).2 = (h.2.1, h.2.2.1, true) from rfl, h2])
  exact ⟨o, h', E', ux_Gast hi (by rw [hw a]; exact hc) (by rw [hw v]; exact hv) ht hci hco hj hx g1, g2⟩
theorem ux_Blld {a : Nat} {j : Int32} {v : Value} {is : List Int32} {vs : List Value} (hi : P.1 i pc = some (.laload, 1)) (hc : E a = some (102, is, vs)) (hj : ¬ j < 0) (hx : vs[j.toNatClampNeg]? = some v)
    (kk : ux_B P sc d i (pc + 1) ls (v :: st) E x z w K) : ux_B P sc d i pc ls (.int j :: .ref a :: st) E x z w K := by
  intro h hw h2
  obtain ⟨o, h', E', g1, g2⟩ := kk h hw h2
  exact ⟨o, h', E', ux_Glld hi (by rw [hw a]; exact hc) hj hx g1, g2⟩
theorem ux_Blst {a : Nat} {j : Int32} {y : Int64} {is : List Int32} {vs : List Value} (hi : P.1 i pc = some (.lastore, 1)) (hc : E a = some (102, is, vs)) (hj : ¬ j < 0) (hx : j.toNatClampNeg < vs.length)
    (kk : ux_B P sc d i (pc + 1) ls st (ux_up E a (102, is, vs.set j.toNatClampNeg (.long y))) x z true K) : ux_B P sc d i pc ls (.long y :: .int j :: .ref a :: st) E x z w K := by
  intro h hw h2
  obtain ⟨o, h', E', g1, g2⟩ := kk (ux_set h a (102, is, vs.set j.toNatClampNeg (.long y))) (hw.up hc) (by rw [show (ux_set h a (102, is, vs.set j.toNatClampNeg (.long y))).2 = (h.2.1, h.2.2.1, true) from rfl, h2])
  exact ⟨o, h', E', ux_Glst hi (by rw [hw a]; exact hc) hj hx g1, g2⟩
theorem ux_Bslen (hi : P.1 i pc = some (.arraylength, 1)) (kk : ux_B P sc d i (pc + 1) ls (.int (Int32.ofNat sc.length) :: st) E x z w K) : ux_B P sc d i pc ls (.ref 0 :: st) E x z w K := by
  intro h hw h2
  obtain ⟨o, h', E', g1, g2⟩ := kk h hw h2
  refine ⟨o, h', E', ux_Gm (pc' := pc + 1) ?_ g1, g2⟩
  simp [ux_m1, hi, ux_sim, ux_mem, ux_len]
/-- a return; the instruction's place: the stack alone decides -/
def ux_rr (P : ux_P) (i pc : Nat) (st : List Value) : Option (Option Value) := match P.1 i pc with
  | some (.ireturn, _) => ux_ret (P.2.2.2.2.2.2 i).2.1 .ireturn st
  | some (.areturn, _) => ux_ret (P.2.2.2.2.2.2 i).2.1 .areturn st
  | some (.return_, _) => ux_ret (P.2.2.2.2.2.2 i).2.1 .return_ st
  | _ => none
theorem ux_Br {v : Option Value} (hs : ux_rr P i pc st = some v) (hk : K (.inr v) E x z w) : ux_B P sc d i pc ls st E x z w K := by
  intro h hw h2
  refine ⟨.inr v, h, E, ux_Gr ?_, hw, by rw [h2]; exact hk⟩
  unfold ux_rr at hs
  unfold ux_r1
  split at hs
  · rename_i hi; rw [hi]; exact hs
  · rename_i hi; rw [hi]; exact hs
  · rename_i hi; rw [hi]; exact hs
  · cases hs
/-- an int is answered -/
theorem ux_Bri {l9 : Nat} {y : Int32} (hi : P.1 i pc = some (.ireturn, l9)) (hr : (P.2.2.2.2.2.2 i).2.1 = 1 ∨ ((P.2.2.2.2.2.2 i).2.1 = 2 ∧ (y = 0 ∨ y = 1))) (hk : K (.inr (some (.int y))) E x z w) : ux_B P sc d i pc ls [.int y] E x z w K := by
  refine ux_Br (v := some (.int y)) ?_ hk
  unfold ux_rr
  rw [hi]
  simp only [ux_ret]
  rw [if_pos hr]
/-- 'throw new X()' -/
theorem ux_Bt {k : Nat} (hs : ux_t1 P sc i pc ls st ([], 0, 0, false) = some k) (hi : ∃ q, P.1 i pc = some (.new q, 3)) (hk : K (.inl k) E (x + 1) (z + 6) true) : ux_B P sc d i pc ls st E x z false K := by
  intro h hw h2
  have hthr : ux_t1 P sc i pc ls st h = some k := by
    obtain ⟨q, hi⟩ := hi
    unfold ux_t1 at hs ⊢
    rw [hi] at hs ⊢
    simp only [ux_sim, ux_ret] at hs ⊢
    have hm : ux_mem P sc i (.new q) st ([], 0, 0, false) = none := by
      cases hm : ux_mem P sc i (.new q) st ([], 0, 0, false) with
      | none => rfl
      | some y => rw [hm] at hs; cases hs
    have hm2 : ux_mem P sc i (.new q) st h = none := by
      unfold ux_mem at hm ⊢
      simp only at hm ⊢
      split at hm
      · split at hm
        · cases hm
        · rename_i ci _ hn
          have hn2 : ¬ (ci < 100 ∧ h.2.1 = 0) := fun hc => hn ⟨hc.1, trivial⟩
          rw [if_neg hn2]
      · rfl
    rw [hm] at hs
    rw [hm2]
    simp only at hs ⊢
    unfold ux_thr at hs ⊢
    simp only at hs ⊢
    split at hs
    · split at hs
      · rename_i hc
        rw [if_pos ⟨hc.1, hc.2.1, hc.2.2.1, by rw [h2], hc.2.2.2.2⟩]
        exact hs
      · cases hs
    · cases hs
  refine ⟨.inl k, _, E, ux_Gt hthr, hw, ?_⟩
  rw [h2]
  exact hk
/-- a call -/
def ux_cc (P : ux_P) (i pc : Nat) (st : List Value) (E : ux_Ev) : Option (Nat × List Value × List Value) := match P.1 i pc with
  | some (.invokestatic k, _) => (match P.2.2.1 i k with
    | some (q, j, n) => if q < 2 ∧ n ≤ st.length then some (j, (st.take n).reverse, st.drop n) else none
    | none => none)
  | some (.invokevirtual k, _) => (match P.2.2.1 i k with
    | some (q, j, n) => (match st.drop n with
      | .ref a :: r => (match E a with
        | some (ci, _, _) => if q = 100 + ci ∧ ci < 100 then some (j, .ref a :: (st.take n).reverse, r) else none
        | none => none)
      | _ => none)
    | none => none)
  | _ => none
theorem ux_cc_c1 {h : ux_H} (hw : ux_Vw h E) {j : Nat} {as r0 : List Value} (hs : ux_cc P i pc st E = some (j, as, r0)) (hc : (r0.map fun v => v.category).sum ≤ 16 ∧ as.length ≤ (P.2.2.2.2.2.2 j).1 ∧ (P.2.2.2.2.2.2 j).1 ≤ 30 ∧ (as.all fun v => v.category == 1) = true) : ux_c1 P sc i pc ls st h = some (j, as, r0) := by
  unfold ux_cc at hs
  split at hs
  · rename_i k l9 hi
    split at hs
    · rename_i q j' n hq
      split at hs
      · rename_i hq2
        cases hs
        unfold ux_c1
        rw [hi]
        have hm : ux_mem P sc i (.invokestatic k) st h = none := by
          unfold ux_mem
          simp only [hq]
          split
          · rename_i h7; injection h7 with h7; injection h7 with h7 _; omega
          · rename_i h7; injection h7 with h7; injection h7 with h7 _; omega
          · rfl
        simp only [ux_sim, hm, ux_ret, ux_thr, ux_cal, hq, if_pos hq2]
        rw [if_pos hc]
      · cases hs
    · cases hs
  · rename_i k l9 hi
    split at hs
    · rename_i q j' n hq
      split at hs
      · rename_i a r' hdr
        split at hs
        · rename_i ci is vs hE
          split at hs
          · rename_i hq2
            cases hs
            unfold ux_c1
            rw [hi]
            have hm : ux_mem P sc i (.invokevirtual k) st h = none := rfl
            have hcl : ux_cell h a = some (ci, is, vs) := by rw [hw a]; exact hE
            simp only [ux_sim, hm, ux_ret, ux_thr, ux_cal, hq, hdr, hcl, if_pos hq2]
            rw [if_pos hc]
          · cases hs
        · cases hs
      · cases hs
    · cases hs
  · cases hs
theorem ux_Bc {j : Nat} {as r0 : List Value} (hs : ux_cc P i pc st E = some (j, as, r0)) (hc : (r0.map fun v => v.category).sum ≤ 16 ∧ as.length ≤ (P.2.2.2.2.2.2 j).1 ∧ (P.2.2.2.2.2.2 j).1 ≤ 30 ∧ (as.all fun v => v.category == 1) = true)
    (hm : ux_Bm P sc d j as E x z (fun o E1 x1 z1 w1 => match o with
      | .inr v => ux_B P sc (d + 1) i (pc + 3) ls (v.toList ++ r0) E1 x1 z1 (w || w1) K
      | .inl k => (P.2.2.2.2.2.2 i).2.2 = [] ∧ K (.inl k) E1 x1 z1 true)) : ux_B P sc (d + 1) i pc ls st E x z w K := by
  intro h hw h2
  have hc1 := ux_cc_c1 (sc := sc) (ls := ls) hw hs hc
  obtain ⟨o, h', E', g1, g2, g3⟩ := hm (h.1, h.2.1, h.2.2.1, false) (fun a => hw a) (by rw [h2])
  cases o with
  | inr v =>
    obtain ⟨o2, h3, E3, k1, k2, k3⟩ := g3 (h'.1, h'.2.1, h'.2.2.1, h.2.2.2 || h'.2.2.2) (fun a => g2 a) (by rw [h2])
    exact ⟨o2, h3, E3, ux_Gc hc1 g1 k1, k2, k3⟩
  | inl k => exact ⟨.inl k, _, E', ux_Gx hc1 g1 g3.1, (fun a => g2 a), g3.2⟩
/-- a call under a handler -/
theorem ux_Bh {j : Nat} {as r0 : List Value} (hs : ux_cc P i pc st E = some (j, as, r0)) (hc : (r0.map fun v => v.category).sum ≤ 16 ∧ as.length ≤ (P.2.2.2.2.2.2 j).1 ∧ (P.2.2.2.2.2.2 j).1 ≤ 30 ∧ (as.all fun v => v.category == 1) = true)
    (hm : ux_Bm P sc d j as E x z (fun o E1 x1 z1 w1 => match o with
      | .inr v => ux_B P sc (d + 1) i (pc + 3) ls (v.toList ++ r0) E1 x1 z1 (w || w1) K
      | .inl k => ∃ t q len, ux_hnd (P.2.2.2.2.2.2 i).2.2 pc k = some t ∧ (P.1 i t).bind (fun y => ux_lay y.1) = some (q, len) ∧ q < ls.length ∧ ux_B P sc (d + 1) i (t + len) (ls.set q .null) [] E1 x1 z1 true K)) : ux_B P sc (d + 1) i pc ls st E x z w K := by
  intro h hw h2
  have hc1 := ux_cc_c1 (sc := sc) (ls := ls) hw hs hc
  obtain ⟨o, h', E', g1, g2, g3⟩ := hm (h.1, h.2.1, h.2.2.1, false) (fun a => hw a) (by rw [h2])
  cases o with
  | inr v =>
    obtain ⟨o2, h3, E3, k1, k2, k3⟩ := g3 (h'.1, h'.2.1, h'.2.2.1, h.2.2.2 || h'.2.2.2) (fun a => g2 a) (by rw [h2])
    exact ⟨o2, h3, E3, ux_Gc hc1 g1 k1, k2, k3⟩
  | inl k =>
    obtain ⟨t, q, len, a1, a2, a3, a4⟩ := g3
    obtain ⟨o2, h3, E3, k1, k2, k3⟩ := a4 (h'.1, h'.2.1, h'.2.2.1, true) (fun a => g2 a) rfl
    exact ⟨o2, h3, E3, ux_Gh hc1 g1 a1 a2 a3 k1, k2, k3⟩
theorem ux_B.mono {K2 : ux_K1} (hb : ux_B P sc d i pc ls st E x z w K) (hk : ∀ o E x z w, K o E x z w → K2 o E x z w) : ux_B P sc d i pc ls st E x z w K2 := by
  intro h hw h2
  obtain ⟨o, h', E', g1, g2, g3⟩ := hb h hw h2
  exact ⟨o, h', E', g1, g2, hk _ _ _ _ _ g3⟩
theorem ux_B.view {E2 : ux_Ev} (hb : ux_B P sc d i pc ls st E x z w K) (he : E2 = E) : ux_B P sc d i pc ls st E2 x z w K := by rw [he]; exact hb
end UXB
end
section
/-! The reference: its object stands at 210, its rows at 211 .. 237. g: its numbers by their field; A: its rows by their address. -/
def fU {α : Type} (f : Nat → α) (k : Nat) (v : α) : Nat → α := fun j => if j = k then v else f j
theorem fU_at {α : Type} (f : Nat → α) (k : Nat) (v : α) : fU f k v k = v := if_pos rfl
theorem fU_ne {α : Type} (f : Nat → α) {k j : Nat} (v : α) (h : j ≠ k) : fU f k v j = f j := if_neg h
def md_F (g : Nat → Int32) : List Value := [.int (g 0), .ref 211, .ref 212, .ref 213, .ref 214, .ref 215, .ref 216, .ref 217, .ref 218, .ref 219, .ref 220, .int (g 11), .ref 221, .ref 222, .ref 223, .ref 224, .ref 225, .int (g 17), .ref 226, .ref 227, .ref 228, .ref 229, .ref 230, .ref 231, .ref 232, .ref 233, .int (g 26), .ref 234, .int (g 28), .int (g 29), .int (g 30), .int (g 31), .int (g 32), .ref 235, .ref 236, .ref 237]
def md_k (a : Nat) : Nat := if a = 211 then 101 else 100
def md_sz (a : Nat) : Nat := (ux_nth [8, 8, 8, 240, 24, 24, 720, 216, 24, 1920, 8, 8, 8, 8, 5, 300, 8, 8, 32, 32, 32, 32, 32, 80, 41, 12, 12] (a - 211)).getD 0
/-- E is E0 but for the reference, which holds g and A -/
def md (E0 : ux_Ev) (g : Nat → Int32) (A : Nat → List Int32) (E : ux_Ev) : Prop := E 210 = some (7, [], md_F g) ∧ (∀ a, 211 ≤ a → a ≤ 237 → E a = some (md_k a, A a, []) ∧ (A a).length = md_sz a) ∧ ∀ b, b < 210 ∨ 237 < b → E b = E0 b
theorem md.row {E0 E : ux_Ev} {g : Nat → Int32} {A : Nat → List Int32} (h : md E0 g A E) (a : Nat) (h1 : 212 ≤ a ∧ a ≤ 237) : E a = some (100, A a, []) := by
  have := (h.2.1 a (by omega) h1.2).1
  rw [show md_k a = 100 from if_neg (by omega)] at this
  exact this
theorem md.len {E0 E : ux_Ev} {g : Nat → Int32} {A : Nat → List Int32} (h : md E0 g A E) (a : Nat) (h1 : 211 ≤ a ∧ a ≤ 237) : (A a).length = md_sz a := (h.2.1 a h1.1 h1.2).2
theorem md.put {E0 E : ux_Ev} {g : Nat → Int32} {A : Nat → List Int32} (h : md E0 g A E) {l : List Value} {g' : Nat → Int32} (hl : l = md_F g') : md E0 g' A (ux_up E 210 (7, [], l)) := by
  subst hl
  refine ⟨if_pos rfl, fun a h1 h2 => ?_, fun b hb => ?_⟩
  · rw [show ux_up E 210 (7, [], md_F g') a = E a from if_neg (by omega)]
    exact h.2.1 a h1 h2
  · rw [show ux_up E 210 (7, [], md_F g') b = E b from if_neg (by omega)]
    exact h.2.2 b hb
theorem md.set {E0 E : ux_Ev} {g : Nat → Int32} {A : Nat → List Int32} (h : md E0 g A E) (a : Nat) (h1 : 212 ≤ a ∧ a ≤ 237) (n : Nat) (y : Int32) : md E0 g (fU A a ((A a).set n y)) (ux_up E a (100, (A a).set n y, [])) := by
  refine ⟨?_, fun b h2 h3 => ?_, fun b hb => ?_⟩
  · rw [show ux_up E a (100, (A a).set n y, []) 210 = E 210 from if_neg (by omega)]
    exact h.1
  · by_cases hba : b = a
    · subst hba
      rw [show ux_up E b (100, (A b).set n y, []) b = some (100, (A b).set n y, []) from if_pos rfl, fU_at, show md_k b = 100 from if_neg (by omega), List.length_set]
      exact ⟨rfl, h.len b ⟨h2, h3⟩⟩
    · rw [show ux_up E a (100, (A a).set n y, []) b = E b from if_neg hba, fU_ne _ _ hba]
      exact h.2.1 b h2 h3
  · rw [show ux_up E a (100, (A a).set n y, []) b = E b from if_neg (by omega)]
    exact h.2.2 b hb
theorem md.setz {E0 E : ux_Ev} {g : Nat → Int32} {A : Nat → List Int32} (h : md E0 g A E) (n : Nat) (y : Int32) : md E0 g (fU A 211 ((A 211).set n y)) (ux_up E 211 (101, (A 211).set n y, [])) := by
  refine ⟨?_, fun b h2 h3 => ?_, fun b hb => ?_⟩
  · rw [show ux_up E 211 (101, (A 211).set n y, []) 210 = E 210 from if_neg (by omega)]
    exact h.1
  · by_cases hba : b = 211
    · subst hba
      rw [show ux_up E 211 (101, (A 211).set n y, []) 211 = some (101, (A 211).set n y, []) from if_pos rfl, fU_at, List.length_set]
      exact ⟨rfl, h.len 211 ⟨h2, h3⟩⟩
    · rw [show ux_up E 211 (101, (A 211).set n y, []) b = E b from if_neg hba, fU_ne _ _ hba]
      exact h.2.1 b h2 h3
  · rw [show ux_up E 211 (101, (A 211).set n y, []) b = E b from if_neg (by omega)]
    exact h.2.2 b hb
theorem md_sz_small (a : Nat) : md_sz a < 2 ^ 31 := by
  unfold md_sz
  cases h : ux_nth [8, 8, 8, 240, 24, 24, 720, 216, 24, 1920, 8, 8, 8, 8, 5, 300, 8, 8, 32, 32, 32, 32, 32, 80, 41, 12, 12] (a - 211) with
  | none => decide
  | some v =>
    have hm := ux_nth_mem _ _ _ h
    have : ∀ y ∈ [8, 8, 8, 240, 24, 24, 720, 216, 24, 1920, 8, 8, 8, 8, 5, 300, 8, 8, 32, 32, 32, 32, 32, 80, 41, 12, 12], y < 2 ^ 31 := by decide
    exact this v hm
section BN
variable {P : ux_P} {sc : List Int32} {d i pc : Nat} {ls st : List Value} {E : ux_Ev} {x z : Nat} {w : Bool} {K : ux_K1}
/-- the number on top by another name -/
theorem ux_Btop {y : Int32} (y' : Int32) (he : y = y') (kk : ux_B P sc d i pc ls (.int y' :: st) E x z w K) : ux_B P sc d i pc ls (.int y :: st) E x z w K := by rw [he]; exact kk
/-- a row is read, written, at a place known as a number -/
theorem ux_BildN (n : Nat) {a : Nat} {j : Int32} {is : List Int32} {vs : List Value} (hi : P.1 i pc = some (.iaload, 1)) (hc : E a = some (100, is, vs)) (hj : j = nI n) (hb : n < 2 ^ 31) (hn : n < is.length)
    (kk : ux_B P sc d i (pc + 1) ls (.int (is.getD n 0) :: st) E x z w K) : ux_B P sc d i pc ls (.int j :: .ref a :: st) E x z w K := by
  subst hj
  refine ux_Bild hi hc (nI_pos hb) (y := is.getD n 0) ?_ kk
  rw [nI_clamp hb]
  simp [hn]
theorem ux_BistN (n : Nat) {a : Nat} {j y : Int32} {is : List Int32} {vs : List Value} (hi : P.1 i pc = some (.iastore, 1)) (hc : E a = some (100, is, vs)) (hj : j = nI n) (hb : n < 2 ^ 31) (hn : n < is.length)
    (kk : ux_B P sc d i (pc + 1) ls st (ux_up E a (100, is.set n y, vs)) x z true K) : ux_B P sc d i pc ls (.int y :: .int j :: .ref a :: st) E x z w K := by
  subst hj
  refine ux_Bist hi hc (nI_pos hb) (by rw [nI_clamp hb]; exact hn) ?_
  rw [nI_clamp hb]
  exact kk
theorem ux_BzldN (n : Nat) {a : Nat} {j : Int32} {is : List Int32} {vs : List Value} (hi : P.1 i pc = some (.baload, 1)) (hc : E a = some (101, is, vs)) (hj : j = nI n) (hb : n < 2 ^ 31) (hn : n < is.length)
    (kk : ux_B P sc d i (pc + 1) ls (.int (is.getD n 0) :: st) E x z w K) : ux_B P sc d i pc ls (.int j :: .ref a :: st) E x z w K := by
  subst hj
  refine ux_Bzld hi hc (nI_pos hb) (y := is.getD n 0) ?_ kk
  rw [nI_clamp hb]
  simp [hn]
theorem ux_BzstN (n : Nat) {a : Nat} {j y : Int32} {is : List Int32} {vs : List Value} (hi : P.1 i pc = some (.bastore, 1)) (hc : E a = some (101, is, vs)) (hj : j = nI n) (hb : n < 2 ^ 31) (hn : n < is.length) (h01 : y = 0 ∨ y = 1)
    (kk : ux_B P sc d i (pc + 1) ls st (ux_up E a (101, is.set n y, vs)) x z true K) : ux_B P sc d i pc ls (.int y :: .int j :: .ref a :: st) E x z w K := by
  subst hj
  refine ux_Bzst hi hc (nI_pos hb) (by rw [nI_clamp hb]; exact hn) h01 ?_
  rw [nI_clamp hb]
  exact kk
end BN
section MR
variable {sc : List Int32} {d i pc : Nat} {ls st : List Value} {E0 E : ux_Ev} {g : Nat → Int32} {A : Nat → List Int32} {x z : Nat} {w : Bool} {K : ux_K1}
theorem mr_ild (hm : md E0 g A E) (a n : Nat) {j : Int32} (hi : uxP.1 i pc = some (.iaload, 1)) (h1 : 212 ≤ a ∧ a ≤ 237) (hn : n < md_sz a) (hj : j = nI n) (kk : ux_B uxP sc d i (pc + 1) ls (.int ((A a).getD n 0) :: st) E x z w K) : ux_B uxP sc d i pc ls (.int j :: .ref a :: st) E x z w K :=
  ux_BildN n hi (hm.row a h1) hj (Nat.lt_trans hn (md_sz_small a)) (by rw [hm.len a ⟨by omega, h1.2⟩]; exact hn) kk
theorem mr_ist (hm : md E0 g A E) (a n : Nat) {j y : Int32} (hi : uxP.1 i pc = some (.iastore, 1)) (h1 : 212 ≤ a ∧ a ≤ 237) (hn : n < md_sz a) (hj : j = nI n) (kk : ∀ E', md E0 g (fU A a ((A a).set n y)) E' → ux_B uxP sc d i (pc + 1) ls st E' x z true K) : ux_B uxP sc d i pc ls (.int y :: .int j :: .ref a :: st) E x z w K :=
  ux_BistN n hi (hm.row a h1) hj (Nat.lt_trans hn (md_sz_small a)) (by rw [hm.len a ⟨by omega, h1.2⟩]; exact hn) (kk _ (hm.set a h1 n y))
theorem mr_zld (hm : md E0 g A E) (n : Nat) {j : Int32} (hi : uxP.1 i pc = some (.baload, 1)) (hn : n < 8) (hj : j = nI n) (kk : ux_B uxP sc d i (pc + 1) ls (.int ((A 211).getD n 0) :: st) E x z w K) : ux_B uxP sc d i pc ls (.int j :: .ref 211 :: st) E x z w K :=
  ux_BzldN n hi (hm.2.1 211 (by decide) (by decide)).1 hj (by omega) (by rw [hm.len 211 (by decide)]; exact hn) kk
theorem mr_zst (hm : md E0 g A E) (n : Nat) {j y : Int32} (hi : uxP.1 i pc = some (.bastore, 1)) (hn : n < 8) (hj : j = nI n) (h01 : y = 0 ∨ y = 1) (kk : ∀ E', md E0 g (fU A 211 ((A 211).set n y)) E' → ux_B uxP sc d i (pc + 1) ls st E' x z true K) : ux_B uxP sc d i pc ls (.int y :: .int j :: .ref 211 :: st) E x z w K :=
  ux_BzstN n hi (hm.2.1 211 (by decide) (by decide)).1 hj (by omega) (by rw [hm.len 211 (by decide)]; exact hn) h01 (kk _ (hm.setz n y))
theorem mr_put (hm : md E0 g A E) {k j : Nat} {y : Int32} (hi : uxP.1 i pc = some (.putfield k, 3)) (hf : uxP.2.1 i k = some (7, j, false)) (hp : uxP.2.2.2.1 i (200000 + k) = some 2000) (hj : j < 36) (hl : (md_F g).set j (.int y) = md_F (fU g j y)) (kk : ∀ E', md E0 (fU g j y) A E' → ux_B uxP sc d i (pc + 3) ls st E' x z true K) : ux_B uxP sc d i pc ls (.int y :: .ref 210 :: st) E x z w K :=
  ux_Bput hi hf hp hm.1 rfl hj (kk _ (hm.put hl))
end MR
section MO
variable {sc : List Int32} {d : Nat} {E0 E : ux_Ev} {g : Nat → Int32} {A : Nat → List Int32} {x z : Nat} {K : ux_K1}
theorem mo_out (v lim : Int32) (hK : K (.inr (some (.int (if v < 0 ∨ lim ≤ v then 1 else 0)))) E x z false) : ux_Bm uxP sc d 82 [.int v, .int lim] E x z K := by
  show ux_B uxP sc d 82 0 [.int v, .int lim] [] E x z false K
  refine ux_BN 2 rfl ?_
  refine ux_Bif (fun h1 => ?_) (fun h1 => ?_)
  · refine ux_BN 2 rfl ?_
    refine ux_Bri rfl (Or.inr ⟨rfl, Or.inr rfl⟩) ?_
    rw [if_pos (Or.inl h1)] at hK
    exact hK
  · refine ux_BN 3 rfl ?_
    refine ux_Bif (fun h2 => ?_) (fun h2 => ?_)
    · refine ux_BN 1 rfl ?_
      refine ux_Bri rfl (Or.inr ⟨rfl, Or.inl rfl⟩) ?_
      rw [if_neg (fun h => h.elim h1 (fun h3 => k2_nlt h3 h2))] at hK
      exact hK
    · refine ux_BN 2 rfl ?_
      refine ux_Bri rfl (Or.inr ⟨rfl, Or.inr rfl⟩) ?_
      rw [if_pos (Or.inr (k2_le h2))] at hK
      exact hK
theorem mo_fails (hm : md E0 g A E) (b c : Int32) (h01 : b = 0 ∨ b = 1) (hK : ∀ E', md E0 (fU g 0 (if b = 0 then 0 else c)) A E' → K (.inr (some (.int b))) E' x z true) : ux_Bm uxP sc d 83 [.ref 210, .int b, .int c] E x z K := by
  show ux_B uxP sc d 83 0 [.ref 210, .int b, .int c] [] E x z false K
  refine ux_BN 3 rfl ?_
  refine ux_Bif (fun h1 => ?_) (fun h1 => ?_)
  · refine ux_BN 1 rfl ?_
    refine ux_Bput rfl rfl rfl hm.1 rfl (Nat.le_of_ble_eq_true rfl) ?_
    refine ux_BN 1 rfl ?_
    refine ux_Bri rfl (Or.inr ⟨rfl, h01⟩) (hK _ (hm.put ?_))
    rw [if_pos h1]; rfl
  · refine ux_BN 2 rfl ?_
    refine ux_Bput rfl rfl rfl hm.1 rfl (Nat.le_of_ble_eq_true rfl) ?_
    refine ux_BN 1 rfl ?_
    refine ux_Bri rfl (Or.inr ⟨rfl, h01⟩) (hK _ (hm.put ?_))
    rw [if_neg h1]; rfl
theorem mo_thrown (hm : md E0 g A E) (hK : K (.inr (some (.int (g 0)))) E x z false) : ux_Bm uxP sc d 80 [.ref 210] E x z K := by
  show ux_B uxP sc d 80 0 [.ref 210] [] E x z false K
  refine ux_BN 1 rfl ?_
  refine ux_Bget rfl rfl hm.1 rfl ?_
  exact ux_Bri rfl (Or.inl rfl) hK
theorem mo_parameters (hm : md E0 g A E) (f : Nat) (hf : f < 8) (hK : K (.inr (some (.int ((A 212).getD f 0 &&& 3)))) E x z false) : ux_Bm uxP sc d 96 [.ref 210, .int (nI f)] E x z K := by
  show ux_B uxP sc d 96 0 [.ref 210, .int (nI f)] [] E x z false K
  refine ux_BN 1 rfl ?_
  refine ux_Bget rfl rfl hm.1 rfl ?_
  refine ux_BN 1 rfl ?_
  refine mr_ild hm 212 f rfl (by decide) hf rfl ?_
  refine ux_BN 2 rfl ?_
  exact ux_Bri rfl (Or.inl rfl) hK
theorem mo_typeOf (hm : md E0 g A E) (f : Nat) (hf : f < 8) (k : Int32) (hK : K (.inr (some (.int (((A 212).getD f 0 >>> ((2 + k) &&& 31)) &&& 1)))) E x z false) : ux_Bm uxP sc d 97 [.ref 210, .int (nI f), .int k] E x z K := by
  show ux_B uxP sc d 97 0 [.ref 210, .int (nI f), .int k] [] E x z false K
  refine ux_BN 1 rfl ?_
  refine ux_Bget rfl rfl hm.1 rfl ?_
  refine ux_BN 1 rfl ?_
  refine mr_ild hm 212 f rfl (by decide) hf rfl ?_
  refine ux_BN 6 rfl ?_
  exact ux_Bri rfl (Or.inl rfl) hK
theorem mo_resultOf (hm : md E0 g A E) (f : Nat) (hf : f < 8) (hK : K (.inr (some (.int ((A 212).getD f 0 >>> ((5 : Int32) &&& 31))))) E x z false) : ux_Bm uxP sc d 101 [.ref 210, .int (nI f)] E x z K := by
  show ux_B uxP sc d 101 0 [.ref 210, .int (nI f)] [] E x z false K
  refine ux_BN 1 rfl ?_
  refine ux_Bget rfl rfl hm.1 rfl ?_
  refine ux_BN 1 rfl ?_
  refine mr_ild hm 212 f rfl (by decide) hf rfl ?_
  refine ux_BN 2 rfl ?_
  exact ux_Bri rfl (Or.inl rfl) hK
theorem mo_isSign (t : Int32) (hK : K (.inr (some (.int (if 3 ≤ t ∧ t ≤ 7 then 1 else 0)))) E x z false) : ux_Bm uxP sc d 98 [.int t] E x z K := by
  show ux_B uxP sc d 98 0 [.int t] [] E x z false K
  refine ux_BN 3 rfl ?_
  refine ux_Bif (fun h1 => ?_) (fun h1 => ?_)
  · refine ux_BN 1 rfl ?_
    refine ux_Bri rfl (Or.inr ⟨rfl, Or.inl rfl⟩) ?_
    rw [if_neg (fun h => k2_nlt h.1 h1)] at hK
    exact hK
  · refine ux_BN 3 rfl ?_
    refine ux_Bif (fun h2 => ?_) (fun h2 => ?_)
    · refine ux_BN 1 rfl ?_
      refine ux_Bri rfl (Or.inr ⟨rfl, Or.inl rfl⟩) ?_
      rw [if_neg (fun h => k2_nlt h.2 h2)] at hK
      exact hK
    · refine ux_BN 2 rfl ?_
      refine ux_Bri rfl (Or.inr ⟨rfl, Or.inr rfl⟩) ?_
      rw [if_pos ⟨k2_le h1, k2_le h2⟩] at hK
      exact hK
theorem mo_isCall (t : Int32) (hK : K (.inr (some (.int (if 11 ≤ t ∧ t < 19 then 1 else 0)))) E x z false) : ux_Bm uxP sc d 100 [.int t] E x z K := by
  show ux_B uxP sc d 100 0 [.int t] [] E x z false K
  refine ux_BN 3 rfl ?_
  refine ux_Bif (fun h1 => ?_) (fun h1 => ?_)
  · refine ux_BN 1 rfl ?_
    refine ux_Bri rfl (Or.inr ⟨rfl, Or.inl rfl⟩) ?_
    rw [if_neg (fun h => k2_nlt h.1 h1)] at hK
    exact hK
  · refine ux_BN 3 rfl ?_
    refine ux_Bif (fun h2 => ?_) (fun h2 => ?_)
    · refine ux_BN 1 rfl ?_
      refine ux_Bri rfl (Or.inr ⟨rfl, Or.inl rfl⟩) ?_
      rw [if_neg (fun h => k2_nlt h2 h.2)] at hK
      exact hK
    · refine ux_BN 2 rfl ?_
      refine ux_Bri rfl (Or.inr ⟨rfl, Or.inr rfl⟩) ?_
      rw [if_pos ⟨k2_le h1, k2_lt h2⟩] at hK
      exact hK
theorem mo_typeOfSign (t : Int32) (hK : K (.inr (some (.int (if t < 6 then 0 else 1)))) E x z false) : ux_Bm uxP sc d 104 [.int t] E x z K := by
  show ux_B uxP sc d 104 0 [.int t] [] E x z false K
  refine ux_BN 3 rfl ?_
  refine ux_Bif (fun h1 => ?_) (fun h1 => ?_)
  · refine ux_BN 1 rfl ?_
    refine ux_Bri rfl (Or.inl rfl) ?_
    rw [if_neg (k2_nlt (show (6 : Int32) ≤ t from h1))] at hK
    exact hK
  · refine ux_BN 2 rfl ?_
    refine ux_Bri rfl (Or.inl rfl) ?_
    rw [if_pos (k2_lt (show ¬ (6 : Int32) ≤ t from h1))] at hK
    exact hK
theorem mo_wordsOf (t : Int32) (hK : K (.inr (some (.int (if 2 ≤ t ∧ t ≤ 6 then 1 else 2)))) E x z false) : ux_Bm uxP sc d 109 [.int t] E x z K := by
  show ux_B uxP sc d 109 0 [.int t] [] E x z false K
  refine ux_BN 3 rfl ?_
  refine ux_Bif (fun h1 => ?_) (fun h1 => ?_)
  · refine ux_BN 1 rfl ?_
    refine ux_Bri rfl (Or.inl rfl) ?_
    rw [if_neg (fun h => k2_nlt h.1 h1)] at hK
    exact hK
  · refine ux_BN 3 rfl ?_
    refine ux_Bif (fun h2 => ?_) (fun h2 => ?_)
    · refine ux_BN 1 rfl ?_
      refine ux_Bri rfl (Or.inl rfl) ?_
      rw [if_neg (fun h => k2_nlt h.2 h2)] at hK
      exact hK
    · refine ux_BN 2 rfl ?_
      refine ux_Bri rfl (Or.inl rfl) ?_
      rw [if_pos ⟨k2_le h1, k2_le h2⟩] at hK
      exact hK
theorem mo_wrong (hm : md E0 g A E) (y q : Int32) (hK : ∀ E' w', md E0 (if 0 < g 29 then g else fU (fU g 29 y) 30 q) A E' → K (.inr none) E' x z w') : ux_Bm uxP sc d 93 [.ref 210, .int y, .int q] E x z K := by
  show ux_B uxP sc d 93 0 [.ref 210, .int y, .int q] [] E x z false K
  refine ux_BN 1 rfl ?_
  refine ux_Bget rfl rfl hm.1 rfl ?_
  refine ux_BN 1 rfl ?_
  refine ux_Bif (fun h1 => ?_) (fun h1 => ?_)
  · rw [if_neg (k2_nlt h1)] at hK
    refine ux_BN 2 rfl ?_
    refine mr_put hm rfl rfl rfl (by decide) rfl fun E1 m1 => ?_
    refine ux_BN 2 rfl ?_
    refine mr_put m1 rfl rfl rfl (by decide) rfl fun E2 m2 => ?_
    exact ux_Br rfl (hK _ _ m2)
  · rw [if_pos (k2_lt h1)] at hK
    exact ux_Br rfl (hK _ _ hm)
theorem mo_emit (hm : md E0 g A E) (y : Int32) (n : Nat) (hn : n < 80) (hg : g 28 = nI n) (hK : ∀ E', md E0 (fU g 28 (nI (n + 1))) (fU A 234 ((A 234).set n y)) E' → K (.inr none) E' x z true) : ux_Bm uxP sc d 95 [.ref 210, .int y] E x z K := by
  show ux_B uxP sc d 95 0 [.ref 210, .int y] [] E x z false K
  refine ux_BN 1 rfl ?_
  refine ux_Bget rfl rfl hm.1 rfl ?_
  refine ux_BN 1 rfl ?_
  refine ux_Bget rfl rfl hm.1 rfl ?_
  refine ux_BN 1 rfl ?_
  refine mr_ist hm 234 n rfl (by decide) hn hg fun E1 m1 => ?_
  refine ux_BN 2 rfl ?_
  refine ux_Bget rfl rfl m1.1 rfl ?_
  refine ux_BN 2 rfl ?_
  refine ux_Btop (nI (n + 1)) (show g 28 + 1 = nI (n + 1) from by rw [hg]; exact nI_1 n) ?_
  refine mr_put m1 rfl rfl rfl (by decide) rfl fun E2 m2 => ?_
  exact ux_Br rfl (hK _ m2)
end MO
end
section
/-! The reference's small methods, second row. -/
def ux_cb (P : ux_P) (j : Nat) (as r0 : List Value) : Bool := Nat.ble (r0.map fun v => v.category).sum 16 && (Nat.ble as.length (P.2.2.2.2.2.2 j).1 && (Nat.ble (P.2.2.2.2.2.2 j).1 30 && (as.all fun v => v.category == 1)))
theorem ux_cb_of {P : ux_P} {j : Nat} {as r0 : List Value} (h : ux_cb P j as r0 = true) : (r0.map fun v => v.category).sum ≤ 16 ∧ as.length ≤ (P.2.2.2.2.2.2 j).1 ∧ (P.2.2.2.2.2.2 j).1 ≤ 30 ∧ (as.all fun v => v.category == 1) = true := by
  unfold ux_cb at h
  simp only [Bool.and_eq_true] at h
  exact ⟨Nat.le_of_ble_eq_true h.1, Nat.le_of_ble_eq_true h.2.1, Nat.le_of_ble_eq_true h.2.2.1, h.2.2.2⟩
section BC
variable {P : ux_P} {sc : List Int32} {d i pc : Nat} {ls st : List Value} {E : ux_Ev} {x z : Nat} {w : Bool} {K : ux_K1}
theorem ux_Bk {j : Nat} {as r0 : List Value} (hs : ux_cc P i pc st E = some (j, as, r0)) (hc : ux_cb P j as r0 = true)
    (hm : ux_Bm P sc d j as E x z (fun o E1 x1 z1 w1 => match o with
      | .inr v => ux_B P sc (d + 1) i (pc + 3) ls (v.toList ++ r0) E1 x1 z1 (w || w1) K
      | .inl k => (P.2.2.2.2.2.2 i).2.2 = [] ∧ K (.inl k) E1 x1 z1 true)) : ux_B P sc (d + 1) i pc ls st E x z w K := ux_Bc hs (ux_cb_of hc) hm
/-- a call of an object's method: the receiver's kind is known -/
theorem ux_Bv {k q j n a ci : Nat} {as r0 : List Value} {is : List Int32} {vs : List Value} (hi : P.1 i pc = some (.invokevirtual k, 3)) (hg : P.2.2.1 i k = some (q, j, n)) (hd : st.drop n = .ref a :: r0) (hE : E a = some (ci, is, vs)) (hq : q = 100 + ci) (hci : ci < 100) (has : .ref a :: (st.take n).reverse = as) (hc : ux_cb P j as r0 = true)
    (hm : ux_Bm P sc d j as E x z (fun o E1 x1 z1 w1 => match o with
      | .inr v => ux_B P sc (d + 1) i (pc + 3) ls (v.toList ++ r0) E1 x1 z1 (w || w1) K
      | .inl k => (P.2.2.2.2.2.2 i).2.2 = [] ∧ K (.inl k) E1 x1 z1 true)) : ux_B P sc (d + 1) i pc ls st E x z w K := by
  subst has
  refine ux_Bk ?_ hc hm
  unfold ux_cc
  rw [hi]
  simp only [hg, hd, hE]
  rw [if_pos ⟨hq, hci⟩]
end BC
section MO2
variable {sc : List Int32} {d : Nat} {E0 E : ux_Ev} {g : Nat → Int32} {A : Nat → List Int32} {x z : Nat} {K : ux_K1}
theorem mo_begins (hm : md E0 g A E) (y q : Int32) (n : Nat) (hn : n < 32) (hg : g 26 = nI n) (hK : ∀ E', md E0 (fU g 26 (nI (n + 1))) (fU (fU (fU A 229 ((A 229).set n y)) 230 ((A 230).set n 0)) 231 ((A 231).set n q)) E' → K (.inr none) E' x z true) : ux_Bm uxP sc d 99 [.ref 210, .int y, .int q] E x z K := by
  show ux_B uxP sc d 99 0 [.ref 210, .int y, .int q] [] E x z false K
  refine ux_BN 1 rfl ?_
  refine ux_Bget rfl rfl hm.1 rfl ?_
  refine ux_BN 1 rfl ?_
  refine ux_Bget rfl rfl hm.1 rfl ?_
  refine ux_BN 1 rfl ?_
  refine mr_ist hm 229 n rfl (by decide) hn hg fun E1 m1 => ?_
  refine ux_BN 1 rfl ?_
  refine ux_Bget rfl rfl m1.1 rfl ?_
  refine ux_BN 1 rfl ?_
  refine ux_Bget rfl rfl m1.1 rfl ?_
  refine ux_BN 1 rfl ?_
  refine mr_ist m1 230 n rfl (by decide) hn hg fun E2 m2 => ?_
  refine ux_BN 1 rfl ?_
  refine ux_Bget rfl rfl m2.1 rfl ?_
  refine ux_BN 1 rfl ?_
  refine ux_Bget rfl rfl m2.1 rfl ?_
  refine ux_BN 1 rfl ?_
  refine mr_ist m2 231 n rfl (by decide) hn hg fun E3 m3 => ?_
  refine ux_BN 2 rfl ?_
  refine ux_Bget rfl rfl m3.1 rfl ?_
  refine ux_BN 2 rfl ?_
  refine ux_Btop (nI (n + 1)) (show g 26 + 1 = nI (n + 1) from by rw [hg]; exact nI_1 n) ?_
  refine mr_put m3 rfl rfl rfl (by decide) rfl fun E4 m4 => ?_
  exact ux_Br rfl (hK _ m4)
/-- out of bounds, as a number -/
def oB (v lim : Int32) : Int32 := if v < 0 ∨ lim ≤ v then 1 else 0
theorem oB01 (v lim : Int32) : oB v lim = 0 ∨ oB v lim = 1 := by unfold oB; split; exact Or.inr rfl; exact Or.inl rfl
theorem oB_0 {v lim : Int32} (h : oB v lim = 0) : ¬ v < 0 ∧ ¬ lim ≤ v := by
  unfold oB at h
  split at h
  · exact absurd h (by decide)
  · rename_i hn; exact ⟨fun q => hn (Or.inl q), fun q => hn (Or.inr q)⟩
theorem oB_n0 {v lim : Int32} (h : ¬ oB v lim = 0) : v < 0 ∨ lim ≤ v := by
  unfold oB at h
  split at h
  · rename_i hn; exact hn
  · exact absurd rfl h
theorem oB_at {v lim : Int32} {n : Nat} (hl : lim = nI n) (hn : n < 2 ^ 31) (h : oB v lim = 0) : ∃ j, j < n ∧ v = nI j := by
  obtain ⟨h1, h2⟩ := oB_0 h
  subst hl
  rcases pk_ix v hn with h3 | h3 | h3
  · exact absurd h3 h1
  · exact absurd h3 h2
  · exact h3
theorem mo_count (hm : md E0 g A E) (v : Int32) (hK1 : v < 0 ∨ 5 ≤ v → ∀ E' w', md E0 (fU g 0 1) A E' → K (.inr (some (.int 0))) E' x z w') (hK2 : ∀ n, n < 5 → v = nI n → ∀ E' w', md E0 (fU g 0 0) A E' → K (.inr (some (.int ((A 225).getD n 0)))) E' x z w') : ux_Bm uxP sc (d + 1) 110 [.ref 210, .int v] E x z K := by
  show ux_B uxP sc (d + 1) 110 0 [.ref 210, .int v] [] E x z false K
  refine ux_BN 3 rfl ?_
  refine ux_Bk (j := 82) rfl rfl ?_
  refine mo_out v 5 ?_
  refine ux_BN 1 rfl ?_
  refine ux_Bv rfl rfl rfl hm.1 rfl (by decide) rfl rfl ?_
  refine mo_fails hm (oB v 5) 1 (oB01 v 5) fun E1 m1 => ?_
  refine ux_BN 1 rfl ?_
  refine ux_Bif (fun h1 => ?_) (fun h1 => ?_)
  · rw [if_pos h1] at m1
    obtain ⟨n, hn, rfl⟩ := oB_at (n := 5) rfl (by decide) h1
    refine ux_BN 1 rfl ?_
    refine ux_Bget rfl rfl m1.1 rfl ?_
    refine ux_BN 1 rfl ?_
    refine mr_ild m1 225 n rfl (by decide) hn rfl ?_
    exact ux_Bri rfl (Or.inl rfl) (hK2 n hn rfl _ _ m1)
  · rw [if_neg h1] at m1
    refine ux_BN 2 rfl ?_
    exact ux_Bri rfl (Or.inl rfl) (hK1 (oB_n0 h1) _ _ m1)
theorem mo_size (hm : md E0 g A E) (hK : ∀ E', md E0 (fU g 0 0) A E' → K (.inr (some (.int (g 17)))) E' x z true) : ux_Bm uxP sc d 112 [.ref 210] E x z K := by
  show ux_B uxP sc d 112 0 [.ref 210] [] E x z false K
  refine ux_BN 2 rfl ?_
  refine mr_put hm rfl rfl rfl (by decide) rfl fun E1 m1 => ?_
  refine ux_BN 1 rfl ?_
  refine ux_Bget rfl rfl m1.1 rfl ?_
  exact ux_Bri rfl (Or.inl rfl) (hK _ m1)
theorem mo_value (hm : md E0 g A E) (hK : ∀ E', md E0 (fU g 0 0) A E' → K (.inr (some (.int (g 31)))) E' x z true) : ux_Bm uxP sc d 117 [.ref 210] E x z K := by
  show ux_B uxP sc d 117 0 [.ref 210] [] E x z false K
  refine ux_BN 2 rfl ?_
  refine mr_put hm rfl rfl rfl (by decide) rfl fun E1 m1 => ?_
  refine ux_BN 1 rfl ?_
  refine ux_Bget rfl rfl m1.1 rfl ?_
  exact ux_Bri rfl (Or.inl rfl) (hK _ m1)
theorem mo_used (hm : md E0 g A E) (hK : ∀ E', md E0 (fU g 0 0) A E' → K (.inr (some (.int (g 32)))) E' x z true) : ux_Bm uxP sc d 118 [.ref 210] E x z K := by
  show ux_B uxP sc d 118 0 [.ref 210] [] E x z false K
  refine ux_BN 2 rfl ?_
  refine mr_put hm rfl rfl rfl (by decide) rfl fun E1 m1 => ?_
  refine ux_BN 1 rfl ?_
  refine ux_Bget rfl rfl m1.1 rfl ?_
  exact ux_Bri rfl (Or.inl rfl) (hK _ m1)
theorem mo_word (hm : md E0 g A E) (v : Int32) (m : Nat) (hg : g 17 = nI m) (hm3 : m ≤ 300) (hK1 : v < 0 ∨ nI m ≤ v → ∀ E' w', md E0 (fU g 0 1) A E' → K (.inr (some (.int 0))) E' x z w') (hK2 : ∀ n, n < m → v = nI n → ∀ E' w', md E0 (fU g 0 0) A E' → K (.inr (some (.int ((A 226).getD n 0)))) E' x z w') : ux_Bm uxP sc (d + 1) 113 [.ref 210, .int v] E x z K := by
  show ux_B uxP sc (d + 1) 113 0 [.ref 210, .int v] [] E x z false K
  refine ux_BN 3 rfl ?_
  refine ux_Bget rfl rfl hm.1 rfl ?_
  refine ux_Btop (nI m) hg ?_
  refine ux_Bk (j := 82) rfl rfl ?_
  refine mo_out v (nI m) ?_
  refine ux_BN 1 rfl ?_
  refine ux_Bv rfl rfl rfl hm.1 rfl (by decide) rfl rfl ?_
  refine mo_fails hm (oB v (nI m)) 1 (oB01 v (nI m)) fun E1 m1 => ?_
  refine ux_BN 1 rfl ?_
  refine ux_Bif (fun h1 => ?_) (fun h1 => ?_)
  · rw [if_pos h1] at m1
    obtain ⟨n, hn, rfl⟩ := oB_at (n := m) rfl (by omega) h1
    refine ux_BN 1 rfl ?_
    refine ux_Bget rfl rfl m1.1 rfl ?_
    refine ux_BN 1 rfl ?_
    refine mr_ild m1 226 n rfl (by decide) (show n < 300 by omega) rfl ?_
    exact ux_Bri rfl (Or.inl rfl) (hK2 n hn rfl _ _ m1)
  · rw [if_neg h1] at m1
    refine ux_BN 2 rfl ?_
    exact ux_Bri rfl (Or.inl rfl) (hK1 (oB_n0 h1) _ _ m1)
theorem mo_drop (hm : md E0 g A E) (v : Int32) (hK1 : v < 0 ∨ 8 ≤ v → ∀ E' w', md E0 (fU g 0 1) A E' → K (.inr none) E' x z w') (hK2 : ∀ n, n < 8 → v = nI n → ∀ E' w', md E0 (fU g 0 0) (fU (fU A 211 ((A 211).set n 0)) 213 ((A 213).set n 0)) E' → K (.inr none) E' x z w') : ux_Bm uxP sc (d + 1) 84 [.ref 210, .int v] E x z K := by
  show ux_B uxP sc (d + 1) 84 0 [.ref 210, .int v] [] E x z false K
  refine ux_BN 3 rfl ?_
  refine ux_Bk (j := 82) rfl rfl ?_
  refine mo_out v 8 ?_
  refine ux_BN 1 rfl ?_
  refine ux_Bv rfl rfl rfl hm.1 rfl (by decide) rfl rfl ?_
  refine mo_fails hm (oB v 8) 1 (oB01 v 8) fun E1 m1 => ?_
  refine ux_BN 1 rfl ?_
  refine ux_Bif (fun h1 => ?_) (fun h1 => ?_)
  · rw [if_pos h1] at m1
    obtain ⟨n, hn, rfl⟩ := oB_at (n := 8) rfl (by decide) h1
    refine ux_BN 1 rfl ?_
    refine ux_Bget rfl rfl m1.1 rfl ?_
    refine ux_BN 2 rfl ?_
    refine mr_zst m1 n rfl hn rfl (Or.inl rfl) fun E2 m2 => ?_
    refine ux_BN 1 rfl ?_
    refine ux_Bget rfl rfl m2.1 rfl ?_
    refine ux_BN 2 rfl ?_
    refine mr_ist m2 213 n rfl (by decide) hn rfl fun E3 m3 => ?_
    exact ux_Br rfl (hK2 n hn rfl _ _ m3)
  · rw [if_neg h1] at m1
    exact ux_Br rfl (hK1 (oB_n0 h1) _ _ m1)
theorem mo_wipe (hm : md E0 g A E) (v : Int32) (hK1 : v < 0 ∨ 8 ≤ v → ∀ E' w', md E0 (fU g 0 1) A E' → K (.inr (some (.int 0))) E' x z w') (hK2 : ∀ n, n < 8 → v = nI n → ∀ E' w', md E0 (fU g 0 0) (fU A 213 ((A 213).set n 0)) E' → K (.inr (some (.int ((A 213).getD n 0)))) E' x z w') : ux_Bm uxP sc (d + 1) 87 [.ref 210, .int v] E x z K := by
  show ux_B uxP sc (d + 1) 87 0 [.ref 210, .int v, .null] [] E x z false K
  refine ux_BN 3 rfl ?_
  refine ux_Bk (j := 82) rfl rfl ?_
  refine mo_out v 8 ?_
  refine ux_BN 1 rfl ?_
  refine ux_Bv rfl rfl rfl hm.1 rfl (by decide) rfl rfl ?_
  refine mo_fails hm (oB v 8) 1 (oB01 v 8) fun E1 m1 => ?_
  refine ux_BN 1 rfl ?_
  refine ux_Bif (fun h1 => ?_) (fun h1 => ?_)
  · rw [if_pos h1] at m1
    obtain ⟨n, hn, rfl⟩ := oB_at (n := 8) rfl (by decide) h1
    refine ux_BN 1 rfl ?_
    refine ux_Bget rfl rfl m1.1 rfl ?_
    refine ux_BN 1 rfl ?_
    refine mr_ild m1 213 n rfl (by decide) hn rfl ?_
    refine ux_BN 2 rfl ?_
    refine ux_Bget rfl rfl m1.1 rfl ?_
    refine ux_BN 2 rfl ?_
    refine mr_ist m1 213 n rfl (by decide) hn rfl fun E3 m3 => ?_
    refine ux_BN 1 rfl ?_
    exact ux_Bri rfl (Or.inl rfl) (hK2 n hn rfl _ _ m3)
  · rw [if_neg h1] at m1
    refine ux_BN 1 rfl ?_
    exact ux_Bri rfl (Or.inl rfl) (hK1 (oB_n0 h1) _ _ m1)
end MO2
end
section
/-! The reference's calls on texts, and its look. -/
theorem ux_Bsel {P : ux_P} {sc : List Int32} {d i : Nat} {ls st : List Value} {E : ux_Ev} {x z : Nat} {w : Bool} {K : ux_K1} {c : Prop} {_ : Decidable c} {p1 p2 q : Nat} {y1 y2 : Int32} (n1 n2 : Nat) (h1 : ux_sN P i n1 p1 ls st = some (q, ls, .int y1 :: st)) (h2 : ux_sN P i n2 p2 ls st = some (q, ls, .int y2 :: st)) (k : ux_B P sc d i q ls (.int (if c then y1 else y2) :: st) E x z w K) : ux_B P sc d i (if decide c = true then p1 else p2) ls st E x z w K := by
  by_cases hc : c
  · rw [if_pos hc] at k
    rw [if_pos (decide_eq_true hc)]; exact ux_BN n1 h1 k
  · rw [if_neg hc] at k
    rw [if_neg (by simpa using hc)]; exact ux_BN n2 h2 k
section BIF
variable {P : ux_P} {sc : List Int32} {d i : Nat} {ls st : List Value} {E : ux_Ev} {x z : Nat} {w : Bool} {K : ux_K1} {p q : Nat} {u v : Int32}
theorem ux_BleN (a b : Nat) (hu : u = nI a) (hv : v = nI b) (ha : a < 2 ^ 31) (hb : b < 2 ^ 31) (k1 : a ≤ b → ux_B P sc d i p ls st E x z w K) (k2 : b < a → ux_B P sc d i q ls st E x z w K) : ux_B P sc d i (if decide (u ≤ v) = true then p else q) ls st E x z w K := by
  subst hu hv
  exact ux_Bif (fun h => k1 ((nI_leI ha hb).mp h)) (fun h => k2 (Nat.lt_of_not_le fun h2 => h ((nI_leI ha hb).mpr h2)))
theorem ux_BltN (a b : Nat) (hu : u = nI a) (hv : v = nI b) (ha : a < 2 ^ 31) (hb : b < 2 ^ 31) (k1 : a < b → ux_B P sc d i p ls st E x z w K) (k2 : b ≤ a → ux_B P sc d i q ls st E x z w K) : ux_B P sc d i (if decide (u < v) = true then p else q) ls st E x z w K := by
  subst hu hv
  exact ux_Bif (fun h => k1 ((nI_ltI ha hb).mp h)) (fun h => k2 (Nat.le_of_not_lt fun h2 => h ((nI_ltI ha hb).mpr h2)))
theorem ux_BeqN (a b : Nat) (hu : u = nI a) (hv : v = nI b) (ha : a < 2 ^ 31) (hb : b < 2 ^ 31) (k1 : a = b → ux_B P sc d i p ls st E x z w K) (k2 : a ≠ b → ux_B P sc d i q ls st E x z w K) : ux_B P sc d i (if decide (u = v) = true then p else q) ls st E x z w K := by
  subst hu hv
  exact ux_Bif (fun h => k1 ((nI_eq ha hb).mp h)) (fun h => k2 (fun h2 => h ((nI_eq ha hb).mpr h2)))
theorem ux_BneN (a b : Nat) (hu : u = nI a) (hv : v = nI b) (ha : a < 2 ^ 31) (hb : b < 2 ^ 31) (k1 : a ≠ b → ux_B P sc d i p ls st E x z w K) (k2 : a = b → ux_B P sc d i q ls st E x z w K) : ux_B P sc d i (if decide (¬ u = v) = true then p else q) ls st E x z w K := by
  subst hu hv
  exact ux_Bif (fun h => k1 (fun h2 => h ((nI_eq ha hb).mpr h2))) (fun h => k2 ((nI_eq ha hb).mp (Decidable.not_not.mp h)))
theorem ux_BifC {c c' : Prop} {_ : Decidable c} (hc : c ↔ c') (ka : c' → ux_B P sc d i p ls st E x z w K) (kb : ¬ c' → ux_B P sc d i q ls st E x z w K) : ux_B P sc d i (if decide c = true then p else q) ls st E x z w K :=
  ux_Bif (fun h => ka (hc.mp h)) (fun h => kb (fun h2 => h (hc.mpr h2)))
theorem ux_Bne {a b : Int32} (ka : a = b → ux_B P sc d i q ls st E x z w K) (kb : ¬ a = b → ux_B P sc d i p ls st E x z w K) : ux_B P sc d i (if decide (¬ a = b) = true then p else q) ls st E x z w K :=
  ux_Bif kb (fun h => ka (Decidable.not_not.mp h))
end BIF
theorem nI_3 (f k : Nat) : (3 : Int32) * nI f + nI k = nI (3 * f + k) := by
  rw [show (3 : Int32) = nI 3 from rfl, pk_mul, nI_add]
/-- a signature's number -/
def sgM (p t b : Int32) : Int32 := (p ||| ((t &&& ((1 <<< (p &&& 31)) - 1)) <<< ((2 : Int32) &&& 31))) ||| (if b = 0 then 0 else 32)
theorem fU_fU {α : Type} (f : Nat → α) (k : Nat) (v w : α) : fU (fU f k v) k w = fU f k w := by
  funext j
  unfold fU
  by_cases h : j = k
  · rw [if_pos h, if_pos h]
  · rw [if_neg h, if_neg h, if_neg h]
theorem ite01 {c : Prop} {_ : Decidable c} : (if c then (0 : Int32) else 1) = 0 ∨ (if c then (0 : Int32) else 1) = 1 := by split; exact Or.inl rfl; exact Or.inr rfl
theorem ite0 {c : Prop} {_ : Decidable c} (h : (if c then (0 : Int32) else 1) = 0) : c := by
  by_cases hc : c
  · exact hc
  · rw [if_neg hc] at h; exact absurd h (by decide)
theorem ite1 {c : Prop} {_ : Decidable c} (h : ¬ (if c then (0 : Int32) else 1) = 0) : ¬ c := fun hc => h (if_pos hc)
theorem nI_30 (f k : Nat) : (30 : Int32) * nI f + nI k = nI (30 * f + k) := by
  rw [show (30 : Int32) = nI 30 from rfl, pk_mul, nI_add]
section MO3
variable {sc : List Int32} {d : Nat} {E0 E : ux_Ev} {g : Nat → Int32} {A : Nat → List Int32} {x z : Nat} {K : ux_K1}
theorem mo_sign (hm : md E0 g A E) (v p t b : Int32) (hK1 : (v < 0 ∨ 8 ≤ v) ∨ (p < 0 ∨ 4 ≤ p) → ∀ E' w', md E0 (fU g 0 1) A E' → K (.inr none) E' x z w') (hK2 : ∀ n k, n < 8 → k < 4 → v = nI n → p = nI k → ∀ E' w', md E0 (fU g 0 0) (fU (fU A 211 ((A 211).set n 1)) 212 ((A 212).set n (sgM p t b))) E' → K (.inr none) E' x z w') : ux_Bm uxP sc (d + 1) 81 [.ref 210, .int v, .int p, .int t, .int b] E x z K := by
  show ux_B uxP sc (d + 1) 81 0 [.ref 210, .int v, .int p, .int t, .int b] [] E x z false K
  refine ux_BN 3 rfl ?_
  refine ux_Bk (j := 82) rfl rfl ?_
  refine mo_out v 8 ?_
  refine ux_BN 1 rfl ?_
  refine ux_Bif (fun h7 => ?_) (fun h7 => ?_)
  · refine ux_BN 3 rfl ?_
    refine ux_Bv rfl rfl rfl hm.1 rfl (by decide) rfl rfl ?_
    refine mo_fails hm 1 1 (Or.inr rfl) fun E2 m2 => ?_
    refine ux_BN 1 rfl ?_
    refine ux_Bif (fun h27 => ?_) (fun h27 => ?_)
    · exact absurd h27 (by decide)
    · exact ux_Br rfl (hK1 (Or.inl (oB_n0 h7)) _ _ m2)
  · refine ux_BN 2 rfl ?_
    refine ux_Bk (j := 82) rfl rfl ?_
    refine mo_out p 4 ?_
    refine ux_BN 1 rfl ?_
    refine ux_Bsel 1 2 rfl rfl ?_
    refine ux_BN 1 rfl ?_
    refine ux_Bv rfl rfl rfl hm.1 rfl (by decide) rfl rfl ?_
    have h7' : oB v 8 = 0 := Decidable.not_not.mp h7
    refine mo_fails hm (if oB p 4 = 0 then 0 else 1) 1 ite01 fun E6 m6 => ?_
    refine ux_BN 1 rfl ?_
    refine ux_Bif (fun h27 => ?_) (fun h27 => ?_)
    · rw [if_pos h27] at m6
      obtain ⟨n, hn, rfl⟩ := oB_at (n := 8) rfl (by decide) h7'
      obtain ⟨k, hk, rfl⟩ := oB_at (n := 4) rfl (by decide) (ite0 h27)
      refine ux_BN 1 rfl ?_
      refine ux_Bget rfl rfl m6.1 rfl ?_
      refine ux_BN 2 rfl ?_
      refine mr_zst m6 n rfl hn rfl (Or.inr rfl) fun E7 m7 => ?_
      refine ux_BN 1 rfl ?_
      refine ux_Bget rfl rfl m7.1 rfl ?_
      refine ux_BN 14 rfl ?_
      refine ux_Bsel 1 2 rfl rfl ?_
      refine ux_BN 1 rfl ?_
      refine mr_ist m7 212 n rfl (by decide) hn rfl fun E8 m8 => ?_
      exact ux_Br rfl (hK2 n k hn hk rfl rfl _ _ m8)
    · rw [if_neg h27] at m6
      exact ux_Br rfl (hK1 (Or.inr (oB_n0 (ite1 h27))) _ _ m6)
theorem mo_token (hm : md E0 g A E) (v t : Int32) (ln : Nat → Nat) (hl : ∀ n, n < 8 → (A 213).getD n 0 = nI (ln n) ∧ ln n ≤ 30)
    (hK1 : v < 0 ∨ 8 ≤ v → ∀ E' w', md E0 (fU g 0 1) A E' → K (.inr (some (.int 0))) E' x z w')
    (hK2 : ∀ n, n < 8 → v = nI n → (A 211).getD n 0 = 0 → ∀ E' w', md E0 (fU g 0 2) A E' → K (.inr (some (.int 0))) E' x z w')
    (hK3 : ∀ n, n < 8 → v = nI n → ¬ (A 211).getD n 0 = 0 → ln n = 30 → ∀ E' w', md E0 (fU g 0 0) A E' → K (.inr (some (.int 0))) E' x z w')
    (hK4 : ∀ n, n < 8 → v = nI n → ¬ (A 211).getD n 0 = 0 → ln n < 30 → ∀ E' w', md E0 (fU g 0 0) (fU (fU A 214 ((A 214).set (30 * n + ln n) t)) 213 ((A 213).set n (nI (ln n + 1)))) E' → K (.inr (some (.int 1))) E' x z w') : ux_Bm uxP sc (d + 1) 85 [.ref 210, .int v, .int t] E x z K := by
  show ux_B uxP sc (d + 1) 85 0 [.ref 210, .int v, .int t] [] E x z false K
  refine ux_BN 3 rfl ?_
  refine ux_Bk (j := 82) rfl rfl ?_
  refine mo_out v 8 ?_
  refine ux_BN 1 rfl ?_
  refine ux_Bv rfl rfl rfl hm.1 rfl (by decide) rfl rfl ?_
  refine mo_fails hm (oB v 8) 1 (oB01 v 8) fun E2 m2 => ?_
  refine ux_BN 1 rfl ?_
  refine ux_Bif (fun h11 => ?_) (fun h11 => ?_)
  · rw [if_neg h11] at m2
    refine ux_BN 1 rfl ?_
    exact ux_Bri rfl (Or.inr ⟨rfl, Or.inl rfl⟩) (hK1 (oB_n0 h11) _ _ m2)
  · have h11' : oB v 8 = 0 := Decidable.not_not.mp h11
    rw [if_pos h11'] at m2
    obtain ⟨n, hn, rfl⟩ := oB_at (n := 8) rfl (by decide) h11'
    obtain ⟨hl1, hl2⟩ := hl n hn
    refine ux_BN 2 rfl ?_
    refine ux_Bget rfl rfl m2.1 rfl ?_
    refine ux_BN 1 rfl ?_
    refine mr_zld m2 n rfl hn rfl ?_
    refine ux_BN 1 rfl ?_
    refine ux_Bsel 1 2 rfl rfl ?_
    refine ux_BN 1 rfl ?_
    refine ux_Bv rfl rfl rfl m2.1 rfl (by decide) rfl rfl ?_
    refine mo_fails m2 (if ¬ (A 211).getD n 0 = 0 then 0 else 1) 2 ite01 fun E3 m3 => ?_
    refine ux_BN 1 rfl ?_
    refine ux_Bif (fun h33 => ?_) (fun h33 => ?_)
    · refine ux_BN 1 rfl ?_
      have h9 : (A 211).getD n 0 = 0 := Decidable.not_not.mp (ite1 h33)
      rw [if_neg h33, fU_fU] at m3
      exact ux_Bri rfl (Or.inr ⟨rfl, Or.inl rfl⟩) (hK2 n hn rfl h9 _ _ m3)
    · have h33' := Decidable.not_not.mp h33
      rw [if_pos h33', fU_fU] at m3
      have h9 : ¬ (A 211).getD n 0 = 0 := ite0 h33'
      refine ux_BN 1 rfl ?_
      refine ux_Bget rfl rfl m3.1 rfl ?_
      refine ux_BN 1 rfl ?_
      refine mr_ild m3 213 n rfl (by decide) hn rfl ?_
      rw [hl1]
      refine ux_BN 2 rfl ?_
      refine ux_Bif (fun h44 => ?_) (fun h44 => ?_)
      · have h44' : ln n < 30 := by
          by_cases h : ln n = 30
          · exact absurd (by rw [h]; rfl) h44
          · omega
        refine ux_BN 1 rfl ?_
        refine ux_Bget rfl rfl m3.1 rfl ?_
        refine ux_BN 4 rfl ?_
        refine ux_Bget rfl rfl m3.1 rfl ?_
        refine ux_BN 1 rfl ?_
        refine mr_ild m3 213 n rfl (by decide) hn rfl ?_
        rw [hl1]
        refine ux_BN 2 rfl ?_
        refine mr_ist m3 214 (30 * n + ln n) rfl (by decide) (show 30 * n + ln n < 240 by omega) (nI_30 n (ln n)) fun E4 m4 => ?_
        refine ux_BN 1 rfl ?_
        refine ux_Bget rfl rfl m4.1 rfl ?_
        refine ux_BN 2 rfl ?_
        refine mr_ild m4 213 n rfl (by decide) hn rfl ?_
        rw [show (fU A 214 ((A 214).set (30 * n + ln n) t) 213).getD n 0 = nI (ln n) from hl1]
        refine ux_BN 2 rfl ?_
        refine ux_Btop (nI (ln n + 1)) (nI_1 _) ?_
        refine mr_ist m4 213 n rfl (by decide) hn rfl fun E5 m5 => ?_
        refine ux_BN 1 rfl ?_
        exact ux_Bri rfl (Or.inr ⟨rfl, Or.inr rfl⟩) (hK4 n hn rfl h9 h44' _ _ m5)
      · have h44' : ln n = 30 := by
          have h5 := Decidable.not_not.mp h44
          exact (nI_eq (by omega) (by decide)).mp (h5.trans (show _ = nI 30 from rfl))
        refine ux_BN 1 rfl ?_
        exact ux_Bri rfl (Or.inr ⟨rfl, Or.inl rfl⟩) (hK3 n hn rfl h9 h44' _ _ m3)
theorem mo_edit (hm : md E0 g A E) (v j t : Int32) (ln : Nat → Nat) (hl : ∀ n, n < 8 → (A 213).getD n 0 = nI (ln n) ∧ ln n ≤ 30)
    (hK1 : v < 0 ∨ 8 ≤ v → ∀ E' w', md E0 (fU g 0 1) A E' → K (.inr none) E' x z w')
    (hK2 : ∀ n, n < 8 → v = nI n → j < 0 ∨ nI (ln n) ≤ j → ∀ E' w', md E0 (fU g 0 2) A E' → K (.inr none) E' x z w')
    (hK3 : ∀ n k, n < 8 → v = nI n → k < ln n → j = nI k → ∀ E' w', md E0 (fU g 0 0) (fU A 214 ((A 214).set (30 * n + k) t)) E' → K (.inr none) E' x z w') : ux_Bm uxP sc (d + 1) 86 [.ref 210, .int v, .int j, .int t] E x z K := by
  show ux_B uxP sc (d + 1) 86 0 [.ref 210, .int v, .int j, .int t] [] E x z false K
  refine ux_BN 3 rfl ?_
  refine ux_Bk (j := 82) rfl rfl ?_
  refine mo_out v 8 ?_
  refine ux_BN 1 rfl ?_
  refine ux_Bv rfl rfl rfl hm.1 rfl (by decide) rfl rfl ?_
  refine mo_fails hm (oB v 8) 1 (oB01 v 8) fun E2 m2 => ?_
  refine ux_BN 1 rfl ?_
  refine ux_Bif (fun h11 => ?_) (fun h11 => ?_)
  · rw [if_neg h11] at m2
    exact ux_Br rfl (hK1 (oB_n0 h11) _ _ m2)
  · have h11' : oB v 8 = 0 := Decidable.not_not.mp h11
    rw [if_pos h11'] at m2
    obtain ⟨n, hn, rfl⟩ := oB_at (n := 8) rfl (by decide) h11'
    obtain ⟨hl1, hl2⟩ := hl n hn
    refine ux_BN 3 rfl ?_
    refine ux_Bget rfl rfl m2.1 rfl ?_
    refine ux_BN 1 rfl ?_
    refine mr_ild m2 213 n rfl (by decide) hn rfl ?_
    rw [hl1]
    refine ux_Bk (j := 82) rfl rfl ?_
    refine mo_out j (nI (ln n)) ?_
    refine ux_BN 1 rfl ?_
    refine ux_Bv rfl rfl rfl m2.1 rfl (by decide) rfl rfl ?_
    refine mo_fails m2 (oB j (nI (ln n))) 2 (oB01 _ _) fun E4 m4 => ?_
    rw [fU_fU] at m4
    refine ux_BN 1 rfl ?_
    refine ux_Bif (fun h29 => ?_) (fun h29 => ?_)
    · rw [if_pos h29] at m4
      obtain ⟨k, hk, rfl⟩ := oB_at (n := ln n) rfl (by omega) h29
      refine ux_BN 1 rfl ?_
      refine ux_Bget rfl rfl m4.1 rfl ?_
      refine ux_BN 6 rfl ?_
      refine mr_ist m4 214 (30 * n + k) rfl (by decide) (show 30 * n + k < 240 by omega) (nI_30 n k) fun E5 m5 => ?_
      exact ux_Br rfl (hK3 n k hn rfl hk rfl _ _ m5)
    · rw [if_neg h29] at m4
      exact ux_Br rfl (hK2 n hn rfl (oB_n0 h29) _ _ m4)
/-- how many units are used -/
def mo_cnt (A : Nat → List Int32) (f : Nat) : Nat → Nat
  | 0 => 0
  | n + 1 => mo_cnt A f n + (if (A 215).getD (3 * f + n) 0 ≤ 0 then 0 else 1)
theorem mo_cnt_le (A : Nat → List Int32) (f n : Nat) : mo_cnt A f n ≤ n := by
  induction n with
  | zero => exact Nat.le_refl 0
  | succ n ih => unfold mo_cnt; split <;> omega
theorem mo_look_loop (hm : md E0 g A E) (f : Nat) (hf : f < 8) (u : Int32) (w : Bool) (hK : ux_B uxP sc d 111 73 [.ref 210, .int (nI f), .int u, .int (nI (mo_cnt A f 3)), .int (nI (3 * f + 3))] [] E x z w K) : ∀ k n, n + k = 3 → ux_B uxP sc d 111 39 [.ref 210, .int (nI f), .int u, .int (nI (mo_cnt A f n)), .int (nI (3 * f + n))] [] E x z w K := by
  intro k
  induction k with
  | zero =>
    intro n hn
    refine ux_BN 7 rfl ?_
    refine ux_BleN (3 * f + 3) (3 * f + n) (nI_3 f 3) rfl (by omega) (by omega) (fun h46 => ?_) (fun h46 => ?_)
    · have : n = 3 := by omega
      subst this
      exact hK
    · omega
  | succ k ih =>
    intro n hn
    refine ux_BN 7 rfl ?_
    refine ux_BleN (3 * f + 3) (3 * f + n) (nI_3 f 3) rfl (by omega) (by omega) (fun h46 => ?_) (fun h46 => ?_)
    · omega
    · refine ux_BN 2 rfl ?_
      refine ux_Bget rfl rfl hm.1 rfl ?_
      refine ux_BN 1 rfl ?_
      refine mr_ild hm 215 (3 * f + n) rfl (by decide) (show 3 * f + n < 24 by omega) rfl ?_
      refine ux_BN 1 rfl ?_
      refine ux_Bsel 1 2 rfl rfl ?_
      refine ux_BN 4 rfl ?_
      have h1 : nI (mo_cnt A f n) + (if (A 215).getD (3 * f + n) 0 ≤ 0 then Int32.ofInt 0 else Int32.ofInt 1) = nI (mo_cnt A f (n + 1)) := by
        show _ = nI (mo_cnt A f n + (if (A 215).getD (3 * f + n) 0 ≤ 0 then 0 else 1))
        rw [← nI_add]
        split <;> rfl
      have h2 : nI (3 * f + n) + Int32.ofInt 1 = nI (3 * f + (n + 1)) := nI_1 _
      have := ih (n + 1) (by omega)
      rw [← h1, ← h2] at this
      exact this
theorem mo_look (hm : md E0 g A E) (v u : Int32)
    (hK1 : (v < 0 ∨ 8 ≤ v) ∨ (u < 0 ∨ 5 ≤ u) → ∀ E' w', md E0 (fU g 0 1) A E' → K (.inr (some (.int 0))) E' x z w')
    (hK2 : ∀ n k, n < 8 → k < 5 → v = nI n → u = nI k → ∀ E' w', md E0 (fU g 0 0) A E' → K (.inr (some (.int (if k = 0 then (A 221).getD n 0 else if k = 1 then (A 222).getD n 0 else if k = 2 then (A 223).getD n 0 else if k = 3 then nI (mo_cnt A n 3) else (A 227).getD n 0)))) E' x z w') : ux_Bm uxP sc (d + 1) 111 [.ref 210, .int v, .int u] E x z K := by
  show ux_B uxP sc (d + 1) 111 0 [.ref 210, .int v, .int u, .null, .null] [] E x z false K
  refine ux_BN 3 rfl ?_
  refine ux_Bk (j := 82) rfl rfl ?_
  refine mo_out v 8 ?_
  refine ux_BN 1 rfl ?_
  refine ux_Bif (fun h7 => ?_) (fun h7 => ?_)
  · refine ux_BN 3 rfl ?_
    refine ux_Bv rfl rfl rfl hm.1 rfl (by decide) rfl rfl ?_
    refine mo_fails hm 1 1 (Or.inr rfl) fun E2 m2 => ?_
    refine ux_BN 1 rfl ?_
    refine ux_Bif (fun h27 => ?_) (fun h27 => ?_)
    · exact absurd h27 (by decide)
    · refine ux_BN 1 rfl ?_
      exact ux_Bri rfl (Or.inl rfl) (hK1 (Or.inl (oB_n0 h7)) _ _ m2)
  · refine ux_BN 2 rfl ?_
    refine ux_Bk (j := 82) rfl rfl ?_
    refine mo_out u 5 ?_
    refine ux_BN 1 rfl ?_
    refine ux_Bsel 1 2 rfl rfl ?_
    refine ux_BN 1 rfl ?_
    refine ux_Bv rfl rfl rfl hm.1 rfl (by decide) rfl rfl ?_
    have h7' : oB v 8 = 0 := Decidable.not_not.mp h7
    refine mo_fails hm (if oB u 5 = 0 then 0 else 1) 1 ite01 fun E4 m4 => ?_
    refine ux_BN 1 rfl ?_
    refine ux_Bif (fun h27 => ?_) (fun h27 => ?_)
    · rw [if_pos h27] at m4
      obtain ⟨n, hn, rfl⟩ := oB_at (n := 8) rfl (by decide) h7'
      obtain ⟨k, hk, rfl⟩ := oB_at (n := 5) rfl (by decide) (ite0 h27)
      refine ux_BN 6 rfl ?_
      have hloop := fun hK => mo_look_loop (sc := sc) (d := d + 1) (K := K) (x := x) (z := z) m4 n hn (nI k) true hK 3 0 rfl
      rw [show nI (3 * n + 0) = Int32.ofInt 3 * nI n from by rw [show (Int32.ofInt 3) = nI 3 from rfl, pk_mul]; rfl] at hloop
      refine hloop ?_
      have hk2 := hK2 n k hn hk rfl rfl E4 true m4
      have hk5 : k = 0 ∨ k = 1 ∨ k = 2 ∨ k = 3 ∨ k = 4 := by omega
      rcases hk5 with rfl | rfl | rfl | rfl | rfl
      · refine ux_BN 3 rfl ?_
        refine ux_Bget rfl rfl m4.1 rfl ?_
        refine ux_BN 1 rfl ?_
        refine mr_ild m4 221 n rfl (by decide) hn rfl ?_
        exact ux_Bri rfl (Or.inl rfl) hk2
      · refine ux_BN 3 rfl ?_
        refine ux_Bget rfl rfl m4.1 rfl ?_
        refine ux_BN 1 rfl ?_
        refine mr_ild m4 222 n rfl (by decide) hn rfl ?_
        exact ux_Bri rfl (Or.inl rfl) hk2
      · refine ux_BN 3 rfl ?_
        refine ux_Bget rfl rfl m4.1 rfl ?_
        refine ux_BN 1 rfl ?_
        refine mr_ild m4 223 n rfl (by decide) hn rfl ?_
        exact ux_Bri rfl (Or.inl rfl) hk2
      · refine ux_BN 3 rfl ?_
        exact ux_Bri rfl (Or.inl rfl) hk2
      · refine ux_BN 3 rfl ?_
        refine ux_Bget rfl rfl m4.1 rfl ?_
        refine ux_BN 1 rfl ?_
        refine mr_ild m4 227 n rfl (by decide) hn rfl ?_
        exact ux_Bri rfl (Or.inl rfl) hk2
    · rw [if_neg h27] at m4
      refine ux_BN 1 rfl ?_
      exact ux_Bri rfl (Or.inl rfl) (hK1 (Or.inr (oB_n0 (ite1 h27))) _ _ m4)
def reck (w a b : Int32) : Int32 := if w = 2 then a + b else if w = 3 then a - b else if w = 4 then a * b else if w = 5 then (if a < b then 1 else 0) else (if a = b then 1 else 0)
theorem mo_reckon (k : Nat) (hk : 2 ≤ k ∧ k ≤ 6) (a b : Int32) (hK : K (.inr (some (.int (reck (nI k) a b)))) E x z false) : ux_Bm uxP sc d 115 [.int (nI k), .int a, .int b] E x z K := by
  have hk5 : k = 2 ∨ k = 3 ∨ k = 4 ∨ k = 5 ∨ k = 6 := by omega
  rcases hk5 with rfl | rfl | rfl | rfl | rfl
  · show ux_B uxP sc d 115 0 [.int (nI 2), .int a, .int b] [] E x z false K
    refine ux_BN 5 rfl ?_
    exact ux_Bri rfl (Or.inl rfl) hK
  · show ux_B uxP sc d 115 0 [.int (nI 3), .int a, .int b] [] E x z false K
    refine ux_BN 5 rfl ?_
    exact ux_Bri rfl (Or.inl rfl) hK
  · show ux_B uxP sc d 115 0 [.int (nI 4), .int a, .int b] [] E x z false K
    refine ux_BN 5 rfl ?_
    exact ux_Bri rfl (Or.inl rfl) hK
  · show ux_B uxP sc d 115 0 [.int (nI 5), .int a, .int b] [] E x z false K
    refine ux_BN 5 rfl ?_
    refine ux_Bif (fun h1 => ?_) (fun h1 => ?_)
    · refine ux_BN 1 rfl ?_
      refine ux_Bri rfl (Or.inl rfl) ?_
      rw [show reck (nI 5) a b = (if a < b then 1 else 0) from rfl, if_neg (k2_nlt h1)] at hK
      exact hK
    · refine ux_BN 2 rfl ?_
      refine ux_Bri rfl (Or.inl rfl) ?_
      rw [show reck (nI 5) a b = (if a < b then 1 else 0) from rfl, if_pos (k2_lt h1)] at hK
      exact hK
  · show ux_B uxP sc d 115 0 [.int (nI 6), .int a, .int b] [] E x z false K
    refine ux_BN 5 rfl ?_
    refine ux_Bif (fun h1 => ?_) (fun h1 => ?_)
    · refine ux_BN 1 rfl ?_
      refine ux_Bri rfl (Or.inl rfl) ?_
      rw [show reck (nI 6) a b = (if a = b then 1 else 0) from rfl, if_neg h1] at hK
      exact hK
    · refine ux_BN 2 rfl ?_
      refine ux_Bri rfl (Or.inl rfl) ?_
      rw [show reck (nI 6) a b = (if a = b then 1 else 0) from rfl, if_pos (Decidable.not_not.mp h1)] at hK
      exact hK
theorem mo_functionAt (hm : md E0 g A E) (a : Int32) (f : Nat) (hf : f < 8) (ha : (A 227).getD f 0 = a) (hl : ∀ j, j < f → ¬ (A 227).getD j 0 = a) (hK : K (.inr (some (.int (nI f)))) E x z false) : ux_Bm uxP sc d 116 [.ref 210, .int a] E x z K := by
  show ux_B uxP sc d 116 0 [.ref 210, .int a, .null] [] E x z false K
  refine ux_BN 2 rfl ?_
  have hloop : ∀ k n, n + k = f → ux_B uxP sc d 116 2 [.ref 210, .int a, .int (nI n)] [] E x z false K := by
    intro k
    induction k with
    | zero =>
      intro n hn
      have : n = f := by omega
      subst this
      refine ux_BN 1 rfl ?_
      refine ux_Bget rfl rfl hm.1 rfl ?_
      refine ux_BN 1 rfl ?_
      refine mr_ild hm 227 n rfl (by decide) hf rfl ?_
      refine ux_BN 2 rfl ?_
      refine ux_Bif (fun h1 => ?_) (fun h1 => ?_)
      · refine ux_BN 1 rfl ?_
        exact ux_Bri rfl (Or.inl rfl) hK
      · exact absurd ha h1
    | succ k ih =>
      intro n hn
      refine ux_BN 1 rfl ?_
      refine ux_Bget rfl rfl hm.1 rfl ?_
      refine ux_BN 1 rfl ?_
      refine mr_ild hm 227 n rfl (by decide) (show n < 8 by omega) rfl ?_
      refine ux_BN 2 rfl ?_
      refine ux_Bif (fun h1 => ?_) (fun h1 => ?_)
      · exact absurd h1 (hl n (by omega))
      · refine ux_BN 2 rfl ?_
        have := ih (n + 1) (by omega)
        rw [← show nI n + Int32.ofInt 1 = nI (n + 1) from nI_1 n] at this
        exact this
  exact hloop f 0 (by omega)
end MO3
end
section
/-! The reference while it compiles: depth dd, fault fk at fp, code c, rows R (open, part, from, second, hole); g0, A0: all that stays. -/
section BYES
variable {P : ux_P} {sc : List Int32} {d i : Nat} {ls st : List Value} {E : ux_Ev} {x z : Nat} {w : Bool} {K : ux_K1} {p q : Nat}
theorem ux_Byes {c : Prop} {_ : Decidable c} (h : c) (k : ux_B P sc d i p ls st E x z w K) : ux_B P sc d i (if decide c = true then p else q) ls st E x z w K := by
  rw [if_pos (decide_eq_true h)]; exact k
theorem ux_Bno {c : Prop} {_ : Decidable c} (h : ¬ c) (k : ux_B P sc d i q ls st E x z w K) : ux_B P sc d i (if decide c = true then p else q) ls st E x z w K := by
  rw [if_neg (by simpa using h)]; exact k
end BYES
def mq (E0 : ux_Ev) (g0 : Nat → Int32) (A0 : Nat → List Int32) (dd : Nat) (fk fp : Int32) (c : List Int32) (R : Nat → List Int32) (E : ux_Ev) : Prop :=
  ∃ g A, md E0 g A E ∧ (∀ j, j ≠ 26 → j ≠ 28 → j ≠ 29 → j ≠ 30 → g j = g0 j) ∧ (∀ a, a < 229 ∨ 234 < a → A a = A0 a) ∧ g 26 = nI dd ∧ g 28 = nI c.length ∧ g 29 = fk ∧ g 30 = fp ∧ (∃ t, A 234 = c ++ t) ∧ ∀ r, 229 ≤ r → r ≤ 233 → A r = R r
section MQ
variable {sc : List Int32} {d i pc : Nat} {ls st : List Value} {E0 E : ux_Ev} {g0 : Nat → Int32} {A0 : Nat → List Int32} {dd : Nat} {fk fp : Int32} {c : List Int32} {R : Nat → List Int32} {x z : Nat} {w : Bool} {K : ux_K1}
theorem mq_Bv (m : mq E0 g0 A0 dd fk fp c R E) {k j n : Nat} {as r0 : List Value} (hi : uxP.1 i pc = some (.invokevirtual k, 3)) (hg : uxP.2.2.1 i k = some (107, j, n)) (hd : st.drop n = .ref 210 :: r0) (has : .ref 210 :: (st.take n).reverse = as) (hc : ux_cb uxP j as r0 = true)
    (hm : ux_Bm uxP sc d j as E x z (fun o E1 x1 z1 w1 => match o with
      | .inr v => ux_B uxP sc (d + 1) i (pc + 3) ls (v.toList ++ r0) E1 x1 z1 (w || w1) K
      | .inl k => (uxP.2.2.2.2.2.2 i).2.2 = [] ∧ K (.inl k) E1 x1 z1 true)) : ux_B uxP sc (d + 1) i pc ls st E x z w K := by
  obtain ⟨g, A, h, _⟩ := m
  exact ux_Bv hi hg hd h.1 rfl (by decide) has hc hm
theorem mq_Bref (m : mq E0 g0 A0 dd fk fp c R E) {k j : Nat} {q : Bool} {v : Value} (hi : uxP.1 i pc = some (.getfield k, 3)) (hf : uxP.2.1 i k = some (7, j, q)) (hv : ∀ g, (md_F g)[j]? = some v) (kk : ux_B uxP sc d i (pc + 3) ls (v :: st) E x z w K) : ux_B uxP sc d i pc ls (.ref 210 :: st) E x z w K := by
  obtain ⟨g, A, h, _⟩ := m
  exact ux_Bget hi hf h.1 (hv g) kk
theorem mq_Bdepth (m : mq E0 g0 A0 dd fk fp c R E) {k : Nat} {q : Bool} (hi : uxP.1 i pc = some (.getfield k, 3)) (hf : uxP.2.1 i k = some (7, 26, q)) (kk : ux_B uxP sc d i (pc + 3) ls (.int (nI dd) :: st) E x z w K) : ux_B uxP sc d i pc ls (.ref 210 :: st) E x z w K := by
  obtain ⟨g, A, h, _, _, h26, _⟩ := m
  refine ux_Bget hi hf h.1 (v := .int (g 26)) rfl ?_
  rw [h26]; exact kk
theorem mq_Bsize (m : mq E0 g0 A0 dd fk fp c R E) {k : Nat} {q : Bool} (hi : uxP.1 i pc = some (.getfield k, 3)) (hf : uxP.2.1 i k = some (7, 28, q)) (kk : ux_B uxP sc d i (pc + 3) ls (.int (nI c.length) :: st) E x z w K) : ux_B uxP sc d i pc ls (.ref 210 :: st) E x z w K := by
  obtain ⟨g, A, h, _, _, _, h28, _⟩ := m
  refine ux_Bget hi hf h.1 (v := .int (g 28)) rfl ?_
  rw [h28]; exact kk
theorem mq_Bfault (m : mq E0 g0 A0 dd fk fp c R E) {k : Nat} {q : Bool} (hi : uxP.1 i pc = some (.getfield k, 3)) (hf : uxP.2.1 i k = some (7, 29, q)) (kk : ux_B uxP sc d i (pc + 3) ls (.int fk :: st) E x z w K) : ux_B uxP sc d i pc ls (.ref 210 :: st) E x z w K := by
  obtain ⟨g, A, h, _, _, _, _, h29, _⟩ := m
  refine ux_Bget hi hf h.1 (v := .int (g 29)) rfl ?_
  rw [h29]; exact kk
theorem mq_ildA (m : mq E0 g0 A0 dd fk fp c R E) (a n : Nat) {j : Int32} (hi : uxP.1 i pc = some (.iaload, 1)) (h1 : 212 ≤ a ∧ a ≤ 237 ∧ (a < 229 ∨ 234 < a)) (hn : n < md_sz a) (hj : j = nI n) (kk : ux_B uxP sc d i (pc + 1) ls (.int ((A0 a).getD n 0) :: st) E x z w K) : ux_B uxP sc d i pc ls (.int j :: .ref a :: st) E x z w K := by
  obtain ⟨g, A, h, _, hA, _⟩ := m
  refine mr_ild h a n hi ⟨h1.1, h1.2.1⟩ hn hj ?_
  rw [hA a h1.2.2]; exact kk
theorem mq_ildR (m : mq E0 g0 A0 dd fk fp c R E) (a n : Nat) {j : Int32} (hi : uxP.1 i pc = some (.iaload, 1)) (h1 : 229 ≤ a ∧ a ≤ 233) (hn : n < 32) (hj : j = nI n) (kk : ux_B uxP sc d i (pc + 1) ls (.int ((R a).getD n 0) :: st) E x z w K) : ux_B uxP sc d i pc ls (.int j :: .ref a :: st) E x z w K := by
  obtain ⟨g, A, h, _, _, _, _, _, _, _, hR⟩ := m
  have hs : md_sz a = 32 := by
    have : a = 229 ∨ a = 230 ∨ a = 231 ∨ a = 232 ∨ a = 233 := by omega
    rcases this with rfl | rfl | rfl | rfl | rfl <;> rfl
  refine mr_ild h a n hi ⟨by omega, by omega⟩ (by rw [hs]; exact hn) hj ?_
  rw [hR a h1.1 h1.2]; exact kk
theorem mq_istR (m : mq E0 g0 A0 dd fk fp c R E) (a n : Nat) {j y : Int32} (hi : uxP.1 i pc = some (.iastore, 1)) (h1 : 229 ≤ a ∧ a ≤ 233) (hn : n < 32) (hj : j = nI n) (kk : ∀ E', mq E0 g0 A0 dd fk fp c (fU R a ((R a).set n y)) E' → ux_B uxP sc d i (pc + 1) ls st E' x z true K) : ux_B uxP sc d i pc ls (.int y :: .int j :: .ref a :: st) E x z w K := by
  obtain ⟨g, A, h, hg, hA, h26, h28, h29, h30, ht, hR⟩ := m
  have hs : md_sz a = 32 := by
    have : a = 229 ∨ a = 230 ∨ a = 231 ∨ a = 232 ∨ a = 233 := by omega
    rcases this with rfl | rfl | rfl | rfl | rfl <;> rfl
  refine mr_ist h a n hi ⟨by omega, by omega⟩ (by rw [hs]; exact hn) hj fun E' m' => kk E' ⟨g, _, m', hg, fun b hb => ?_, h26, h28, h29, h30, ?_, fun r hr1 hr2 => ?_⟩
  · rw [fU_ne _ _ (by omega)]; exact hA b hb
  · rw [fU_ne _ _ (by omega)]; exact ht
  · by_cases hra : r = a
    · subst hra; rw [fU_at, fU_at, hR r hr1 hr2]
    · rw [fU_ne _ _ hra, fU_ne _ _ hra]; exact hR r hr1 hr2
/-- a word already written is written anew -/
theorem mq_patch (m : mq E0 g0 A0 dd fk fp c R E) (n : Nat) {j y : Int32} (hi : uxP.1 i pc = some (.iastore, 1)) (hn : n < c.length) (hj : j = nI n) (kk : ∀ E', mq E0 g0 A0 dd fk fp (c.set n y) R E' → ux_B uxP sc d i (pc + 1) ls st E' x z true K) : ux_B uxP sc d i pc ls (.int y :: .int j :: .ref 234 :: st) E x z w K := by
  obtain ⟨g, A, h, hg, hA, h26, h28, h29, h30, ⟨t, ht⟩, hR⟩ := m
  have hl := h.len 234 (by decide)
  rw [ht, List.length_append] at hl
  have hl' : c.length + t.length = 80 := hl
  refine mr_ist h 234 n hi (by decide) (show n < 80 by omega) hj fun E' m' => kk E' ⟨g, _, m', hg, fun b hb => ?_, h26, ?_, h29, h30, ⟨t, ?_⟩, fun r hr1 hr2 => ?_⟩
  · rw [fU_ne _ _ (by omega)]; exact hA b hb
  · rw [List.length_set]; exact h28
  · rw [fU_at, ht, List.set_append_left _ _ hn]
  · rw [fU_ne _ _ (by omega)]; exact hR r hr1 hr2
theorem mq_zld (m : mq E0 g0 A0 dd fk fp c R E) (n : Nat) {j : Int32} (hi : uxP.1 i pc = some (.baload, 1)) (hn : n < 8) (hj : j = nI n) (kk : ux_B uxP sc d i (pc + 1) ls (.int ((A0 211).getD n 0) :: st) E x z w K) : ux_B uxP sc d i pc ls (.int j :: .ref 211 :: st) E x z w K := by
  obtain ⟨g, A, h, _, hA, _⟩ := m
  refine mr_zld h n hi hn hj ?_
  rw [hA 211 (by decide)]; exact kk
theorem mq_putdepth (m : mq E0 g0 A0 dd fk fp c R E) (n : Nat) {k : Nat} {y : Int32} (hi : uxP.1 i pc = some (.putfield k, 3)) (hf : uxP.2.1 i k = some (7, 26, false)) (hp : uxP.2.2.2.1 i (200000 + k) = some 2000) (hy : y = nI n) (kk : ∀ E', mq E0 g0 A0 n fk fp c R E' → ux_B uxP sc d i (pc + 3) ls st E' x z true K) : ux_B uxP sc d i pc ls (.int y :: .ref 210 :: st) E x z w K := by
  obtain ⟨g, A, h, hg, hA, h26, h28, h29, h30, ht, hR⟩ := m
  subst hy
  exact mr_put h hi hf hp (by decide) rfl fun E' m' => kk E' ⟨_, A, m', fun j a b e f => by rw [fU_ne _ _ a]; exact hg j a b e f, hA, fU_at _ _ _, h28, h29, h30, ht, hR⟩
theorem mq_parameters (m : mq E0 g0 A0 dd fk fp c R E) (f : Nat) (hf : f < 8) (hK : K (.inr (some (.int ((A0 212).getD f 0 &&& 3)))) E x z false) : ux_Bm uxP sc d 96 [.ref 210, .int (nI f)] E x z K := by
  obtain ⟨g, A, h, _, hA, _⟩ := m
  refine mo_parameters h f hf ?_
  rw [hA 212 (by decide)]; exact hK
theorem mq_typeOf (m : mq E0 g0 A0 dd fk fp c R E) (f : Nat) (hf : f < 8) (k : Int32) (hK : K (.inr (some (.int (((A0 212).getD f 0 >>> ((2 + k) &&& 31)) &&& 1)))) E x z false) : ux_Bm uxP sc d 97 [.ref 210, .int (nI f), .int k] E x z K := by
  obtain ⟨g, A, h, _, hA, _⟩ := m
  refine mo_typeOf h f hf k ?_
  rw [hA 212 (by decide)]; exact hK
theorem mq_resultOf (m : mq E0 g0 A0 dd fk fp c R E) (f : Nat) (hf : f < 8) (hK : K (.inr (some (.int ((A0 212).getD f 0 >>> ((5 : Int32) &&& 31))))) E x z false) : ux_Bm uxP sc d 101 [.ref 210, .int (nI f)] E x z K := by
  obtain ⟨g, A, h, _, hA, _⟩ := m
  refine mo_resultOf h f hf ?_
  rw [hA 212 (by decide)]; exact hK
theorem mq_wrong (m : mq E0 g0 A0 dd 0 fp c R E) (y q : Int32) (hK : ∀ E' w', mq E0 g0 A0 dd y q c R E' → K (.inr none) E' x z w') : ux_Bm uxP sc d 93 [.ref 210, .int y, .int q] E x z K := by
  obtain ⟨g, A, h, hg, hA, h26, h28, h29, h30, ht, hR⟩ := m
  refine mo_wrong h y q fun E' w' m' => hK E' w' ?_
  rw [h29, if_neg (by decide)] at m'
  exact ⟨_, A, m', fun j a b e f => by rw [fU_ne _ _ f, fU_ne _ _ e]; exact hg j a b e f, hA, h26, h28, rfl, rfl, ht, hR⟩
theorem mq_emit (m : mq E0 g0 A0 dd fk fp c R E) (y : Int32) (hc : c.length < 80) (hK : ∀ E', mq E0 g0 A0 dd fk fp (c ++ [y]) R E' → K (.inr none) E' x z true) : ux_Bm uxP sc d 95 [.ref 210, .int y] E x z K := by
  obtain ⟨g, A, h, hg, hA, h26, h28, h29, h30, ⟨t, ht⟩, hR⟩ := m
  have hl := h.len 234 (by decide)
  rw [ht, List.length_append] at hl
  have hl' : c.length + t.length = 80 := hl
  refine mo_emit h y c.length hc h28 fun E' m' => hK E' ⟨_, _, m', fun j a b e f => ?_, fun b hb => ?_, h26, ?_, h29, h30, ?_, fun r hr1 hr2 => ?_⟩
  · rw [fU_ne _ _ b]; exact hg j a b e f
  · rw [fU_ne _ _ (by omega)]; exact hA b hb
  · rw [fU_at, List.length_append]; rfl
  · cases t with
    | nil => simp at hl'; omega
    | cons a t => exact ⟨t, by rw [fU_at, ht]; simp⟩
  · rw [fU_ne _ _ (by omega)]; exact hR r hr1 hr2
theorem mq_begins (m : mq E0 g0 A0 dd fk fp c R E) (y q : Int32) (hd : dd < 32) (hK : ∀ E', mq E0 g0 A0 (dd + 1) fk fp c (fU (fU (fU R 229 ((R 229).set dd y)) 230 ((R 230).set dd 0)) 231 ((R 231).set dd q)) E' → K (.inr none) E' x z true) : ux_Bm uxP sc d 99 [.ref 210, .int y, .int q] E x z K := by
  obtain ⟨g, A, h, hg, hA, h26, h28, h29, h30, ht, hR⟩ := m
  refine mo_begins h y q dd hd h26 fun E' m' => hK E' ⟨_, _, m', fun j a b e f => ?_, fun b hb => ?_, fU_at _ _ _, h28, h29, h30, ht, fun r hr1 hr2 => ?_⟩
  · rw [fU_ne _ _ a]; exact hg j a b e f
  · rw [fU_ne _ _ (by omega), fU_ne _ _ (by omega), fU_ne _ _ (by omega)]; exact hA b hb
  · by_cases h1 : r = 231
    · subst h1; rw [fU_at, fU_at, hR 231 hr1 hr2]
    · rw [fU_ne _ _ h1, fU_ne _ _ h1]
      by_cases h2 : r = 230
      · subst h2; rw [fU_at, fU_at, hR 230 hr1 hr2]
      · rw [fU_ne _ _ h2, fU_ne _ _ h2]
        by_cases h3 : r = 229
        · subst h3; rw [fU_at, fU_at, hR 229 hr1 hr2]
        · rw [fU_ne _ _ h3, fU_ne _ _ h3]; exact hR r hr1 hr2
end MQ
end
section
/-! What the reference does with one token. -/
theorem nI_neq {a b : Nat} (h : a ≠ b) (ha : a < 2 ^ 31) (hb : b < 2 ^ 31) : ¬ nI a = nI b := fun h2 => h ((nI_eq ha hb).mp h2)
theorem i_neg {t : Int32} (h : t < 0) (n : Nat) (hn : n < 2 ^ 31) : t < nI n ∧ ¬ t = nI n ∧ ¬ nI n ≤ t := by
  have h1 : t < nI n := by
    rw [Int32.lt_iff_toInt_lt] at h ⊢
    rw [nI_toInt hn]
    have : (0 : Int32).toInt = 0 := rfl
    omega
  exact ⟨h1, fun h2 => by rw [h2] at h; exact nI_pos hn h, fun h2 => k2_nlt h2 h1⟩
section MT
variable {sc : List Int32} {d : Nat} {E0 E : ux_Ev} {g0 : Nat → Int32} {A0 : Nat → List Int32} {dd : Nat} {fp : Int32} {c : List Int32} {R : Nat → List Int32} {x z : Nat} {K : ux_K1}
theorem mt_isSign1 {t : Int32} (h : 3 ≤ t ∧ t ≤ 7) (hK : K (.inr (some (.int 1))) E x z false) : ux_Bm uxP sc d 98 [.int t] E x z K := by
  refine mo_isSign t ?_
  rw [if_pos h]; exact hK
theorem mt_isSign0 {t : Int32} (h : ¬ (3 ≤ t ∧ t ≤ 7)) (hK : K (.inr (some (.int 0))) E x z false) : ux_Bm uxP sc d 98 [.int t] E x z K := by
  refine mo_isSign t ?_
  rw [if_neg h]; exact hK
theorem mt_isCall1 {t : Int32} (h : 11 ≤ t ∧ t < 19) (hK : K (.inr (some (.int 1))) E x z false) : ux_Bm uxP sc d 100 [.int t] E x z K := by
  refine mo_isCall t ?_
  rw [if_pos h]; exact hK
theorem mt_isCall0 {t : Int32} (h : ¬ (11 ≤ t ∧ t < 19)) (hK : K (.inr (some (.int 0))) E x z false) : ux_Bm uxP sc d 100 [.int t] E x z K := by
  refine mo_isCall t ?_
  rw [if_neg h]; exact hK

theorem mt_num (m : mq E0 g0 A0 dd 0 fp c R E) (f : Nat) (q : Int32) (t : Int32) (ht : 100 ≤ t) (hc : c.length + 2 ≤ 80) (hK : ∀ E' w', mq E0 g0 A0 dd 0 fp (c ++ [0, t - 100]) R E' → K (.inr (some (.int 0))) E' x z w') : ux_Bm uxP sc (d + 1) 94 [.ref 210, .int (nI f), .int t, .int q] E x z K := by
  show ux_B uxP sc (d + 1) 94 0 [.ref 210, .int (nI f), .int t, .int q, .null] [] E x z false K
  refine ux_BN 3 rfl ?_
  refine ux_Bno (k2_nlt ht) ?_
  refine ux_BN 2 rfl ?_
  refine mq_Bv m rfl rfl rfl rfl rfl ?_
  refine mq_emit m 0 (by omega) fun E1 m1 => ?_
  refine ux_BN 4 rfl ?_
  refine mq_Bv m1 rfl rfl rfl rfl rfl ?_
  refine mq_emit m1 (t - 100) (by rw [List.length_append]; exact (show c.length + 1 < 80 by omega)) fun E2 m2 => ?_
  refine ux_BN 1 rfl ?_
  exact ux_Bri rfl (Or.inl rfl) (hK _ _ (by simpa using m2))

theorem mt_true (m : mq E0 g0 A0 dd 0 fp c R E) (f : Nat) (q : Int32) (hc : c.length + 2 ≤ 80) (hK : ∀ E' w', mq E0 g0 A0 dd 0 fp (c ++ [0, 1]) R E' → K (.inr (some (.int 1))) E' x z w') : ux_Bm uxP sc (d + 1) 94 [.ref 210, .int (nI f), .int 9, .int q] E x z K := by
  show ux_B uxP sc (d + 1) 94 0 [.ref 210, .int (nI f), .int 9, .int q, .null] [] E x z false K
  refine ux_BN 3 rfl ?_
  refine ux_Byes (by decide) ?_
  refine ux_BN 3 rfl ?_
  refine ux_Byes rfl ?_
  refine ux_BN 2 rfl ?_
  refine mq_Bv m rfl rfl rfl rfl rfl ?_
  refine mq_emit m 0 (by omega) fun E1 m1 => ?_
  refine ux_BN 4 rfl ?_
  refine ux_Bsel 1 2 rfl rfl ?_
  refine mq_Bv m1 rfl rfl rfl rfl rfl ?_
  refine mq_emit m1 1 (by rw [List.length_append]; exact (show c.length + 1 < 80 by omega)) fun E2 m2 => ?_
  refine ux_BN 1 rfl ?_
  exact ux_Bri rfl (Or.inl rfl) (hK _ _ (by simpa using m2))

theorem mt_false (m : mq E0 g0 A0 dd 0 fp c R E) (f : Nat) (q : Int32) (hc : c.length + 2 ≤ 80) (hK : ∀ E' w', mq E0 g0 A0 dd 0 fp (c ++ [0, 0]) R E' → K (.inr (some (.int 1))) E' x z w') : ux_Bm uxP sc (d + 1) 94 [.ref 210, .int (nI f), .int 10, .int q] E x z K := by
  show ux_B uxP sc (d + 1) 94 0 [.ref 210, .int (nI f), .int 10, .int q, .null] [] E x z false K
  refine ux_BN 3 rfl ?_
  refine ux_Byes (by decide) ?_
  refine ux_BN 3 rfl ?_
  refine ux_Bno (by decide) ?_
  refine ux_BN 3 rfl ?_
  refine ux_Bno (by decide) ?_
  refine ux_BN 2 rfl ?_
  refine mq_Bv m rfl rfl rfl rfl rfl ?_
  refine mq_emit m 0 (by omega) fun E1 m1 => ?_
  refine ux_BN 4 rfl ?_
  refine ux_Bsel 1 2 rfl rfl ?_
  refine mq_Bv m1 rfl rfl rfl rfl rfl ?_
  refine mq_emit m1 0 (by rw [List.length_append]; exact (show c.length + 1 < 80 by omega)) fun E2 m2 => ?_
  refine ux_BN 1 rfl ?_
  exact ux_Bri rfl (Or.inl rfl) (hK _ _ (by simpa using m2))

theorem mt_par (m : mq E0 g0 A0 dd 0 fp c R E) (f : Nat) (q : Int32) (hf : f < 8) (k : Nat) (hk : k < 3) (hp : nI k < (A0 212).getD f 0 &&& 3) (hc : c.length + 2 ≤ 80) (hK : ∀ E' w', mq E0 g0 A0 dd 0 fp (c ++ [1, nI k]) R E' → K (.inr (some (.int (((A0 212).getD f 0 >>> ((2 + nI k) &&& 31)) &&& 1)))) E' x z w') : ux_Bm uxP sc (d + 1) 94 [.ref 210, .int (nI f), .int (nI k), .int q] E x z K := by
  show ux_B uxP sc (d + 1) 94 0 [.ref 210, .int (nI f), .int (nI k), .int q, .null] [] E x z false K
  refine ux_BN 3 rfl ?_
  refine ux_Byes (nI_lt (show k < 100 by omega) (by decide)) ?_
  refine ux_BN 3 rfl ?_
  refine ux_Bno (nI_neq (b := 9) (by omega) (by omega) (by decide)) ?_
  refine ux_BN 3 rfl ?_
  refine ux_Byes (nI_neq (b := 10) (by omega) (by omega) (by decide)) ?_
  refine ux_BN 2 rfl ?_
  refine ux_Bno (nI_pos (by omega)) ?_
  refine ux_BN 3 rfl ?_
  refine ux_Bno (nI_ge (show k < 3 by omega) (by decide)) ?_
  refine ux_BN 3 rfl ?_
  refine mq_Bv m rfl rfl rfl rfl rfl ?_
  refine mq_parameters m f hf ?_
  refine ux_BN 1 rfl ?_
  refine ux_Byes hp ?_
  refine ux_BN 2 rfl ?_
  refine mq_Bv m rfl rfl rfl rfl rfl ?_
  refine mq_emit m 1 (by omega) fun E2 m2 => ?_
  refine ux_BN 2 rfl ?_
  refine mq_Bv m2 rfl rfl rfl rfl rfl ?_
  refine mq_emit m2 (nI k) (by rw [List.length_append]; exact (show c.length + 1 < 80 by omega)) fun E3 m3 => ?_
  refine ux_BN 3 rfl ?_
  refine mq_Bv m3 rfl rfl rfl rfl rfl ?_
  refine mq_parameters m3 f hf ?_
  refine ux_BN 1 rfl ?_
  refine ux_Bno (k2_nle hp) ?_
  refine ux_BN 3 rfl ?_
  refine mq_Bv m3 rfl rfl rfl rfl rfl ?_
  refine mq_typeOf m3 f hf (nI k) ?_
  refine ux_BN 1 rfl ?_
  exact ux_Bri rfl (Or.inl rfl) (hK _ _ (by simpa using m3))

theorem mt_parX (m : mq E0 g0 A0 dd 0 fp c R E) (f : Nat) (q : Int32) (hf : f < 8) (k : Nat) (hk : k < 3) (hp : ¬ nI k < (A0 212).getD f 0 &&& 3) (hc : c.length + 2 ≤ 80) (hK : ∀ E' w', mq E0 g0 A0 dd 3 q (c ++ [1, nI k]) R E' → K (.inr (some (.int 0))) E' x z w') : ux_Bm uxP sc (d + 1) 94 [.ref 210, .int (nI f), .int (nI k), .int q] E x z K := by
  show ux_B uxP sc (d + 1) 94 0 [.ref 210, .int (nI f), .int (nI k), .int q, .null] [] E x z false K
  refine ux_BN 3 rfl ?_
  refine ux_Byes (nI_lt (show k < 100 by omega) (by decide)) ?_
  refine ux_BN 3 rfl ?_
  refine ux_Bno (nI_neq (b := 9) (by omega) (by omega) (by decide)) ?_
  refine ux_BN 3 rfl ?_
  refine ux_Byes (nI_neq (b := 10) (by omega) (by omega) (by decide)) ?_
  refine ux_BN 2 rfl ?_
  refine ux_Bno (nI_pos (by omega)) ?_
  refine ux_BN 3 rfl ?_
  refine ux_Bno (nI_ge (show k < 3 by omega) (by decide)) ?_
  refine ux_BN 3 rfl ?_
  refine mq_Bv m rfl rfl rfl rfl rfl ?_
  refine mq_parameters m f hf ?_
  refine ux_BN 1 rfl ?_
  refine ux_Bno hp ?_
  refine ux_BN 3 rfl ?_
  refine mq_Bv m rfl rfl rfl rfl rfl ?_
  refine mq_wrong m 3 q fun E2 w2 m2 => ?_
  refine ux_BN 2 rfl ?_
  refine mq_Bv m2 rfl rfl rfl rfl rfl ?_
  refine mq_emit m2 1 (by omega) fun E3 m3 => ?_
  refine ux_BN 2 rfl ?_
  refine mq_Bv m3 rfl rfl rfl rfl rfl ?_
  refine mq_emit m3 (nI k) (by rw [List.length_append]; exact (show c.length + 1 < 80 by omega)) fun E4 m4 => ?_
  refine ux_BN 3 rfl ?_
  refine mq_Bv m4 rfl rfl rfl rfl rfl ?_
  refine mq_parameters m4 f hf ?_
  refine ux_BN 1 rfl ?_
  refine ux_Byes (k2_le hp) ?_
  refine ux_BN 1 rfl ?_
  exact ux_Bri rfl (Or.inl rfl) (hK _ _ (by simpa using m4))

theorem mt_sign (m : mq E0 g0 A0 dd 0 fp c R E) (f : Nat) (q : Int32) (k : Nat) (hk : 3 ≤ k ∧ k ≤ 7) (hd : dd < 32) (hK : ∀ E' w', mq E0 g0 A0 (dd + 1) 0 fp c (fU (fU (fU R 229 ((R 229).set dd (nI k))) 230 ((R 230).set dd 0)) 231 ((R 231).set dd q)) E' → K (.inr (some (.int 2))) E' x z w') : ux_Bm uxP sc (d + 1) 94 [.ref 210, .int (nI f), .int (nI k), .int q] E x z K := by
  show ux_B uxP sc (d + 1) 94 0 [.ref 210, .int (nI f), .int (nI k), .int q, .null] [] E x z false K
  refine ux_BN 3 rfl ?_
  refine ux_Byes (nI_lt (show k < 100 by omega) (by decide)) ?_
  refine ux_BN 3 rfl ?_
  refine ux_Bno (nI_neq (b := 9) (by omega) (by omega) (by decide)) ?_
  refine ux_BN 3 rfl ?_
  refine ux_Byes (nI_neq (b := 10) (by omega) (by omega) (by decide)) ?_
  refine ux_BN 2 rfl ?_
  refine ux_Bno (nI_pos (by omega)) ?_
  refine ux_BN 3 rfl ?_
  refine ux_Byes (nI_le (show 3 ≤ k by omega) (by omega)) ?_
  refine ux_BN 1 rfl ?_
  refine ux_Bk (j := 98) rfl rfl ?_
  refine mt_isSign1 ⟨nI_le (show 3 ≤ k by omega) (by omega), nI_le (show k ≤ 7 by omega) (by decide)⟩ ?_
  refine ux_BN 1 rfl ?_
  refine ux_Byes (by decide) ?_
  refine ux_BN 3 rfl ?_
  refine mq_Bv m rfl rfl rfl rfl rfl ?_
  refine mq_begins m (nI k) q hd fun E2 m2 => ?_
  refine ux_BN 1 rfl ?_
  exact ux_Bri rfl (Or.inl rfl) (hK _ _ m2)

theorem mt_if (m : mq E0 g0 A0 dd 0 fp c R E) (f : Nat) (q : Int32) (hd : dd < 32) (hK : ∀ E' w', mq E0 g0 A0 (dd + 1) 0 fp c (fU (fU (fU R 229 ((R 229).set dd 8)) 230 ((R 230).set dd 0)) 231 ((R 231).set dd q)) E' → K (.inr (some (.int 2))) E' x z w') : ux_Bm uxP sc (d + 1) 94 [.ref 210, .int (nI f), .int 8, .int q] E x z K := by
  show ux_B uxP sc (d + 1) 94 0 [.ref 210, .int (nI f), .int 8, .int q, .null] [] E x z false K
  refine ux_BN 3 rfl ?_
  refine ux_Byes (by decide) ?_
  refine ux_BN 3 rfl ?_
  refine ux_Bno (by decide) ?_
  refine ux_BN 3 rfl ?_
  refine ux_Byes (by decide) ?_
  refine ux_BN 2 rfl ?_
  refine ux_Bno (by decide) ?_
  refine ux_BN 3 rfl ?_
  refine ux_Byes (by decide) ?_
  refine ux_BN 1 rfl ?_
  refine ux_Bk (j := 98) rfl rfl ?_
  refine mt_isSign0 (by decide) ?_
  refine ux_BN 1 rfl ?_
  refine ux_Bno (by decide) ?_
  refine ux_BN 3 rfl ?_
  refine ux_Bno (by decide) ?_
  refine ux_BN 3 rfl ?_
  refine mq_Bv m rfl rfl rfl rfl rfl ?_
  refine mq_begins m (8 : Int32) q hd fun E2 m2 => ?_
  refine ux_BN 1 rfl ?_
  exact ux_Bri rfl (Or.inl rfl) (hK _ _ m2)

theorem mt_none1 (m : mq E0 g0 A0 dd 0 fp c R E) (f : Nat) (q : Int32) (t : Int32) (ht : t < 0) (hK : ∀ E' w', mq E0 g0 A0 dd 1 q c R E' → K (.inr (some (.int 2))) E' x z w') : ux_Bm uxP sc (d + 1) 94 [.ref 210, .int (nI f), .int t, .int q] E x z K := by
  show ux_B uxP sc (d + 1) 94 0 [.ref 210, .int (nI f), .int t, .int q, .null] [] E x z false K
  refine ux_BN 3 rfl ?_
  refine ux_Byes (i_neg ht 100 (by decide)).1 ?_
  refine ux_BN 3 rfl ?_
  refine ux_Bno (i_neg ht 9 (by decide)).2.1 ?_
  refine ux_BN 3 rfl ?_
  refine ux_Byes (i_neg ht 10 (by decide)).2.1 ?_
  refine ux_BN 2 rfl ?_
  refine ux_Byes ht ?_
  refine ux_BN 1 rfl ?_
  refine ux_Bk (j := 98) rfl rfl ?_
  refine mt_isSign0 (fun h => (i_neg ht 3 (by decide)).2.2 h.1) ?_
  refine ux_BN 1 rfl ?_
  refine ux_Bno (by decide) ?_
  refine ux_BN 3 rfl ?_
  refine ux_Byes (i_neg ht 8 (by decide)).2.1 ?_
  refine ux_BN 1 rfl ?_
  refine ux_Bk (j := 100) rfl rfl ?_
  refine mt_isCall0 (fun h => (i_neg ht 11 (by decide)).2.2 h.1) ?_
  refine ux_BN 1 rfl ?_
  refine ux_Bno (by decide) ?_
  refine ux_BN 3 rfl ?_
  refine mq_Bv m rfl rfl rfl rfl rfl ?_
  refine mq_wrong m 1 q fun E3 w3 m3 => ?_
  refine ux_BN 1 rfl ?_
  exact ux_Bri rfl (Or.inl rfl) (hK _ _ m3)

theorem mt_none2 (m : mq E0 g0 A0 dd 0 fp c R E) (f : Nat) (q : Int32) (k : Nat) (hk : 19 ≤ k ∧ k < 100) (hK : ∀ E' w', mq E0 g0 A0 dd 1 q c R E' → K (.inr (some (.int 2))) E' x z w') : ux_Bm uxP sc (d + 1) 94 [.ref 210, .int (nI f), .int (nI k), .int q] E x z K := by
  show ux_B uxP sc (d + 1) 94 0 [.ref 210, .int (nI f), .int (nI k), .int q, .null] [] E x z false K
  refine ux_BN 3 rfl ?_
  refine ux_Byes (nI_lt (show k < 100 by omega) (by decide)) ?_
  refine ux_BN 3 rfl ?_
  refine ux_Bno (nI_neq (b := 9) (by omega) (by omega) (by decide)) ?_
  refine ux_BN 3 rfl ?_
  refine ux_Byes (nI_neq (b := 10) (by omega) (by omega) (by decide)) ?_
  refine ux_BN 2 rfl ?_
  refine ux_Bno (nI_pos (by omega)) ?_
  refine ux_BN 3 rfl ?_
  refine ux_Byes (nI_le (show 3 ≤ k by omega) (by omega)) ?_
  refine ux_BN 1 rfl ?_
  refine ux_Bk (j := 98) rfl rfl ?_
  refine mt_isSign0 (fun h => absurd h.2 (nI_ge (show 7 < k by omega) (by omega))) ?_
  refine ux_BN 1 rfl ?_
  refine ux_Bno (by decide) ?_
  refine ux_BN 3 rfl ?_
  refine ux_Byes (nI_neq (b := 8) (by omega) (by omega) (by decide)) ?_
  refine ux_BN 1 rfl ?_
  refine ux_Bk (j := 100) rfl rfl ?_
  refine mt_isCall0 (fun h => (nI_nlt (show 19 ≤ k by omega) (by omega)) h.2) ?_
  refine ux_BN 1 rfl ?_
  refine ux_Bno (by decide) ?_
  refine ux_BN 3 rfl ?_
  refine mq_Bv m rfl rfl rfl rfl rfl ?_
  refine mq_wrong m 1 q fun E3 w3 m3 => ?_
  refine ux_BN 1 rfl ?_
  exact ux_Bri rfl (Or.inl rfl) (hK _ _ m3)

theorem mt_callX (m : mq E0 g0 A0 dd 0 fp c R E) (f : Nat) (q : Int32) (h : Nat) (hh : h < 8) (h0 : (A0 211).getD h 0 = 0) (hK : ∀ E' w', mq E0 g0 A0 dd 4 q c R E' → K (.inr (some (.int 2))) E' x z w') : ux_Bm uxP sc (d + 1) 94 [.ref 210, .int (nI f), .int (nI (h + 11)), .int q] E x z K := by
  show ux_B uxP sc (d + 1) 94 0 [.ref 210, .int (nI f), .int (nI (h + 11)), .int q, .null] [] E x z false K
  refine ux_BN 3 rfl ?_
  refine ux_Byes (nI_lt (show h + 11 < 100 by omega) (by decide)) ?_
  refine ux_BN 3 rfl ?_
  refine ux_Bno (nI_neq (b := 9) (by omega) (by omega) (by decide)) ?_
  refine ux_BN 3 rfl ?_
  refine ux_Byes (nI_neq (b := 10) (by omega) (by omega) (by decide)) ?_
  refine ux_BN 2 rfl ?_
  refine ux_Bno (nI_pos (by omega)) ?_
  refine ux_BN 3 rfl ?_
  refine ux_Byes (nI_le (show 3 ≤ h + 11 by omega) (by omega)) ?_
  refine ux_BN 1 rfl ?_
  refine ux_Bk (j := 98) rfl rfl ?_
  refine mt_isSign0 (fun h0 => absurd h0.2 (nI_ge (show 7 < h + 11 by omega) (by omega))) ?_
  refine ux_BN 1 rfl ?_
  refine ux_Bno (by decide) ?_
  refine ux_BN 3 rfl ?_
  refine ux_Byes (nI_neq (b := 8) (by omega) (by omega) (by decide)) ?_
  refine ux_BN 1 rfl ?_
  refine ux_Bk (j := 100) rfl rfl ?_
  refine mt_isCall1 ⟨nI_le (show 11 ≤ h + 11 by omega) (by omega), nI_lt (show h + 11 < 19 by omega) (by decide)⟩ ?_
  refine ux_BN 1 rfl ?_
  refine ux_Byes (by decide) ?_
  refine ux_BN 3 rfl ?_
  refine ux_Btop (nI h) (pk_sub (show 11 ≤ h + 11 by omega)) ?_
  refine ux_BN 2 rfl ?_
  refine mq_Bref m rfl rfl (fun _ => rfl) ?_
  refine ux_BN 1 rfl ?_
  refine mq_zld m h rfl hh rfl ?_
  refine ux_BN 1 rfl ?_
  refine ux_Bno (not_not_intro h0) ?_
  refine ux_BN 3 rfl ?_
  refine mq_Bv m rfl rfl rfl rfl rfl ?_
  refine mq_wrong m 4 q fun E3 w3 m3 => ?_
  refine ux_BN 1 rfl ?_
  refine mq_Bfault m3 rfl rfl ?_
  refine ux_BN 1 rfl ?_
  refine ux_Bno (by decide) ?_
  refine ux_BN 1 rfl ?_
  exact ux_Bri rfl (Or.inl rfl) (hK _ _ m3)

theorem mt_call0 (m : mq E0 g0 A0 dd 0 fp c R E) (f : Nat) (q : Int32) (h : Nat) (hh : h < 8) (h0 : ¬ (A0 211).getD h 0 = 0) (hp : (A0 212).getD h 0 &&& 3 ≤ 0) (hc : c.length + 2 ≤ 80) (hK : ∀ E' w', mq E0 g0 A0 dd 0 fp (c ++ [9, nI h]) R E' → K (.inr (some (.int ((A0 212).getD h 0 >>> ((5 : Int32) &&& 31))))) E' x z w') : ux_Bm uxP sc (d + 1) 94 [.ref 210, .int (nI f), .int (nI (h + 11)), .int q] E x z K := by
  show ux_B uxP sc (d + 1) 94 0 [.ref 210, .int (nI f), .int (nI (h + 11)), .int q, .null] [] E x z false K
  refine ux_BN 3 rfl ?_
  refine ux_Byes (nI_lt (show h + 11 < 100 by omega) (by decide)) ?_
  refine ux_BN 3 rfl ?_
  refine ux_Bno (nI_neq (b := 9) (by omega) (by omega) (by decide)) ?_
  refine ux_BN 3 rfl ?_
  refine ux_Byes (nI_neq (b := 10) (by omega) (by omega) (by decide)) ?_
  refine ux_BN 2 rfl ?_
  refine ux_Bno (nI_pos (by omega)) ?_
  refine ux_BN 3 rfl ?_
  refine ux_Byes (nI_le (show 3 ≤ h + 11 by omega) (by omega)) ?_
  refine ux_BN 1 rfl ?_
  refine ux_Bk (j := 98) rfl rfl ?_
  refine mt_isSign0 (fun h0 => absurd h0.2 (nI_ge (show 7 < h + 11 by omega) (by omega))) ?_
  refine ux_BN 1 rfl ?_
  refine ux_Bno (by decide) ?_
  refine ux_BN 3 rfl ?_
  refine ux_Byes (nI_neq (b := 8) (by omega) (by omega) (by decide)) ?_
  refine ux_BN 1 rfl ?_
  refine ux_Bk (j := 100) rfl rfl ?_
  refine mt_isCall1 ⟨nI_le (show 11 ≤ h + 11 by omega) (by omega), nI_lt (show h + 11 < 19 by omega) (by decide)⟩ ?_
  refine ux_BN 1 rfl ?_
  refine ux_Byes (by decide) ?_
  refine ux_BN 3 rfl ?_
  refine ux_Btop (nI h) (pk_sub (show 11 ≤ h + 11 by omega)) ?_
  refine ux_BN 2 rfl ?_
  refine mq_Bref m rfl rfl (fun _ => rfl) ?_
  refine ux_BN 1 rfl ?_
  refine mq_zld m h rfl hh rfl ?_
  refine ux_BN 1 rfl ?_
  refine ux_Byes h0 ?_
  refine ux_BN 1 rfl ?_
  refine mq_Bfault m rfl rfl ?_
  refine ux_BN 1 rfl ?_
  refine ux_Byes (by decide) ?_
  refine ux_BN 2 rfl ?_
  refine mq_Bv m rfl rfl rfl rfl rfl ?_
  refine mq_parameters m h hh ?_
  refine ux_BN 1 rfl ?_
  refine ux_Byes hp ?_
  refine ux_BN 2 rfl ?_
  refine mq_Bv m rfl rfl rfl rfl rfl ?_
  refine mq_emit m 9 (by omega) fun E4 m4 => ?_
  refine ux_BN 2 rfl ?_
  refine mq_Bv m4 rfl rfl rfl rfl rfl ?_
  refine mq_emit m4 (nI h) (by rw [List.length_append]; exact (show c.length + 1 < 80 by omega)) fun E5 m5 => ?_
  refine ux_BN 2 rfl ?_
  refine mq_Bv m5 rfl rfl rfl rfl rfl ?_
  refine mq_resultOf m5 h hh ?_
  exact ux_Bri rfl (Or.inl rfl) (hK _ _ (by simpa using m5))

theorem mt_call (m : mq E0 g0 A0 dd 0 fp c R E) (f : Nat) (q : Int32) (h : Nat) (hh : h < 8) (h0 : ¬ (A0 211).getD h 0 = 0) (hp : ¬ (A0 212).getD h 0 &&& 3 ≤ 0) (hd : dd < 32) (hK : ∀ E' w', mq E0 g0 A0 (dd + 1) 0 fp c (fU (fU (fU R 229 ((R 229).set dd (nI (h + 11)))) 230 ((R 230).set dd 0)) 231 ((R 231).set dd q)) E' → K (.inr (some (.int 2))) E' x z w') : ux_Bm uxP sc (d + 1) 94 [.ref 210, .int (nI f), .int (nI (h + 11)), .int q] E x z K := by
  show ux_B uxP sc (d + 1) 94 0 [.ref 210, .int (nI f), .int (nI (h + 11)), .int q, .null] [] E x z false K
  refine ux_BN 3 rfl ?_
  refine ux_Byes (nI_lt (show h + 11 < 100 by omega) (by decide)) ?_
  refine ux_BN 3 rfl ?_
  refine ux_Bno (nI_neq (b := 9) (by omega) (by omega) (by decide)) ?_
  refine ux_BN 3 rfl ?_
  refine ux_Byes (nI_neq (b := 10) (by omega) (by omega) (by decide)) ?_
  refine ux_BN 2 rfl ?_
  refine ux_Bno (nI_pos (by omega)) ?_
  refine ux_BN 3 rfl ?_
  refine ux_Byes (nI_le (show 3 ≤ h + 11 by omega) (by omega)) ?_
  refine ux_BN 1 rfl ?_
  refine ux_Bk (j := 98) rfl rfl ?_
  refine mt_isSign0 (fun h0 => absurd h0.2 (nI_ge (show 7 < h + 11 by omega) (by omega))) ?_
  refine ux_BN 1 rfl ?_
  refine ux_Bno (by decide) ?_
  refine ux_BN 3 rfl ?_
  refine ux_Byes (nI_neq (b := 8) (by omega) (by omega) (by decide)) ?_
  refine ux_BN 1 rfl ?_
  refine ux_Bk (j := 100) rfl rfl ?_
  refine mt_isCall1 ⟨nI_le (show 11 ≤ h + 11 by omega) (by omega), nI_lt (show h + 11 < 19 by omega) (by decide)⟩ ?_
  refine ux_BN 1 rfl ?_
  refine ux_Byes (by decide) ?_
  refine ux_BN 3 rfl ?_
  refine ux_Btop (nI h) (pk_sub (show 11 ≤ h + 11 by omega)) ?_
  refine ux_BN 2 rfl ?_
  refine mq_Bref m rfl rfl (fun _ => rfl) ?_
  refine ux_BN 1 rfl ?_
  refine mq_zld m h rfl hh rfl ?_
  refine ux_BN 1 rfl ?_
  refine ux_Byes h0 ?_
  refine ux_BN 1 rfl ?_
  refine mq_Bfault m rfl rfl ?_
  refine ux_BN 1 rfl ?_
  refine ux_Byes (by decide) ?_
  refine ux_BN 2 rfl ?_
  refine mq_Bv m rfl rfl rfl rfl rfl ?_
  refine mq_parameters m h hh ?_
  refine ux_BN 1 rfl ?_
  refine ux_Bno hp ?_
  refine ux_BN 3 rfl ?_
  refine mq_Bv m rfl rfl rfl rfl rfl ?_
  refine mq_begins m (nI (h + 11)) q hd fun E4 m4 => ?_
  refine ux_BN 1 rfl ?_
  exact ux_Bri rfl (Or.inl rfl) (hK _ _ m4)

end MT
end
section
/-! What the reference wants next, and what it does when a part is whole. -/
def fr (R : Nat → List Int32) (e : Nat) : Int32 × Int32 × Int32 × Int32 × Int32 := ((R 229).getD e 0, (R 230).getD e 0, (R 231).getD e 0, (R 232).getD e 0, (R 233).getD e 0)
theorem nI_sub1 {a n r : Nat} (h : a = n + r + 1) : (nI a - nI n) - 1 = nI r := by
  rw [pk_sub (by omega), show a - n = r + 1 by omega]
  exact nI_pred r
def rk (R R2 : Nat → List Int32) (e : Nat) : Prop := ∀ j, j < e → fr R2 j = fr R j
theorem fUg (R : Nat → List Int32) (r e : Nat) (y : Int32) (h : e < (R r).length) (r2 j : Nat) : ((fU R r ((R r).set e y)) r2).getD j 0 = if r2 = r ∧ j = e then y else (R r2).getD j 0 := by
  by_cases h1 : r2 = r
  · subst h1
    rw [fU_at]
    by_cases h2 : j = e
    · subst h2
      rw [if_pos ⟨rfl, rfl⟩]
      simp [List.getD_eq_getElem?_getD, h]
    · rw [if_neg (fun h3 => h2 h3.2)]
      simp only [List.getD_eq_getElem?_getD]
      rw [List.getElem?_set_ne (fun h3 => h2 h3.symm)]
  · rw [fU_ne _ _ h1, if_neg (fun h3 => h1 h3.1)]
theorem rk_set (R : Nat → List Int32) (r e : Nat) (y : Int32) (h : e < (R r).length) : rk R (fU R r ((R r).set e y)) e := by
  intro j hj
  unfold fr
  simp only [fUg R r e y h]
  have : ∀ r2, ¬ (r2 = r ∧ j = e) := fun r2 h2 => by omega
  simp only [this, if_false]
theorem rk.trans {R R2 R3 : Nat → List Int32} {e : Nat} (h : rk R R2 e) (h2 : rk R2 R3 e) : rk R R3 e := fun j hj => (h2 j hj).trans (h j hj)
theorem rk.mono {R R2 : Nat → List Int32} {e e2 : Nat} (h : rk R R2 e) (h2 : e2 ≤ e) : rk R R2 e2 := fun j hj => h j (by omega)
theorem rk.refl (R : Nat → List Int32) (e : Nat) : rk R R e := fun _ _ => rfl
theorem fr_229 (R : Nat → List Int32) (e : Nat) (y : Int32) (h : e < (R 229).length) : fr (fU R 229 ((R 229).set e y)) e = (y, (fr R e).2) := by
  unfold fr; simp only [fUg R 229 e y h]; simp
theorem fr_230 (R : Nat → List Int32) (e : Nat) (y : Int32) (h : e < (R 230).length) : fr (fU R 230 ((R 230).set e y)) e = ((fr R e).1, y, (fr R e).2.2) := by
  unfold fr; simp only [fUg R 230 e y h]; simp
theorem fr_231 (R : Nat → List Int32) (e : Nat) (y : Int32) (h : e < (R 231).length) : fr (fU R 231 ((R 231).set e y)) e = ((fr R e).1, (fr R e).2.1, y, (fr R e).2.2.2) := by
  unfold fr; simp only [fUg R 231 e y h]; simp
theorem fr_232 (R : Nat → List Int32) (e : Nat) (y : Int32) (h : e < (R 232).length) : fr (fU R 232 ((R 232).set e y)) e = ((fr R e).1, (fr R e).2.1, (fr R e).2.2.1, y, (fr R e).2.2.2.2) := by
  unfold fr; simp only [fUg R 232 e y h]; simp
theorem fr_233 (R : Nat → List Int32) (e : Nat) (y : Int32) (h : e < (R 233).length) : fr (fU R 233 ((R 233).set e y)) e = ((fr R e).1, (fr R e).2.1, (fr R e).2.2.1, (fr R e).2.2.2.1, y) := by
  unfold fr; simp only [fUg R 233 e y h]; simp
section MP
variable {sc : List Int32} {d : Nat} {E0 E : ux_Ev} {g0 : Nat → Int32} {A0 : Nat → List Int32} {dd e : Nat} {fk fp : Int32} {c : List Int32} {R : Nat → List Int32} {x z : Nat} {K : ux_K1} {w pt fm s2 hl : Int32}
theorem mq.lenR (m : mq E0 g0 A0 dd fk fp c R E) (a : Nat) (h1 : 229 ≤ a ∧ a ≤ 233) : (R a).length = 32 := by
  obtain ⟨g, A, h, _, _, _, _, _, _, _, hR⟩ := m
  have hs : md_sz a = 32 := by
    have : a = 229 ∨ a = 230 ∨ a = 231 ∨ a = 232 ∨ a = 233 := by omega
    rcases this with rfl | rfl | rfl | rfl | rfl <;> rfl
  rw [← hR a h1.1 h1.2, h.len a ⟨by omega, by omega⟩, hs]
theorem fr_w (h : fr R e = (w, pt, fm, s2, hl)) : (R 229).getD e 0 = w := congrArg (fun y => y.1) h
theorem fr_p (h : fr R e = (w, pt, fm, s2, hl)) : (R 230).getD e 0 = pt := congrArg (fun y => y.2.1) h
theorem fr_f (h : fr R e = (w, pt, fm, s2, hl)) : (R 231).getD e 0 = fm := congrArg (fun y => y.2.2.1) h
theorem fr_s (h : fr R e = (w, pt, fm, s2, hl)) : (R 232).getD e 0 = s2 := congrArg (fun y => y.2.2.2.1) h
theorem fr_h (h : fr R e = (w, pt, fm, s2, hl)) : (R 233).getD e 0 = hl := congrArg (fun y => y.2.2.2.2) h

theorem mp_cast {c2 : List Int32} (m : mq E0 g0 A0 dd fk fp c R E) (h : c = c2) : mq E0 g0 A0 dd fk fp c2 R E := h ▸ m
theorem mw_0 (m : mq E0 g0 A0 0 fk fp c R E) (f : Nat) (hf : f < 8) (hK : K (.inr (some (.int ((A0 212).getD f 0 >>> ((5 : Int32) &&& 31))))) E x z false) : ux_Bm uxP sc (d + 1) 102 [.ref 210, .int (nI f)] E x z K := by
  show ux_B uxP sc (d + 1) 102 0 [.ref 210, .int (nI f), .null, .null] [] E x z false K
  refine ux_BN 1 rfl ?_
  refine mq_Bdepth m rfl rfl ?_
  refine ux_BN 1 rfl ?_
  refine ux_Bno (not_not_intro rfl) ?_
  refine ux_BN 2 rfl ?_
  refine mq_Bv m rfl rfl rfl rfl rfl ?_
  refine mq_resultOf m f hf ?_
  exact ux_Bri rfl (Or.inl rfl) hK

theorem mw_sign (m : mq E0 g0 A0 (e + 1) fk fp c R E) (he : e < 32) (f : Nat) (k : Nat) (hk : 3 ≤ k ∧ k ≤ 7) (hfr : fr R e = (nI k, pt, fm, s2, hl)) (hK : K (.inr (some (.int 0))) E x z false) : ux_Bm uxP sc (d + 1) 102 [.ref 210, .int (nI f)] E x z K := by
  show ux_B uxP sc (d + 1) 102 0 [.ref 210, .int (nI f), .null, .null] [] E x z false K
  refine ux_BN 1 rfl ?_
  refine mq_Bdepth m rfl rfl ?_
  refine ux_BN 1 rfl ?_
  refine ux_Byes (nI_ne0 (by omega) (by omega)) ?_
  refine ux_BN 1 rfl ?_
  refine mq_Bref m rfl rfl (fun _ => rfl) ?_
  refine ux_BN 1 rfl ?_
  refine mq_Bdepth m rfl rfl ?_
  refine ux_BN 2 rfl ?_
  refine mq_ildR m 229 e rfl (by decide) he (nI_pred e) ?_
  refine ux_Btop (nI k) (fr_w hfr) ?_
  refine ux_BN 2 rfl ?_
  refine mq_Bref m rfl rfl (fun _ => rfl) ?_
  refine ux_BN 1 rfl ?_
  refine mq_Bdepth m rfl rfl ?_
  refine ux_BN 2 rfl ?_
  refine mq_ildR m 230 e rfl (by decide) he (nI_pred e) ?_
  refine ux_Btop pt (fr_p hfr) ?_
  refine ux_BN 2 rfl ?_
  refine ux_Bk (j := 98) rfl rfl ?_
  refine mt_isSign1 ⟨nI_le (show 3 ≤ k by omega) (by omega), nI_le (show k ≤ 7 by omega) (by decide)⟩ ?_
  refine ux_BN 1 rfl ?_
  refine ux_Bno (by decide) ?_
  refine ux_BN 1 rfl ?_
  exact ux_Bri rfl (Or.inl rfl) hK

theorem mw_if0 (m : mq E0 g0 A0 (e + 1) fk fp c R E) (he : e < 32) (f : Nat) (hfr : fr R e = (8, 0, fm, s2, hl)) (hK : K (.inr (some (.int 1))) E x z false) : ux_Bm uxP sc (d + 1) 102 [.ref 210, .int (nI f)] E x z K := by
  show ux_B uxP sc (d + 1) 102 0 [.ref 210, .int (nI f), .null, .null] [] E x z false K
  refine ux_BN 1 rfl ?_
  refine mq_Bdepth m rfl rfl ?_
  refine ux_BN 1 rfl ?_
  refine ux_Byes (nI_ne0 (by omega) (by omega)) ?_
  refine ux_BN 1 rfl ?_
  refine mq_Bref m rfl rfl (fun _ => rfl) ?_
  refine ux_BN 1 rfl ?_
  refine mq_Bdepth m rfl rfl ?_
  refine ux_BN 2 rfl ?_
  refine mq_ildR m 229 e rfl (by decide) he (nI_pred e) ?_
  refine ux_Btop 8 (fr_w hfr) ?_
  refine ux_BN 2 rfl ?_
  refine mq_Bref m rfl rfl (fun _ => rfl) ?_
  refine ux_BN 1 rfl ?_
  refine mq_Bdepth m rfl rfl ?_
  refine ux_BN 2 rfl ?_
  refine mq_ildR m 230 e rfl (by decide) he (nI_pred e) ?_
  refine ux_Btop 0 (fr_p hfr) ?_
  refine ux_BN 2 rfl ?_
  refine ux_Bk (j := 98) rfl rfl ?_
  refine mt_isSign0 (by decide) ?_
  refine ux_BN 1 rfl ?_
  refine ux_Byes rfl ?_
  refine ux_BN 3 rfl ?_
  refine ux_Bno (by decide) ?_
  refine ux_BN 2 rfl ?_
  refine ux_Bno (by decide) ?_
  refine ux_BN 2 rfl ?_
  exact ux_Bri rfl (Or.inl rfl) hK

theorem mw_if1 (m : mq E0 g0 A0 (e + 1) fk fp c R E) (he : e < 32) (f : Nat) (hfr : fr R e = (8, 1, fm, s2, hl)) (hK : K (.inr (some (.int 2))) E x z false) : ux_Bm uxP sc (d + 1) 102 [.ref 210, .int (nI f)] E x z K := by
  show ux_B uxP sc (d + 1) 102 0 [.ref 210, .int (nI f), .null, .null] [] E x z false K
  refine ux_BN 1 rfl ?_
  refine mq_Bdepth m rfl rfl ?_
  refine ux_BN 1 rfl ?_
  refine ux_Byes (nI_ne0 (by omega) (by omega)) ?_
  refine ux_BN 1 rfl ?_
  refine mq_Bref m rfl rfl (fun _ => rfl) ?_
  refine ux_BN 1 rfl ?_
  refine mq_Bdepth m rfl rfl ?_
  refine ux_BN 2 rfl ?_
  refine mq_ildR m 229 e rfl (by decide) he (nI_pred e) ?_
  refine ux_Btop 8 (fr_w hfr) ?_
  refine ux_BN 2 rfl ?_
  refine mq_Bref m rfl rfl (fun _ => rfl) ?_
  refine ux_BN 1 rfl ?_
  refine mq_Bdepth m rfl rfl ?_
  refine ux_BN 2 rfl ?_
  refine mq_ildR m 230 e rfl (by decide) he (nI_pred e) ?_
  refine ux_Btop 1 (fr_p hfr) ?_
  refine ux_BN 2 rfl ?_
  refine ux_Bk (j := 98) rfl rfl ?_
  refine mt_isSign0 (by decide) ?_
  refine ux_BN 1 rfl ?_
  refine ux_Byes rfl ?_
  refine ux_BN 3 rfl ?_
  refine ux_Bno (by decide) ?_
  refine ux_BN 2 rfl ?_
  refine ux_Byes (by decide) ?_
  refine ux_BN 3 rfl ?_
  refine ux_Bno (by decide) ?_
  refine ux_BN 2 rfl ?_
  exact ux_Bri rfl (Or.inl rfl) hK

theorem mw_if2 (m : mq E0 g0 A0 (e + 1) fk fp c R E) (he : e < 32) (f : Nat) (hfr : fr R e = (8, 2, fm, s2, hl)) (hK : K (.inr (some (.int s2))) E x z false) : ux_Bm uxP sc (d + 1) 102 [.ref 210, .int (nI f)] E x z K := by
  show ux_B uxP sc (d + 1) 102 0 [.ref 210, .int (nI f), .null, .null] [] E x z false K
  refine ux_BN 1 rfl ?_
  refine mq_Bdepth m rfl rfl ?_
  refine ux_BN 1 rfl ?_
  refine ux_Byes (nI_ne0 (by omega) (by omega)) ?_
  refine ux_BN 1 rfl ?_
  refine mq_Bref m rfl rfl (fun _ => rfl) ?_
  refine ux_BN 1 rfl ?_
  refine mq_Bdepth m rfl rfl ?_
  refine ux_BN 2 rfl ?_
  refine mq_ildR m 229 e rfl (by decide) he (nI_pred e) ?_
  refine ux_Btop 8 (fr_w hfr) ?_
  refine ux_BN 2 rfl ?_
  refine mq_Bref m rfl rfl (fun _ => rfl) ?_
  refine ux_BN 1 rfl ?_
  refine mq_Bdepth m rfl rfl ?_
  refine ux_BN 2 rfl ?_
  refine mq_ildR m 230 e rfl (by decide) he (nI_pred e) ?_
  refine ux_Btop 2 (fr_p hfr) ?_
  refine ux_BN 2 rfl ?_
  refine ux_Bk (j := 98) rfl rfl ?_
  refine mt_isSign0 (by decide) ?_
  refine ux_BN 1 rfl ?_
  refine ux_Byes rfl ?_
  refine ux_BN 3 rfl ?_
  refine ux_Bno (by decide) ?_
  refine ux_BN 2 rfl ?_
  refine ux_Byes (by decide) ?_
  refine ux_BN 3 rfl ?_
  refine ux_Byes (by decide) ?_
  refine ux_BN 1 rfl ?_
  refine mq_Bref m rfl rfl (fun _ => rfl) ?_
  refine ux_BN 1 rfl ?_
  refine mq_Bdepth m rfl rfl ?_
  refine ux_BN 2 rfl ?_
  refine mq_ildR m 232 e rfl (by decide) he (nI_pred e) ?_
  refine ux_Btop s2 (fr_s hfr) ?_
  exact ux_Bri rfl (Or.inl rfl) hK

theorem mw_call (m : mq E0 g0 A0 (e + 1) fk fp c R E) (he : e < 32) (f : Nat) (h p : Nat) (hh : h < 8) (hfr : fr R e = (nI (h + 11), nI p, fm, s2, hl)) (hK : K (.inr (some (.int (((A0 212).getD h 0 >>> ((2 + nI p) &&& 31)) &&& 1)))) E x z false) : ux_Bm uxP sc (d + 1) 102 [.ref 210, .int (nI f)] E x z K := by
  show ux_B uxP sc (d + 1) 102 0 [.ref 210, .int (nI f), .null, .null] [] E x z false K
  refine ux_BN 1 rfl ?_
  refine mq_Bdepth m rfl rfl ?_
  refine ux_BN 1 rfl ?_
  refine ux_Byes (nI_ne0 (by omega) (by omega)) ?_
  refine ux_BN 1 rfl ?_
  refine mq_Bref m rfl rfl (fun _ => rfl) ?_
  refine ux_BN 1 rfl ?_
  refine mq_Bdepth m rfl rfl ?_
  refine ux_BN 2 rfl ?_
  refine mq_ildR m 229 e rfl (by decide) he (nI_pred e) ?_
  refine ux_Btop (nI (h + 11)) (fr_w hfr) ?_
  refine ux_BN 2 rfl ?_
  refine mq_Bref m rfl rfl (fun _ => rfl) ?_
  refine ux_BN 1 rfl ?_
  refine mq_Bdepth m rfl rfl ?_
  refine ux_BN 2 rfl ?_
  refine mq_ildR m 230 e rfl (by decide) he (nI_pred e) ?_
  refine ux_Btop (nI p) (fr_p hfr) ?_
  refine ux_BN 2 rfl ?_
  refine ux_Bk (j := 98) rfl rfl ?_
  refine mt_isSign0 (fun h0 => absurd h0.2 (nI_ge (show 7 < h + 11 by omega) (by omega))) ?_
  refine ux_BN 1 rfl ?_
  refine ux_Byes rfl ?_
  refine ux_BN 3 rfl ?_
  refine ux_Byes (nI_neq (b := 8) (by omega) (by omega) (by decide)) ?_
  refine ux_BN 4 rfl ?_
  refine ux_Btop (nI h) (pk_sub (show 11 ≤ h + 11 by omega)) ?_
  refine ux_BN 1 rfl ?_
  refine mq_Bv m rfl rfl rfl rfl rfl ?_
  refine mq_typeOf m h hh (nI p) ?_
  exact ux_Bri rfl (Or.inl rfl) hK

theorem mp_sign1 (m : mq E0 g0 A0 (e + 1) fk fp c R E) (he : e < 32) (ty : Int32) (k : Nat) (hk : 3 ≤ k ∧ k ≤ 7) (hfr : fr R e = ((nI k), nI 0, fm, s2, hl)) (hK : ∀ E' w' R', mq E0 g0 A0 (e + 1) fk fp c R' E' → rk R R' e → fr R' e = (nI k, nI 1, fm, s2, hl) → K (.inr (some (.int 2))) E' x z w') : ux_Bm uxP sc (d + 1) 103 [.ref 210, .int ty] E x z K := by
  show ux_B uxP sc (d + 1) 103 0 [.ref 210, .int ty, .null, .null, .null, .null] [] E x z false K
  have hl0 : e < (R 230).length := by rw [m.lenR 230 (by decide)]; exact he
  refine ux_BN 1 rfl ?_
  refine mq_Bdepth m rfl rfl ?_
  refine ux_BN 2 rfl ?_
  refine ux_Btop (nI e) (nI_pred e) ?_
  refine ux_BN 2 rfl ?_
  refine mq_Bref m rfl rfl (fun _ => rfl) ?_
  refine ux_BN 1 rfl ?_
  refine mq_ildR m 229 e rfl (by decide) he rfl ?_
  refine ux_Btop (nI k) (fr_w hfr) ?_
  refine ux_BN 2 rfl ?_
  refine mq_Bref m rfl rfl (fun _ => rfl) ?_
  refine ux_BN 2 rfl ?_
  refine mq_ildR m 230 e rfl (by decide) he rfl ?_
  refine ux_Btop (nI 0) (fr_p hfr) ?_
  refine ux_BN 2 rfl ?_
  refine ux_Btop (nI 1) (nI_1 _) ?_
  refine mq_istR m 230 e rfl (by decide) he rfl fun E1 m1 => ?_
  refine ux_BN 1 rfl ?_
  refine mq_Bref m1 rfl rfl (fun _ => rfl) ?_
  refine ux_BN 1 rfl ?_
  refine mq_ildR m1 230 e rfl (by decide) he rfl ?_
  refine ux_Btop (nI 1) (by rw [fUg R 230 e _ hl0, if_pos ⟨rfl, rfl⟩]) ?_
  refine ux_BN 4 rfl ?_
  refine ux_Byes (nI_neq (b := 8) (by omega) (by omega) (by decide)) ?_
  refine ux_BN 3 rfl ?_
  refine ux_Byes (nI_neq (b := 8) (by omega) (by omega) (by decide)) ?_
  refine ux_BN 1 rfl ?_
  refine ux_Bk (j := 98) rfl rfl ?_
  refine mt_isSign1 ⟨nI_le (show 3 ≤ k by omega) (by omega), nI_le (show k ≤ 7 by omega) (by decide)⟩ ?_
  refine ux_BN 1 rfl ?_
  refine ux_Bno (by decide) ?_
  refine ux_BN 6 rfl ?_
  refine ux_Bno (by decide) ?_
  refine ux_BN 1 rfl ?_
  exact ux_Bri rfl (Or.inl rfl) (hK _ _ _ m1 (rk_set R 230 e _ hl0) (by rw [fr_230 R e _ hl0, hfr]))

theorem mp_sign2 (m : mq E0 g0 A0 (e + 1) fk fp c R E) (he : e < 32) (ty : Int32) (k : Nat) (hk : 2 ≤ k ∧ k ≤ 6) (hc : c.length + 1 ≤ 80) (hfr : fr R e = ((nI (k + 1)), nI 1, fm, s2, hl)) (hK : ∀ E' w' R', mq E0 g0 A0 e fk fp (c ++ [nI k]) R' E' → rk R R' e → K (.inr (some (.int (if nI (k + 1) < 6 then 0 else 1)))) E' x z w') : ux_Bm uxP sc (d + 1) 103 [.ref 210, .int ty] E x z K := by
  show ux_B uxP sc (d + 1) 103 0 [.ref 210, .int ty, .null, .null, .null, .null] [] E x z false K
  have hl0 : e < (R 230).length := by rw [m.lenR 230 (by decide)]; exact he
  refine ux_BN 1 rfl ?_
  refine mq_Bdepth m rfl rfl ?_
  refine ux_BN 2 rfl ?_
  refine ux_Btop (nI e) (nI_pred e) ?_
  refine ux_BN 2 rfl ?_
  refine mq_Bref m rfl rfl (fun _ => rfl) ?_
  refine ux_BN 1 rfl ?_
  refine mq_ildR m 229 e rfl (by decide) he rfl ?_
  refine ux_Btop (nI (k + 1)) (fr_w hfr) ?_
  refine ux_BN 2 rfl ?_
  refine mq_Bref m rfl rfl (fun _ => rfl) ?_
  refine ux_BN 2 rfl ?_
  refine mq_ildR m 230 e rfl (by decide) he rfl ?_
  refine ux_Btop (nI 1) (fr_p hfr) ?_
  refine ux_BN 2 rfl ?_
  refine ux_Btop (nI 2) (nI_1 _) ?_
  refine mq_istR m 230 e rfl (by decide) he rfl fun E1 m1 => ?_
  refine ux_BN 1 rfl ?_
  refine mq_Bref m1 rfl rfl (fun _ => rfl) ?_
  refine ux_BN 1 rfl ?_
  refine mq_ildR m1 230 e rfl (by decide) he rfl ?_
  refine ux_Btop (nI 2) (by rw [fUg R 230 e _ hl0, if_pos ⟨rfl, rfl⟩]) ?_
  refine ux_BN 4 rfl ?_
  refine ux_Byes (nI_neq (b := 8) (by omega) (by omega) (by decide)) ?_
  refine ux_BN 3 rfl ?_
  refine ux_Byes (nI_neq (b := 8) (by omega) (by omega) (by decide)) ?_
  refine ux_BN 1 rfl ?_
  refine ux_Bk (j := 98) rfl rfl ?_
  refine mt_isSign1 ⟨nI_le (show 3 ≤ (k + 1) by omega) (by omega), nI_le (show (k + 1) ≤ 7 by omega) (by decide)⟩ ?_
  refine ux_BN 1 rfl ?_
  refine ux_Bno (by decide) ?_
  refine ux_BN 6 rfl ?_
  refine ux_Byes (by decide) ?_
  refine ux_BN 2 rfl ?_
  refine mq_Bdepth m1 rfl rfl ?_
  refine ux_BN 2 rfl ?_
  refine mq_putdepth m1 e rfl rfl rfl (nI_pred e) fun E3 m3 => ?_
  refine ux_BN 1 rfl ?_
  refine ux_Bk (j := 98) rfl rfl ?_
  refine mt_isSign1 ⟨nI_le (show 3 ≤ (k + 1) by omega) (by omega), nI_le (show (k + 1) ≤ 7 by omega) (by decide)⟩ ?_
  refine ux_BN 1 rfl ?_
  refine ux_Bno (by decide) ?_
  refine ux_BN 4 rfl ?_
  refine ux_Btop (nI k) (nI_pred k) ?_
  refine mq_Bv m3 rfl rfl rfl rfl rfl ?_
  refine mq_emit m3 (nI k) (by omega) fun E5 m5 => ?_
  refine ux_BN 1 rfl ?_
  refine ux_Bk (j := 104) rfl rfl ?_
  refine mo_typeOfSign (nI (k + 1)) ?_
  exact ux_Bri rfl (Or.inl rfl) (hK _ _ _ m5 (rk_set R 230 e _ hl0))

theorem mp_if1 (m : mq E0 g0 A0 (e + 1) fk fp c R E) (he : e < 32) (ty : Int32) (hc : c.length + 2 ≤ 80) (hfr : fr R e = (8, nI 0, fm, s2, hl)) (hK : ∀ E' w' R', mq E0 g0 A0 (e + 1) fk fp (c ++ [7, 0]) R' E' → rk R R' e → fr R' e = (8, nI 1, fm, s2, nI (c.length + 1)) → K (.inr (some (.int 2))) E' x z w') : ux_Bm uxP sc (d + 1) 103 [.ref 210, .int ty] E x z K := by
  show ux_B uxP sc (d + 1) 103 0 [.ref 210, .int ty, .null, .null, .null, .null] [] E x z false K
  have hl0 : e < (R 230).length := by rw [m.lenR 230 (by decide)]; exact he
  refine ux_BN 1 rfl ?_
  refine mq_Bdepth m rfl rfl ?_
  refine ux_BN 2 rfl ?_
  refine ux_Btop (nI e) (nI_pred e) ?_
  refine ux_BN 2 rfl ?_
  refine mq_Bref m rfl rfl (fun _ => rfl) ?_
  refine ux_BN 1 rfl ?_
  refine mq_ildR m 229 e rfl (by decide) he rfl ?_
  refine ux_Btop 8 (fr_w hfr) ?_
  refine ux_BN 2 rfl ?_
  refine mq_Bref m rfl rfl (fun _ => rfl) ?_
  refine ux_BN 2 rfl ?_
  refine mq_ildR m 230 e rfl (by decide) he rfl ?_
  refine ux_Btop (nI 0) (fr_p hfr) ?_
  refine ux_BN 2 rfl ?_
  refine ux_Btop (nI 1) (nI_1 _) ?_
  refine mq_istR m 230 e rfl (by decide) he rfl fun E1 m1 => ?_
  refine ux_BN 1 rfl ?_
  refine mq_Bref m1 rfl rfl (fun _ => rfl) ?_
  refine ux_BN 1 rfl ?_
  refine mq_ildR m1 230 e rfl (by decide) he rfl ?_
  refine ux_Btop (nI 1) (by rw [fUg R 230 e _ hl0, if_pos ⟨rfl, rfl⟩]) ?_
  refine ux_BN 4 rfl ?_
  refine ux_Bno (by decide) ?_
  refine ux_BN 3 rfl ?_
  refine ux_Bno (by decide) ?_
  refine ux_BN 2 rfl ?_
  refine mq_Bv m1 rfl rfl rfl rfl rfl ?_
  refine mq_emit m1 7 (by omega) fun E2 m2 => ?_
  refine ux_BN 1 rfl ?_
  refine mq_Bref m2 rfl rfl (fun _ => rfl) ?_
  refine ux_BN 2 rfl ?_
  refine mq_Bsize m2 rfl rfl ?_
  refine mq_istR m2 233 e rfl (by decide) he rfl fun E3 m3 => ?_
  refine ux_BN 2 rfl ?_
  refine mq_Bv m3 rfl rfl rfl rfl rfl ?_
  refine mq_emit m3 0 (by simp; omega) fun E4 m4 => ?_
  refine ux_BN 3 rfl ?_
  refine ux_Bno (by decide) ?_
  refine ux_BN 3 rfl ?_
  refine ux_Byes (by decide) ?_
  refine ux_BN 1 rfl ?_
  refine ux_Bk (j := 98) rfl rfl ?_
  refine mt_isSign0 (by decide) ?_
  refine ux_BN 1 rfl ?_
  refine ux_Byes rfl ?_
  refine ux_BN 3 rfl ?_
  refine ux_Bno (by decide) ?_
  refine ux_BN 6 rfl ?_
  refine ux_Bno (by decide) ?_
  refine ux_BN 1 rfl ?_
  exact ux_Bri rfl (Or.inl rfl) (hK _ _ _ (by simpa using m4) ((rk_set R 230 e _ hl0).trans (rk_set _ 233 e _ (by rw [m2.lenR 233 (by decide)]; exact he))) (by rw [fr_233 _ e _ (by rw [m2.lenR 233 (by decide)]; exact he), fr_230 R e _ hl0, hfr]))

theorem mp_if2 (m : mq E0 g0 A0 (e + 1) fk fp c R E) (he : e < 32) (ty : Int32) (n : Nat) (hn : n < c.length) (hc : c.length + 2 ≤ 80) (hfr : fr R e = (8, nI 1, fm, s2, nI n)) (hK : ∀ E' w' R', mq E0 g0 A0 (e + 1) fk fp (c.set n (nI (c.length + 1 - n)) ++ [8, 0]) R' E' → rk R R' e → fr R' e = (8, nI 2, fm, ty, nI (c.length + 1)) → K (.inr (some (.int 2))) E' x z w') : ux_Bm uxP sc (d + 1) 103 [.ref 210, .int ty] E x z K := by
  show ux_B uxP sc (d + 1) 103 0 [.ref 210, .int ty, .null, .null, .null, .null] [] E x z false K
  have hl0 : e < (R 230).length := by rw [m.lenR 230 (by decide)]; exact he
  refine ux_BN 1 rfl ?_
  refine mq_Bdepth m rfl rfl ?_
  refine ux_BN 2 rfl ?_
  refine ux_Btop (nI e) (nI_pred e) ?_
  refine ux_BN 2 rfl ?_
  refine mq_Bref m rfl rfl (fun _ => rfl) ?_
  refine ux_BN 1 rfl ?_
  refine mq_ildR m 229 e rfl (by decide) he rfl ?_
  refine ux_Btop 8 (fr_w hfr) ?_
  refine ux_BN 2 rfl ?_
  refine mq_Bref m rfl rfl (fun _ => rfl) ?_
  refine ux_BN 2 rfl ?_
  refine mq_ildR m 230 e rfl (by decide) he rfl ?_
  refine ux_Btop (nI 1) (fr_p hfr) ?_
  refine ux_BN 2 rfl ?_
  refine ux_Btop (nI 2) (nI_1 _) ?_
  refine mq_istR m 230 e rfl (by decide) he rfl fun E1 m1 => ?_
  refine ux_BN 1 rfl ?_
  refine mq_Bref m1 rfl rfl (fun _ => rfl) ?_
  refine ux_BN 1 rfl ?_
  refine mq_ildR m1 230 e rfl (by decide) he rfl ?_
  refine ux_Btop (nI 2) (by rw [fUg R 230 e _ hl0, if_pos ⟨rfl, rfl⟩]) ?_
  refine ux_BN 4 rfl ?_
  refine ux_Bno (by decide) ?_
  refine ux_BN 3 rfl ?_
  refine ux_Byes (by decide) ?_
  refine ux_BN 3 rfl ?_
  refine ux_Bno (by decide) ?_
  refine ux_BN 3 rfl ?_
  refine ux_Bno (by decide) ?_
  refine ux_BN 1 rfl ?_
  refine mq_Bref m1 rfl rfl (fun _ => rfl) ?_
  refine ux_BN 2 rfl ?_
  refine mq_istR m1 232 e rfl (by decide) he rfl fun E2 m2 => ?_
  refine ux_BN 2 rfl ?_
  refine mq_Bv m2 rfl rfl rfl rfl rfl ?_
  refine mq_emit m2 8 (by omega) fun E3 m3 => ?_
  refine ux_BN 1 rfl ?_
  refine mq_Bref m3 rfl rfl (fun _ => rfl) ?_
  refine ux_BN 1 rfl ?_
  refine mq_Bref m3 rfl rfl (fun _ => rfl) ?_
  refine ux_BN 1 rfl ?_
  refine mq_ildR m3 233 e rfl (by decide) he rfl ?_
  refine ux_Btop (nI n) (show (R 233).getD e 0 = nI n from fr_h hfr) ?_
  refine ux_BN 1 rfl ?_
  refine mq_Bsize m3 rfl rfl ?_
  refine ux_BN 2 rfl ?_
  refine ux_Btop (nI (c.length + 1 + 1)) (by rw [List.length_append]; exact nI_1 _) ?_
  refine ux_BN 1 rfl ?_
  refine mq_Bref m3 rfl rfl (fun _ => rfl) ?_
  refine ux_BN 1 rfl ?_
  refine mq_ildR m3 233 e rfl (by decide) he rfl ?_
  refine ux_Btop (nI n) (show (R 233).getD e 0 = nI n from fr_h hfr) ?_
  refine ux_BN 3 rfl ?_
  refine ux_Btop (nI (c.length + 1 - n)) (nI_sub1 (by omega)) ?_
  refine mq_patch m3 n rfl (by simp; omega) rfl fun E4 m4 => ?_
  refine ux_BN 1 rfl ?_
  refine mq_Bref m4 rfl rfl (fun _ => rfl) ?_
  refine ux_BN 2 rfl ?_
  refine mq_Bsize m4 rfl rfl ?_
  refine mq_istR m4 233 e rfl (by decide) he rfl fun E5 m5 => ?_
  refine ux_BN 2 rfl ?_
  refine mq_Bv m5 rfl rfl rfl rfl rfl ?_
  refine mq_emit m5 0 (by simp; omega) fun E6 m6 => ?_
  refine ux_BN 1 rfl ?_
  refine ux_Bk (j := 98) rfl rfl ?_
  refine mt_isSign0 (by decide) ?_
  refine ux_BN 1 rfl ?_
  refine ux_Byes rfl ?_
  refine ux_BN 3 rfl ?_
  refine ux_Bno (by decide) ?_
  refine ux_BN 6 rfl ?_
  refine ux_Bno (by decide) ?_
  refine ux_BN 1 rfl ?_
  exact ux_Bri rfl (Or.inl rfl) (hK _ _ _ (mp_cast m6 (by rw [List.set_append_left _ _ hn]; simp)) (((rk_set R 230 e _ hl0).trans (rk_set _ 232 e _ (by rw [m1.lenR 232 (by decide)]; exact he))).trans (rk_set _ 233 e _ (by rw [m4.lenR 233 (by decide)]; exact he))) (by rw [fr_233 _ e _ (by rw [m4.lenR 233 (by decide)]; exact he), fr_232 _ e _ (by rw [m1.lenR 232 (by decide)]; exact he), fr_230 R e _ hl0, hfr]; simp))

theorem mp_if3 (m : mq E0 g0 A0 (e + 1) fk fp c R E) (he : e < 32) (ty : Int32) (n : Nat) (hn : n < c.length) (hc : c.length ≤ 80) (hfr : fr R e = (8, nI 2, fm, s2, nI n)) (hK : ∀ E' w' R', mq E0 g0 A0 e fk fp (c.set n (nI (c.length - n - 1))) R' E' → rk R R' e → K (.inr (some (.int s2))) E' x z w') : ux_Bm uxP sc (d + 1) 103 [.ref 210, .int ty] E x z K := by
  show ux_B uxP sc (d + 1) 103 0 [.ref 210, .int ty, .null, .null, .null, .null] [] E x z false K
  have hl0 : e < (R 230).length := by rw [m.lenR 230 (by decide)]; exact he
  refine ux_BN 1 rfl ?_
  refine mq_Bdepth m rfl rfl ?_
  refine ux_BN 2 rfl ?_
  refine ux_Btop (nI e) (nI_pred e) ?_
  refine ux_BN 2 rfl ?_
  refine mq_Bref m rfl rfl (fun _ => rfl) ?_
  refine ux_BN 1 rfl ?_
  refine mq_ildR m 229 e rfl (by decide) he rfl ?_
  refine ux_Btop 8 (fr_w hfr) ?_
  refine ux_BN 2 rfl ?_
  refine mq_Bref m rfl rfl (fun _ => rfl) ?_
  refine ux_BN 2 rfl ?_
  refine mq_ildR m 230 e rfl (by decide) he rfl ?_
  refine ux_Btop (nI 2) (fr_p hfr) ?_
  refine ux_BN 2 rfl ?_
  refine ux_Btop (nI 3) (nI_1 _) ?_
  refine mq_istR m 230 e rfl (by decide) he rfl fun E1 m1 => ?_
  refine ux_BN 1 rfl ?_
  refine mq_Bref m1 rfl rfl (fun _ => rfl) ?_
  refine ux_BN 1 rfl ?_
  refine mq_ildR m1 230 e rfl (by decide) he rfl ?_
  refine ux_Btop (nI 3) (by rw [fUg R 230 e _ hl0, if_pos ⟨rfl, rfl⟩]) ?_
  refine ux_BN 4 rfl ?_
  refine ux_Bno (by decide) ?_
  refine ux_BN 3 rfl ?_
  refine ux_Byes (by decide) ?_
  refine ux_BN 3 rfl ?_
  refine ux_Bno (by decide) ?_
  refine ux_BN 3 rfl ?_
  refine ux_Byes (by decide) ?_
  refine ux_BN 1 rfl ?_
  refine ux_Bk (j := 98) rfl rfl ?_
  refine mt_isSign0 (by decide) ?_
  refine ux_BN 1 rfl ?_
  refine ux_Byes rfl ?_
  refine ux_BN 3 rfl ?_
  refine ux_Bno (by decide) ?_
  refine ux_BN 6 rfl ?_
  refine ux_Byes (by decide) ?_
  refine ux_BN 2 rfl ?_
  refine mq_Bdepth m1 rfl rfl ?_
  refine ux_BN 2 rfl ?_
  refine mq_putdepth m1 e rfl rfl rfl (nI_pred e) fun E3 m3 => ?_
  refine ux_BN 1 rfl ?_
  refine ux_Bk (j := 98) rfl rfl ?_
  refine mt_isSign0 (by decide) ?_
  refine ux_BN 1 rfl ?_
  refine ux_Byes rfl ?_
  refine ux_BN 3 rfl ?_
  refine ux_Bno (by decide) ?_
  refine ux_BN 1 rfl ?_
  refine mq_Bref m3 rfl rfl (fun _ => rfl) ?_
  refine ux_BN 1 rfl ?_
  refine mq_Bref m3 rfl rfl (fun _ => rfl) ?_
  refine ux_BN 1 rfl ?_
  refine mq_ildR m3 233 e rfl (by decide) he rfl ?_
  refine ux_Btop (nI n) (show (R 233).getD e 0 = nI n from fr_h hfr) ?_
  refine ux_BN 1 rfl ?_
  refine mq_Bsize m3 rfl rfl ?_
  refine ux_BN 1 rfl ?_
  refine mq_Bref m3 rfl rfl (fun _ => rfl) ?_
  refine ux_BN 1 rfl ?_
  refine mq_ildR m3 233 e rfl (by decide) he rfl ?_
  refine ux_Btop (nI n) (show (R 233).getD e 0 = nI n from fr_h hfr) ?_
  refine ux_BN 3 rfl ?_
  refine ux_Btop (nI (c.length - n - 1)) (nI_sub1 (by omega)) ?_
  refine mq_patch m3 n rfl hn rfl fun E5 m5 => ?_
  refine ux_BN 1 rfl ?_
  refine mq_Bref m5 rfl rfl (fun _ => rfl) ?_
  refine ux_BN 1 rfl ?_
  refine mq_ildR m5 232 e rfl (by decide) he rfl ?_
  refine ux_Btop s2 (show (R 232).getD e 0 = s2 from fr_s hfr) ?_
  exact ux_Bri rfl (Or.inl rfl) (hK _ _ _ m5 (rk_set R 230 e _ hl0))

theorem mp_call1 (m : mq E0 g0 A0 (e + 1) fk fp c R E) (he : e < 32) (ty : Int32) (h p : Nat) (hh : h < 8) (hp : ¬ (A0 212).getD h 0 &&& 3 ≤ nI (p + 1)) (hfr : fr R e = ((nI (h + 11)), nI p, fm, s2, hl)) (hK : ∀ E' w' R', mq E0 g0 A0 (e + 1) fk fp c R' E' → rk R R' e → fr R' e = (nI (h + 11), nI (p + 1), fm, s2, hl) → K (.inr (some (.int 2))) E' x z w') : ux_Bm uxP sc (d + 1) 103 [.ref 210, .int ty] E x z K := by
  show ux_B uxP sc (d + 1) 103 0 [.ref 210, .int ty, .null, .null, .null, .null] [] E x z false K
  have hl0 : e < (R 230).length := by rw [m.lenR 230 (by decide)]; exact he
  refine ux_BN 1 rfl ?_
  refine mq_Bdepth m rfl rfl ?_
  refine ux_BN 2 rfl ?_
  refine ux_Btop (nI e) (nI_pred e) ?_
  refine ux_BN 2 rfl ?_
  refine mq_Bref m rfl rfl (fun _ => rfl) ?_
  refine ux_BN 1 rfl ?_
  refine mq_ildR m 229 e rfl (by decide) he rfl ?_
  refine ux_Btop (nI (h + 11)) (fr_w hfr) ?_
  refine ux_BN 2 rfl ?_
  refine mq_Bref m rfl rfl (fun _ => rfl) ?_
  refine ux_BN 2 rfl ?_
  refine mq_ildR m 230 e rfl (by decide) he rfl ?_
  refine ux_Btop (nI p) (fr_p hfr) ?_
  refine ux_BN 2 rfl ?_
  refine ux_Btop (nI (p + 1)) (nI_1 _) ?_
  refine mq_istR m 230 e rfl (by decide) he rfl fun E1 m1 => ?_
  refine ux_BN 1 rfl ?_
  refine mq_Bref m1 rfl rfl (fun _ => rfl) ?_
  refine ux_BN 1 rfl ?_
  refine mq_ildR m1 230 e rfl (by decide) he rfl ?_
  refine ux_Btop (nI (p + 1)) (by rw [fUg R 230 e _ hl0, if_pos ⟨rfl, rfl⟩]) ?_
  refine ux_BN 4 rfl ?_
  refine ux_Byes (nI_neq (b := 8) (by omega) (by omega) (by decide)) ?_
  refine ux_BN 3 rfl ?_
  refine ux_Byes (nI_neq (b := 8) (by omega) (by omega) (by decide)) ?_
  refine ux_BN 1 rfl ?_
  refine ux_Bk (j := 98) rfl rfl ?_
  refine mt_isSign0 (fun h0 => absurd h0.2 (nI_ge (show 7 < h + 11 by omega) (by omega))) ?_
  refine ux_BN 1 rfl ?_
  refine ux_Byes rfl ?_
  refine ux_BN 3 rfl ?_
  refine ux_Byes (nI_neq (b := 8) (by omega) (by omega) (by decide)) ?_
  refine ux_BN 4 rfl ?_
  refine ux_Btop (nI h) (pk_sub (show 11 ≤ h + 11 by omega)) ?_
  refine mq_Bv m1 rfl rfl rfl rfl rfl ?_
  refine mq_parameters m1 h hh ?_
  refine ux_BN 4 rfl ?_
  refine ux_Bno hp ?_
  refine ux_BN 1 rfl ?_
  exact ux_Bri rfl (Or.inl rfl) (hK _ _ _ m1 (rk_set R 230 e _ hl0) (by rw [fr_230 R e _ hl0, hfr]))

theorem mp_call2 (m : mq E0 g0 A0 (e + 1) fk fp c R E) (he : e < 32) (ty : Int32) (h p : Nat) (hh : h < 8) (hp : (A0 212).getD h 0 &&& 3 ≤ nI (p + 1)) (hc : c.length + 2 ≤ 80) (hfr : fr R e = ((nI (h + 11)), nI p, fm, s2, hl)) (hK : ∀ E' w' R', mq E0 g0 A0 e fk fp (c ++ [9, nI h]) R' E' → rk R R' e → K (.inr (some (.int ((A0 212).getD h 0 >>> ((5 : Int32) &&& 31))))) E' x z w') : ux_Bm uxP sc (d + 1) 103 [.ref 210, .int ty] E x z K := by
  show ux_B uxP sc (d + 1) 103 0 [.ref 210, .int ty, .null, .null, .null, .null] [] E x z false K
  have hl0 : e < (R 230).length := by rw [m.lenR 230 (by decide)]; exact he
  refine ux_BN 1 rfl ?_
  refine mq_Bdepth m rfl rfl ?_
  refine ux_BN 2 rfl ?_
  refine ux_Btop (nI e) (nI_pred e) ?_
  refine ux_BN 2 rfl ?_
  refine mq_Bref m rfl rfl (fun _ => rfl) ?_
  refine ux_BN 1 rfl ?_
  refine mq_ildR m 229 e rfl (by decide) he rfl ?_
  refine ux_Btop (nI (h + 11)) (fr_w hfr) ?_
  refine ux_BN 2 rfl ?_
  refine mq_Bref m rfl rfl (fun _ => rfl) ?_
  refine ux_BN 2 rfl ?_
  refine mq_ildR m 230 e rfl (by decide) he rfl ?_
  refine ux_Btop (nI p) (fr_p hfr) ?_
  refine ux_BN 2 rfl ?_
  refine ux_Btop (nI (p + 1)) (nI_1 _) ?_
  refine mq_istR m 230 e rfl (by decide) he rfl fun E1 m1 => ?_
  refine ux_BN 1 rfl ?_
  refine mq_Bref m1 rfl rfl (fun _ => rfl) ?_
  refine ux_BN 1 rfl ?_
  refine mq_ildR m1 230 e rfl (by decide) he rfl ?_
  refine ux_Btop (nI (p + 1)) (by rw [fUg R 230 e _ hl0, if_pos ⟨rfl, rfl⟩]) ?_
  refine ux_BN 4 rfl ?_
  refine ux_Byes (nI_neq (b := 8) (by omega) (by omega) (by decide)) ?_
  refine ux_BN 3 rfl ?_
  refine ux_Byes (nI_neq (b := 8) (by omega) (by omega) (by decide)) ?_
  refine ux_BN 1 rfl ?_
  refine ux_Bk (j := 98) rfl rfl ?_
  refine mt_isSign0 (fun h0 => absurd h0.2 (nI_ge (show 7 < h + 11 by omega) (by omega))) ?_
  refine ux_BN 1 rfl ?_
  refine ux_Byes rfl ?_
  refine ux_BN 3 rfl ?_
  refine ux_Byes (nI_neq (b := 8) (by omega) (by omega) (by decide)) ?_
  refine ux_BN 4 rfl ?_
  refine ux_Btop (nI h) (pk_sub (show 11 ≤ h + 11 by omega)) ?_
  refine mq_Bv m1 rfl rfl rfl rfl rfl ?_
  refine mq_parameters m1 h hh ?_
  refine ux_BN 4 rfl ?_
  refine ux_Byes hp ?_
  refine ux_BN 2 rfl ?_
  refine mq_Bdepth m1 rfl rfl ?_
  refine ux_BN 2 rfl ?_
  refine mq_putdepth m1 e rfl rfl rfl (nI_pred e) fun E4 m4 => ?_
  refine ux_BN 1 rfl ?_
  refine ux_Bk (j := 98) rfl rfl ?_
  refine mt_isSign0 (fun h0 => absurd h0.2 (nI_ge (show 7 < h + 11 by omega) (by omega))) ?_
  refine ux_BN 1 rfl ?_
  refine ux_Byes rfl ?_
  refine ux_BN 3 rfl ?_
  refine ux_Byes (nI_neq (b := 8) (by omega) (by omega) (by decide)) ?_
  refine ux_BN 2 rfl ?_
  refine mq_Bv m4 rfl rfl rfl rfl rfl ?_
  refine mq_emit m4 9 (by omega) fun E6 m6 => ?_
  refine ux_BN 4 rfl ?_
  refine ux_Btop (nI h) (pk_sub (show 11 ≤ h + 11 by omega)) ?_
  refine mq_Bv m6 rfl rfl rfl rfl rfl ?_
  refine mq_emit m6 (nI h) (by simp; omega) fun E7 m7 => ?_
  refine ux_BN 4 rfl ?_
  refine ux_Btop (nI h) (pk_sub (show 11 ≤ h + 11 by omega)) ?_
  refine mq_Bv m7 rfl rfl rfl rfl rfl ?_
  refine mq_resultOf m7 h hh ?_
  exact ux_Bri rfl (Or.inl rfl) (hK _ _ _ (by simpa using m7) (rk_set R 230 e _ hl0))

end MP
end
section
/-! What compiling a text gives: the fault and its place, or the type, the place behind, and the code. -/
abbrev cR : Type := (Int32 × Int32) ⊕ (Int32 × Nat × List Int32)
def sPar (s : Int32) : Int32 := s &&& 3
def sTyp (s k : Int32) : Int32 := (s >>> ((2 + k) &&& 31)) &&& 1
def sRes (s : Int32) : Int32 := (s >>> ((5 : Int32) &&& 31)) &&& 1
def cBi (r : cR) (k : Int32 → Nat → List Int32 → cR) : cR := match r with
  | .inl e => .inl e
  | .inr (t, q, c) => k t q c
def cPa (rc : Nat → cR) (want : Int32) (p : Nat) : cR := cBi (rc p) fun t q c => if t = want then .inr (t, q, c) else .inl (5, nI p)
def cAr (rc : Nat → cR) (s : Int32) : Nat → Nat → Nat → cR
  | 0, _, p => .inr (0, p, [])
  | n + 1, k, p => cBi (cPa rc (sTyp s (nI k)) p) fun _ q c => cBi (cAr rc s n (k + 1) q) fun _ q2 c2 => .inr (0, q2, c ++ c2)
def cStep (rc : Nat → cR) (own : Int32) (sg : Nat → Int32) (t : Int32) (p : Nat) : cR :=
  if t < 0 ∨ (19 ≤ t ∧ t < 100) then .inl (1, nI p)
  else if t < 3 then (if sPar own ≤ t then .inl (3, nI p) else .inr (sTyp own t, p + 1, [1, t]))
  else if t < 8 then cBi (cPa rc 0 (p + 1)) fun _ q1 c1 => cBi (cPa rc 0 q1) fun _ q2 c2 => .inr (if t < 6 then 0 else 1, q2, c1 ++ c2 ++ [t - 1])
  else if t = 8 then cBi (cPa rc 1 (p + 1)) fun _ q1 c1 => cBi (rc q1) fun t2 q2 c2 => cBi (cPa rc t2 q2) fun _ q3 c3 => .inr (t2, q3, c1 ++ [7, nI (c2.length + 2)] ++ c2 ++ [8, nI c3.length] ++ c3)
  else if t ≤ 10 then .inr (1, p + 1, [0, if t = 9 then 1 else 0])
  else if t < 100 then (if sg (t - 11).toNatClampNeg = -1 then .inl (4, nI p) else cBi (cAr rc (sg (t - 11).toNatClampNeg) (sPar (sg (t - 11).toNatClampNeg)).toNatClampNeg 0 (p + 1)) fun _ q c => .inr (sRes (sg (t - 11).toNatClampNeg), q, c ++ [9, t - 11]))
  else .inr (0, p + 1, [0, t - 100])
def cx (tk : Nat → Int32) (L : Nat) (own : Int32) (sg : Nat → Int32) : Nat → Nat → cR
  | 0, p => .inl (2, nI p)
  | n + 1, p => if L ≤ p then .inl (2, nI p) else cStep (cx tk L own sg n) own sg (tk p) p
theorem cBi_inr {r : cR} {k : Int32 → Nat → List Int32 → cR} {y : Int32 × Nat × List Int32} (h : cBi r k = .inr y) : ∃ t q c, r = .inr (t, q, c) ∧ k t q c = .inr y := by
  unfold cBi at h
  split at h
  · cases h
  · rename_i t q c
    exact ⟨t, q, c, rfl, h⟩
theorem cBi_of {r : cR} {k : Int32 → Nat → List Int32 → cR} {t : Int32} {q : Nat} {c : List Int32} (h : r = .inr (t, q, c)) : cBi r k = k t q c := by rw [h]; rfl
theorem cBi_inl {r : cR} {k : Int32 → Nat → List Int32 → cR} {e : Int32 × Int32} (h : r = .inl e) : cBi r k = .inl e := by rw [h]; rfl
theorem cPa_inr {rc : Nat → cR} {want : Int32} {p : Nat} {t : Int32} {q : Nat} {c : List Int32} (h : cPa rc want p = .inr (t, q, c)) : rc p = .inr (t, q, c) ∧ t = want := by
  unfold cPa at h
  obtain ⟨t1, q1, c1, h1, h2⟩ := cBi_inr h
  split at h2
  · rename_i h3
    cases h2
    exact ⟨h1, h3⟩
  · cases h2
theorem cPa_ok {rc : Nat → cR} {want : Int32} {p : Nat} {t : Int32} {q : Nat} {c : List Int32} (h : rc p = .inr (t, q, c)) (ht : t = want) : cPa rc want p = .inr (t, q, c) := by
  unfold cPa; rw [cBi_of h, if_pos ht]
theorem cPa_bad {rc : Nat → cR} {want : Int32} {p : Nat} {t : Int32} {q : Nat} {c : List Int32} (h : rc p = .inr (t, q, c)) (ht : ¬ t = want) : cPa rc want p = .inl (5, nI p) := by
  unfold cPa; rw [cBi_of h, if_neg ht]
theorem cPa_inl {rc : Nat → cR} {want : Int32} {p : Nat} {e : Int32 × Int32} (h : rc p = .inl e) : cPa rc want p = .inl e := cBi_inl h
/-- from p to q len words are made -/
def cz (b p q len : Nat) : Prop := p ≤ q ∧ ∃ m, len ≤ 2 * (q - p) + 2 * m ∧ 3 * m + b ≤ q - p
def cGood (L : Nat) (rc : Nat → cR) : Prop := ∀ p t q c, rc p = .inr (t, q, c) → p < q ∧ q ≤ L ∧ (t = 0 ∨ t = 1) ∧ cz 1 p q c.length
theorem bit01 (s : Int32) : s &&& 1 = 0 ∨ s &&& 1 = 1 := by
  obtain ⟨j, hj, h⟩ := pk_andE s (m := 1) 1 rfl
  have : j = 0 ∨ j = 1 := by omega
  rcases this with rfl | rfl
  · exact Or.inl h
  · exact Or.inr h
theorem cAr_good {L : Nat} {rc : Nat → cR} (hg : cGood L rc) (s : Int32) : ∀ n k p t q c, p ≤ L → cAr rc s n k p = .inr (t, q, c) → q ≤ L ∧ cz n p q c.length := by
  intro n
  induction n with
  | zero =>
    intro k p t q c hp h
    cases h
    exact ⟨hp, Nat.le_refl _, 0, by simp, by omega⟩
  | succ n ih =>
    intro k p t q c hp h
    obtain ⟨t1, q1, c1, h1, h2⟩ := cBi_inr h
    obtain ⟨t2, q2, c2, h3, h4⟩ := cBi_inr h2
    cases h4
    obtain ⟨a1, a2, a3, a4, m1, a5, a6⟩ := hg _ _ _ _ (cPa_inr h1).1
    obtain ⟨b1, b2, m2, b3, b4⟩ := ih _ _ _ _ _ a2 h3
    refine ⟨b1, by omega, m1 + m2, ?_, by omega⟩
    rw [List.length_append]
    omega
theorem cStep_good {L : Nat} {rc : Nat → cR} (hg : cGood L rc) (own : Int32) (sg : Nat → Int32) (t : Int32) (p : Nat) (hp : p < L) {ty : Int32} {q : Nat} {c : List Int32} (h : cStep rc own sg t p = .inr (ty, q, c)) : p < q ∧ q ≤ L ∧ (ty = 0 ∨ ty = 1) ∧ cz 1 p q c.length := by
  unfold cStep at h
  split at h
  · cases h
  split at h
  · split at h
    · cases h
    · cases h
      exact ⟨by omega, by omega, bit01 _, by omega, 0, by simp, by omega⟩
  split at h
  · obtain ⟨t1, q1, c1, h1, h2⟩ := cBi_inr h
    obtain ⟨t2, q2, c2, h3, h4⟩ := cBi_inr h2
    cases h4
    obtain ⟨a1, a2, a3, a4, m1, a5, a6⟩ := hg _ _ _ _ (cPa_inr h1).1
    obtain ⟨b1, b2, b3, b4, m2, b5, b6⟩ := hg _ _ _ _ (cPa_inr h3).1
    refine ⟨by omega, b2, ?_, by omega, m1 + m2, ?_, by omega⟩
    · split; exact Or.inl rfl; exact Or.inr rfl
    · simp only [List.length_append, List.length_cons, List.length_nil]; omega
  split at h
  · obtain ⟨t1, q1, c1, h1, h2⟩ := cBi_inr h
    obtain ⟨t2, q2, c2, h3, h4⟩ := cBi_inr h2
    obtain ⟨t3, q3, c3, h5, h6⟩ := cBi_inr h4
    cases h6
    obtain ⟨a1, a2, a3, a4, m1, a5, a6⟩ := hg _ _ _ _ (cPa_inr h1).1
    obtain ⟨b1, b2, b3, b4, m2, b5, b6⟩ := hg _ _ _ _ h3
    obtain ⟨e1, e2, e3, e4, m3, e5, e6⟩ := hg _ _ _ _ (cPa_inr h5).1
    refine ⟨by omega, e2, b3, by omega, m1 + m2 + m3 + 1, ?_, by omega⟩
    simp only [List.length_append, List.length_cons, List.length_nil]; omega
  split at h
  · cases h
    exact ⟨by omega, by omega, Or.inr rfl, by omega, 0, by simp, by omega⟩
  split at h
  · split at h
    · cases h
    · obtain ⟨t1, q1, c1, h1, h2⟩ := cBi_inr h
      cases h2
      obtain ⟨b1, b2, m2, b3, b4⟩ := cAr_good hg _ _ _ _ _ _ _ (show p + 1 ≤ L by omega) h1
      refine ⟨by omega, b1, bit01 _, by omega, m2, ?_, by omega⟩
      simp only [List.length_append, List.length_cons, List.length_nil]; omega
  · cases h
    exact ⟨by omega, by omega, Or.inl rfl, by omega, 0, by simp, by omega⟩
theorem cx_good (tk : Nat → Int32) (L : Nat) (own : Int32) (sg : Nat → Int32) : ∀ n, cGood L (cx tk L own sg n) := by
  intro n
  induction n with
  | zero => intro p t q c h; cases h
  | succ n ih =>
    intro p t q c h
    unfold cx at h
    split at h
    · cases h
    · exact cStep_good ih own sg (tk p) p (by omega) h
end
section
/-! The reference's compile: its loop gives what cx gives. -/
section CS
variable {rc : Nat → cR} {own : Int32} {sg : Nat → Int32} {p : Nat}
theorem cS_none1 {t : Int32} (h : t < 0) : cStep rc own sg t p = .inl (1, nI p) := by
  unfold cStep; rw [if_pos (Or.inl h)]
theorem cS_none2 {k : Nat} (h : 19 ≤ k ∧ k < 100) : cStep rc own sg (nI k) p = .inl (1, nI p) := by
  unfold cStep; rw [if_pos (Or.inr ⟨nI_le (a := 19) h.1 (by omega), nI_lt (b := 100) h.2 (by decide)⟩)]
theorem cS_n0 {k : Nat} (h : k < 19) : ¬ (nI k < 0 ∨ (19 ≤ nI k ∧ nI k < 100)) := by
  rintro (h1 | ⟨h1, h2⟩)
  · exact nI_pos (by omega) h1
  · exact nI_ge (b := 19) h (by decide) h1
theorem cS_par {k : Nat} (h : k < 3) : cStep rc own sg (nI k) p = if sPar own ≤ nI k then .inl (3, nI p) else .inr (sTyp own (nI k), p + 1, [1, nI k]) := by
  unfold cStep; rw [if_neg (cS_n0 (by omega)), if_pos (show nI k < (3 : Int32) from nI_lt (b := 3) h (by decide))]
theorem cS_sign {k : Nat} (h : 2 ≤ k ∧ k ≤ 6) : cStep rc own sg (nI (k + 1)) p = cBi (cPa rc 0 (p + 1)) fun _ q1 c1 => cBi (cPa rc 0 q1) fun _ q2 c2 => .inr (if nI (k + 1) < 6 then 0 else 1, q2, c1 ++ c2 ++ [nI k]) := by
  unfold cStep; rw [if_neg (cS_n0 (by omega)), if_neg (show ¬ nI (k + 1) < (3 : Int32) from nI_nlt (b := 3) (by omega) (by omega)), if_pos (show nI (k + 1) < (8 : Int32) from nI_lt (b := 8) (by omega) (by decide)), show nI (k + 1) - 1 = nI k from nI_pred k]
theorem cS_if : cStep rc own sg 8 p = cBi (cPa rc 1 (p + 1)) fun _ q1 c1 => cBi (rc q1) fun t2 q2 c2 => cBi (cPa rc t2 q2) fun _ q3 c3 => .inr (t2, q3, c1 ++ [7, nI (c2.length + 2)] ++ c2 ++ [8, nI c3.length] ++ c3) := by
  unfold cStep; rw [if_neg (by decide), if_neg (by decide), if_neg (by decide), if_pos rfl]
theorem cS_true : cStep rc own sg 9 p = .inr (1, p + 1, [0, 1]) := by
  unfold cStep; rw [if_neg (by decide), if_neg (by decide), if_neg (by decide), if_neg (by decide), if_pos (by decide), if_pos rfl]
theorem cS_false : cStep rc own sg 10 p = .inr (1, p + 1, [0, 0]) := by
  unfold cStep; rw [if_neg (by decide), if_neg (by decide), if_neg (by decide), if_neg (by decide), if_pos (by decide), if_neg (by decide)]
theorem cS_call {h : Nat} (hh : h < 8) : cStep rc own sg (nI (h + 11)) p = if sg h = -1 then .inl (4, nI p) else cBi (cAr rc (sg h) (sPar (sg h)).toNatClampNeg 0 (p + 1)) fun _ q c => .inr (sRes (sg h), q, c ++ [9, nI h]) := by
  unfold cStep
  rw [if_neg (cS_n0 (by omega)), if_neg (show ¬ nI (h + 11) < (3 : Int32) from nI_nlt (b := 3) (by omega) (by omega)), if_neg (show ¬ nI (h + 11) < (8 : Int32) from nI_nlt (b := 8) (by omega) (by omega)), if_neg (show ¬ nI (h + 11) = (8 : Int32) from nI_neq (b := 8) (by omega) (by omega) (by decide)), if_neg (show ¬ nI (h + 11) ≤ (10 : Int32) from nI_ge (a := 10) (by omega) (by omega)), if_pos (show nI (h + 11) < (100 : Int32) from nI_lt (b := 100) (by omega) (by decide)), show nI (h + 11) - 11 = nI h from pk_sub (show 11 ≤ h + 11 by omega), nI_clamp (by omega)]
theorem cS_num {t : Int32} (h : 100 ≤ t) : cStep rc own sg t p = .inr (0, p + 1, [0, t - 100]) := by
  have hge : ∀ n : Nat, n < 100 → ¬ t < nI n ∧ ¬ t = nI n ∧ ¬ t ≤ nI n := by
    intro n hn
    have h1 : nI n < t := by
      rw [Int32.lt_iff_toInt_lt, nI_toInt (by omega)]
      rw [Int32.le_iff_toInt_le] at h
      have : (100 : Int32).toInt = 100 := rfl
      omega
    exact ⟨fun h2 => k2_nlt (Int32.le_of_lt h1) h2, fun h2 => by rw [h2] at h1; exact Int32.lt_irrefl h1, fun h2 => k2_nlt h2 h1⟩
  unfold cStep
  rw [if_neg (by rintro (h1 | ⟨h1, h2⟩); exact (hge 0 (by decide)).1 h1; exact k2_nlt h h2), if_neg (show ¬ t < (3 : Int32) from (hge 3 (by decide)).1), if_neg (show ¬ t < (8 : Int32) from (hge 8 (by decide)).1), if_neg (show ¬ t = (8 : Int32) from (hge 8 (by decide)).2.1), if_neg (show ¬ t ≤ (10 : Int32) from (hge 10 (by decide)).2.2), if_neg (k2_nlt h)]
end CS
section MC
variable {sc : List Int32} {d : Nat} {E0 E : ux_Ev} {g0 : Nat → Int32} {A0 : Nat → List Int32} {dd e f : Nat} {fk fp a mo fi : Int32} {c : List Int32} {R : Nat → List Int32} {x z : Nat} {w : Bool} {K : ux_K1} {v4 v5 v6 : Value}
theorem mc_172 (m : mq E0 g0 A0 dd fk fp c R E) (hf : f < 8) (hk : ¬ fk = 0) (hc : c.length ≤ 78) (hK : ∀ E' w' c', mq E0 g0 A0 dd fk fp c' R E' → K (.inr none) E' x z w') : ux_B uxP sc (d + 2) 92 172 [.ref 210, .int (nI f), .int a, .int mo, v4, v5, v6] [] E x z w K := by
  refine ux_BN 1 rfl ?_
  refine mq_Bfault m rfl rfl ?_
  refine ux_BN 1 rfl ?_
  refine ux_Byes hk ?_
  refine ux_BN 2 rfl ?_
  refine mq_Bv m rfl rfl rfl rfl rfl ?_
  refine mq_emit m 10 (by omega) fun E1 m1 => ?_
  refine ux_BN 3 rfl ?_
  refine mq_Bv m1 rfl rfl rfl rfl rfl ?_
  refine mq_parameters m1 f hf ?_
  refine mq_Bv m1 rfl rfl rfl rfl rfl ?_
  refine mq_emit m1 _ (by simp; omega) fun E3 m3 => ?_
  exact ux_Br rfl (hK _ _ _ m3)
theorem mc_24X (m : mq E0 g0 A0 dd fk fp c R E) (hf : f < 8) (hk : ¬ fk = 0) (hc : c.length ≤ 78) (hK : ∀ E' w' c', mq E0 g0 A0 dd fk fp c' R E' → K (.inr none) E' x z w') : ux_B uxP sc (d + 2) 92 24 [.ref 210, .int (nI f), .int a, .int mo, v4, v5, v6] [] E x z w K := by
  refine ux_BN 2 rfl ?_
  refine ux_Bif (fun h => ?_) (fun h => ?_)
  · exact mc_172 m hf hk hc hK
  · refine ux_BN 1 rfl ?_
    refine mq_Bfault m rfl rfl ?_
    refine ux_BN 1 rfl ?_
    refine ux_Byes hk ?_
    exact mc_172 m hf hk hc hK
theorem mc_77X {ty : Int32} (m : mq E0 g0 A0 dd fk fp c R E) (hf : f < 8) (hk : ¬ fk = 0) (hc : c.length ≤ 78) (hK : ∀ E' w' c', mq E0 g0 A0 dd fk fp c' R E' → K (.inr none) E' x z w') : ux_B uxP sc (d + 2) 92 77 [.ref 210, .int (nI f), .int a, .int mo, v4, .int ty, v6] [] E x z w K := by
  refine ux_BN 3 rfl ?_
  refine ux_Bif (fun h => ?_) (fun h => ?_)
  · refine ux_BN 1 rfl ?_
    exact mc_24X m hf hk hc hK
  · refine ux_BN 2 rfl ?_
    refine ux_Bif (fun h => ?_) (fun h => ?_)
    · refine ux_BN 1 rfl ?_
      exact mc_24X m hf hk hc hK
    · refine ux_BN 1 rfl ?_
      refine mq_Bfault m rfl rfl ?_
      refine ux_BN 1 rfl ?_
      refine ux_Byes hk ?_
      refine ux_BN 1 rfl ?_
      exact mc_24X m hf hk hc hK
theorem mc_open (hB : ux_B uxP sc (d + 2) 92 24 [.ref 210, .int (nI f), .int a, .int mo, v4, .int 2, v6] [] E x z w K) : ux_B uxP sc (d + 2) 92 77 [.ref 210, .int (nI f), .int a, .int mo, v4, .int 2, v6] [] E x z w K := by
  refine ux_BN 3 rfl ?_
  refine ux_Byes rfl ?_
  refine ux_BN 1 rfl ?_
  exact hB
theorem mc_77 {t due : Int32} (m : mq E0 g0 A0 (e + 1) 0 (-1) c R E) (he : e < 32) (hf : f < 8) (ht : ¬ t = 2) (hc : c.length ≤ 78)
    (hw : ∀ K' : ux_K1, K' (.inr (some (.int due))) E x z false → ux_Bm uxP sc (d + 1) 102 [.ref 210, .int (nI f)] E x z K')
    (hok : due = 2 ∨ due = t → ∀ w, ux_B uxP sc (d + 2) 92 161 [.ref 210, .int (nI f), .int a, .int 1, .int ((R 231).getD e 0), .int t, .int due] [.int t, .ref 210] E x z w K)
    (hbad : ¬ (due = 2 ∨ due = t) → ∀ E' w' c', mq E0 g0 A0 (e + 1) 5 fi c' R E' → K (.inr none) E' x z w') : ux_B uxP sc (d + 2) 92 77 [.ref 210, .int (nI f), .int a, .int 1, .int fi, .int t, v6] [] E x z w K := by
  have h121 : (due = 2 ∨ due = t) → ∀ w, ux_B uxP sc (d + 2) 92 121 [.ref 210, .int (nI f), .int a, .int 1, .int fi, .int t, .int due] [] E x z w K := by
    intro hd w
    refine ux_BN 1 rfl ?_
    refine mq_Bdepth m rfl rfl ?_
    refine ux_BN 1 rfl ?_
    refine ux_Bsel 1 2 rfl rfl ?_
    refine ux_Btop 1 (if_neg (nI_nle (by omega) (by omega))) ?_
    refine ux_BN 3 rfl ?_
    refine ux_Bno (by decide) ?_
    refine ux_BN 1 rfl ?_
    refine mq_Bfault m rfl rfl ?_
    refine ux_BN 1 rfl ?_
    refine ux_Bno (by decide) ?_
    refine ux_BN 1 rfl ?_
    refine mq_Bref m rfl rfl (fun _ => rfl) ?_
    refine ux_BN 1 rfl ?_
    refine mq_Bdepth m rfl rfl ?_
    refine ux_BN 2 rfl ?_
    refine mq_ildR m 231 e rfl (by decide) he (nI_pred e) ?_
    refine ux_BN 3 rfl ?_
    exact hok hd _
  refine ux_BN 3 rfl ?_
  refine ux_Bno ht ?_
  refine ux_BN 2 rfl ?_
  refine ux_Bno (by decide) ?_
  refine ux_BN 1 rfl ?_
  refine mq_Bfault m rfl rfl ?_
  refine ux_BN 1 rfl ?_
  refine ux_Bno (by decide) ?_
  refine ux_BN 2 rfl ?_
  refine mq_Bv m rfl rfl rfl rfl rfl ?_
  refine hw _ ?_
  refine ux_BN 4 rfl ?_
  refine ux_Bif (fun h1 => ?_) (fun h1 => ?_)
  · exact h121 (Or.inl h1) _
  · refine ux_BN 3 rfl ?_
    refine ux_Bif (fun h2 => ?_) (fun h2 => ?_)
    · exact h121 (Or.inr h2) _
    · refine ux_BN 3 rfl ?_
      refine mq_Bv m rfl rfl rfl rfl rfl ?_
      refine mq_wrong m 5 fi fun E1 w1 m1 => ?_
      refine ux_BN 1 rfl ?_
      refine mq_Bdepth m1 rfl rfl ?_
      refine ux_BN 1 rfl ?_
      refine ux_Bsel 1 2 rfl rfl ?_
      refine ux_Btop 1 (if_neg (nI_nle (by omega) (by omega))) ?_
      refine ux_BN 3 rfl ?_
      refine ux_Bno (by decide) ?_
      refine ux_BN 1 rfl ?_
      refine mq_Bfault m1 rfl rfl ?_
      refine ux_BN 1 rfl ?_
      refine ux_Byes (by decide) ?_
      refine ux_BN 1 rfl ?_
      exact mc_77X m1 hf (by decide) hc (hbad (fun h3 => h3.elim h1 h2))
end MC
end
section
/-! The reference's compile, its loop by induction. -/
theorem sRes_nI : ∀ j, j < 64 → nI j >>> ((5 : Int32) &&& 31) = sRes (nI j) := by decide +kernel
theorem sPar_nI : ∀ j, j < 64 → sPar (nI j) = nI (j % 4) := by decide +kernel
theorem nI_m1 : ∀ j, j < 64 → ¬ nI j = -1 := by decide +kernel
/-- what compiling reads of the reference's rows -/
def mS (A0 : Nat → List Int32) (f L : Nat) (tk : Nat → Int32) (own : Int32) (sg : Nat → Int32) : Prop :=
  f < 8 ∧ L ≤ 30 ∧ (A0 213).getD f 0 = nI L ∧ (∀ p, p < L → (A0 214).getD (30 * f + p) 0 = tk p) ∧ (A0 212).getD f 0 = own ∧ ∀ h, h < 8 → ((A0 211).getD h 0 = 0 → sg h = -1) ∧ (¬ (A0 211).getD h 0 = 0 → sg h = (A0 212).getD h 0 ∧ ∃ j, j < 64 ∧ sg h = nI j)
def mIH (sc : List Int32) (d : Nat) (E0 : ux_Ev) (g0 : Nat → Int32) (A0 : Nat → List Int32) (f L x z lim : Nat) (rc : Nat → cR) : Prop :=
  ∀ p dd c R E v4 v5 v6 w K, mq E0 g0 A0 dd 0 (-1) c R E → dd ≤ p → lim ≤ p → p ≤ L → cz 0 0 p c.length →
    (∀ t q c', rc p = .inr (t, q, c') → ∀ E' R' v6' w', mq E0 g0 A0 dd 0 (-1) (c ++ c') R' E' → rk R R' dd → ux_B uxP sc (d + 2) 92 77 [.ref 210, .int (nI f), .int (nI q), .int 1, .int (nI p), .int t, v6'] [] E' x z w' K) →
    (∀ k pl, rc p = .inl (k, pl) → ∀ E' w' dd' c' R', mq E0 g0 A0 dd' k pl c' R' E' → K (.inr none) E' x z w') →
    ux_B uxP sc (d + 2) 92 24 [.ref 210, .int (nI f), .int (nI p), .int 1, v4, v5, v6] [] E x z w K
section MX
variable {sc : List Int32} {d : Nat} {E0 E : ux_Ev} {g0 : Nat → Int32} {A0 : Nat → List Int32} {dd e f L lim p : Nat} {c : List Int32} {R : Nat → List Int32} {x z : Nat} {w : Bool} {K : ux_K1} {v4 v5 v6 : Value} {rc : Nat → cR}
theorem cz78 {q len : Nat} (h : cz 1 0 q len) (hq : q ≤ 30) : len ≤ 78 := by
  obtain ⟨_, m, h1, h2⟩ := h
  omega
theorem cz_add {q a b : Nat} (h : cz 0 0 p a) (h2 : cz 1 p q b) : cz 1 0 q (a + b) := by
  obtain ⟨_, m, h1, h3⟩ := h
  obtain ⟨h4, m2, h5, h6⟩ := h2
  exact ⟨by omega, m + m2, by omega, by omega⟩
theorem t01 {t : Int32} (h : t = 0 ∨ t = 1) : ¬ t = 2 := by rcases h with rfl | rfl <;> decide
theorem mc_part {due : Int32} (ih : mIH sc d E0 g0 A0 f L x z lim rc) (hg : cGood L rc) (hf : f < 8) (hL : L ≤ 30) (m : mq E0 g0 A0 (e + 1) 0 (-1) c R E) (he : e + 1 ≤ p) (hlim : lim ≤ p) (hp : p ≤ L) (hz : cz 0 0 p c.length) (hdue : ¬ due = 2)
    (hw : ∀ E' c' R', mq E0 g0 A0 (e + 1) 0 (-1) c' R' E' → fr R' e = fr R e → ∀ K' : ux_K1, K' (.inr (some (.int due))) E' x z false → ux_Bm uxP sc (d + 1) 102 [.ref 210, .int (nI f)] E' x z K')
    (hS : ∀ t q c', cPa rc due p = .inr (t, q, c') → cz 1 p q c'.length → p < q → q ≤ L → ∀ E' R' w', mq E0 g0 A0 (e + 1) 0 (-1) (c ++ c') R' E' → rk R R' (e + 1) → ux_B uxP sc (d + 2) 92 161 [.ref 210, .int (nI f), .int (nI q), .int 1, .int ((R' 231).getD e 0), .int t, .int due] [.int t, .ref 210] E' x z w' K)
    (hF : ∀ k pl, cPa rc due p = .inl (k, pl) → ∀ E' w' dd' c' R', mq E0 g0 A0 dd' k pl c' R' E' → K (.inr none) E' x z w') : ux_B uxP sc (d + 2) 92 24 [.ref 210, .int (nI f), .int (nI p), .int 1, v4, v5, v6] [] E x z w K := by
  refine ih p (e + 1) c R E v4 v5 v6 w K m he hlim hp hz (fun t q c' hr E' R' v6' w' m' hk => ?_) (fun k pl hr => hF k pl (cPa_inl hr))
  obtain ⟨g1, g2, g3, g4⟩ := hg _ _ _ _ hr
  have hz2 := cz_add hz g4
  rw [← List.length_append] at hz2
  refine mc_77 m' (by omega) hf (t01 g3) (cz78 hz2 (by omega)) (hw E' _ R' m' (hk e (by omega))) (fun hd w => ?_) (fun hd => ?_)
  · have ht : t = due := (hd.resolve_left hdue).symm
    exact hS t q c' (cPa_ok hr ht) g4 g1 g2 E' R' w m' hk
  · exact fun E2 w2 c2 m2 => hF 5 (nI p) (cPa_bad hr (fun h => hd (Or.inr h.symm))) E2 w2 _ _ _ m2
theorem mc_any (ih : mIH sc d E0 g0 A0 f L x z lim rc) (hg : cGood L rc) (hf : f < 8) (hL : L ≤ 30) (m : mq E0 g0 A0 (e + 1) 0 (-1) c R E) (he : e + 1 ≤ p) (hlim : lim ≤ p) (hp : p ≤ L) (hz : cz 0 0 p c.length)
    (hw : ∀ E' c' R', mq E0 g0 A0 (e + 1) 0 (-1) c' R' E' → fr R' e = fr R e → ∀ K' : ux_K1, K' (.inr (some (.int 2))) E' x z false → ux_Bm uxP sc (d + 1) 102 [.ref 210, .int (nI f)] E' x z K')
    (hS : ∀ t q c', rc p = .inr (t, q, c') → cz 1 p q c'.length → p < q → q ≤ L → ∀ E' R' w', mq E0 g0 A0 (e + 1) 0 (-1) (c ++ c') R' E' → rk R R' (e + 1) → ux_B uxP sc (d + 2) 92 161 [.ref 210, .int (nI f), .int (nI q), .int 1, .int ((R' 231).getD e 0), .int t, .int 2] [.int t, .ref 210] E' x z w' K)
    (hF : ∀ k pl, rc p = .inl (k, pl) → ∀ E' w' dd' c' R', mq E0 g0 A0 dd' k pl c' R' E' → K (.inr none) E' x z w') : ux_B uxP sc (d + 2) 92 24 [.ref 210, .int (nI f), .int (nI p), .int 1, v4, v5, v6] [] E x z w K := by
  refine ih p (e + 1) c R E v4 v5 v6 w K m he hlim hp hz (fun t q c' hr E' R' v6' w' m' hk => ?_) hF
  obtain ⟨g1, g2, g3, g4⟩ := hg _ _ _ _ hr
  have hz2 := cz_add hz g4
  rw [← List.length_append] at hz2
  refine mc_77 m' (by omega) hf (t01 g3) (cz78 hz2 (by omega)) (hw E' _ R' m' (hk e (by omega))) (fun hd w => ?_) (fun hd => absurd (Or.inl rfl) hd)
  exact hS t q c' hr g4 g1 g2 E' R' w m' hk
theorem begins_fr (hl : ∀ r, 229 ≤ r ∧ r ≤ 233 → (R r).length = 32) (hd : dd < 32) (y q : Int32) : fr (fU (fU (fU R 229 ((R 229).set dd y)) 230 ((R 230).set dd 0)) 231 ((R 231).set dd q)) dd = (y, 0, q, (R 232).getD dd 0, (R 233).getD dd 0) ∧ rk R (fU (fU (fU R 229 ((R 229).set dd y)) 230 ((R 230).set dd 0)) 231 ((R 231).set dd q)) dd := by
  have h9 : dd < (R 229).length := by rw [hl 229 (by decide)]; exact hd
  have h0 : dd < ((fU R 229 ((R 229).set dd y)) 230).length := by
    show dd < (R 230).length
    rw [hl 230 (by decide)]; exact hd
  have h1 : dd < ((fU (fU R 229 ((R 229).set dd y)) 230 ((R 230).set dd 0)) 231).length := by
    show dd < (R 231).length
    rw [hl 231 (by decide)]; exact hd
  have e0 : (R 230).set dd 0 = ((fU R 229 ((R 229).set dd y)) 230).set dd 0 := rfl
  have e1 : (R 231).set dd q = ((fU (fU R 229 ((R 229).set dd y)) 230 ((R 230).set dd 0)) 231).set dd q := rfl
  constructor
  · rw [e1, fr_231 _ dd q h1, e0, fr_230 _ dd 0 h0, fr_229 _ dd y h9]
    rfl
  · rw [e1]
    refine rk.trans ?_ (rk_set _ 231 dd q h1)
    rw [e0]
    exact (rk_set R 229 dd y h9).trans (rk_set _ 230 dd 0 h0)
end MX
end
section
/-! The reference's compile: an expression. -/
theorem ux_Bmm {P : ux_P} {sc : List Int32} {d j : Nat} {as : List Value} {E : ux_Ev} {x z : Nat} {K K2 : ux_K1} (hb : ux_Bm P sc d j as E x z K) (hk : ∀ o E x z w, K o E x z w → K2 o E x z w) : ux_Bm P sc d j as E x z K2 := ux_B.mono hb hk
section ME
variable {sc : List Int32} {d : Nat} {E0 E : ux_Ev} {g0 : Nat → Int32} {A0 : Nat → List Int32} {dd e f L p : Nat} {c : List Int32} {R : Nat → List Int32} {x z : Nat} {w : Bool} {K : ux_K1} {v4 v5 v6 : Value} {tk : Nat → Int32} {own : Int32} {sg : Nat → Int32}
def mK (sc : List Int32) (d f p : Nat) (v6 : Value) (K : ux_K1) (w : Bool) : ux_K1 := fun o E1 x1 z1 w1 => ∃ t, o = .inr (some (.int t)) ∧ ux_B uxP sc (d + 2) 92 77 [.ref 210, .int (nI f), .int (nI (p + 1)), .int 1, .int (nI p), .int t, v6] [] E1 x1 z1 (w || w1) K
theorem mc_24 (hs : mS A0 f L tk own sg) (m : mq E0 g0 A0 dd 0 (-1) c R E) (hp : p < L) (hT : ∀ w, ux_Bm uxP sc (d + 1) 94 [.ref 210, .int (nI f), .int (tk p), .int (nI p)] E x z (mK sc d f p v6 K w)) : ux_B uxP sc (d + 2) 92 24 [.ref 210, .int (nI f), .int (nI p), .int 1, v4, v5, v6] [] E x z w K := by
  obtain ⟨hf, hL, h213, htk, how, hsg⟩ := hs
  refine ux_BN 2 rfl ?_
  refine ux_Bno (by decide) ?_
  refine ux_BN 1 rfl ?_
  refine mq_Bfault m rfl rfl ?_
  refine ux_BN 1 rfl ?_
  refine ux_Bno (by decide) ?_
  refine ux_BN 2 rfl ?_
  refine mq_Bref m rfl rfl (fun _ => rfl) ?_
  refine ux_BN 1 rfl ?_
  refine mq_ildA m 213 f rfl (by decide) hf rfl ?_
  refine ux_BN 1 rfl ?_
  refine ux_Byes (by rw [h213]; exact nI_neq (by omega) (by omega) (by omega)) ?_
  refine ux_BN 5 rfl ?_
  refine mq_Bref m rfl rfl (fun _ => rfl) ?_
  refine ux_BN 5 rfl ?_
  refine mq_ildA m 214 (30 * f + p) rfl (by decide) (show 30 * f + p < 240 by omega) (nI_30 f p) ?_
  rw [htk p hp]
  refine ux_BN 1 rfl ?_
  refine mq_Bv m rfl rfl rfl rfl rfl ?_
  refine ux_Bmm (hT w) ?_
  rintro o E1 x1 z1 w1 ⟨t, rfl, h⟩
  refine ux_BN 2 rfl ?_
  rw [← show nI p + Int32.ofInt 1 = nI (p + 1) from nI_1 p] at h
  exact h
theorem mc_over (hs : mS A0 f L tk own sg) (m : mq E0 g0 A0 dd 0 (-1) c R E) (hp : p = L) (hK : ∀ E' w', mq E0 g0 A0 dd 2 (nI p) c R E' → K (.inr none) E' x z w') : ux_B uxP sc (d + 2) 92 24 [.ref 210, .int (nI f), .int (nI p), .int 1, v4, v5, v6] [] E x z w K := by
  obtain ⟨hf, hL, h213, htk, how, hsg⟩ := hs
  refine ux_BN 2 rfl ?_
  refine ux_Bno (by decide) ?_
  refine ux_BN 1 rfl ?_
  refine mq_Bfault m rfl rfl ?_
  refine ux_BN 1 rfl ?_
  refine ux_Bno (by decide) ?_
  refine ux_BN 2 rfl ?_
  refine mq_Bref m rfl rfl (fun _ => rfl) ?_
  refine ux_BN 1 rfl ?_
  refine mq_ildA m 213 f rfl (by decide) hf rfl ?_
  refine ux_BN 1 rfl ?_
  refine ux_Bno (by rw [h213, hp]; exact not_not_intro rfl) ?_
  refine ux_BN 3 rfl ?_
  refine mq_Bv m rfl rfl rfl rfl rfl ?_
  refine mq_wrong m 2 (nI p) fun E2 w2 m2 => ?_
  exact ux_Br rfl (hK _ _ m2)
/-- a call's arguments -/
theorem mc_args {lim : Nat} {rc : Nat → cR} (ih : mIH sc d E0 g0 A0 f L x z lim rc) (hg : cGood L rc) (hs : mS A0 f L tk own sg) (h : Nat) (hh : h < 8) (h0 : ¬ (A0 211).getD h 0 = 0) (p0 : Nat) :
    ∀ n k p c R E v4 v5 v6 w, k + n + 1 = (sPar (sg h)).toNatClampNeg → mq E0 g0 A0 (e + 1) 0 (-1) c R E → (∃ s2 hl, fr R e = (nI (h + 11), nI k, nI p0, s2, hl)) → e + 1 ≤ p → lim ≤ p → p ≤ L → cz 0 0 p (c.length + 2) →
    (∀ q c', cAr rc (sg h) (n + 1) k p = .inr (0, q, c') → ∀ E' R' v6' w', mq E0 g0 A0 e 0 (-1) (c ++ c' ++ [9, nI h]) R' E' → rk R R' e → ux_B uxP sc (d + 2) 92 77 [.ref 210, .int (nI f), .int (nI q), .int 1, .int (nI p0), .int (sRes (sg h)), v6'] [] E' x z w' K) →
    (∀ k2 pl, cAr rc (sg h) (n + 1) k p = .inl (k2, pl) → ∀ E' w' dd' c' R', mq E0 g0 A0 dd' k2 pl c' R' E' → K (.inr none) E' x z w') →
    ux_B uxP sc (d + 2) 92 24 [.ref 210, .int (nI f), .int (nI p), .int 1, v4, v5, v6] [] E x z w K := by
  have hs' := hs
  obtain ⟨hf, hL, h213, htk, how, hsg⟩ := hs
  obtain ⟨hsg1, j, hj, hsg2⟩ := (hsg h hh).2 h0
  have hN : (sPar (sg h)).toNatClampNeg = j % 4 := by rw [hsg2, sPar_nI j hj, nI_clamp (by omega)]
  have hP : (A0 212).getD h 0 &&& 3 = nI (j % 4) := by rw [← hsg1, hsg2]; exact sPar_nI j hj
  intro n
  induction n with
  | zero =>
    intro k p c R E v4 v5 v6 w hk m hfr he hlim hp hz hS hF
    obtain ⟨s2, hl, hfr⟩ := hfr
    have hz0 : cz 0 0 p c.length := by obtain ⟨a1, a2, a3, a4⟩ := hz; exact ⟨a1, a2, by omega, a4⟩
    refine mc_part (due := sTyp (sg h) (nI k)) ih hg hf hL m he hlim hp hz0 (t01 (bit01 _)) (fun E' c' R' m' hf' K' hK' => ?_) (fun t q c' hr g4 g1 g2 E' R' w' m' hk' => ?_) (fun k2 pl hr => ?_)
    · refine mw_call m' (by omega) f h k hh (hf'.trans hfr) ?_
      rw [← hsg1]; exact hK'
    · have hfr' := (hk' e (by omega)).trans hfr
      have hz2 := cz_add hz g4
      have hz3 : c.length + 2 + c'.length ≤ 78 := cz78 hz2 (by omega)
      rw [fr_f hfr']
      refine mq_Bv m' rfl rfl rfl rfl rfl ?_
      refine mp_call2 m' (by omega) t h k hh (by rw [hP]; exact nI_le (by omega) (by omega)) (by rw [List.length_append]; omega) hfr' fun E2 w2 R2 m2 hk2 => ?_
      refine ux_BN 2 rfl ?_
      have := fun w => hS q c' (by
        show cBi (cPa rc (sTyp (sg h) (nI k)) p) _ = _
        rw [cBi_of hr]
        show cBi (Sum.inr (0, q, [])) _ = _
        rw [cBi_of rfl, List.append_nil]) E2 R2 (.int (sTyp (sg h) (nI k))) w m2 ((hk'.mono (by omega)).trans hk2)
      rw [← hsg1, show sg h >>> ((5 : Int32) &&& 31) = sRes (sg h) from by rw [hsg2]; exact sRes_nI j hj]
      exact this _
    · exact hF k2 pl (by show cBi (cPa rc (sTyp (sg h) (nI k)) p) _ = _; rw [cBi_inl hr])
  | succ n ihn =>
    intro k p c R E v4 v5 v6 w hk m hfr he hlim hp hz hS hF
    obtain ⟨s2, hl, hfr⟩ := hfr
    have hz0 : cz 0 0 p c.length := by obtain ⟨a1, a2, a3, a4⟩ := hz; exact ⟨a1, a2, by omega, a4⟩
    refine mc_part (due := sTyp (sg h) (nI k)) ih hg hf hL m he hlim hp hz0 (t01 (bit01 _)) (fun E' c' R' m' hf' K' hK' => ?_) (fun t q c' hr g4 g1 g2 E' R' w' m' hk' => ?_) (fun k2 pl hr => ?_)
    · refine mw_call m' (by omega) f h k hh (hf'.trans hfr) ?_
      rw [← hsg1]; exact hK'
    · have hfr' := (hk' e (by omega)).trans hfr
      have hz2 := cz_add hz g4
      rw [fr_f hfr']
      refine mq_Bv m' rfl rfl rfl rfl rfl ?_
      refine mp_call1 m' (by omega) t h k hh (by rw [hP]; exact nI_ge (by omega) (by omega)) hfr' fun E2 w2 R2 m2 hk2 hfr2 => ?_
      refine ux_BN 2 rfl ?_
      refine mc_open ?_
      have hc1 : ∀ r, cAr rc (sg h) (n + 1) (k + 1) q = r → cAr rc (sg h) (n + 1 + 1) k p = cBi r fun _ q2 c2 => .inr (0, q2, c' ++ c2) := by
        intro r hr2
        show cBi (cPa rc (sTyp (sg h) (nI k)) p) _ = _
        rw [cBi_of hr, ← hr2]
      refine ihn (k + 1) q (c ++ c') R2 E2 _ _ _ _ (by omega) m2 ⟨_, _, hfr2⟩ (by omega) (by omega) g2 ?_ (fun q3 c3 hr3 E3 R3 v3 w3 m3 hk3 => ?_) (fun k2 pl hr3 => ?_)
      · obtain ⟨a1, a2, a3, a4⟩ := hz2
        exact ⟨a1, a2, by rw [List.length_append]; omega, by omega⟩
      · exact hS q3 (c' ++ c3) (by rw [hc1 _ hr3]; rfl) E3 R3 v3 w3 (by rw [← List.append_assoc]; exact m3) (((hk'.mono (by omega)).trans hk2).trans hk3)
      · exact hF k2 pl (by rw [hc1 _ hr3]; rfl)
    · exact hF k2 pl (by show cBi (cPa rc (sTyp (sg h) (nI k)) p) _ = _; rw [cBi_inl hr])
end ME
end
section
/-! The reference's compile: every expression, then the whole text. -/
theorem set_op (a c : List Int32) (o y v : Int32) (n : Nat) (hn : n = a.length + 1) : (a ++ [o, y] ++ c).set n v = a ++ [o, v] ++ c := by
  subst hn
  rw [List.append_assoc a [o, y] c, List.set_append_right _ _ (by omega), show a.length + 1 - a.length = 1 by omega]
  simp
section MF
variable {sc : List Int32} {d : Nat} {E0 E : ux_Ev} {g0 : Nat → Int32} {A0 : Nat → List Int32} {f L : Nat} {x z : Nat} {K : ux_K1} {tk : Nat → Int32} {own : Int32} {sg : Nat → Int32}
theorem cz_tok {p n : Nat} (h : cz 0 0 p n) : cz 0 0 (p + 1) (n + 2) ∧ cz 0 0 (p + 1) n ∧ (p + 1 ≤ 30 → n + 2 ≤ 78) := by
  obtain ⟨_, m, h1, h2⟩ := h
  exact ⟨⟨by omega, m, by omega, by omega⟩, ⟨by omega, m, by omega, by omega⟩, fun h3 => by omega⟩
theorem mc_ex (hs : mS A0 f L tk own sg) : ∀ n, mIH sc d E0 g0 A0 f L x z (31 - n) (cx tk L own sg n) := by
  have hs' := hs
  obtain ⟨hf, hL, h213, htk, how, hsg⟩ := hs
  intro n
  induction n with
  | zero => intro p dd c R E v4 v5 v6 w K m hd hlim hp; omega
  | succ n ih =>
    have hg := cx_good tk L own sg n
    intro p dd c R E v4 v5 v6 w K m hd hlim hp hz hS hF
    by_cases hpL : p = L
    · exact mc_over hs' m hpL fun E' w' m' => hF 2 (nI p) (by show (if L ≤ p then _ else _) = _; rw [if_pos (by omega)]) E' w' _ _ _ m'
    have hcx : cx tk L own sg (n + 1) p = cStep (cx tk L own sg n) own sg (tk p) p := by
      show (if L ≤ p then _ else _) = _
      rw [if_neg (by omega)]
    rw [hcx] at hS hF
    obtain ⟨hz1, hz2, hz3⟩ := cz_tok hz
    have hc78 := hz3 (by omega)
    have hlR := m.lenR
    refine mc_24 hs' m (by omega) fun w => ?_
    rcases pk_ix (tk p) (n := 100) (by decide) with ht | ht | ⟨k, hk, ht⟩
    · refine mt_none1 m f (nI p) (tk p) ht fun E' w' m' => ⟨2, rfl, ?_⟩
      refine mc_77X m' hf (by decide) (by omega) fun E2 w2 c2 m2 => hF 1 (nI p) (cS_none1 ht) _ _ _ _ _ m2
    · refine mt_num m f (nI p) (tk p) ht (by omega) fun E' w' m' => ⟨0, rfl, ?_⟩
      exact hS 0 (p + 1) [0, tk p - 100] (cS_num ht) E' R _ _ m' (rk.refl _ _)
    rw [ht] at hS hF ⊢
    by_cases h3 : k < 3
    · have hP : (A0 212).getD f 0 &&& 3 = sPar own := by rw [how]; rfl
      by_cases hpar : nI k < (A0 212).getD f 0 &&& 3
      · refine mt_par m f (nI p) hf k h3 hpar (by omega) fun E' w' m' => ⟨_, rfl, ?_⟩
        rw [how]
        exact hS (sTyp own (nI k)) (p + 1) [1, nI k] (by rw [cS_par h3, if_neg (by rw [← hP]; exact k2_nle hpar)]) E' R _ _ m' (rk.refl _ _)
      · refine mt_parX m f (nI p) hf k h3 hpar (by omega) fun E' w' m' => ⟨0, rfl, ?_⟩
        exact mc_77X m' hf (by decide) (by simp; omega) fun E2 w2 c2 m2 => hF 3 (nI p) (by rw [cS_par h3, if_pos (by rw [← hP]; exact k2_le hpar)]) _ _ _ _ _ m2
    by_cases h8 : k < 8
    · -- a sign
      obtain ⟨k, rfl⟩ : ∃ j, k = j + 1 := ⟨k - 1, by omega⟩
      have hk6 : 2 ≤ k ∧ k ≤ 6 := by omega
      rw [cS_sign hk6] at hS hF
      refine mt_sign m f (nI p) (k + 1) (by omega) (by omega) fun E1 w1 m1 => ⟨2, rfl, ?_⟩
      obtain ⟨hfr1, hk1⟩ := begins_fr hlR (show dd < 32 by omega) (nI (k + 1)) (nI p)
      refine mc_open ?_
      refine mc_part (due := 0) ih hg hf hL m1 (by omega) (by omega) (by omega) hz2 (by decide) (fun E' c' R' m' hf' K' hK' => mw_sign m' (by omega) f (k + 1) (by omega) (hf'.trans hfr1) hK') (fun t q1 c1 hr1 g4 g1 g2 E2 R2 w2 m2 hk2 => ?_) (fun k2 pl hr => hF k2 pl (by rw [cBi_inl hr]))
      have hfr2 := (hk2 dd (by omega)).trans hfr1
      rw [fr_f hfr2]
      refine mq_Bv m2 rfl rfl rfl rfl rfl ?_
      refine mp_sign1 m2 (by omega) t (k + 1) (by omega) hfr2 fun E3 w3 R3 m3 hk3 hfr3 => ?_
      refine ux_BN 2 rfl ?_
      refine mc_open ?_
      have hza := cz_add hz1 g4
      have hzb : cz 0 0 q1 ((c ++ c1).length + 2) := by
        obtain ⟨a1, a2, a3, a4⟩ := hza
        exact ⟨a1, a2, by rw [List.length_append]; omega, by omega⟩
      have hzc : cz 0 0 q1 (c ++ c1).length := by
        obtain ⟨a1, a2, a3, a4⟩ := hzb
        exact ⟨a1, a2, by omega, a4⟩
      refine mc_part (due := 0) ih hg hf hL m3 (by omega) (by omega) (by omega) hzc (by decide) (fun E' c' R' m' hf' K' hK' => mw_sign m' (by omega) f (k + 1) (by omega) (hf'.trans hfr3) hK') (fun t q2 c2 hr2 g4 g1' g2' E4 R4 w4 m4 hk4 => ?_) (fun k2 pl hr => hF k2 pl (by rw [cBi_of hr1, cBi_inl hr]))
      have hfr4 := (hk4 dd (by omega)).trans hfr3
      rw [fr_f hfr4]
      have hzd := cz78 (cz_add hzb g4) (by omega)
      refine mq_Bv m4 rfl rfl rfl rfl rfl ?_
      refine mp_sign2 m4 (by omega) t k hk6 (by rw [List.length_append]; omega) hfr4 fun E5 w5 R5 m5 hk5 => ?_
      refine ux_BN 2 rfl ?_
      exact hS _ q2 (c1 ++ c2 ++ [nI k]) (by rw [cBi_of hr1, cBi_of hr2]) E5 R5 _ _ (by simpa [List.append_assoc] using m5) ((((hk1.trans (hk2.mono (by omega))).trans hk3).trans (hk4.mono (by omega))).trans hk5)
    by_cases h88 : k = 8
    · -- a choice
      subst h88
      rw [show nI 8 = 8 from rfl, cS_if] at hS hF
      refine mt_if m f (nI p) (by omega) fun E1 w1 m1 => ⟨2, rfl, ?_⟩
      obtain ⟨hfr1, hk1⟩ := begins_fr hlR (show dd < 32 by omega) 8 (nI p)
      refine mc_open ?_
      refine mc_part (due := 1) ih hg hf hL m1 (by omega) (by omega) (by omega) hz2 (by decide) (fun E' c' R' m' hf' K' hK' => mw_if0 m' (by omega) f (hf'.trans hfr1) hK') (fun t q1 c1 hr1 g4 g1 g2 E2 R2 w2 m2 hk2 => ?_) (fun k2 pl hr => hF k2 pl (by rw [cBi_inl hr]))
      have hfr2 := (hk2 dd (by omega)).trans hfr1
      rw [fr_f hfr2]
      have hza := cz_add hz1 g4
      have hzb : cz 1 0 q1 (c ++ c1 ++ [7, 0]).length := by
        obtain ⟨a1, a2, a3, a4⟩ := hza
        exact ⟨a1, a2, by simp only [List.length_append, List.length_cons, List.length_nil]; omega, by omega⟩
      have hzb0 : cz 0 0 q1 (c ++ c1 ++ [7, 0]).length := by
        obtain ⟨a1, a2, a3, a4⟩ := hzb
        exact ⟨a1, a2, by omega, by omega⟩
      have hzb8 := cz78 hzb (by omega)
      refine mq_Bv m2 rfl rfl rfl rfl rfl ?_
      refine mp_if1 m2 (by omega) t (by simp only [List.length_append, List.length_cons, List.length_nil] at hzb8 ⊢; omega) hfr2 fun E3 w3 R3 m3 hk3 hfr3 => ?_
      refine ux_BN 2 rfl ?_
      refine mc_open ?_
      refine mc_any ih hg hf hL m3 (by omega) (by omega) (by omega) hzb0 (fun E' c' R' m' hf' K' hK' => mw_if1 m' (by omega) f (hf'.trans hfr3) hK') (fun t2 q2 c2 hr2 g4' g1' g2' E4 R4 w4 m4 hk4 => ?_) (fun k2 pl hr => hF k2 pl (by rw [cBi_of hr1, cBi_inl hr]))
      have hfr4 := (hk4 dd (by omega)).trans hfr3
      rw [fr_f hfr4]
      have hzc : cz 0 0 q2 ((c ++ c1 ++ [7, 0] ++ c2).length + 2) := by
        obtain ⟨a1, a2, a3, a4⟩ := hza
        obtain ⟨b1, b2, b3, b4⟩ := g4'
        obtain ⟨e1, e2, e3, e4⟩ := hz
        obtain ⟨i1, i2, i3, i4⟩ := g4
        refine ⟨by omega, e2 + i2 + b2 + 1, ?_, by omega⟩
        simp only [List.length_append, List.length_cons, List.length_nil]
        omega
      refine mq_Bv m4 rfl rfl rfl rfl rfl ?_
      refine mp_if2 m4 (by omega) t2 ((c ++ c1).length + 1) (by simp; omega) ?_ hfr4 fun E5 w5 R5 m5 hk5 hfr5 => ?_
      · obtain ⟨a1, a2, a3, a4⟩ := hzc
        omega
      refine ux_BN 2 rfl ?_
      refine mc_open ?_
      have hset : (c ++ c1 ++ [7, 0] ++ c2).set ((c ++ c1).length + 1) (nI ((c ++ c1 ++ [7, 0] ++ c2).length + 1 - ((c ++ c1).length + 1))) ++ [8, 0] = c ++ c1 ++ [7, nI (c2.length + 2)] ++ c2 ++ [8, 0] := by
        have e1 : (c ++ c1 ++ [7, 0] ++ c2).length + 1 - ((c ++ c1).length + 1) = c2.length + 2 := by simp only [List.length_append, List.length_cons, List.length_nil]; omega
        rw [e1, set_op (c ++ c1) c2 7 0 _ _ rfl]
      have m5' := mp_cast m5 hset
      have hzd : cz 0 0 q2 (c ++ c1 ++ [7, nI (c2.length + 2)] ++ c2 ++ [8, 0]).length := by
        obtain ⟨a1, a2, a3, a4⟩ := hzc
        refine ⟨a1, a2, ?_, a4⟩
        simp only [List.length_append, List.length_cons, List.length_nil] at a3 ⊢
        omega
      have ht2 : t2 = 0 ∨ t2 = 1 := (hg _ _ _ _ hr2).2.2.1
      refine mc_part (due := t2) ih hg hf hL m5' (by omega) (by omega) (by omega) hzd (t01 ht2) (fun E' c' R' m' hf' K' hK' => mw_if2 m' (by omega) f (hf'.trans hfr5) hK') (fun t3 q3 c3 hr3 g4'' g1'' g2'' E6 R6 w6 m6 hk6 => ?_) (fun k2 pl hr => hF k2 pl (by rw [cBi_of hr1, cBi_of hr2, cBi_inl hr]))
      have hfr6 := (hk6 dd (by omega)).trans hfr5
      rw [fr_f hfr6]
      have hze := cz78 (cz_add hzd g4'') (by omega)
      refine mq_Bv m6 rfl rfl rfl rfl rfl ?_
      refine mp_if3 m6 (by omega) t3 ((c ++ c1 ++ [7, 0] ++ c2).length + 1) (by simp; omega) (by rw [List.length_append]; omega) hfr6 fun E7 w7 R7 m7 hk7 => ?_
      refine ux_BN 2 rfl ?_
      refine hS t2 q3 (c1 ++ [7, nI (c2.length + 2)] ++ c2 ++ [8, nI c3.length] ++ c3) (by rw [cBi_of hr1, cBi_of hr2, cBi_of hr3]) E7 R7 _ _ (mp_cast m7 ?_) ((((((hk1.trans (hk2.mono (by omega))).trans hk3).trans (hk4.mono (by omega))).trans hk5).trans (hk6.mono (by omega))).trans hk7)
      have e1 : (c ++ c1 ++ [7, nI (c2.length + 2)] ++ c2 ++ [8, 0] ++ c3).length - ((c ++ c1 ++ [7, 0] ++ c2).length + 1) - 1 = c3.length := by simp only [List.length_append, List.length_cons, List.length_nil]; omega
      rw [e1, set_op (c ++ c1 ++ [7, nI (c2.length + 2)] ++ c2) c3 8 0 _ _ (by simp only [List.length_append, List.length_cons, List.length_nil])]
      simp only [List.append_assoc]
    by_cases h9 : k = 9
    · subst h9
      rw [show nI 9 = 9 from rfl, cS_true] at hS
      refine mt_true m f (nI p) (by omega) fun E' w' m' => ⟨1, rfl, ?_⟩
      exact hS 1 (p + 1) [0, 1] rfl E' R _ _ m' (rk.refl _ _)
    by_cases h10 : k = 10
    · subst h10
      rw [show nI 10 = 10 from rfl, cS_false] at hS
      refine mt_false m f (nI p) (by omega) fun E' w' m' => ⟨1, rfl, ?_⟩
      exact hS 1 (p + 1) [0, 0] rfl E' R _ _ m' (rk.refl _ _)
    by_cases h19 : k < 19
    · -- a call
      obtain ⟨h, rfl⟩ : ∃ h, k = h + 11 := ⟨k - 11, by omega⟩
      have hh : h < 8 := by omega
      rw [cS_call hh] at hS hF
      by_cases h0 : (A0 211).getD h 0 = 0
      · have hsgh := (hsg h hh).1 h0
        refine mt_callX m f (nI p) h hh h0 fun E' w' m' => ⟨2, rfl, ?_⟩
        exact mc_77X m' hf (by decide) (by omega) fun E2 w2 c2 m2 => hF 4 (nI p) (by rw [if_pos hsgh]) _ _ _ _ _ m2
      · obtain ⟨hsg1, j, hj, hsg2⟩ := (hsg h hh).2 h0
        have hne : ¬ sg h = -1 := by rw [hsg2]; exact nI_m1 j hj
        have hN : (sPar (sg h)).toNatClampNeg = j % 4 := by rw [hsg2, sPar_nI j hj, nI_clamp (by omega)]
        have hP : (A0 212).getD h 0 &&& 3 = nI (j % 4) := by rw [← hsg1, hsg2]; exact sPar_nI j hj
        rw [if_neg hne, hN] at hS hF
        by_cases hj0 : j % 4 = 0
        · refine mt_call0 m f (nI p) h hh h0 (by rw [hP, hj0]; decide) (by omega) fun E' w' m' => ⟨_, rfl, ?_⟩
          rw [hj0] at hS
          rw [← hsg1, show sg h >>> ((5 : Int32) &&& 31) = sRes (sg h) from by rw [hsg2]; exact sRes_nI j hj]
          exact hS (sRes (sg h)) (p + 1) [9, nI h] rfl E' R _ _ m' (rk.refl _ _)
        · refine mt_call m f (nI p) h hh h0 (by rw [hP]; exact nI_nle (by omega) (by omega)) (by omega) fun E1 w1 m1 => ⟨2, rfl, ?_⟩
          obtain ⟨hfr1, hk1⟩ := begins_fr hlR (show dd < 32 by omega) (nI (h + 11)) (nI p)
          refine mc_open ?_
          obtain ⟨nn, hnn⟩ : ∃ nn, j % 4 = nn + 1 := ⟨j % 4 - 1, by omega⟩
          rw [hnn] at hS hF
          refine mc_args ih hg hs' h hh h0 p nn 0 (p + 1) c _ E1 _ _ _ _ (by rw [hN]; omega) m1 ⟨_, _, hfr1⟩ (by omega) (by omega) (by omega) hz1 (fun q c' hr E2 R2 v2 w2 m2 hk2 => ?_) (fun k2 pl hr => hF k2 pl (by rw [cBi_inl hr]))
          exact hS (sRes (sg h)) q (c' ++ [9, nI h]) (by rw [cBi_of hr]) E2 R2 v2 w2 (by rw [← List.append_assoc]; exact m2) (hk1.trans hk2)
    · refine mt_none2 m f (nI p) k (by omega) fun E' w' m' => ⟨2, rfl, ?_⟩
      exact mc_77X m' hf (by decide) (by omega) fun E2 w2 c2 m2 => hF 1 (nI p) (cS_none2 (by omega)) _ _ _ _ _ m2
end MF
end
section
/-! The reference's compile of a whole text. -/
def cAll (tk : Nat → Int32) (L : Nat) (own : Int32) (sg : Nat → Int32) : cR := cBi (cPa (cx tk L own sg 31) (sRes own) 0) fun t q c => if q < L then .inl (6, nI q) else .inr (t, q, c ++ [10, sPar own])
theorem cAll_len {tk : Nat → Int32} {L : Nat} {own : Int32} {sg : Nat → Int32} {t : Int32} {q : Nat} {c : List Int32} (h : cAll tk L own sg = .inr (t, q, c)) (hL : L ≤ 30) : c.length ≤ 80 ∧ 3 ≤ c.length + 1 := by
  obtain ⟨t1, q1, c1, h1, h2⟩ := cBi_inr h
  obtain ⟨a1, a2, a3, a4⟩ := cx_good tk L own sg 31 _ _ _ _ (cPa_inr h1).1
  split at h2
  · cases h2
  · cases h2
    have := cz78 a4 (by omega)
    rw [List.length_append]
    exact ⟨by simp; omega, by simp⟩
section MG
variable {sc : List Int32} {d : Nat} {E0 E : ux_Ev} {g0 : Nat → Int32} {A0 : Nat → List Int32} {f L : Nat} {x z : Nat} {w : Bool} {K : ux_K1} {tk : Nat → Int32} {own : Int32} {sg : Nat → Int32} {c : List Int32} {R : Nat → List Int32} {v6 : Value}
theorem mc_77e {t fi a : Int32} (m : mq E0 g0 A0 0 0 (-1) c R E) (hf : f < 8) (ht : ¬ t = 2) (hc : c.length ≤ 78) (due : Int32) (hdue : (A0 212).getD f 0 >>> ((5 : Int32) &&& 31) = due) (hd2 : ¬ due = 2)
    (hok : due = t → ∀ w, ux_B uxP sc (d + 2) 92 172 [.ref 210, .int (nI f), .int a, .int 0, .int fi, .int t, .int due] [] E x z w K)
    (hbad : ¬ due = t → ∀ E' w' c', mq E0 g0 A0 0 5 fi c' R E' → K (.inr none) E' x z w') : ux_B uxP sc (d + 2) 92 77 [.ref 210, .int (nI f), .int a, .int 1, .int fi, .int t, v6] [] E x z w K := by
  refine ux_BN 3 rfl ?_
  refine ux_Bno ht ?_
  refine ux_BN 2 rfl ?_
  refine ux_Bno (by decide) ?_
  refine ux_BN 1 rfl ?_
  refine mq_Bfault m rfl rfl ?_
  refine ux_BN 1 rfl ?_
  refine ux_Bno (by decide) ?_
  refine ux_BN 2 rfl ?_
  refine mq_Bv m rfl rfl rfl rfl rfl ?_
  refine mw_0 m f hf ?_
  rw [hdue]
  refine ux_BN 4 rfl ?_
  refine ux_Bno hd2 ?_
  refine ux_BN 3 rfl ?_
  refine ux_Bif (fun h2 => ?_) (fun h2 => ?_)
  · refine ux_BN 1 rfl ?_
    refine mq_Bdepth m rfl rfl ?_
    refine ux_BN 1 rfl ?_
    refine ux_Bsel 1 2 rfl rfl ?_
    refine ux_Btop 0 rfl ?_
    refine ux_BN 3 rfl ?_
    refine ux_Byes rfl ?_
    refine ux_BN 4 rfl ?_
    refine ux_Bno ht ?_
    refine ux_BN 2 rfl ?_
    refine ux_Byes rfl ?_
    refine ux_BN 3 rfl ?_
    refine ux_Byes rfl ?_
    exact hok h2 _
  · refine ux_BN 3 rfl ?_
    refine mq_Bv m rfl rfl rfl rfl rfl ?_
    refine mq_wrong m 5 fi fun E1 w1 m1 => ?_
    refine ux_BN 1 rfl ?_
    refine mq_Bdepth m1 rfl rfl ?_
    refine ux_BN 1 rfl ?_
    refine ux_Bsel 1 2 rfl rfl ?_
    refine ux_Btop 0 rfl ?_
    refine ux_BN 3 rfl ?_
    refine ux_Byes rfl ?_
    refine ux_BN 1 rfl ?_
    exact mc_77X m1 hf (by decide) hc (hbad h2)
theorem mo_compile {g : Nat → Int32} (hm : md E0 g A0 E) (hs : mS A0 f L tk own sg) (hown : ∃ j, j < 64 ∧ own = nI j)
    (hS : ∀ t q c, cAll tk L own sg = .inr (t, q, c) → ∀ E' w' dd R', mq E0 g A0 dd 0 (-1) c R' E' → K (.inr none) E' x z w')
    (hF : ∀ k pl, cAll tk L own sg = .inl (k, pl) → ∀ E' w' dd c R', mq E0 g A0 dd k pl c R' E' → K (.inr none) E' x z w') : ux_Bm uxP sc (d + 2) 92 [.ref 210, .int (nI f)] E x z K := by
  have hs' := hs
  obtain ⟨hf, hL, h213, htk, how, hsg⟩ := hs
  obtain ⟨j, hj, hown⟩ := hown
  show ux_B uxP sc (d + 2) 92 0 [.ref 210, .int (nI f), .null, .null, .null, .null, .null] [] E x z false K
  refine ux_BN 2 rfl ?_
  refine mr_put hm rfl rfl rfl (by decide) rfl fun E1 m1 => ?_
  refine ux_BN 2 rfl ?_
  refine mr_put m1 rfl rfl rfl (by decide) rfl fun E2 m2 => ?_
  refine ux_BN 2 rfl ?_
  refine mr_put m2 rfl rfl rfl (by decide) rfl fun E3 m3 => ?_
  refine ux_BN 2 rfl ?_
  refine mr_put m3 rfl rfl rfl (by decide) rfl fun E4 m4 => ?_
  refine ux_BN 4 rfl ?_
  have m5 : mq E0 g A0 0 0 (-1) [] A0 E4 := by
    refine ⟨_, A0, m4, fun j a b e f => ?_, fun _ _ => rfl, rfl, rfl, rfl, rfl, ⟨A0 234, rfl⟩, fun _ _ _ => rfl⟩
    rw [fU_ne _ _ b, fU_ne _ _ a, fU_ne _ _ f, fU_ne _ _ e]
  have hg := cx_good tk L own sg 31
  refine mc_ex hs' 31 0 0 [] A0 E4 _ _ _ _ _ m5 (Nat.le_refl _) (Nat.le_refl _) (Nat.zero_le _) ⟨Nat.le_refl _, 0, Nat.zero_le _, Nat.le_refl _⟩ (fun t q c hr E' R' v6 w' m' hk => ?_) (fun k pl hr E' w' dd' c' R' m' => ?_)
  · obtain ⟨g1, g2, g3, g4⟩ := hg _ _ _ _ hr
    have hc := cz78 g4 (by omega)
    rw [List.nil_append] at m'
    refine mc_77e m' hf (t01 g3) hc (sRes own) (by rw [how, hown]; exact sRes_nI j hj) (t01 (bit01 _)) (fun hd w => ?_) (fun hd E2 w2 c2 m2 => ?_)
    · have hpa := cPa_ok hr hd.symm
      refine ux_BN 1 rfl ?_
      refine mq_Bfault m' rfl rfl ?_
      refine ux_BN 1 rfl ?_
      refine ux_Bno (by decide) ?_
      refine ux_BN 2 rfl ?_
      refine mq_Bref m' rfl rfl (fun _ => rfl) ?_
      refine ux_BN 1 rfl ?_
      refine mq_ildA m' 213 f rfl (by decide) hf rfl ?_
      rw [h213]
      refine ux_BN 1 rfl ?_
      have hend : ∀ fk fp w E5, mq E0 g A0 0 fk fp c R' E5 → (∀ E6 w6, mq E0 g A0 0 fk fp (c ++ [10, sPar own]) R' E6 → K (.inr none) E6 x z w6) → ux_B uxP sc (d + 2) 92 196 [.ref 210, .int (nI f), .int (nI q), .int 0, .int (nI 0), .int t, .int (sRes own)] [] E5 x z w K := by
        intro fk fp w E5 m5 hK
        refine ux_BN 2 rfl ?_
        refine mq_Bv m5 rfl rfl rfl rfl rfl ?_
        refine mq_emit m5 10 (by omega) fun E6 m6 => ?_
        refine ux_BN 3 rfl ?_
        refine mq_Bv m6 rfl rfl rfl rfl rfl ?_
        refine mq_parameters m6 f hf ?_
        refine mq_Bv m6 rfl rfl rfl rfl rfl ?_
        refine mq_emit m6 ((A0 212).getD f 0 &&& 3) (by simp; omega) fun E7 m7 => ?_
        refine ux_Br rfl (hK _ _ (mp_cast m7 ?_))
        rw [how]; simp; rfl
      refine ux_BleN L q rfl rfl (by omega) (by omega) (fun h => ?_) (fun h => ?_)
      · exact hend 0 (-1) _ _ m' fun E6 w6 m6 => hS t q _ (by unfold cAll; rw [cBi_of hpa, if_neg (by omega)]) _ _ _ _ m6
      · refine ux_BN 3 rfl ?_
        refine mq_Bv m' rfl rfl rfl rfl rfl ?_
        refine mq_wrong m' 6 (nI q) fun E5 w5 m5 => ?_
        exact hend 6 (nI q) _ _ m5 fun E6 w6 m6 => hF 6 (nI q) (by unfold cAll; rw [cBi_of hpa, if_pos h]) _ _ _ _ _ m6
    · exact hF 5 (nI 0) (by unfold cAll; rw [cBi_inl (cPa_bad hr (fun h => hd h.symm))]) _ _ _ _ _ m2
  · exact hF k pl (by unfold cAll; rw [cBi_inl (cPa_inl hr)]) _ _ _ _ _ m'
end MG
end
section
/-! The class while it compiles: unit u, signatures sl, text tl of length L, own signature, place p, fault fk at fp, called cal, code c. -/
def kq (E0 : ux_Ev) (u : Nat) (sl tl : List Int32) (own : Int32) (L p : Nat) (fk fp : Int32) (cal c : List Int32) (E : ux_Ev) : Prop :=
  18 ≤ u ∧ E 9 = some (1, [], [.int fk, .int fp, .int (nI p)]) ∧ E u = some (6, [], [.ref (u + 1), .ref (u + 3), .ref (u + 4), .int own, .int (nI c.length)]) ∧ E (u + 1) = some (5, [], [.ref (u + 2), .int (nI L)]) ∧ (E (u + 2) = some (100, tl, []) ∧ tl.length = 30) ∧ (E (u + 3) = some (100, cal, []) ∧ cal.length = 8) ∧ (∃ t, E (u + 4) = some (100, c ++ t, []) ∧ (c ++ t).length = 122) ∧ (E 2 = some (100, sl, []) ∧ sl.length = 8) ∧ ∀ b, b ≠ 9 → b ≠ u → b ≠ u + 3 → b ≠ u + 4 → E b = E0 b
theorem ux_up_at (E : ux_Ev) (a : Nat) (c : ux_C) : ux_up E a c a = some c := if_pos rfl
theorem ux_up_ne (E : ux_Ev) {a b : Nat} (c : ux_C) (h : b ≠ a) : ux_up E a c b = E b := if_neg h
section KQ
variable {sc : List Int32} {d i pc : Nat} {ls st : List Value} {E0 E : ux_Ev} {u L p : Nat} {sl tl cal c : List Int32} {own fk fp : Int32} {x z : Nat} {w : Bool} {K : ux_K1}
theorem kq.o9 (m : kq E0 u sl tl own L p fk fp cal c E) : E 9 = some (1, [], [.int fk, .int fp, .int (nI p)]) := m.2.1
theorem kq.ou (m : kq E0 u sl tl own L p fk fp cal c E) : E u = some (6, [], [.ref (u + 1), .ref (u + 3), .ref (u + 4), .int own, .int (nI c.length)]) := m.2.2.1
theorem kq.ot (m : kq E0 u sl tl own L p fk fp cal c E) : E (u + 1) = some (5, [], [.ref (u + 2), .int (nI L)]) := m.2.2.2.1
theorem kq.otk (m : kq E0 u sl tl own L p fk fp cal c E) : E (u + 2) = some (100, tl, []) := m.2.2.2.2.1.1
theorem kq.ocal (m : kq E0 u sl tl own L p fk fp cal c E) : E (u + 3) = some (100, cal, []) := m.2.2.2.2.2.1.1
theorem kq.osg (m : kq E0 u sl tl own L p fk fp cal c E) : E 2 = some (100, sl, []) := m.2.2.2.2.2.2.2.1.1
theorem kq_setC (m : kq E0 u sl tl own L p fk fp cal c E) (fk2 fp2 : Int32) (p2 : Nat) : kq E0 u sl tl own L p2 fk2 fp2 cal c (ux_up E 9 (1, [], [.int fk2, .int fp2, .int (nI p2)])) := by
  obtain ⟨hu, h9, hu0, hu1, hu2, hu3, ⟨t, hu4, hl4⟩, h2, hE⟩ := m
  refine ⟨hu, ux_up_at _ _ _, ?_, ?_, ?_, ?_, ⟨t, ?_, hl4⟩, ?_, fun b b1 b2 b3 b4 => ?_⟩
  · rw [ux_up_ne _ _ (by omega)]; exact hu0
  · rw [ux_up_ne _ _ (by omega)]; exact hu1
  · rw [ux_up_ne _ _ (by omega)]; exact hu2
  · rw [ux_up_ne _ _ (by omega)]; exact hu3
  · rw [ux_up_ne _ _ (by omega)]; exact hu4
  · rw [ux_up_ne _ _ (by omega)]; exact h2
  · rw [ux_up_ne _ _ b1]; exact hE b b1 b2 b3 b4
theorem kq_setplace (m : kq E0 u sl tl own L p fk fp cal c E) (n : Nat) {k : Nat} {y : Int32} (hi : uxP.1 i pc = some (.putfield k, 3)) (hf : uxP.2.1 i k = some (1, 2, false)) (hp : uxP.2.2.2.1 i (200000 + k) = some 2000) (hy : y = nI n) (kk : ∀ E', kq E0 u sl tl own L n fk fp cal c E' → ux_B uxP sc d i (pc + 3) ls st E' x z true K) : ux_B uxP sc d i pc ls (.int y :: .ref 9 :: st) E x z w K := by
  subst hy
  exact ux_Bput hi hf hp m.o9 rfl (Nat.le_of_ble_eq_true rfl) (kk _ (kq_setC m fk fp n))
theorem kq_setcalled (m : kq E0 u sl tl own L p fk fp cal c E) (n : Nat) {j y : Int32} (hi : uxP.1 i pc = some (.iastore, 1)) (hn : n < 8) (hj : j = nI n) (kk : ∀ E', kq E0 u sl tl own L p fk fp (cal.set n y) c E' → ux_B uxP sc d i (pc + 1) ls st E' x z true K) : ux_B uxP sc d i pc ls (.int y :: .int j :: .ref (u + 3) :: st) E x z w K := by
  obtain ⟨hu, h9, hu0, hu1, hu2, hu3, ⟨t, hu4, hl4⟩, h2, hE⟩ := m
  refine ux_BistN n hi hu3.1 hj (by omega) (by rw [hu3.2]; exact hn) (kk _ ?_)
  refine ⟨hu, ?_, ?_, ?_, ?_, ⟨ux_up_at _ _ _, by rw [List.length_set]; exact hu3.2⟩, ⟨t, ?_, hl4⟩, ?_, fun b b1 b2 b3 b4 => ?_⟩
  · rw [ux_up_ne _ _ (by omega)]; exact h9
  · rw [ux_up_ne _ _ (by omega)]; exact hu0
  · rw [ux_up_ne _ _ (by omega)]; exact hu1
  · rw [ux_up_ne _ _ (by omega)]; exact hu2
  · rw [ux_up_ne _ _ (by omega)]; exact hu4
  · rw [ux_up_ne _ _ (by omega)]; exact h2
  · rw [ux_up_ne _ _ b3]; exact hE b b1 b2 b3 b4
/-- the unit's code and length are written -/
theorem kq_setU (m : kq E0 u sl tl own L p fk fp cal c E) (c2 : List Int32) {E2 : ux_Ev} (t2 : List Int32) (hl : (c2 ++ t2).length = 122) (h1 : E2 u = some (6, [], [.ref (u + 1), .ref (u + 3), .ref (u + 4), .int own, .int (nI c2.length)])) (h2 : E2 (u + 4) = some (100, c2 ++ t2, [])) (h3 : ∀ b, b ≠ u → b ≠ u + 4 → E2 b = E b) : kq E0 u sl tl own L p fk fp cal c2 E2 := by
  obtain ⟨hu, h9, hu0, hu1, hu2, hu3, ⟨t, hu4, hl4⟩, h2', hE⟩ := m
  refine ⟨hu, ?_, h1, ?_, ?_, ?_, ⟨t2, h2, hl⟩, ?_, fun b b1 b2 b3 b4 => ?_⟩
  · rw [h3 _ (by omega) (by omega)]; exact h9
  · rw [h3 _ (by omega) (by omega)]; exact hu1
  · rw [h3 _ (by omega) (by omega)]; exact hu2
  · rw [h3 _ (by omega) (by omega)]; exact hu3
  · rw [h3 _ (by omega) (by omega)]; exact h2'
  · rw [h3 _ b2 b4]; exact hE b b1 b2 b3 b4
theorem ko_fault (m : kq E0 u sl tl own L p fk fp cal c E) (k q : Int32) (hK : ∀ E' w', kq E0 u sl tl own L p k q cal c E' → K (.inr (some (.int (-1)))) E' x z w') : ux_Bm uxP sc d 22 [.ref 9, .int k, .int q] E x z K := by
  show ux_B uxP sc d 22 0 [.ref 9, .int k, .int q] [] E x z false K
  refine ux_BN 2 rfl ?_
  refine ux_Bput rfl rfl rfl m.o9 rfl (Nat.le_of_ble_eq_true rfl) ?_
  have m1 := kq_setC m k fp p
  refine ux_BN 2 rfl ?_
  refine ux_Bput rfl rfl rfl m1.o9 rfl (Nat.le_of_ble_eq_true rfl) ?_
  have m2 := kq_setC m1 k q p
  refine ux_BN 1 rfl ?_
  exact ux_Bri rfl (Or.inl rfl) (hK _ _ m2)
theorem ko_has (m : kq E0 u sl tl own L p fk fp cal c E) (n : Nat) (hn : n < 2 ^ 31) (hL : L ≤ 30) (hK : K (.inr (some (.int (if n < L then 1 else 0)))) E x z false) : ux_Bm uxP sc d 21 [.ref (u + 1), .int (nI n)] E x z K := by
  show ux_B uxP sc d 21 0 [.ref (u + 1), .int (nI n)] [] E x z false K
  refine ux_BN 2 rfl ?_
  refine ux_Bno (nI_pos hn) ?_
  refine ux_BN 2 rfl ?_
  refine ux_Bget rfl rfl m.ot rfl ?_
  refine ux_BN 1 rfl ?_
  refine ux_BleN L n rfl rfl (by omega) hn (fun h => ?_) (fun h => ?_)
  · refine ux_BN 1 rfl ?_
    rw [if_neg (by omega)] at hK
    exact ux_Bri rfl (Or.inr ⟨rfl, Or.inl rfl⟩) hK
  · refine ux_BN 2 rfl ?_
    rw [if_pos (by omega)] at hK
    exact ux_Bri rfl (Or.inr ⟨rfl, Or.inr rfl⟩) hK
theorem ko_isNone (t : Int32) (hK : K (.inr (some (.int (if t < 0 ∨ (19 ≤ t ∧ t < 100) then 1 else 0)))) E x z false) : ux_Bm uxP sc d 23 [.int t] E x z K := by
  show ux_B uxP sc d 23 0 [.int t] [] E x z false K
  refine ux_BN 2 rfl ?_
  refine ux_Bif (fun h1 => ?_) (fun h1 => ?_)
  · refine ux_BN 2 rfl ?_
    rw [if_pos (Or.inl h1)] at hK
    exact ux_Bri rfl (Or.inr ⟨rfl, Or.inr rfl⟩) hK
  · refine ux_BN 3 rfl ?_
    refine ux_Bif (fun h2 => ?_) (fun h2 => ?_)
    · refine ux_BN 1 rfl ?_
      rw [if_neg (by rintro (h | ⟨h, _⟩); exact h1 h; exact k2_nlt h h2)] at hK
      exact ux_Bri rfl (Or.inr ⟨rfl, Or.inl rfl⟩) hK
    · refine ux_BN 3 rfl ?_
      refine ux_Bif (fun h3 => ?_) (fun h3 => ?_)
      · refine ux_BN 1 rfl ?_
        rw [if_neg (by rintro (h | ⟨_, h⟩); exact h1 h; exact k2_nlt h3 h)] at hK
        exact ux_Bri rfl (Or.inr ⟨rfl, Or.inl rfl⟩) hK
      · refine ux_BN 2 rfl ?_
        rw [if_pos (Or.inr ⟨k2_le h2, k2_lt h3⟩)] at hK
        exact ux_Bri rfl (Or.inr ⟨rfl, Or.inr rfl⟩) hK
theorem ko_params (s : Int32) (hK : K (.inr (some (.int (sPar s)))) E x z false) : ux_Bm uxP sc d 25 [.int s] E x z K := by
  show ux_B uxP sc d 25 0 [.int s] [] E x z false K
  refine ux_BN 3 rfl ?_
  exact ux_Bri rfl (Or.inl rfl) hK
theorem ko_type (s k : Int32) (hK : K (.inr (some (.int (sTyp s k)))) E x z false) : ux_Bm uxP sc d 27 [.int s, .int k] E x z K := by
  show ux_B uxP sc d 27 0 [.int s, .int k] [] E x z false K
  refine ux_BN 7 rfl ?_
  exact ux_Bri rfl (Or.inl rfl) hK
theorem ko_result (s : Int32) (hK : K (.inr (some (.int (sRes s)))) E x z false) : ux_Bm uxP sc d 18 [.int s] E x z K := by
  show ux_B uxP sc d 18 0 [.int s] [] E x z false K
  refine ux_BN 5 rfl ?_
  exact ux_Bri rfl (Or.inl rfl) hK
theorem ko_operationOf (k : Nat) (hk : 2 ≤ k ∧ k ≤ 6) (hK : K (.inr (some (.int (nI k)))) E x z false) : ux_Bm uxP sc d 29 [.int (nI (k + 1))] E x z K := by
  have hk5 : k = 2 ∨ k = 3 ∨ k = 4 ∨ k = 5 ∨ k = 6 := by omega
  rcases hk5 with rfl | rfl | rfl | rfl | rfl
  · show ux_B uxP sc d 29 0 [.int (nI 3)] [] E x z false K
    refine ux_BN 3 rfl ?_
    exact ux_Bri rfl (Or.inl rfl) hK
  · show ux_B uxP sc d 29 0 [.int (nI 4)] [] E x z false K
    refine ux_BN 3 rfl ?_
    exact ux_Bri rfl (Or.inl rfl) hK
  · show ux_B uxP sc d 29 0 [.int (nI 5)] [] E x z false K
    refine ux_BN 3 rfl ?_
    exact ux_Bri rfl (Or.inl rfl) hK
  · show ux_B uxP sc d 29 0 [.int (nI 6)] [] E x z false K
    refine ux_BN 3 rfl ?_
    exact ux_Bri rfl (Or.inl rfl) hK
  · show ux_B uxP sc d 29 0 [.int (nI 7)] [] E x z false K
    refine ux_BN 3 rfl ?_
    exact ux_Bri rfl (Or.inl rfl) hK
theorem ko_put1 (m : kq E0 u sl tl own L p fk fp cal c E) (y : Int32) (hc : c.length < 122) (hK : ∀ E' w', kq E0 u sl tl own L p fk fp cal (c ++ [y]) E' → K (.inr none) E' x z w') : ux_Bm uxP sc d 30 [.ref u, .int y] E x z K := by
  show ux_B uxP sc d 30 0 [.ref u, .int y] [] E x z false K
  obtain ⟨t, hu4, hl4⟩ := m.2.2.2.2.2.2.1
  have hu := m.1
  refine ux_BN 1 rfl ?_
  refine ux_Bget rfl rfl m.ou rfl ?_
  refine ux_BN 2 rfl ?_
  refine ux_Bno (nI_ge hc (by decide)) ?_
  refine ux_BN 1 rfl ?_
  refine ux_Bget rfl rfl m.ou rfl ?_
  refine ux_BN 1 rfl ?_
  refine ux_Bget rfl rfl m.ou rfl ?_
  refine ux_BN 1 rfl ?_
  refine ux_BistN c.length rfl hu4 rfl (by omega) (by omega) ?_
  have hu' : ux_up E (u + 4) (100, (c ++ t).set c.length y, []) u = some (6, [], [.ref (u + 1), .ref (u + 3), .ref (u + 4), .int own, .int (nI c.length)]) := by rw [ux_up_ne _ _ (by omega)]; exact m.ou
  refine ux_BN 2 rfl ?_
  refine ux_Bget rfl rfl hu' rfl ?_
  refine ux_BN 2 rfl ?_
  refine ux_Btop (nI (c ++ [y]).length) (by rw [List.length_append]; exact nI_1 _) ?_
  refine ux_Bput rfl rfl rfl hu' rfl (Nat.le_of_ble_eq_true rfl) ?_
  refine ux_Br rfl (hK _ _ ?_)
  cases t with
  | nil => rw [List.append_nil] at hl4; omega
  | cons a t =>
    refine kq_setU m (c ++ [y]) t (by simp at hl4 ⊢; omega) (ux_up_at _ _ _) ?_ (fun b b1 b2 => by rw [ux_up_ne _ _ b1, ux_up_ne _ _ b2])
    rw [ux_up_ne _ _ (by omega), ux_up_at]
    simp
theorem ko_put2 (m : kq E0 u sl tl own L p fk fp cal c E) (y y2 : Int32) (hc : c.length + 1 < 122) (hK : ∀ E' w', kq E0 u sl tl own L p fk fp cal (c ++ [y, y2]) E' → K (.inr none) E' x z w') : ux_Bm uxP sc d 26 [.ref u, .int y, .int y2] E x z K := by
  show ux_B uxP sc d 26 0 [.ref u, .int y, .int y2] [] E x z false K
  obtain ⟨t, hu4, hl4⟩ := m.2.2.2.2.2.2.1
  have hu := m.1
  refine ux_BN 1 rfl ?_
  refine ux_Bget rfl rfl m.ou rfl ?_
  refine ux_BN 4 rfl ?_
  refine ux_Bno (show ¬ nI 122 ≤ nI c.length + 1 from by rw [nI_1]; exact nI_ge hc (by decide)) ?_
  refine ux_BN 1 rfl ?_
  refine ux_Bget rfl rfl m.ou rfl ?_
  refine ux_BN 1 rfl ?_
  refine ux_Bget rfl rfl m.ou rfl ?_
  refine ux_BN 1 rfl ?_
  refine ux_BistN c.length rfl hu4 rfl (by omega) (by omega) ?_
  have hu' : ux_up E (u + 4) (100, (c ++ t).set c.length y, []) u = some (6, [], [.ref (u + 1), .ref (u + 3), .ref (u + 4), .int own, .int (nI c.length)]) := by rw [ux_up_ne _ _ (by omega)]; exact m.ou
  refine ux_BN 1 rfl ?_
  refine ux_Bget rfl rfl hu' rfl ?_
  refine ux_BN 1 rfl ?_
  refine ux_Bget rfl rfl hu' rfl ?_
  refine ux_BN 3 rfl ?_
  refine ux_BistN (c.length + 1) rfl (ux_up_at _ _ _) (nI_1 _) (by omega) (by rw [List.length_set]; omega) ?_
  have hu'' : ux_up (ux_up E (u + 4) (100, (c ++ t).set c.length y, [])) (u + 4) (100, ((c ++ t).set c.length y).set (c.length + 1) y2, []) u = some (6, [], [.ref (u + 1), .ref (u + 3), .ref (u + 4), .int own, .int (nI c.length)]) := by rw [ux_up_ne _ _ (by omega)]; exact hu'
  refine ux_BN 2 rfl ?_
  refine ux_Bget rfl rfl hu'' rfl ?_
  refine ux_BN 2 rfl ?_
  refine ux_Btop (nI (c ++ [y, y2]).length) (by rw [List.length_append]; exact nI_add _ 2) ?_
  refine ux_Bput rfl rfl rfl hu'' rfl (Nat.le_of_ble_eq_true rfl) ?_
  refine ux_Br rfl (hK _ _ ?_)
  have : 2 ≤ t.length := by rw [List.length_append] at hl4; omega
  match t, this, hl4 with
  | a :: b :: t, _, hl4 =>
    refine kq_setU m (c ++ [y, y2]) t (by simp at hl4 ⊢; omega) (ux_up_at _ _ _) ?_ (fun b b1 b2 => by rw [ux_up_ne _ _ b1, ux_up_ne _ _ b2, ux_up_ne _ _ b2])
    rw [ux_up_ne _ _ (by omega), ux_up_at]
    simp
theorem ko_setOperand (m : kq E0 u sl tl own L p fk fp cal c E) (n : Nat) (y : Int32) (hn : n + 1 < c.length) (hc : c.length ≤ 122) (hK : ∀ E' w', kq E0 u sl tl own L p fk fp cal (c.set (n + 1) y) E' → K (.inr none) E' x z w') : ux_Bm uxP sc d 32 [.ref u, .int (nI n), .int y] E x z K := by
  show ux_B uxP sc d 32 0 [.ref u, .int (nI n), .int y, .null] [] E x z false K
  obtain ⟨t, hu4, hl4⟩ := m.2.2.2.2.2.2.1
  have hu := m.1
  refine ux_BN 3 rfl ?_
  refine ux_Btop (nI (n + 1)) (nI_1 n) ?_
  refine ux_BN 3 rfl ?_
  refine ux_Bno (nI_pos (by omega)) ?_
  refine ux_BN 2 rfl ?_
  refine ux_Bget rfl rfl m.ou rfl ?_
  refine ux_BN 1 rfl ?_
  refine ux_Bno (nI_ge hn (by omega)) ?_
  refine ux_BN 1 rfl ?_
  refine ux_Bget rfl rfl m.ou rfl ?_
  refine ux_BN 2 rfl ?_
  refine ux_BistN (n + 1) rfl hu4 rfl (by omega) (by omega) ?_
  refine ux_Br rfl (hK _ _ ?_)
  refine kq_setU m (c.set (n + 1) y) t (by simpa using hl4) ?_ ?_ (fun b b1 b2 => by rw [ux_up_ne _ _ b2])
  · rw [ux_up_ne _ _ (by omega), List.length_set]; exact m.ou
  · rw [ux_up_at, List.set_append_left _ _ hn]
end KQ
end
section
/-! The class's compiler: its parts. -/
def calR (tk sg : Nat → Int32) (p q : Nat) (a b : List Int32) : Prop := ∀ g, g < 8 → ((∃ i, p ≤ i ∧ i < q ∧ tk i = nI (g + 11)) → b.getD g 0 = sg g ∧ ¬ sg g = -1) ∧ ((¬ ∃ i, p ≤ i ∧ i < q ∧ tk i = nI (g + 11)) → b.getD g 0 = a.getD g 0)
theorem calR.trans {tk sg : Nat → Int32} {p q r : Nat} {a b c : List Int32} (h : calR tk sg p q a b) (h2 : calR tk sg q r b c) (h3 : p ≤ q) (h4 : q ≤ r) : calR tk sg p r a c := by
  intro g hg
  by_cases e2 : ∃ i, q ≤ i ∧ i < r ∧ tk i = nI (g + 11)
  · obtain ⟨i, i1, i2, i3⟩ := e2
    exact ⟨fun _ => (h2 g hg).1 ⟨i, i1, i2, i3⟩, fun hn => absurd ⟨i, by omega, i2, i3⟩ hn⟩
  · have hc := (h2 g hg).2 e2
    by_cases e1 : ∃ i, p ≤ i ∧ i < q ∧ tk i = nI (g + 11)
    · obtain ⟨i, i1, i2, i3⟩ := e1
      exact ⟨fun _ => by rw [hc]; exact (h g hg).1 ⟨i, i1, i2, i3⟩, fun hn => absurd ⟨i, i1, by omega, i3⟩ hn⟩
    · refine ⟨fun ⟨i, i1, i2, i3⟩ => ?_, fun _ => by rw [hc]; exact (h g hg).2 e1⟩
      by_cases hi : i < q
      · exact absurd ⟨i, i1, hi, i3⟩ e1
      · exact absurd ⟨i, by omega, i2, i3⟩ e2
theorem calR_one {tk sg : Nat → Int32} {p : Nat} {a : List Int32} (h : ∀ g, g < 8 → ¬ tk p = nI (g + 11)) : calR tk sg p (p + 1) a a := by
  intro g hg
  refine ⟨fun ⟨i, i1, i2, i3⟩ => ?_, fun _ => rfl⟩
  have : i = p := by omega
  subst this
  exact absurd i3 (h g hg)
theorem calR_call {tk sg : Nat → Int32} {p h : Nat} {a : List Int32} (hh : h < 8) (ht : tk p = nI (h + 11)) (hs : ¬ sg h = -1) (ha : a.length = 8) : calR tk sg p (p + 1) a (a.set h (sg h)) := by
  intro g hg
  by_cases hgh : g = h
  · subst hgh
    refine ⟨fun _ => ⟨?_, hs⟩, fun hn => absurd ⟨p, Nat.le_refl _, by omega, ht⟩ hn⟩
    rw [List.getD_eq_getElem?_getD, List.getElem?_set_self (by omega)]; rfl
  · refine ⟨fun ⟨i, i1, i2, i3⟩ => ?_, fun _ => ?_⟩
    · have : i = p := by omega
      subst this
      rw [ht] at i3
      have := (nI_eq (by omega) (by omega)).mp i3
      omega
    · rw [List.getD_eq_getElem?_getD, List.getElem?_set_ne (fun h => hgh h.symm)]; rfl
theorem calR.refl (tk sg : Nat → Int32) (p : Nat) (a : List Int32) : calR tk sg p p a a := fun g _ => ⟨fun ⟨i, i1, i2, _⟩ => by omega, fun _ => rfl⟩
def kIH (sc : List Int32) (D : Nat) (E0 : ux_Ev) (u : Nat) (sl tl : List Int32) (own : Int32) (L dep x z : Nat) (rc : Nat → cR) : Prop :=
  ∀ p cal c E K, kq E0 u sl tl own L p 0 (-1) cal c E → p ≤ L → cz 0 0 p c.length →
    (∀ t q c', rc p = .inr (t, q, c') → ∀ E' w' cal', kq E0 u sl tl own L q 0 (-1) cal' (c ++ c') E' → calR (fun i => tl.getD i 0) (fun h => sl.getD h 0) p q cal cal' → K (.inr (some (.int t))) E' x z w') →
    (∀ k pl, rc p = .inl (k, pl) → ∀ E' w' p' cal' c', kq E0 u sl tl own L p' k pl cal' c' E' → K (.inr (some (.int (-1)))) E' x z w') →
    ux_Bm uxP sc D 20 [.ref 9, .ref u, .ref 2, .int (nI dep)] E x z K
section KE
variable {sc : List Int32} {d D : Nat} {E0 E : ux_Ev} {u L p dep : Nat} {sl tl cal c : List Int32} {own fk fp : Int32} {x z : Nat} {w : Bool} {K : ux_K1} {rc : Nat → cR}
theorem ko_constant (m : kq E0 u sl tl own L p fk fp cal c E) (y t : Int32) (hc : c.length + 1 < 122) (hK : ∀ E' w', kq E0 u sl tl own L (p + 1) fk fp cal (c ++ [0, y]) E' → K (.inr (some (.int t))) E' x z w') : ux_Bm uxP sc (d + 1) 33 [.ref 9, .ref u, .int y, .int t] E x z K := by
  show ux_B uxP sc (d + 1) 33 0 [.ref 9, .ref u, .int y, .int t] [] E x z false K
  refine ux_BN 2 rfl ?_
  refine ux_Bget rfl rfl m.o9 rfl ?_
  refine ux_BN 2 rfl ?_
  refine kq_setplace m (p + 1) rfl rfl rfl (nI_1 p) fun E1 m1 => ?_
  refine ux_BN 3 rfl ?_
  refine ux_Bv rfl rfl rfl m1.ou rfl (by decide) rfl rfl ?_
  refine ko_put2 m1 0 y hc fun E2 w2 m2 => ?_
  refine ux_BN 1 rfl ?_
  exact ux_Bri rfl (Or.inl rfl) (hK _ _ m2)
theorem ko_parameter (m : kq E0 u sl tl own L p fk fp cal c E) (k : Int32) (hc : c.length + 1 < 122) (hK1 : sPar own ≤ k → ∀ E' w', kq E0 u sl tl own L p 3 (nI p) cal c E' → K (.inr (some (.int (-1)))) E' x z w') (hK2 : ¬ sPar own ≤ k → ∀ E' w', kq E0 u sl tl own L (p + 1) fk fp cal (c ++ [1, k]) E' → K (.inr (some (.int (sTyp own k)))) E' x z w') : ux_Bm uxP sc (d + 1) 24 [.ref 9, .ref u, .int k] E x z K := by
  show ux_B uxP sc (d + 1) 24 0 [.ref 9, .ref u, .int k] [] E x z false K
  refine ux_BN 2 rfl ?_
  refine ux_Bget rfl rfl m.ou rfl ?_
  refine ux_Bk (j := 25) rfl rfl ?_
  refine ko_params own ?_
  refine ux_BN 1 rfl ?_
  refine ux_Bif (fun h1 => ?_) (fun h1 => ?_)
  · refine ux_BN 2 rfl ?_
    refine ux_Bget rfl rfl m.o9 rfl ?_
    refine ux_BN 2 rfl ?_
    refine kq_setplace m (p + 1) rfl rfl rfl (nI_1 p) fun E1 m1 => ?_
    refine ux_BN 3 rfl ?_
    refine ux_Bv rfl rfl rfl m1.ou rfl (by decide) rfl rfl ?_
    refine ko_put2 m1 1 k hc fun E2 w2 m2 => ?_
    refine ux_BN 1 rfl ?_
    refine ux_Bget rfl rfl m2.ou rfl ?_
    refine ux_BN 1 rfl ?_
    refine ux_Bk (j := 27) rfl rfl ?_
    refine ko_type own k ?_
    exact ux_Bri rfl (Or.inl rfl) (hK2 (k2_nle h1) _ _ m2)
  · refine ux_BN 3 rfl ?_
    refine ux_Bget rfl rfl m.o9 rfl ?_
    refine ux_Bv rfl rfl rfl m.o9 rfl (by decide) rfl rfl ?_
    refine ko_fault m 3 (nI p) fun E1 w1 m1 => ?_
    exact ux_Bri rfl (Or.inl rfl) (hK1 (k2_le h1) _ _ m1)
theorem t01m {t : Int32} (h : t = 0 ∨ t = 1) : ¬ t = -1 := by rcases h with rfl | rfl <;> decide
theorem ko_part (ih : kIH sc D E0 u sl tl own L dep x z rc) (hg : cGood L rc) (m : kq E0 u sl tl own L p 0 (-1) cal c E) (hp : p ≤ L) (hz : cz 0 0 p c.length) (want : Int32)
    (hS : ∀ t q c', cPa rc want p = .inr (t, q, c') → cz 1 p q c'.length → p < q → q ≤ L → ∀ E' w' cal', kq E0 u sl tl own L q 0 (-1) cal' (c ++ c') E' → calR (fun i => tl.getD i 0) (fun h => sl.getD h 0) p q cal cal' → K (.inr (some (.int 1))) E' x z w')
    (hF : ∀ k pl, cPa rc want p = .inl (k, pl) → ∀ E' w' p' cal' c', kq E0 u sl tl own L p' k pl cal' c' E' → K (.inr (some (.int 0))) E' x z w') : ux_Bm uxP sc (D + 1) 19 [.ref 9, .ref u, .ref 2, .int want, .int (nI dep)] E x z K := by
  show ux_B uxP sc (D + 1) 19 0 [.ref 9, .ref u, .ref 2, .int want, .int (nI dep), .null, .null] [] E x z false K
  refine ux_BN 1 rfl ?_
  refine ux_Bget rfl rfl m.o9 rfl ?_
  refine ux_BN 5 rfl ?_
  refine ux_Bv rfl rfl rfl m.o9 rfl (by decide) rfl rfl ?_
  refine ih p cal c E _ m hp hz (fun t q c' hr E' w' cal' m' hcal => ?_) (fun k pl hr E' w' p' cal' c' m' => ?_)
  · obtain ⟨g1, g2, g3, g4⟩ := hg _ _ _ _ hr
    refine ux_BN 4 rfl ?_
    refine ux_Byes (t01m g3) ?_
    refine ux_BN 3 rfl ?_
    refine ux_Bif (fun h1 => ?_) (fun h1 => ?_)
    · refine ux_BN 1 rfl ?_
      exact ux_Bri rfl (Or.inr ⟨rfl, Or.inr rfl⟩) (hS t q c' (cPa_ok hr h1) g4 g1 g2 _ _ _ m' hcal)
    · refine ux_BN 3 rfl ?_
      refine ux_Bv rfl rfl rfl m'.o9 rfl (by decide) rfl rfl ?_
      refine ko_fault m' 5 (nI p) fun E2 w2 m2 => ?_
      refine ux_BN 2 rfl ?_
      exact ux_Bri rfl (Or.inr ⟨rfl, Or.inl rfl⟩) (hF 5 (nI p) (cPa_bad hr h1) _ _ _ _ _ m2)
  · refine ux_BN 4 rfl ?_
    refine ux_Bno (by decide) ?_
    refine ux_BN 1 rfl ?_
    exact ux_Bri rfl (Or.inr ⟨rfl, Or.inl rfl⟩) (hF k pl (cPa_inl hr) _ _ _ _ _ m')
theorem ko_calculation (ih : kIH sc D E0 u sl tl own L (dep + 1) x z rc) (hg : cGood L rc) (hL : L ≤ 30) (m : kq E0 u sl tl own L p 0 (-1) cal c E) (hp : p < L) (hz : cz 0 0 p c.length) (k : Nat) (hk : 2 ≤ k ∧ k ≤ 6)
    (hS : ∀ t q c', (cBi (cPa rc 0 (p + 1)) fun _ q1 c1 => cBi (cPa rc 0 q1) fun _ q2 c2 => .inr (if nI (k + 1) < 6 then 0 else 1, q2, c1 ++ c2 ++ [nI k])) = .inr (t, q, c') → p + 1 ≤ q → ∀ E' w' cal', kq E0 u sl tl own L q 0 (-1) cal' (c ++ c') E' → calR (fun i => tl.getD i 0) (fun h => sl.getD h 0) (p + 1) q cal cal' → K (.inr (some (.int t))) E' x z w')
    (hF : ∀ k2 pl, (cBi (cPa rc 0 (p + 1)) fun _ q1 c1 => cBi (cPa rc 0 q1) fun _ q2 c2 => .inr (if nI (k + 1) < 6 then 0 else 1, q2, c1 ++ c2 ++ [nI k])) = .inl (k2, pl) → ∀ E' w' p' cal' c', kq E0 u sl tl own L p' k2 pl cal' c' E' → K (.inr (some (.int (-1)))) E' x z w') : ux_Bm uxP sc (D + 2) 28 [.ref 9, .ref u, .ref 2, .int (nI (k + 1)), .int (nI dep)] E x z K := by
  show ux_B uxP sc (D + 2) 28 0 [.ref 9, .ref u, .ref 2, .int (nI (k + 1)), .int (nI dep)] [] E x z false K
  obtain ⟨hz1, hz2, hz3⟩ := cz_tok hz
  refine ux_BN 2 rfl ?_
  refine ux_Bget rfl rfl m.o9 rfl ?_
  refine ux_BN 2 rfl ?_
  refine kq_setplace m (p + 1) rfl rfl rfl (nI_1 p) fun E1 m1 => ?_
  refine ux_BN 7 rfl ?_
  refine ux_Btop (nI (dep + 1)) (nI_1 _) ?_
  refine ux_Bv rfl rfl rfl m1.o9 rfl (by decide) rfl rfl ?_
  refine ko_part ih hg m1 (by omega) hz2 0 (fun t q1 c1 hr1 g4 g1 g2 E2 w2 cal2 m2 hcal2 => ?_) (fun k2 pl hr E2 w2 p2 cal2 c2 m2 => ?_)
  · have hza := cz_add hz1 g4
    have hzb : cz 0 0 q1 (c ++ c1).length := by
      obtain ⟨a1, a2, a3, a4⟩ := hza
      exact ⟨a1, a2, by rw [List.length_append]; omega, by omega⟩
    refine ux_BN 1 rfl ?_
    refine ux_Bno (by decide) ?_
    refine ux_BN 7 rfl ?_
    refine ux_Btop (nI (dep + 1)) (nI_1 _) ?_
    refine ux_Bv rfl rfl rfl m2.o9 rfl (by decide) rfl rfl ?_
    refine ko_part ih hg m2 g2 hzb 0 (fun t q2 c2 hr2 g4' g1' g2' E3 w3 cal3 m3 hcal3 => ?_) (fun k2 pl hr E3 w3 p3 cal3 c3 m3 => ?_)
    · have hzc := cz78 (cz_add hzb g4') (by omega)
      refine ux_BN 1 rfl ?_
      refine ux_Byes (by decide) ?_
      refine ux_BN 2 rfl ?_
      refine ux_Bk (j := 29) rfl rfl ?_
      refine ko_operationOf k hk ?_
      refine ux_Bv rfl rfl rfl m3.ou rfl (by decide) rfl rfl ?_
      refine ko_put1 m3 (nI k) (by rw [List.length_append]; omega) fun E4 w4 m4 => ?_
      have hfin := hS (if nI (k + 1) < 6 then 0 else 1) q2 (c1 ++ c2 ++ [nI k]) (by rw [cBi_of hr1, cBi_of hr2]) (by omega) E4
      have m4' : kq E0 u sl tl own L q2 0 (-1) cal3 (c ++ (c1 ++ c2 ++ [nI k])) E4 := by simpa [List.append_assoc] using m4
      have hcal := hcal2.trans hcal3 (by omega) (by omega)
      have hk5 : k = 2 ∨ k = 3 ∨ k = 4 ∨ k = 5 ∨ k = 6 := by omega
      rcases hk5 with rfl | rfl | rfl | rfl | rfl
      · refine ux_BN 3 rfl ?_
        refine ux_Bno (by decide) ?_
        refine ux_BN 3 rfl ?_
        refine ux_Byes (by decide) ?_
        refine ux_BN 1 rfl ?_
        exact ux_Bri rfl (Or.inl rfl) (hfin _ _ m4' hcal)
      · refine ux_BN 3 rfl ?_
        refine ux_Bno (by decide) ?_
        refine ux_BN 3 rfl ?_
        refine ux_Byes (by decide) ?_
        refine ux_BN 1 rfl ?_
        exact ux_Bri rfl (Or.inl rfl) (hfin _ _ m4' hcal)
      · refine ux_BN 3 rfl ?_
        refine ux_Bno (by decide) ?_
        refine ux_BN 3 rfl ?_
        refine ux_Byes (by decide) ?_
        refine ux_BN 1 rfl ?_
        exact ux_Bri rfl (Or.inl rfl) (hfin _ _ m4' hcal)
      · refine ux_BN 3 rfl ?_
        refine ux_Byes rfl ?_
        refine ux_BN 2 rfl ?_
        exact ux_Bri rfl (Or.inl rfl) (hfin _ _ m4' hcal)
      · refine ux_BN 3 rfl ?_
        refine ux_Bno (by decide) ?_
        refine ux_BN 3 rfl ?_
        refine ux_Bno (by decide) ?_
        refine ux_BN 2 rfl ?_
        exact ux_Bri rfl (Or.inl rfl) (hfin _ _ m4' hcal)
    · refine ux_BN 1 rfl ?_
      refine ux_Bno (by decide) ?_
      refine ux_BN 1 rfl ?_
      exact ux_Bri rfl (Or.inl rfl) (hF k2 pl (by rw [cBi_of hr1, cBi_inl hr]) _ _ _ _ _ m3)
  · refine ux_BN 1 rfl ?_
    refine ux_Byes rfl ?_
    refine ux_BN 1 rfl ?_
    exact ux_Bri rfl (Or.inl rfl) (hF k2 pl (by rw [cBi_inl hr]) _ _ _ _ _ m2)
end KE
end
section
/-! The class's compiler: choice, call, expression, compile. -/
theorem ux_B.up {P : ux_P} {sc : List Int32} {d d2 i pc : Nat} {ls st : List Value} {E : ux_Ev} {x z : Nat} {w : Bool} {K : ux_K1} (hb : ux_B P sc d i pc ls st E x z w K) (hd : d ≤ d2) : ux_B P sc d2 i pc ls st E x z w K := by
  intro h hv h2
  obtain ⟨o, h', E', g1, g2⟩ := hb h hv h2
  exact ⟨o, h', E', g1.up hd, g2⟩
theorem ux_Bmu {P : ux_P} {sc : List Int32} {d d2 j : Nat} {as : List Value} {E : ux_Ev} {x z : Nat} {K : ux_K1} (hb : ux_Bm P sc d j as E x z K) (hd : d ≤ d2) : ux_Bm P sc d2 j as E x z K := ux_B.up hb hd
theorem kIH.up {sc : List Int32} {D D2 : Nat} {E0 : ux_Ev} {u : Nat} {sl tl : List Int32} {own : Int32} {L dep x z : Nat} {rc : Nat → cR} (ih : kIH sc D E0 u sl tl own L dep x z rc) (hd : D ≤ D2) : kIH sc D2 E0 u sl tl own L dep x z rc := fun p cal c E K a b c0 e f => ux_Bmu (ih p cal c E K a b c0 e f) hd
section KF
variable {sc : List Int32} {d D : Nat} {E0 E : ux_Ev} {u L p dep : Nat} {sl tl cal c : List Int32} {own fk fp : Int32} {x z : Nat} {w : Bool} {K : ux_K1} {rc : Nat → cR}
theorem kq_cast {c2 : List Int32} (m : kq E0 u sl tl own L p fk fp cal c E) (h : c = c2) : kq E0 u sl tl own L p fk fp cal c2 E := h ▸ m
theorem ko_choice (ih : kIH sc (D + 1) E0 u sl tl own L (dep + 1) x z rc) (hg : cGood L rc) (hL : L ≤ 30) (m : kq E0 u sl tl own L p 0 (-1) cal c E) (hp : p < L) (hz : cz 0 0 p c.length)
    (hS : ∀ t q c', (cBi (cPa rc 1 (p + 1)) fun _ q1 c1 => cBi (rc q1) fun t2 q2 c2 => cBi (cPa rc t2 q2) fun _ q3 c3 => .inr (t2, q3, c1 ++ [7, nI (c2.length + 2)] ++ c2 ++ [8, nI c3.length] ++ c3)) = .inr (t, q, c') → p + 1 ≤ q → ∀ E' w' cal', kq E0 u sl tl own L q 0 (-1) cal' (c ++ c') E' → calR (fun i => tl.getD i 0) (fun h => sl.getD h 0) (p + 1) q cal cal' → K (.inr (some (.int t))) E' x z w')
    (hF : ∀ k2 pl, (cBi (cPa rc 1 (p + 1)) fun _ q1 c1 => cBi (rc q1) fun t2 q2 c2 => cBi (cPa rc t2 q2) fun _ q3 c3 => .inr (t2, q3, c1 ++ [7, nI (c2.length + 2)] ++ c2 ++ [8, nI c3.length] ++ c3)) = .inl (k2, pl) → ∀ E' w' p' cal' c', kq E0 u sl tl own L p' k2 pl cal' c' E' → K (.inr (some (.int (-1)))) E' x z w') : ux_Bm uxP sc (D + 3) 31 [.ref 9, .ref u, .ref 2, .int (nI dep)] E x z K := by
  show ux_B uxP sc (D + 3) 31 0 [.ref 9, .ref u, .ref 2, .int (nI dep), .null, .null, .null, .null] [] E x z false K
  obtain ⟨hz1, hz2, hz3⟩ := cz_tok hz
  have ih2 : kIH sc (D + 2) E0 u sl tl own L (dep + 1) x z rc := ih.up (by omega)
  refine ux_BN 2 rfl ?_
  refine ux_Bget rfl rfl m.o9 rfl ?_
  refine ux_BN 2 rfl ?_
  refine kq_setplace m (p + 1) rfl rfl rfl (nI_1 p) fun E1 m1 => ?_
  refine ux_BN 7 rfl ?_
  refine ux_Btop (nI (dep + 1)) (nI_1 _) ?_
  refine ux_Bv rfl rfl rfl m1.o9 rfl (by decide) rfl rfl ?_
  refine ko_part ih hg m1 (by omega) hz2 1 (fun t q1 c1 hr1 g4 g1 g2 E2 w2 cal2 m2 hcal2 => ?_) (fun k2 pl hr E2 w2 p2 cal2 c2 m2 => ?_)
  · have hza := cz_add hz1 g4
    have hzb : cz 1 0 q1 (c ++ c1 ++ [7, 0]).length := by
      obtain ⟨a1, a2, a3, a4⟩ := hza
      exact ⟨a1, a2, by simp only [List.length_append, List.length_cons, List.length_nil]; omega, by omega⟩
    have hzb0 : cz 0 0 q1 (c ++ c1 ++ [7, 0]).length := by
      obtain ⟨a1, a2, a3, a4⟩ := hzb
      exact ⟨a1, a2, by omega, by omega⟩
    have hzb8 := cz78 hzb (by omega)
    refine ux_BN 1 rfl ?_
    refine ux_Byes (by decide) ?_
    refine ux_BN 1 rfl ?_
    refine ux_Bget rfl rfl m2.ou rfl ?_
    refine ux_BN 4 rfl ?_
    refine ux_Bv rfl rfl rfl m2.ou rfl (by decide) rfl rfl ?_
    refine ko_put2 m2 7 0 (by simp only [List.length_append, List.length_cons, List.length_nil] at hzb8 ⊢; omega) fun E3 w3 m3 => ?_
    refine ux_BN 6 rfl ?_
    refine ux_Btop (nI (dep + 1)) (nI_1 _) ?_
    refine ux_Bv rfl rfl rfl m3.o9 rfl (by decide) rfl rfl ?_
    refine ih2 q1 cal2 _ E3 _ m3 g2 hzb0 (fun t2 q2 c2 hr2 E4 w4 cal4 m4 hcal4 => ?_) (fun k2 pl hr E4 w4 p4 cal4 c4 m4 => ?_)
    · obtain ⟨g1', g2', ht2, g4'⟩ := hg _ _ _ _ hr2
      have hzc : cz 0 0 q2 ((c ++ c1 ++ [7, 0] ++ c2).length + 2) := by
        obtain ⟨a1, a2, a3, a4⟩ := hza
        obtain ⟨b1, b2, b3, b4⟩ := g4'
        obtain ⟨e1, e2, e3, e4⟩ := hz
        obtain ⟨i1, i2, i3, i4⟩ := g4
        refine ⟨by omega, e2 + i2 + b2 + 1, ?_, by omega⟩
        simp only [List.length_append, List.length_cons, List.length_nil]
        omega
      have hzd : cz 0 0 q2 (c ++ c1 ++ [7, 0] ++ c2 ++ [8, 0]).length := by
        obtain ⟨a1, a2, a3, a4⟩ := hzc
        refine ⟨a1, a2, ?_, a4⟩
        simp only [List.length_append, List.length_cons, List.length_nil] at a3 ⊢
        omega
      have hlen : (c ++ c1 ++ [7, 0] ++ c2).length + 2 ≤ 80 := by
        obtain ⟨a1, a2, a3, a4⟩ := hzc
        omega
      refine ux_BN 4 rfl ?_
      refine ux_Byes (t01m ht2) ?_
      refine ux_BN 1 rfl ?_
      refine ux_Bget rfl rfl m4.ou rfl ?_
      refine ux_BN 4 rfl ?_
      refine ux_Bv rfl rfl rfl m4.ou rfl (by decide) rfl rfl ?_
      refine ko_put2 m4 8 0 (by omega) fun E5 w5 m5 => ?_
      refine ux_BN 1 rfl ?_
      refine ux_Bget rfl rfl m5.ou rfl ?_
      refine ux_BN 8 rfl ?_
      refine ux_Btop (nI (dep + 1)) (nI_1 _) ?_
      refine ux_Bv rfl rfl rfl m5.o9 rfl (by decide) rfl rfl ?_
      refine ko_part ih hg m5 g2' hzd t2 (fun t3 q3 c3 hr3 g4'' g1'' g2'' E6 w6 cal6 m6 hcal6 => ?_) (fun k2 pl hr E6 w6 p6 cal6 c6 m6 => ?_)
      · have hze := cz78 (cz_add hzd g4'') (by omega)
        have hl6 : (c ++ c1 ++ [7, 0] ++ c2 ++ [8, 0] ++ c3).length ≤ 78 := by rw [List.length_append]; exact hze
        refine ux_BN 1 rfl ?_
        refine ux_Byes (by decide) ?_
        refine ux_BN 5 rfl ?_
        refine ux_Btop (nI (c2.length + 2)) ?_ ?_
        · refine (pk_sub (a := (c ++ c1 ++ [7, 0] ++ c2).length) (b := (c ++ c1).length) (by simp only [List.length_append, List.length_cons, List.length_nil]; omega)).trans (congrArg nI ?_)
          simp only [List.length_append, List.length_cons, List.length_nil]; omega
        refine ux_Bv rfl rfl rfl m6.ou rfl (by decide) rfl rfl ?_
        refine ko_setOperand m6 (c ++ c1).length (nI (c2.length + 2)) (by simp only [List.length_append, List.length_cons, List.length_nil]; omega) (by omega) fun E7 w7 m7 => ?_
        have e7 : (c ++ c1 ++ [7, 0] ++ c2 ++ [8, 0] ++ c3).set ((c ++ c1).length + 1) (nI (c2.length + 2)) = c ++ c1 ++ [7, nI (c2.length + 2)] ++ c2 ++ [8, 0] ++ c3 := by
          have := set_op (c ++ c1) (c2 ++ [8, 0] ++ c3) 7 0 (nI (c2.length + 2)) _ rfl
          simpa only [List.append_assoc] using this
        have m7' := kq_cast m7 e7
        refine ux_BN 3 rfl ?_
        refine ux_Bget rfl rfl m7'.ou rfl ?_
        refine ux_BN 2 rfl ?_
        refine ux_Btop (nI c3.length) ?_ ?_
        · refine (pk_sub (a := (c ++ c1 ++ [7, nI (c2.length + 2)] ++ c2 ++ [8, 0] ++ c3).length) (b := (c ++ c1 ++ [7, 0] ++ c2 ++ [8, 0]).length) (by simp only [List.length_append, List.length_cons, List.length_nil]; omega)).trans (congrArg nI ?_)
          simp only [List.length_append, List.length_cons, List.length_nil]; omega
        refine ux_Bv rfl rfl rfl m7'.ou rfl (by decide) rfl rfl ?_
        refine ko_setOperand m7' (c ++ c1 ++ [7, 0] ++ c2).length (nI c3.length) (by simp only [List.length_append, List.length_cons, List.length_nil]; omega) (by simp only [List.length_append, List.length_cons, List.length_nil] at hl6 ⊢; omega) fun E8 w8 m8 => ?_
        have e8 : (c ++ c1 ++ [7, nI (c2.length + 2)] ++ c2 ++ [8, 0] ++ c3).set ((c ++ c1 ++ [7, 0] ++ c2).length + 1) (nI c3.length) = c ++ (c1 ++ [7, nI (c2.length + 2)] ++ c2 ++ [8, nI c3.length] ++ c3) := by
          rw [set_op (c ++ c1 ++ [7, nI (c2.length + 2)] ++ c2) c3 8 0 _ _ (by simp only [List.length_append, List.length_cons, List.length_nil])]
          simp only [List.append_assoc]
        have m8' := kq_cast m8 e8
        refine ux_BN 1 rfl ?_
        exact ux_Bri rfl (Or.inl rfl) (hS t2 q3 _ (by rw [cBi_of hr1, cBi_of hr2, cBi_of hr3]) (by omega) _ _ _ m8' ((hcal2.trans hcal4 (by omega) (by omega)).trans hcal6 (by omega) (by omega)))
      · refine ux_BN 1 rfl ?_
        refine ux_Bno (by decide) ?_
        refine ux_BN 1 rfl ?_
        exact ux_Bri rfl (Or.inl rfl) (hF k2 pl (by rw [cBi_of hr1, cBi_of hr2, cBi_inl hr]) _ _ _ _ _ m6)
    · refine ux_BN 4 rfl ?_
      refine ux_Bno (by decide) ?_
      refine ux_BN 1 rfl ?_
      exact ux_Bri rfl (Or.inl rfl) (hF k2 pl (by rw [cBi_of hr1, cBi_inl hr]) _ _ _ _ _ m4)
  · refine ux_BN 1 rfl ?_
    refine ux_Bno (by decide) ?_
    refine ux_BN 1 rfl ?_
    exact ux_Bri rfl (Or.inl rfl) (hF k2 pl (by rw [cBi_inl hr]) _ _ _ _ _ m2)
theorem ko_args (ih : kIH sc (D + 1) E0 u sl tl own L (dep + 1) x z rc) (hg : cGood L rc) (h : Nat) (hh : h < 8) (s : Int32) (N : Nat) (hN : sPar s = nI N) (hN4 : N < 4) :
    ∀ n k p cal c E w, k + n = N → kq E0 u sl tl own L p 0 (-1) cal c E → p ≤ L → L ≤ 30 → cz 0 0 p (c.length + 2) →
    (∀ q c', cAr rc s n k p = .inr (0, q, c') → p ≤ q → ∀ E' w' cal', kq E0 u sl tl own L q 0 (-1) cal' (c ++ c' ++ [9, nI h]) E' → calR (fun i => tl.getD i 0) (fun h => sl.getD h 0) p q cal cal' → K (.inr (some (.int (sRes s)))) E' x z w') →
    (∀ k2 pl, cAr rc s n k p = .inl (k2, pl) → ∀ E' w' p' cal' c', kq E0 u sl tl own L p' k2 pl cal' c' E' → K (.inr (some (.int (-1)))) E' x z w') →
    ux_B uxP sc (D + 3) 34 42 [.ref 9, .ref u, .ref 2, .int (nI h), .int (nI dep), .int s, .int (nI k)] [] E x z w K := by
  intro n
  induction n with
  | zero =>
    intro k p cal c E w hk m hp hL hz hS hF
    refine ux_BN 2 rfl ?_
    refine ux_Bk (j := 25) rfl rfl ?_
    refine ko_params s ?_
    rw [hN]
    refine ux_BN 1 rfl ?_
    refine ux_Byes (nI_le (by omega) (by omega)) ?_
    refine ux_BN 3 rfl ?_
    refine ux_Bv rfl rfl rfl m.ou rfl (by decide) rfl rfl ?_
    refine ko_put2 m 9 (nI h) (by obtain ⟨a1, a2, a3, a4⟩ := hz; omega) fun E2 w2 m2 => ?_
    refine ux_BN 1 rfl ?_
    refine ux_Bk (j := 18) rfl rfl ?_
    refine ko_result s ?_
    exact ux_Bri rfl (Or.inl rfl) (hS p [] rfl (Nat.le_refl _) _ _ _ (by simpa using m2) (calR.refl _ _ _ _))
  | succ n ihn =>
    intro k p cal c E w hk m hp hL hz hS hF
    have hz0 : cz 0 0 p c.length := by obtain ⟨a1, a2, a3, a4⟩ := hz; exact ⟨a1, a2, by omega, a4⟩
    refine ux_BN 2 rfl ?_
    refine ux_Bk (j := 25) rfl rfl ?_
    refine ko_params s ?_
    rw [hN]
    refine ux_BN 1 rfl ?_
    refine ux_Bno (nI_ge (by omega) (by omega)) ?_
    refine ux_BN 5 rfl ?_
    refine ux_Bk (j := 27) rfl rfl ?_
    refine ko_type s (nI k) ?_
    refine ux_BN 3 rfl ?_
    refine ux_Btop (nI (dep + 1)) (nI_1 _) ?_
    refine ux_Bv rfl rfl rfl m.o9 rfl (by decide) rfl rfl ?_
    refine ko_part ih hg m hp hz0 (sTyp s (nI k)) (fun t q c' hr g4 g1 g2 E2 w2 cal2 m2 hcal2 => ?_) (fun k2 pl hr E2 w2 p2 cal2 c2 m2 => ?_)
    · have hz2 := cz_add hz g4
      have hc1 : ∀ r, cAr rc s n (k + 1) q = r → cAr rc s (n + 1) k p = cBi r fun _ q2 c2 => .inr (0, q2, c' ++ c2) := by
        intro r hr2
        show cBi (cPa rc (sTyp s (nI k)) p) _ = _
        rw [cBi_of hr, ← hr2]
      refine ux_BN 1 rfl ?_
      refine ux_Byes (by decide) ?_
      refine ux_BN 2 rfl ?_
      have hrec := fun w => ihn (k + 1) q cal2 (c ++ c') E2 w (by omega) m2 g2 hL (by
        obtain ⟨a1, a2, a3, a4⟩ := hz2
        exact ⟨a1, a2, by rw [List.length_append]; omega, by omega⟩) (fun q3 c3 hr3 hq3 E3 w3 cal3 m3 hcal3 => hS q3 (c' ++ c3) (by rw [hc1 _ hr3]; rfl) (by omega) E3 w3 cal3 (by rw [← List.append_assoc]; exact m3) (hcal2.trans hcal3 (by omega) hq3)) (fun k2 pl hr3 => hF k2 pl (by rw [hc1 _ hr3]; rfl))
      rw [← show nI k + Int32.ofInt 1 = nI (k + 1) from nI_1 k] at hrec
      exact hrec _
    · refine ux_BN 1 rfl ?_
      refine ux_Bno (by decide) ?_
      refine ux_BN 1 rfl ?_
      exact ux_Bri rfl (Or.inl rfl) (hF k2 pl (by show cBi (cPa rc (sTyp s (nI k)) p) _ = _; rw [cBi_inl hr]) _ _ _ _ _ m2)
theorem ko_call (ih : kIH sc (D + 1) E0 u sl tl own L (dep + 1) x z rc) (hg : cGood L rc) (hL : L ≤ 30) (m : kq E0 u sl tl own L p 0 (-1) cal c E) (hp : p < L) (hz : cz 0 0 p c.length) (h : Nat) (hh : h < 8) (htk : tl.getD p 0 = nI (h + 11)) (hsg : sl.getD h 0 = -1 ∨ ∃ j, j < 64 ∧ sl.getD h 0 = nI j)
    (hS : ∀ t q c', (if sl.getD h 0 = -1 then Sum.inl (4, nI p) else cBi (cAr rc (sl.getD h 0) (sPar (sl.getD h 0)).toNatClampNeg 0 (p + 1)) fun _ q c => .inr (sRes (sl.getD h 0), q, c ++ [9, nI h])) = (.inr (t, q, c') : cR) → ∀ E' w' cal', kq E0 u sl tl own L q 0 (-1) cal' (c ++ c') E' → calR (fun i => tl.getD i 0) (fun h => sl.getD h 0) p q cal cal' → K (.inr (some (.int t))) E' x z w')
    (hF : ∀ k2 pl, (if sl.getD h 0 = -1 then Sum.inl (4, nI p) else cBi (cAr rc (sl.getD h 0) (sPar (sl.getD h 0)).toNatClampNeg 0 (p + 1)) fun _ q c => .inr (sRes (sl.getD h 0), q, c ++ [9, nI h])) = (.inl (k2, pl) : cR) → ∀ E' w' p' cal' c', kq E0 u sl tl own L p' k2 pl cal' c' E' → K (.inr (some (.int (-1)))) E' x z w') : ux_Bm uxP sc (D + 3) 34 [.ref 9, .ref u, .ref 2, .int (nI h), .int (nI dep)] E x z K := by
  show ux_B uxP sc (D + 3) 34 0 [.ref 9, .ref u, .ref 2, .int (nI h), .int (nI dep), .null, .null] [] E x z false K
  obtain ⟨hz1, hz2, hz3⟩ := cz_tok hz
  have hsl : sl.length = 8 := m.2.2.2.2.2.2.2.1.2
  refine ux_BN 2 rfl ?_
  refine ux_BildN h rfl m.osg rfl (by omega) (by omega) ?_
  refine ux_BN 4 rfl ?_
  by_cases hs : sl.getD h 0 = -1
  · rw [if_pos hs] at hF
    refine ux_Bno (not_not_intro hs) ?_
    refine ux_BN 3 rfl ?_
    refine ux_Bget rfl rfl m.o9 rfl ?_
    refine ux_Bv rfl rfl rfl m.o9 rfl (by decide) rfl rfl ?_
    refine ko_fault m 4 (nI p) fun E1 w1 m1 => ?_
    exact ux_Bri rfl (Or.inl rfl) (hF 4 (nI p) rfl _ _ _ _ _ m1)
  · rw [if_neg hs] at hF hS
    obtain ⟨j, hj, hsg⟩ := hsg.resolve_left hs
    have hN : sPar (sl.getD h 0) = nI (j % 4) := by rw [hsg]; exact sPar_nI j hj
    have hN2 : (sPar (sl.getD h 0)).toNatClampNeg = j % 4 := by rw [hN, nI_clamp (by omega)]
    rw [hN2] at hF hS
    refine ux_Byes hs ?_
    refine ux_BN 2 rfl ?_
    refine ux_Bget rfl rfl m.o9 rfl ?_
    refine ux_BN 2 rfl ?_
    refine kq_setplace m (p + 1) rfl rfl rfl (nI_1 p) fun E1 m1 => ?_
    refine ux_BN 1 rfl ?_
    refine ux_Bget rfl rfl m1.ou rfl ?_
    refine ux_BN 2 rfl ?_
    refine kq_setcalled m1 h rfl hh rfl fun E2 m2 => ?_
    refine ux_BN 2 rfl ?_
    have hcal0 : calR (fun i => tl.getD i 0) (fun h => sl.getD h 0) p (p + 1) cal (cal.set h (sl.getD h 0)) := calR_call hh htk hs m.2.2.2.2.2.1.2
    exact ko_args ih hg h hh _ (j % 4) hN (by omega) (j % 4) 0 (p + 1) _ c E2 _ (by omega) m2 (by omega) hL hz1 (fun q c' hr hq E3 w3 cal3 m3 hcal3 => hS _ q (c' ++ [9, nI h]) (by rw [cBi_of hr]) E3 w3 cal3 (by rw [← List.append_assoc]; exact m3) (hcal0.trans hcal3 (by omega) hq)) (fun k2 pl hr => hF k2 pl (by rw [cBi_inl hr]))
end KF
end
section
/-! The class's compiler: every expression, the whole text. -/
section KG
variable {sc : List Int32} {d D : Nat} {E0 E : ux_Ev} {u L p dep : Nat} {sl tl cal c : List Int32} {own fk fp : Int32} {x z : Nat} {w : Bool} {K : ux_K1}
theorem calR_not {tl sl : List Int32} {p : Nat} {a : List Int32} (h : ∀ k, k < 8 → ¬ tl.getD p 0 = nI (k + 11)) : calR (fun i => tl.getD i 0) (fun h => sl.getD h 0) p (p + 1) a a := calR_one h
theorem kx (hL : L ≤ 30) (hsg : ∀ h, h < 8 → sl.getD h 0 = -1 ∨ ∃ j, j < 64 ∧ sl.getD h 0 = nI j) : ∀ n dep, n + dep = 31 → kIH sc (3 * n + 2) E0 u sl tl own L dep x z (cx (fun i => tl.getD i 0) L own (fun h => sl.getD h 0) n) := by
  intro n
  induction n with
  | zero =>
    intro dep hdep p cal c E K m hp hz hS hF
    have hdep : dep = 31 := by omega
    subst hdep
    show ux_B uxP sc 2 20 0 [.ref 9, .ref u, .ref 2, .int (nI 31), .null] [] E x z false K
    refine ux_BN 1 rfl ?_
    refine ux_Bget rfl rfl m.ou rfl ?_
    refine ux_BN 1 rfl ?_
    refine ux_Bget rfl rfl m.o9 rfl ?_
    refine ux_Bv rfl rfl rfl m.ot rfl (by decide) rfl rfl ?_
    refine ko_has m p (by omega) hL ?_
    have hend : ∀ w, ux_B uxP sc 2 20 20 [.ref 9, .ref u, .ref 2, .int (nI 31), .null] [] E x z w K := by
      intro w
      refine ux_BN 3 rfl ?_
      refine ux_Bget rfl rfl m.o9 rfl ?_
      refine ux_Bv rfl rfl rfl m.o9 rfl (by decide) rfl rfl ?_
      refine ko_fault m 2 (nI p) fun E1 w1 m1 => ?_
      exact ux_Bri rfl (Or.inl rfl) (hF 2 (nI p) rfl _ _ _ _ _ m1)
    refine ux_BN 1 rfl ?_
    refine ux_Bif (fun h => ?_) (fun h => ?_)
    · exact hend _
    · refine ux_BN 3 rfl ?_
      refine ux_Bno (by decide) ?_
      exact hend _
  | succ n ihn =>
    intro dep hdep p cal c E K m hp hz hS hF
    have ih := ihn (dep + 1) (by omega)
    have hg := cx_good (fun i => tl.getD i 0) L own (fun h => sl.getD h 0) n
    show ux_B uxP sc (3 * n + 5) 20 0 [.ref 9, .ref u, .ref 2, .int (nI dep), .null] [] E x z false K
    refine ux_BN 1 rfl ?_
    refine ux_Bget rfl rfl m.ou rfl ?_
    refine ux_BN 1 rfl ?_
    refine ux_Bget rfl rfl m.o9 rfl ?_
    refine ux_Bv rfl rfl rfl m.ot rfl (by decide) rfl rfl ?_
    refine ko_has m p (by omega) hL ?_
    refine ux_BN 1 rfl ?_
    by_cases hpL : p < L
    · rw [if_pos hpL]
      have hcx : cx (fun i => tl.getD i 0) L own (fun h => sl.getD h 0) (n + 1) p = cStep (cx (fun i => tl.getD i 0) L own (fun h => sl.getD h 0) n) own (fun h => sl.getD h 0) (tl.getD p 0) p := by
        show (if L ≤ p then _ else _) = _
        rw [if_neg (by omega)]
      rw [hcx] at hS hF
      obtain ⟨hz1, hz2, hz3⟩ := cz_tok hz
      have hc78 := hz3 (by omega)
      have htl : tl.length = 30 := m.2.2.2.2.1.2
      refine ux_Bno (by decide) ?_
      refine ux_BN 3 rfl ?_
      refine ux_Byes (nI_le (show dep ≤ 30 by omega) (by decide)) ?_
      refine ux_BN 1 rfl ?_
      refine ux_Bget rfl rfl m.ou rfl ?_
      refine ux_Bget rfl rfl m.ot rfl ?_
      refine ux_BN 1 rfl ?_
      refine ux_Bget rfl rfl m.o9 rfl ?_
      refine ux_BildN p rfl m.otk rfl (by omega) (by omega) ?_
      generalize htok : tl.getD p 0 = t at hS hF ⊢
      refine ux_BN 2 rfl ?_
      refine ux_Bk (j := 23) rfl rfl ?_
      refine ko_isNone t ?_
      refine ux_BN 1 rfl ?_
      have hnone : (t < 0 ∨ (19 ≤ t ∧ t < 100)) → cStep (cx (fun i => tl.getD i 0) L own (fun h => sl.getD h 0) n) own (fun h => sl.getD h 0) t p = .inl (1, nI p) → ∀ w, ux_B uxP sc (3 * n + 5) 20 (if decide ((if t < 0 ∨ (19 ≤ t ∧ t < 100) then (1 : Int32) else 0) = 0) = true then 62 else 52) [.ref 9, .ref u, .ref 2, .int (nI dep), .int t] [] E x z w K := by
        intro hn hcs w
        rw [if_pos hn]
        refine ux_Bno (by decide) ?_
        refine ux_BN 3 rfl ?_
        refine ux_Bget rfl rfl m.o9 rfl ?_
        refine ux_Bv rfl rfl rfl m.o9 rfl (by decide) rfl rfl ?_
        refine ko_fault m 1 (nI p) fun E1 w1 m1 => ?_
        exact ux_Bri rfl (Or.inl rfl) (hF 1 (nI p) hcs _ _ _ _ _ m1)
      rcases pk_ix t (n := 100) (by decide) with ht | ht | ⟨k, hk, ht⟩
      · exact hnone (Or.inl ht) (cS_none1 ht) _
      · have hge : ∀ n : Nat, n < 100 → nI n < t := by
          intro n hn
          rw [Int32.lt_iff_toInt_lt, nI_toInt (by omega)]
          rw [Int32.le_iff_toInt_le] at ht
          have : (nI 100).toInt = 100 := rfl
          omega
        refine ux_Byes (if_neg (by rintro (h1 | ⟨h1, h2⟩); exact k2_nlt (Int32.le_of_lt (hge 0 (by decide))) h1; exact k2_nlt ht h2)) ?_
        refine ux_BN 3 rfl ?_
        refine ux_Byes (Int32.le_of_lt (hge 3 (by decide))) ?_
        refine ux_BN 3 rfl ?_
        refine ux_Byes (Int32.le_of_lt (hge 8 (by decide))) ?_
        refine ux_BN 3 rfl ?_
        refine ux_Byes (fun h => by have := hge 8 (by decide); rw [h] at this; exact Int32.lt_irrefl this) ?_
        refine ux_BN 3 rfl ?_
        refine ux_Byes (hge 10 (by decide)) ?_
        refine ux_BN 3 rfl ?_
        refine ux_Byes ht ?_
        refine ux_BN 6 rfl ?_
        refine ux_Bv rfl rfl rfl m.o9 rfl (by decide) rfl rfl ?_
        refine ko_constant m (t - 100) 0 (by omega) fun E1 w1 m1 => ?_
        refine ux_Bri rfl (Or.inl rfl) (hS 0 (p + 1) _ (cS_num ht) _ _ _ m1 (calR_not fun k hk h => ?_))
        rw [htok] at h
        have := hge (k + 11) (by omega)
        rw [h] at this
        exact Int32.lt_irrefl this
      subst ht
      by_cases hk19 : 19 ≤ k
      · exact hnone (Or.inr ⟨nI_le (a := 19) hk19 (by omega), nI_lt (b := 100) hk (by decide)⟩) (cS_none2 ⟨hk19, hk⟩) _
      refine ux_Byes (if_neg (cS_n0 (by omega))) ?_
      have hnc : ∀ a, k < 11 → calR (fun i => tl.getD i 0) (fun h => sl.getD h 0) p (p + 1) a a := fun a hk11 => calR_not fun j hj h => by
        rw [htok] at h
        have := (nI_eq (by omega) (by omega)).mp h
        omega
      by_cases h3 : k < 3
      · refine ux_BN 3 rfl ?_
        refine ux_Bno (nI_ge (show k < 3 from h3) (by decide)) ?_
        refine ux_BN 3 rfl ?_
        refine ux_Bv rfl rfl rfl m.o9 rfl (by decide) rfl rfl ?_
        refine ko_parameter m (nI k) (by omega) (fun h E1 w1 m1 => ?_) (fun h E1 w1 m1 => ?_)
        · exact ux_Bri rfl (Or.inl rfl) (hF 3 (nI p) (by rw [cS_par h3, if_pos h]) _ _ _ _ _ m1)
        · exact ux_Bri rfl (Or.inl rfl) (hS _ (p + 1) _ (by rw [cS_par h3, if_neg h]) _ _ _ m1 (hnc _ (by omega)))
      refine ux_BN 3 rfl ?_
      refine ux_Byes (nI_le (show 3 ≤ k by omega) (by omega)) ?_
      by_cases h8 : k < 8
      · obtain ⟨k, rfl⟩ : ∃ j, k = j + 1 := ⟨k - 1, by omega⟩
        rw [cS_sign (by omega)] at hS hF
        refine ux_BN 3 rfl ?_
        refine ux_Bno (nI_ge h8 (by decide)) ?_
        refine ux_BN 5 rfl ?_
        refine ux_Bv rfl rfl rfl m.o9 rfl (by decide) rfl rfl ?_
        refine ko_calculation ih hg hL m hpL hz k (by omega) (fun t q c' hr hq E1 w1 cal1 m1 hcal => ?_) (fun k2 pl hr E1 w1 p1 cal1 c1 m1 => ?_)
        · exact ux_Bri rfl (Or.inl rfl) (hS t q c' hr _ _ _ m1 ((hnc _ (by omega)).trans hcal (by omega) hq))
        · exact ux_Bri rfl (Or.inl rfl) (hF k2 pl hr _ _ _ _ _ m1)
      refine ux_BN 3 rfl ?_
      refine ux_Byes (nI_le (show 8 ≤ k by omega) (by omega)) ?_
      by_cases h88 : k = 8
      · subst h88
        rw [show nI 8 = 8 from rfl, cS_if] at hS hF
        refine ux_BN 3 rfl ?_
        refine ux_Bno (by decide) ?_
        refine ux_BN 4 rfl ?_
        refine ux_Bv rfl rfl rfl m.o9 rfl (by decide) rfl rfl ?_
        refine ko_choice (D := 3 * n + 1) ih hg hL m hpL hz (fun t q c' hr hq E1 w1 cal1 m1 hcal => ?_) (fun k2 pl hr E1 w1 p1 cal1 c1 m1 => ?_)
        · exact ux_Bri rfl (Or.inl rfl) (hS t q c' hr _ _ _ m1 ((hnc _ (by omega)).trans hcal (by omega) hq))
        · exact ux_Bri rfl (Or.inl rfl) (hF k2 pl hr _ _ _ _ _ m1)
      refine ux_BN 3 rfl ?_
      refine ux_Byes (nI_neq (b := 8) h88 (by omega) (by decide)) ?_
      by_cases h10 : k ≤ 10
      · refine ux_BN 3 rfl ?_
        refine ux_Bno (nI_nlt (show k ≤ 10 from h10) (by decide)) ?_
        refine ux_BN 5 rfl ?_
        have h910 : k = 9 ∨ k = 10 := by omega
        rcases h910 with rfl | rfl
        · refine ux_Bno (by decide) ?_
          refine ux_BN 3 rfl ?_
          refine ux_Bv rfl rfl rfl m.o9 rfl (by decide) rfl rfl ?_
          refine ko_constant m 1 1 (by omega) fun E1 w1 m1 => ?_
          exact ux_Bri rfl (Or.inl rfl) (hS 1 (p + 1) _ cS_true _ _ _ m1 (hnc _ (by omega)))
        · refine ux_Byes (by decide) ?_
          refine ux_BN 2 rfl ?_
          refine ux_Bv rfl rfl rfl m.o9 rfl (by decide) rfl rfl ?_
          refine ko_constant m 0 1 (by omega) fun E1 w1 m1 => ?_
          exact ux_Bri rfl (Or.inl rfl) (hS 1 (p + 1) _ cS_false _ _ _ m1 (hnc _ (by omega)))
      obtain ⟨h, rfl⟩ : ∃ h, k = h + 11 := ⟨k - 11, by omega⟩
      rw [cS_call (show h < 8 by omega)] at hS hF
      refine ux_BN 3 rfl ?_
      refine ux_Byes (nI_lt (show 10 < h + 11 by omega) (by omega)) ?_
      refine ux_BN 3 rfl ?_
      refine ux_Bno (nI_ge (show h + 11 < 100 by omega) (by decide)) ?_
      refine ux_BN 6 rfl ?_
      refine ux_Btop (nI h) (pk_sub (show 11 ≤ h + 11 by omega)) ?_
      refine ux_BN 1 rfl ?_
      refine ux_Bv rfl rfl rfl m.o9 rfl (by decide) rfl rfl ?_
      refine ko_call (D := 3 * n + 1) ih hg hL m hpL hz h (by omega) htok (hsg h (by omega)) (fun t q c' hr E1 w1 cal1 m1 hcal => ?_) (fun k2 pl hr E1 w1 p1 cal1 c1 m1 => ?_)
      · exact ux_Bri rfl (Or.inl rfl) (hS t q c' hr _ _ _ m1 hcal)
      · exact ux_Bri rfl (Or.inl rfl) (hF k2 pl hr _ _ _ _ _ m1)
    · rw [if_neg hpL]
      refine ux_Byes rfl ?_
      refine ux_BN 3 rfl ?_
      refine ux_Bget rfl rfl m.o9 rfl ?_
      refine ux_Bv rfl rfl rfl m.o9 rfl (by decide) rfl rfl ?_
      refine ko_fault m 2 (nI p) fun E1 w1 m1 => ?_
      exact ux_Bri rfl (Or.inl rfl) (hF 2 (nI p) (by show (if L ≤ p then _ else _) = _; rw [if_pos (by omega)]) _ _ _ _ _ m1)
theorem ko_compile (hL : L ≤ 30) (hsg : ∀ h, h < 8 → sl.getD h 0 = -1 ∨ ∃ j, j < 64 ∧ sl.getD h 0 = nI j) (m : kq E0 u sl tl own L p fk fp cal [] E)
    (hS : ∀ t q c, cAll (fun i => tl.getD i 0) L own (fun h => sl.getD h 0) = .inr (t, q, c) → ∀ E' w' cal' p', kq E0 u sl tl own L p' 0 (-1) cal' c E' → calR (fun i => tl.getD i 0) (fun h => sl.getD h 0) 0 L cal cal' → K (.inr none) E' x z w')
    (hF : ∀ k pl, cAll (fun i => tl.getD i 0) L own (fun h => sl.getD h 0) = .inl (k, pl) → ∀ E' w' p' cal' c', kq E0 u sl tl own L p' k pl cal' c' E' → K (.inr none) E' x z w') : ux_Bm uxP sc 98 17 [.ref 9, .ref u, .ref 2] E x z K := by
  show ux_B uxP sc 98 17 0 [.ref 9, .ref u, .ref 2] [] E x z false K
  refine ux_BN 2 rfl ?_
  refine ux_Bput rfl rfl rfl m.o9 rfl (Nat.le_of_ble_eq_true rfl) ?_
  have m1 := kq_setC m 0 fp p
  refine ux_BN 2 rfl ?_
  refine ux_Bput rfl rfl rfl m1.o9 rfl (Nat.le_of_ble_eq_true rfl) ?_
  have m2 := kq_setC m1 0 (-1) p
  refine ux_BN 2 rfl ?_
  refine kq_setplace m2 0 rfl rfl rfl rfl fun E3 m3 => ?_
  refine ux_BN 4 rfl ?_
  refine ux_Bget rfl rfl m3.ou rfl ?_
  refine ux_Bk (j := 18) rfl rfl ?_
  refine ko_result own ?_
  refine ux_BN 1 rfl ?_
  refine ux_Btop (nI 0) rfl ?_
  refine ux_Bv rfl rfl rfl m3.o9 rfl (by decide) rfl rfl ?_
  have hg := cx_good (fun i => tl.getD i 0) L own (fun h => sl.getD h 0) 31
  refine ko_part (D := 96) ((kx hL hsg 31 0 rfl).up (by decide)) hg m3 (by omega) ⟨Nat.le_refl _, 0, Nat.zero_le _, Nat.le_refl _⟩ (sRes own) (fun t q c hr g4 g1 g2 E4 w4 cal4 m4 hcal => ?_) (fun k pl hr E4 w4 p4 cal4 c4 m4 => ?_)
  · rw [List.nil_append] at m4
    have hc := cz78 g4 (by omega)
    refine ux_BN 1 rfl ?_
    refine ux_Byes (by decide) ?_
    refine ux_BN 1 rfl ?_
    refine ux_Bget rfl rfl m4.ou rfl ?_
    refine ux_BN 1 rfl ?_
    refine ux_Bget rfl rfl m4.o9 rfl ?_
    refine ux_Bv rfl rfl rfl m4.ot rfl (by decide) rfl rfl ?_
    refine ko_has m4 q (by omega) hL ?_
    refine ux_BN 1 rfl ?_
    by_cases hq : q < L
    · rw [if_pos hq]
      refine ux_Bno (by decide) ?_
      refine ux_BN 3 rfl ?_
      refine ux_Bget rfl rfl m4.o9 rfl ?_
      refine ux_Bv rfl rfl rfl m4.o9 rfl (by decide) rfl rfl ?_
      refine ko_fault m4 6 (nI q) fun E5 w5 m5 => ?_
      refine ux_BN 1 rfl ?_
      exact ux_Br rfl (hF 6 (nI q) (by unfold cAll; rw [cBi_of hr, if_pos hq]) _ _ _ _ _ m5)
    · rw [if_neg hq]
      refine ux_Byes rfl ?_
      refine ux_BN 3 rfl ?_
      refine ux_Bget rfl rfl m4.ou rfl ?_
      refine ux_Bk (j := 25) rfl rfl ?_
      refine ko_params own ?_
      refine ux_Bv rfl rfl rfl m4.ou rfl (by decide) rfl rfl ?_
      refine ko_put2 m4 10 (sPar own) (by omega) fun E5 w5 m5 => ?_
      have hqL : q = L := by omega
      subst hqL
      exact ux_Br rfl (hS t q _ (by unfold cAll; rw [cBi_of hr, if_neg hq]) _ _ _ _ m5 hcal)
  · refine ux_BN 1 rfl ?_
    refine ux_Bno (by decide) ?_
    exact ux_Br rfl (hF k pl (by unfold cAll; rw [cBi_inl hr]) _ _ _ _ _ m4)
end KG
end
section
/-! The class's texts and units. -/
def tS (E : ux_Ev) (t : Nat) (l : List Int32) : Prop := E t = some (5, [], [.ref (t + 1), .int (nI l.length)]) ∧ ∃ r, E (t + 1) = some (100, l ++ r, []) ∧ (l ++ r).length = 30
theorem tS.le {E : ux_Ev} {t : Nat} {l : List Int32} (h : tS E t l) : l.length ≤ 30 := by
  obtain ⟨_, r, _, h2⟩ := h
  rw [List.length_append] at h2; omega
theorem tS.fr {E E2 : ux_Ev} {t : Nat} {l : List Int32} (h : tS E t l) (h1 : E2 t = E t) (h2 : E2 (t + 1) = E (t + 1)) : tS E2 t l := by
  obtain ⟨a, r, b, c⟩ := h
  exact ⟨by rw [h1]; exact a, r, by rw [h2]; exact b, c⟩
theorem getD_app {l r : List Int32} {i : Nat} (h : i < l.length) : (l ++ r).getD i 0 = l.getD i 0 := by
  rw [List.getD_eq_getElem?_getD, List.getD_eq_getElem?_getD, List.getElem?_append_left h]
theorem ext_getD {l l2 : List Int32} (hl : l.length = l2.length) (h : ∀ j, j < l.length → l.getD j 0 = l2.getD j 0) : l = l2 := by
  refine List.ext_getElem hl fun j h1 h2 => ?_
  have := h j h1
  rw [List.getD_eq_getElem?_getD, List.getD_eq_getElem?_getD, List.getElem?_eq_getElem h1, List.getElem?_eq_getElem h2] at this
  exact this
section KT
variable {sc : List Int32} {d : Nat} {E : ux_Ev} {t t2 : Nat} {l l2 : List Int32} {x z : Nat} {w : Bool} {K : ux_K1}
theorem ko_hasT (h : tS E t l) (v : Int32) (hK1 : ∀ n, n < l.length → v = nI n → K (.inr (some (.int 1))) E x z false) (hK2 : v < 0 ∨ nI l.length ≤ v → K (.inr (some (.int 0))) E x z false) : ux_Bm uxP sc d 21 [.ref t, .int v] E x z K := by
  show ux_B uxP sc d 21 0 [.ref t, .int v] [] E x z false K
  have hle := h.le
  refine ux_BN 2 rfl ?_
  refine ux_Bif (fun h1 => ?_) (fun h1 => ?_)
  · refine ux_BN 1 rfl ?_
    exact ux_Bri rfl (Or.inr ⟨rfl, Or.inl rfl⟩) (hK2 (Or.inl h1))
  · refine ux_BN 2 rfl ?_
    refine ux_Bget rfl rfl h.1 rfl ?_
    refine ux_BN 1 rfl ?_
    refine ux_Bif (fun h2 => ?_) (fun h2 => ?_)
    · refine ux_BN 1 rfl ?_
      exact ux_Bri rfl (Or.inr ⟨rfl, Or.inl rfl⟩) (hK2 (Or.inr h2))
    · refine ux_BN 2 rfl ?_
      rcases pk_ix v (n := l.length) (by omega) with h3 | h3 | ⟨n, hn, h3⟩
      · exact absurd h3 h1
      · exact absurd h3 h2
      · exact ux_Bri rfl (Or.inr ⟨rfl, Or.inr rfl⟩) (hK1 n hn h3)
theorem ko_append (h : tS E t l) (y : Int32) (hK1 : l.length = 30 → K (.inr (some (.int 0))) E x z false) (hK2 : l.length < 30 → ∀ E' w', tS E' t (l ++ [y]) → (∀ b, b ≠ t → b ≠ t + 1 → E' b = E b) → K (.inr (some (.int 1))) E' x z w') : ux_Bm uxP sc d 55 [.ref t, .int y] E x z K := by
  show ux_B uxP sc d 55 0 [.ref t, .int y] [] E x z false K
  have hle := h.le
  obtain ⟨h1, r, h2, h3⟩ := h
  refine ux_BN 1 rfl ?_
  refine ux_Bget rfl rfl h1 rfl ?_
  refine ux_BN 2 rfl ?_
  refine ux_BltN l.length 30 rfl rfl (by omega) (by decide) (fun h => ?_) (fun h => ?_)
  · refine ux_BN 1 rfl ?_
    refine ux_Bget rfl rfl h1 rfl ?_
    refine ux_BN 1 rfl ?_
    refine ux_Bget rfl rfl h1 rfl ?_
    refine ux_BN 1 rfl ?_
    refine ux_BistN l.length rfl h2 rfl (by omega) (by omega) ?_
    have h1' : ux_up E (t + 1) (100, (l ++ r).set l.length y, []) t = some (5, [], [.ref (t + 1), .int (nI l.length)]) := by rw [ux_up_ne _ _ (by omega)]; exact h1
    refine ux_BN 2 rfl ?_
    refine ux_Bget rfl rfl h1' rfl ?_
    refine ux_BN 2 rfl ?_
    refine ux_Btop (nI (l ++ [y]).length) (by rw [List.length_append]; exact nI_1 _) ?_
    refine ux_Bput rfl rfl rfl h1' rfl (Nat.le_of_ble_eq_true rfl) ?_
    refine ux_BN 1 rfl ?_
    refine ux_Bri rfl (Or.inr ⟨rfl, Or.inr rfl⟩) (hK2 h _ _ ⟨ux_up_at _ _ _, ?_⟩ (fun b b1 b2 => by rw [ux_up_ne _ _ b1, ux_up_ne _ _ b2]))
    cases r with
    | nil => rw [List.append_nil] at h3; omega
    | cons a r =>
      refine ⟨r, ?_, by simp at h3 ⊢; omega⟩
      rw [ux_up_ne _ _ (by omega), ux_up_at]
      simp
  · refine ux_BN 1 rfl ?_
    exact ux_Bri rfl (Or.inr ⟨rfl, Or.inl rfl⟩) (hK1 (by omega))
theorem ko_copy (h : tS E t l) (h2 : tS E t2 l2) (hn1 : t2 ≠ t) (hn2 : t2 ≠ t + 1) (hn3 : t2 + 1 ≠ t) (hK : ∀ E' w', tS E' t l2 → (∀ b, b ≠ t → b ≠ t + 1 → E' b = E b) → K (.inr none) E' x z w') : ux_Bm uxP sc d 16 [.ref t, .ref t2] E x z K := by
  show ux_B uxP sc d 16 0 [.ref t, .ref t2, .null] [] E x z false K
  have hle := h2.le
  obtain ⟨h1, r, h3, h4⟩ := h
  obtain ⟨k1, r2, k3, k4⟩ := h2
  have hloop : ∀ n i E1 w r1, i + n = l2.length → E1 t = some (5, [], [.ref (t + 1), .int (nI l2.length)]) → E1 (t + 1) = some (100, l2.take i ++ r1, []) → (l2.take i ++ r1).length = 30 → (∀ b, b ≠ t → b ≠ t + 1 → E1 b = E b) → ux_B uxP sc d 16 10 [.ref t, .ref t2, .int (nI i)] [] E1 x z w K := by
    intro n
    induction n with
    | zero =>
      intro i E1 w r1 hi e1 e2 e3 e4
      have hi' : i = l2.length := by omega
      subst hi'
      refine ux_BN 2 rfl ?_
      refine ux_Bget rfl rfl e1 rfl ?_
      refine ux_BN 1 rfl ?_
      refine ux_Byes (nI_le (Nat.le_refl _) (by omega)) ?_
      rw [List.take_length] at e2 e3
      exact ux_Br rfl (hK _ _ ⟨e1, r1, e2, e3⟩ e4)
    | succ n ih =>
      intro i E1 w r1 hi e1 e2 e3 e4
      refine ux_BN 2 rfl ?_
      refine ux_Bget rfl rfl e1 rfl ?_
      refine ux_BN 1 rfl ?_
      refine ux_Bno (nI_ge (show i < l2.length by omega) (by omega)) ?_
      refine ux_BN 1 rfl ?_
      refine ux_Bget rfl rfl e1 rfl ?_
      refine ux_BN 2 rfl ?_
      refine ux_Bget rfl rfl (show E1 t2 = some (5, [], [.ref (t2 + 1), .int (nI l2.length)]) from by rw [e4 t2 hn1 hn2]; exact k1) rfl ?_
      refine ux_BN 1 rfl ?_
      refine ux_BildN i rfl (show E1 (t2 + 1) = some (100, l2 ++ r2, []) from by rw [e4 (t2 + 1) hn3 (by omega)]; exact k3) rfl (by omega) (by omega) ?_
      rw [getD_app (show i < l2.length by omega)]
      refine ux_BistN i rfl e2 rfl (by omega) (by omega) ?_
      refine ux_BN 2 rfl ?_
      have htk : (l2.take i).length = i := by rw [List.length_take]; omega
      cases r1 with
      | nil => rw [List.append_nil, htk] at e3; omega
      | cons a r1 =>
        have hset : (l2.take i ++ a :: r1).set i (l2.getD i 0) = l2.take (i + 1) ++ r1 := by
          rw [List.set_append_right _ _ (by omega), htk, Nat.sub_self, List.set_cons_zero]
          have : l2.take (i + 1) = l2.take i ++ [l2.getD i 0] := by
            rw [List.take_add_one, List.getD_eq_getElem?_getD, List.getElem?_eq_getElem (show i < l2.length by omega)]
            rfl
          rw [this]; simp
        have := fun w => ih (i + 1) (ux_up E1 (t + 1) (100, (l2.take i ++ a :: r1).set i (l2.getD i 0), [])) w r1 (by omega) (by rw [ux_up_ne _ _ (by omega)]; exact e1) (by rw [ux_up_at, hset]) (by rw [← hset, List.length_set]; exact e3) (fun b b1 b2 => by rw [ux_up_ne _ _ b2]; exact e4 b b1 b2)
        rw [← show nI i + Int32.ofInt 1 = nI (i + 1) from nI_1 i] at this
        exact this _
  refine ux_BN 2 rfl ?_
  refine ux_Bget rfl rfl k1 rfl ?_
  refine ux_Bput rfl rfl rfl h1 rfl (Nat.le_of_ble_eq_true rfl) ?_
  refine ux_BN 2 rfl ?_
  exact hloop l2.length 0 _ _ (l ++ r) (by omega) (ux_up_at _ _ _) (by rw [ux_up_ne _ _ (by omega)]; exact h3) h4 (fun b b1 b2 => by rw [ux_up_ne _ _ b1])
theorem ko_matches (h : tS E t l) (h2 : tS E t2 l2) (hK : K (.inr (some (.int (if l = l2 then 1 else 0)))) E x z false) : ux_Bm uxP sc d 12 [.ref t, .ref t2] E x z K := by
  show ux_B uxP sc d 12 0 [.ref t, .ref t2, .null] [] E x z false K
  have hle := h.le
  have hle2 := h2.le
  obtain ⟨h1, r, h3, h4⟩ := h
  obtain ⟨k1, r2, k3, k4⟩ := h2
  refine ux_BN 1 rfl ?_
  refine ux_Bget rfl rfl h1 rfl ?_
  refine ux_BN 1 rfl ?_
  refine ux_Bget rfl rfl k1 rfl ?_
  refine ux_BN 1 rfl ?_
  refine ux_BeqN l.length l2.length rfl rfl (by omega) (by omega) (fun hl => ?_) (fun hl => ?_)
  · have hloop : ∀ n i w, i + n = l.length → (∀ j, j < i → l.getD j 0 = l2.getD j 0) → w = false → ux_B uxP sc d 12 15 [.ref t, .ref t2, .int (nI i)] [] E x z w K := by
      intro n
      induction n with
      | zero =>
        intro i w hi hj hw
        subst hw
        refine ux_BN 2 rfl ?_
        refine ux_Bget rfl rfl h1 rfl ?_
        refine ux_BN 1 rfl ?_
        refine ux_Byes (nI_le (show l.length ≤ i by omega) (by omega)) ?_
        refine ux_BN 1 rfl ?_
        rw [if_pos (ext_getD hl fun j hj2 => hj j (by omega))] at hK
        exact ux_Bri rfl (Or.inr ⟨rfl, Or.inr rfl⟩) hK
      | succ n ih =>
        intro i w hi hj hw
        subst hw
        refine ux_BN 2 rfl ?_
        refine ux_Bget rfl rfl h1 rfl ?_
        refine ux_BN 1 rfl ?_
        refine ux_Bno (nI_ge (show i < l.length by omega) (by omega)) ?_
        refine ux_BN 1 rfl ?_
        refine ux_Bget rfl rfl h1 rfl ?_
        refine ux_BN 1 rfl ?_
        refine ux_BildN i rfl h3 rfl (by omega) (by omega) ?_
        rw [getD_app (show i < l.length by omega)]
        refine ux_BN 1 rfl ?_
        refine ux_Bget rfl rfl k1 rfl ?_
        refine ux_BN 1 rfl ?_
        refine ux_BildN i rfl k3 rfl (by omega) (by omega) ?_
        rw [getD_app (show i < l2.length by omega)]
        refine ux_BN 1 rfl ?_
        refine ux_Bif (fun h5 => ?_) (fun h5 => ?_)
        · refine ux_BN 2 rfl ?_
          have := ih (i + 1) false (by omega) (fun j hj2 => by
            by_cases hji : j = i
            · rw [hji]; exact h5
            · exact hj j (by omega)) rfl
          rw [← show nI i + Int32.ofInt 1 = nI (i + 1) from nI_1 i] at this
          exact this
        · refine ux_BN 1 rfl ?_
          rw [if_neg (fun h6 => h5 (by rw [h6]))] at hK
          exact ux_Bri rfl (Or.inr ⟨rfl, Or.inl rfl⟩) hK
    refine ux_BN 2 rfl ?_
    exact hloop l.length 0 _ (by omega) (fun j hj => by omega) rfl
  · refine ux_BN 1 rfl ?_
    rw [if_neg (fun h6 => hl (by rw [h6]))] at hK
    exact ux_Bri rfl (Or.inr ⟨rfl, Or.inl rfl⟩) hK
end KT
end
section
/-! The class's units and shelves. A unit: text, own signature, called, code. -/
abbrev sU : Type := List Int32 × Int32 × List Int32 × List Int32
def uS (E : ux_Ev) (a : Nat) (U : sU) : Prop := E a = some (6, [], [.ref (a + 1), .ref (a + 3), .ref (a + 4), .int U.2.1, .int (nI U.2.2.2.length)]) ∧ tS E (a + 1) U.1 ∧ (E (a + 3) = some (100, U.2.2.1, []) ∧ U.2.2.1.length = 8) ∧ ∃ r, E (a + 4) = some (100, U.2.2.2 ++ r, []) ∧ (U.2.2.2 ++ r).length = 122
theorem uS.fr {E E2 : ux_Ev} {a : Nat} {U : sU} (h : uS E a U) (he : ∀ b, a ≤ b → b ≤ a + 4 → E2 b = E b) : uS E2 a U := by
  obtain ⟨h1, h2, ⟨h3, h4⟩, r, h5, h6⟩ := h
  exact ⟨by rw [he _ (by omega) (by omega)]; exact h1, h2.fr (he _ (by omega) (by omega)) (he _ (by omega) (by omega)), ⟨by rw [he _ (by omega) (by omega)]; exact h3, h4⟩, r, by rw [he _ (by omega) (by omega)]; exact h5, h6⟩
def uFit (f : Nat) (sl l : List Int32) (U : sU) : Bool := decide (U.2.1 = sl.getD f 0) && (decide (U.1 = l) && (List.range 8).all fun g => decide (U.2.2.1.getD g 0 = -1) || decide (U.2.2.1.getD g 0 = sl.getD g 0))
theorem uFit_iff (f : Nat) (sl l : List Int32) (U : sU) : uFit f sl l U = true ↔ U.2.1 = sl.getD f 0 ∧ U.1 = l ∧ ∀ g, g < 8 → U.2.2.1.getD g 0 = -1 ∨ U.2.2.1.getD g 0 = sl.getD g 0 := by
  unfold uFit
  rw [Bool.and_eq_true, Bool.and_eq_true, decide_eq_true_eq, decide_eq_true_eq, List.all_eq_true]
  simp only [List.mem_range, Bool.or_eq_true, decide_eq_true_eq]
/-- a shelf: four units (address, content), the first n kept -/
def sS (E : ux_Ev) (f n : Nat) (vs : List (Nat × sU)) : Prop := E (20 + 24 * f) = some (4, [], [.ref (21 + 24 * f), .int (nI n)]) ∧ E (21 + 24 * f) = some (105, [], vs.map fun v => .ref v.1) ∧ vs.length = 4 ∧ n ≤ 3 ∧ (vs.map fun v => v.1).Nodup ∧ ∀ v, v ∈ vs → uS E v.1 v.2 ∧ ∃ k, k < 4 ∧ v.1 = 22 + 24 * f + 5 * k
section UXM
variable {P : ux_P} {sc : List Int32} {d i pc : Nat} {ls st : List Value} {E : ux_Ev} {x z : Nat} {w : Bool} {K : ux_K1}
theorem ux_Bmin {k q1 q2 : Nat} {a b : Int32} (hi : P.1 i pc = some (.invokestatic k, 3)) (hg : P.2.2.1 i k = some (8, q1, q2)) (hc : Nat.ble (st.map fun v => v.category).sum 16 = true) (kk : ux_B P sc d i (pc + 3) ls (.int (if b < a then b else a) :: st) E x z w K) : ux_B P sc d i pc ls (.int b :: .int a :: st) E x z w K := by
  intro h hw h2
  obtain ⟨o, h', E', g1, g2⟩ := kk h hw h2
  refine ⟨o, h', E', ux_Gm (pc' := pc + 3) ?_ g1, g2⟩
  simp only [ux_m1, hi, ux_sim, ux_mem, hg]
  rw [if_pos (Nat.le_of_ble_eq_true hc)]
  rfl
theorem ux_Bmax {k q1 q2 : Nat} {a b : Int32} (hi : P.1 i pc = some (.invokestatic k, 3)) (hg : P.2.2.1 i k = some (7, q1, q2)) (hc : Nat.ble (st.map fun v => v.category).sum 16 = true) (kk : ux_B P sc d i (pc + 3) ls (.int (if a < b then b else a) :: st) E x z w K) : ux_B P sc d i pc ls (.int b :: .int a :: st) E x z w K := by
  intro h hw h2
  obtain ⟨o, h', E', g1, g2⟩ := kk h hw h2
  refine ⟨o, h', E', ux_Gm (pc' := pc + 3) ?_ g1, g2⟩
  simp only [ux_m1, hi, ux_sim, ux_mem, hg]
  rw [if_pos (Nat.le_of_ble_eq_true hc)]
  rfl
/-- an element of a row of objects is read, written, at a place known as a number -/
theorem ux_BaldN (n : Nat) {a t : Nat} {j : Int32} {v : Value} {is : List Int32} {vs : List Value} (hi : P.1 i pc = some (.aaload, 1)) (hc : E a = some (t, is, vs)) (ht : 102 < t) (hj : j = nI n) (hb : n < 2 ^ 31) (hx : vs[n]? = some v)
    (kk : ux_B P sc d i (pc + 1) ls (v :: st) E x z w K) : ux_B P sc d i pc ls (.int j :: .ref a :: st) E x z w K := by
  subst hj
  exact ux_Bald hi hc ht (nI_pos hb) (by rw [nI_clamp hb]; exact hx) kk
theorem ux_BastN (n : Nat) {a t v ci : Nat} {j : Int32} {is is2 : List Int32} {vs vs2 : List Value} (hi : P.1 i pc = some (.aastore, 1)) (hc : E a = some (t, is, vs)) (hv : E v = some (ci, is2, vs2)) (ht : 102 < t) (hci : ci < 100) (hco : P.2.2.2.2.2.1 t = ci) (hj : j = nI n) (hb : n < 2 ^ 31) (hx : n < vs.length)
    (kk : ux_B P sc d i (pc + 1) ls st (ux_up E a (t, is, vs.set n (.ref v))) x z true K) : ux_B P sc d i pc ls (.ref v :: .int j :: .ref a :: st) E x z w K := by
  subst hj
  refine ux_Bast hi hc hv ht hci hco (nI_pos hb) (by rw [nI_clamp hb]; exact hx) ?_
  rw [nI_clamp hb]
  exact kk
end UXM
section KU
variable {sc : List Int32} {d : Nat} {E : ux_Ev} {a t2 f n : Nat} {l2 sl : List Int32} {U : sU} {vs : List (Nat × sU)} {x z : Nat} {w : Bool} {K : ux_K1}
theorem ko_begin (h : uS E a U) (h2 : tS E t2 l2) (hn : t2 + 1 < a ∨ a + 4 < t2) (own : Int32) (hK : ∀ E' w', uS E' a (l2, own, List.replicate 8 (-1), []) → (∀ b, b < a ∨ a + 4 < b → E' b = E b) → K (.inr none) E' x z w') : ux_Bm uxP sc (d + 1) 15 [.ref a, .ref t2, .int own] E x z K := by
  show ux_B uxP sc (d + 1) 15 0 [.ref a, .ref t2, .int own, .null] [] E x z false K
  obtain ⟨h1, ht, ⟨h3, h4⟩, r, h5, h6⟩ := h
  refine ux_BN 1 rfl ?_
  refine ux_Bget rfl rfl h1 rfl ?_
  refine ux_BN 1 rfl ?_
  refine ux_Bv rfl rfl rfl ht.1 rfl (by decide) rfl rfl ?_
  refine ko_copy ht h2 (by omega) (by omega) (by omega) fun E1 w1 t1 f1 => ?_
  refine ux_BN 2 rfl ?_
  have g1 : E1 a = some (6, [], [.ref (a + 1), .ref (a + 3), .ref (a + 4), .int U.2.1, .int (nI U.2.2.2.length)]) := by rw [f1 a (by omega) (by omega)]; exact h1
  refine ux_Bput rfl rfl rfl g1 rfl (Nat.le_of_ble_eq_true rfl) ?_
  refine ux_BN 2 rfl ?_
  refine ux_Bput rfl rfl rfl (ux_up_at _ _ _) rfl (Nat.le_of_ble_eq_true rfl) ?_
  refine ux_BN 2 rfl ?_
  have hloop : ∀ n i E2 w c, i + n = 8 → E2 a = some (6, [], [.ref (a + 1), .ref (a + 3), .ref (a + 4), .int own, .int 0]) → E2 (a + 3) = some (100, List.replicate i (-1) ++ c, []) → (List.replicate i (-1) ++ c).length = 8 → (∀ b, b ≠ a → b ≠ a + 3 → E2 b = E1 b) → ux_B uxP sc (d + 1) 15 20 [.ref a, .ref t2, .int own, .int (nI i)] [] E2 x z w K := by
    intro n
    induction n with
    | zero =>
      intro i E2 w c hi e1 e2 e3 e4
      have hi' : i = 8 := by omega
      subst hi'
      refine ux_BN 3 rfl ?_
      refine ux_Byes (by decide) ?_
      have hc : c = [] := by
        cases c with
        | nil => rfl
        | cons y c => rw [List.length_append, List.length_replicate, List.length_cons] at e3; omega
      subst hc
      rw [List.append_nil] at e2
      refine ux_Br rfl (hK _ _ ⟨e1, t1.fr (e4 _ (by omega) (by omega)) (e4 _ (by omega) (by omega)), ⟨e2, rfl⟩, U.2.2.2 ++ r, ?_, h6⟩ (fun b hb => ?_))
      · rw [e4 _ (by omega) (by omega), f1 _ (by omega) (by omega)]; exact h5
      · rw [e4 b (by omega) (by omega), f1 b (by omega) (by omega)]
    | succ n ih =>
      intro i E2 w c hi e1 e2 e3 e4
      refine ux_BN 3 rfl ?_
      refine ux_Bno (nI_ge (show i < 8 by omega) (by decide)) ?_
      refine ux_BN 1 rfl ?_
      refine ux_Bget rfl rfl e1 rfl ?_
      refine ux_BN 2 rfl ?_
      refine ux_BistN i rfl e2 rfl (by omega) (by omega) ?_
      refine ux_BN 2 rfl ?_
      cases c with
      | nil => rw [List.append_nil, List.length_replicate] at e3; omega
      | cons y c =>
        have hset : (List.replicate i (-1 : Int32) ++ y :: c).set i (-1) = List.replicate (i + 1) (-1) ++ c := by
          rw [List.set_append_right _ _ (by simp), List.length_replicate, Nat.sub_self, List.set_cons_zero, List.replicate_succ']
          simp
        have := fun w => ih (i + 1) (ux_up E2 (a + 3) (100, (List.replicate i (-1 : Int32) ++ y :: c).set i (-1), [])) w c (by omega) (by rw [ux_up_ne _ _ (by omega)]; exact e1) (by rw [ux_up_at, hset]) (by rw [← hset, List.length_set]; exact e3) (fun b b1 b2 => by rw [ux_up_ne _ _ b2]; exact e4 b b1 b2)
        rw [← show nI i + Int32.ofInt 1 = nI (i + 1) from nI_1 i] at this
        exact this _
  refine hloop 8 0 _ _ U.2.2.1 (by omega) (ux_up_at _ _ _) ?_ h4 (fun b b1 b2 => by rw [ux_up_ne _ _ b1, ux_up_ne _ _ b1])
  rw [ux_up_ne _ _ (by omega), ux_up_ne _ _ (by omega), f1 _ (by omega) (by omega)]
  exact h3
theorem ko_ufits (h : uS E a U) (h2 : tS E t2 l2) (hsl : E 2 = some (100, sl, [])) (hl : sl.length = 8) (hf : f < 8) (hK : K (.inr (some (.int (if uFit f sl l2 U = true then 1 else 0)))) E x z false) : ux_Bm uxP sc (d + 1) 11 [.ref a, .ref t2, .int (nI f), .ref 2] E x z K := by
  show ux_B uxP sc (d + 1) 11 0 [.ref a, .ref t2, .int (nI f), .ref 2, .null] [] E x z false K
  obtain ⟨h1, ht, ⟨h3, h4⟩, r, h5, h6⟩ := h
  refine ux_BN 1 rfl ?_
  refine ux_Bget rfl rfl h1 rfl ?_
  refine ux_BN 2 rfl ?_
  refine ux_BildN f rfl hsl rfl (by omega) (by omega) ?_
  refine ux_BN 1 rfl ?_
  refine ux_Bne (fun e1 => ?_) (fun e1 => ?_)
  · refine ux_BN 1 rfl ?_
    refine ux_Bget rfl rfl h1 rfl ?_
    refine ux_BN 1 rfl ?_
    refine ux_Bv rfl rfl rfl ht.1 rfl (by decide) rfl rfl ?_
    refine ko_matches ht h2 ?_
    refine ux_BN 1 rfl ?_
    by_cases e2 : U.1 = l2
    · rw [if_pos e2]
      refine ux_Byes (by decide) ?_
      refine ux_BN 2 rfl ?_
      have hloop : ∀ n i w, i + n = 8 → (∀ g, g < i → U.2.2.1.getD g 0 = -1 ∨ U.2.2.1.getD g 0 = sl.getD g 0) → w = false → ux_B uxP sc (d + 1) 11 26 [.ref a, .ref t2, .int (nI f), .ref 2, .int (nI i)] [] E x z w K := by
        intro n
        induction n with
        | zero =>
          intro i w hi hg hw
          subst hw
          have hi' : i = 8 := by omega
          subst hi'
          refine ux_BN 3 rfl ?_
          refine ux_Byes (by decide) ?_
          refine ux_BN 1 rfl ?_
          rw [if_pos ((uFit_iff f sl l2 U).mpr ⟨e1, e2, hg⟩)] at hK
          exact ux_Bri rfl (Or.inr ⟨rfl, Or.inr rfl⟩) hK
        | succ n ih =>
          intro i w hi hg hw
          subst hw
          have hnext : (U.2.2.1.getD i 0 = -1 ∨ U.2.2.1.getD i 0 = sl.getD i 0) → ux_B uxP sc (d + 1) 11 60 [.ref a, .ref t2, .int (nI f), .ref 2, .int (nI i)] [] E x z false K := by
            intro hgi
            refine ux_BN 2 rfl ?_
            have := ih (i + 1) false (by omega) (fun g hg2 => by
              by_cases hgi2 : g = i
              · rw [hgi2]; exact hgi
              · exact hg g (by omega)) rfl
            rw [← show nI i + Int32.ofInt 1 = nI (i + 1) from nI_1 i] at this
            exact this
          refine ux_BN 3 rfl ?_
          refine ux_Bno (nI_ge (show i < 8 by omega) (by decide)) ?_
          refine ux_BN 1 rfl ?_
          refine ux_Bget rfl rfl h1 rfl ?_
          refine ux_BN 1 rfl ?_
          refine ux_BildN i rfl h3 rfl (by omega) (by omega) ?_
          refine ux_BN 2 rfl ?_
          refine ux_Bif (fun e3 => ?_) (fun e3 => ?_)
          · exact hnext (Or.inl e3)
          · refine ux_BN 1 rfl ?_
            refine ux_Bget rfl rfl h1 rfl ?_
            refine ux_BN 1 rfl ?_
            refine ux_BildN i rfl h3 rfl (by omega) (by omega) ?_
            refine ux_BN 2 rfl ?_
            refine ux_BildN i rfl hsl rfl (by omega) (by omega) ?_
            refine ux_BN 1 rfl ?_
            refine ux_Bif (fun e4 => ?_) (fun e4 => ?_)
            · exact hnext (Or.inr e4)
            · refine ux_BN 1 rfl ?_
              rw [if_neg (fun h7 => (((uFit_iff f sl l2 U).mp h7).2.2 i (by omega)).elim e3 e4)] at hK
              exact ux_Bri rfl (Or.inr ⟨rfl, Or.inl rfl⟩) hK
      exact hloop 8 0 _ (by omega) (fun g hg => by omega) rfl
    · rw [if_neg e2]
      refine ux_Bno (by decide) ?_
      refine ux_BN 1 rfl ?_
      rw [if_neg (fun h7 => e2 ((uFit_iff f sl l2 U).mp h7).2.1)] at hK
      exact ux_Bri rfl (Or.inr ⟨rfl, Or.inl rfl⟩) hK
  · refine ux_BN 1 rfl ?_
    rw [if_neg (fun h7 => e1 ((uFit_iff f sl l2 U).mp h7).1)] at hK
    exact ux_Bri rfl (Or.inr ⟨rfl, Or.inl rfl⟩) hK
end KU
end
section
/-! The class's shelves. -/
def fron (i : Nat) (vs : List (Nat × sU)) : List (Nat × sU) := match vs[i]? with
  | some v => v :: vs.eraseIdx i
  | none => vs
section KS
variable {sc : List Int32} {d : Nat} {E : ux_Ev} {t2 f n : Nat} {l2 sl : List Int32} {vs : List (Nat × sU)} {x z : Nat} {w : Bool} {K : ux_K1}
theorem sS.at (h : sS E f n vs) {i : Nat} (hi : i < 4) : ∃ v, vs[i]? = some v ∧ v ∈ vs := by
  have hl := h.2.2.1
  exact ⟨vs[i], List.getElem?_eq_getElem (by omega), List.getElem_mem _⟩
theorem sS.ref (h : sS E f n vs) {i : Nat} {v : Nat × sU} (hv : vs[i]? = some v) : (vs.map fun v => Value.ref v.1)[i]? = some (.ref v.1) := by
  rw [List.getElem?_map, hv]; rfl
theorem ko_fitting (h : sS E f n vs) (h2 : tS E t2 l2) (hsl : E 2 = some (100, sl, [])) (hl : sl.length = 8) (hf : f < 8)
    (hK1 : ∀ i v, i < n → vs[i]? = some v → uFit f sl l2 v.2 = true → (∀ j v, j < i → vs[j]? = some v → ¬ uFit f sl l2 v.2 = true) → K (.inr (some (.int (nI i)))) E x z false)
    (hK2 : (∀ j v, j < n → vs[j]? = some v → ¬ uFit f sl l2 v.2 = true) → K (.inr (some (.int (-1)))) E x z false) : ux_Bm uxP sc (d + 2) 10 [.ref (20 + 24 * f), .ref t2, .int (nI f), .ref 2] E x z K := by
  show ux_B uxP sc (d + 2) 10 0 [.ref (20 + 24 * f), .ref t2, .int (nI f), .ref 2, .null] [] E x z false K
  have hn3 := h.2.2.2.1
  refine ux_BN 2 rfl ?_
  have hloop : ∀ m i w, i + m = n → (∀ j v, j < i → vs[j]? = some v → ¬ uFit f sl l2 v.2 = true) → w = false → ux_B uxP sc (d + 2) 10 3 [.ref (20 + 24 * f), .ref t2, .int (nI f), .ref 2, .int (nI i)] [] E x z w K := by
    intro m
    induction m with
    | zero =>
      intro i w hi hj hw
      subst hw
      refine ux_BN 2 rfl ?_
      refine ux_Bget rfl rfl h.1 rfl ?_
      refine ux_BN 1 rfl ?_
      refine ux_Byes (nI_le (show n ≤ i by omega) (by omega)) ?_
      refine ux_BN 1 rfl ?_
      exact ux_Bri rfl (Or.inl rfl) (hK2 fun j v hj2 => hj j v (by omega))
    | succ m ih =>
      intro i w hi hj hw
      subst hw
      obtain ⟨v, hv, hvm⟩ := h.at (show i < 4 by omega)
      refine ux_BN 2 rfl ?_
      refine ux_Bget rfl rfl h.1 rfl ?_
      refine ux_BN 1 rfl ?_
      refine ux_Bno (nI_ge (show i < n by omega) (by omega)) ?_
      refine ux_BN 1 rfl ?_
      refine ux_Bget rfl rfl h.1 rfl ?_
      refine ux_BN 1 rfl ?_
      refine ux_BaldN i rfl h.2.1 (by decide) rfl (by omega) (h.ref hv) ?_
      refine ux_BN 3 rfl ?_
      have hu := (h.2.2.2.2.2 v hvm).1
      refine ux_Bv rfl rfl rfl hu.1 rfl (by decide) rfl rfl ?_
      refine ko_ufits hu h2 hsl hl hf ?_
      refine ux_BN 1 rfl ?_
      by_cases hfit : uFit f sl l2 v.2 = true
      · rw [if_pos hfit]
        refine ux_Bno (by decide) ?_
        refine ux_BN 1 rfl ?_
        exact ux_Bri rfl (Or.inl rfl) (hK1 i v (by omega) hv hfit hj)
      · rw [if_neg hfit]
        refine ux_Byes rfl ?_
        refine ux_BN 2 rfl ?_
        have := ih (i + 1) false (by omega) (fun j v2 hj2 hv2 => by
          by_cases hji : j = i
          · subst hji
            rw [hv] at hv2; cases hv2
            exact hfit
          · exact hj j v2 (by omega) hv2) rfl
        rw [← show nI i + Int32.ofInt 1 = nI (i + 1) from nI_1 i] at this
        exact this
  exact hloop n 0 _ (by omega) (fun j v hj => by omega) rfl
theorem ko_spare (h : sS E f n vs) {v : Nat × sU} (hv : vs[n]? = some v) (hK : K (.inr (some (.ref v.1))) E x z false) : ux_Bm uxP sc d 14 [.ref (20 + 24 * f)] E x z K := by
  show ux_B uxP sc d 14 0 [.ref (20 + 24 * f)] [] E x z false K
  have hn3 := h.2.2.2.1
  refine ux_BN 1 rfl ?_
  refine ux_Bget rfl rfl h.1 rfl ?_
  refine ux_BN 1 rfl ?_
  refine ux_Bget rfl rfl h.1 rfl ?_
  refine ux_BaldN n rfl h.2.1 (by decide) rfl (by omega) (h.ref hv) ?_
  exact ux_Br rfl hK
theorem ko_latest (h : sS E f n vs) {v : Nat × sU} (hv : vs[0]? = some v) (hK : K (.inr (some (.ref v.1))) E x z false) : ux_Bm uxP sc d 38 [.ref (20 + 24 * f)] E x z K := by
  show ux_B uxP sc d 38 0 [.ref (20 + 24 * f)] [] E x z false K
  refine ux_BN 1 rfl ?_
  refine ux_Bget rfl rfl h.1 rfl ?_
  refine ux_BN 1 rfl ?_
  refine ux_BaldN 0 rfl h.2.1 (by decide) rfl (by decide) (h.ref hv) ?_
  exact ux_Br rfl hK
theorem kf_step {s : Nat} {n i : Int32} {rs : List Value} {a j b : Nat} {vs' : List Value} (h0 : E s = some (4, [], [.ref (s + 1), .int n])) (h1 : E (s + 1) = some (105, [], rs)) (hj : rs[j]? = some (.ref a)) (ha : E a = some (6, [], vs')) (hl : j + 1 < rs.length) (hb : j + 1 < 2 ^ 31)
    (hK : ∀ w, ux_B uxP sc d 36 9 [.ref s, .int i, .ref b, .int (nI j)] [] (ux_up E (s + 1) (105, [], rs.set (j + 1) (.ref a))) x z w K) : ux_B uxP sc d 36 9 [.ref s, .int i, .ref b, .int (nI (j + 1))] [] E x z w K := by
  refine ux_BN 2 rfl ?_
  refine ux_Bno (nI_nle (by omega) hb) ?_
  refine ux_BN 1 rfl ?_
  refine ux_Bget rfl rfl h0 rfl ?_
  refine ux_BN 2 rfl ?_
  refine ux_Bget rfl rfl h0 rfl ?_
  refine ux_BN 3 rfl ?_
  refine ux_BaldN j rfl h1 (by decide) (nI_pred j) (by omega) hj ?_
  refine ux_BastN (j + 1) rfl h1 ha (by decide) (by decide) rfl rfl hb hl ?_
  refine ux_BN 2 rfl ?_
  have := hK true
  rw [← show nI (j + 1) + Int32.ofInt (-1) = nI j from pk_m1 j] at this
  exact this
theorem kf_end {s : Nat} {n i : Int32} {rs : List Value} {b : Nat} {vs' : List Value} (h0 : E s = some (4, [], [.ref (s + 1), .int n])) (h1 : E (s + 1) = some (105, [], rs)) (hb : E b = some (6, [], vs')) (hl : 0 < rs.length)
    (hK : ∀ w, K (.inr none) (ux_up E (s + 1) (105, [], rs.set 0 (.ref b))) x z w) : ux_B uxP sc d 36 9 [.ref s, .int i, .ref b, .int (nI 0)] [] E x z w K := by
  refine ux_BN 2 rfl ?_
  refine ux_Byes (by decide) ?_
  refine ux_BN 1 rfl ?_
  refine ux_Bget rfl rfl h0 rfl ?_
  refine ux_BN 2 rfl ?_
  refine ux_BastN 0 rfl h1 hb (by decide) (by decide) rfl rfl (by decide) hl ?_
  exact ux_Br rfl (hK _)
theorem ko_front (h : sS E f n vs) (i : Nat) (hi : i < 4) (hK : ∀ E' w', E' (21 + 24 * f) = some (105, [], (fron i vs).map fun v => .ref v.1) → (∀ b, b ≠ 21 + 24 * f → E' b = E b) → K (.inr none) E' x z w') : ux_Bm uxP sc d 36 [.ref (20 + 24 * f), .int (nI i)] E x z K := by
  show ux_B uxP sc d 36 0 [.ref (20 + 24 * f), .int (nI i), .null, .null] [] E x z false K
  obtain ⟨v0, v1, v2, v3, rfl⟩ : ∃ v0 v1 v2 v3, vs = [v0, v1, v2, v3] := by
    have hl := h.2.2.1
    match vs, hl with
    | [v0, v1, v2, v3], _ => exact ⟨v0, v1, v2, v3, rfl⟩
  have h0 : E (20 + 24 * f) = some (4, [], [.ref (20 + 24 * f + 1), .int (nI n)]) := by rw [show 20 + 24 * f + 1 = 21 + 24 * f by omega]; exact h.1
  have h1 : E (20 + 24 * f + 1) = some (105, [], [.ref v0.1, .ref v1.1, .ref v2.1, .ref v3.1]) := by rw [show 20 + 24 * f + 1 = 21 + 24 * f by omega]; exact h.2.1
  have u0 := h.2.2.2.2.2 v0 (by simp)
  have u1 := h.2.2.2.2.2 v1 (by simp)
  have u2 := h.2.2.2.2.2 v2 (by simp)
  have u3 := h.2.2.2.2.2 v3 (by simp)
  have hup : ∀ (E : ux_Ev) (a : Nat) (c : ux_C), a < 21 + 24 * f ∨ 22 + 24 * f ≤ a → ux_up E (20 + 24 * f + 1) c a = E a := fun E a c ha => ux_up_ne _ _ (by omega)
  have hK' : ∀ E' w', E' (20 + 24 * f + 1) = some (105, [], (fron i [v0, v1, v2, v3]).map fun v => .ref v.1) → (∀ b, b ≠ 20 + 24 * f + 1 → E' b = E b) → K (.inr none) E' x z w' := by
    intro E' w' a b
    refine hK E' w' ?_ (fun b2 hb2 => b b2 (by omega))
    rw [show 20 + 24 * f + 1 = 21 + 24 * f by omega] at a
    exact a
  refine ux_BN 1 rfl ?_
  refine ux_Bget rfl rfl h0 rfl ?_
  refine ux_BN 1 rfl ?_
  have hi4 : i = 0 ∨ i = 1 ∨ i = 2 ∨ i = 3 := by omega
  rcases hi4 with rfl | rfl | rfl | rfl
  · refine ux_BaldN 0 rfl h1 (by decide) rfl (by decide) rfl ?_
    refine ux_BN 3 rfl ?_
    refine kf_end h0 h1 u0.1.1 (Nat.le_of_ble_eq_true rfl) fun w => hK' _ _ (ux_up_at _ _ _) (fun b hb => ux_up_ne _ _ hb)
  · refine ux_BaldN 1 rfl h1 (by decide) rfl (by decide) rfl ?_
    refine ux_BN 3 rfl ?_
    refine kf_step h0 h1 (j := 0) rfl u0.1.1 (Nat.le_of_ble_eq_true rfl) (by decide) fun w => ?_
    refine kf_end (by rw [hup _ _ _ (by omega)]; exact h0) (ux_up_at _ _ _) (by obtain ⟨k, hk, e⟩ := u1.2; rw [hup _ _ _ (by omega)]; exact u1.1.1) (Nat.le_of_ble_eq_true rfl) fun w => hK' _ _ (ux_up_at _ _ _) (fun b hb => by rw [ux_up_ne _ _ hb, ux_up_ne _ _ hb])
  · refine ux_BaldN 2 rfl h1 (by decide) rfl (by decide) rfl ?_
    refine ux_BN 3 rfl ?_
    refine kf_step h0 h1 (j := 1) rfl u1.1.1 (Nat.le_of_ble_eq_true rfl) (by decide) fun w => ?_
    refine kf_step (by rw [hup _ _ _ (by omega)]; exact h0) (ux_up_at _ _ _) (j := 0) rfl (by obtain ⟨k, hk, e⟩ := u0.2; rw [hup _ _ _ (by omega)]; exact u0.1.1) (Nat.le_of_ble_eq_true rfl) (by decide) fun w => ?_
    refine kf_end (by rw [hup _ _ _ (by omega), hup _ _ _ (by omega)]; exact h0) (ux_up_at _ _ _) (by obtain ⟨k, hk, e⟩ := u2.2; rw [hup _ _ _ (by omega), hup _ _ _ (by omega)]; exact u2.1.1) (Nat.le_of_ble_eq_true rfl) fun w => hK' _ _ (ux_up_at _ _ _) (fun b hb => by rw [ux_up_ne _ _ hb, ux_up_ne _ _ hb, ux_up_ne _ _ hb])
  · refine ux_BaldN 3 rfl h1 (by decide) rfl (by decide) rfl ?_
    refine ux_BN 3 rfl ?_
    refine kf_step h0 h1 (j := 2) rfl u2.1.1 (Nat.le_of_ble_eq_true rfl) (by decide) fun w => ?_
    refine kf_step (by rw [hup _ _ _ (by omega)]; exact h0) (ux_up_at _ _ _) (j := 1) rfl (by obtain ⟨k, hk, e⟩ := u1.2; rw [hup _ _ _ (by omega)]; exact u1.1.1) (Nat.le_of_ble_eq_true rfl) (by decide) fun w => ?_
    refine kf_step (by rw [hup _ _ _ (by omega), hup _ _ _ (by omega)]; exact h0) (ux_up_at _ _ _) (j := 0) rfl (by obtain ⟨k, hk, e⟩ := u0.2; rw [hup _ _ _ (by omega), hup _ _ _ (by omega)]; exact u0.1.1) (Nat.le_of_ble_eq_true rfl) (by decide) fun w => ?_
    refine kf_end (by rw [hup _ _ _ (by omega), hup _ _ _ (by omega), hup _ _ _ (by omega)]; exact h0) (ux_up_at _ _ _) (by obtain ⟨k, hk, e⟩ := u3.2; rw [hup _ _ _ (by omega), hup _ _ _ (by omega), hup _ _ _ (by omega)]; exact u3.1.1) (Nat.le_of_ble_eq_true rfl) fun w => hK' _ _ (ux_up_at _ _ _) (fun b hb => by rw [ux_up_ne _ _ hb, ux_up_ne _ _ hb, ux_up_ne _ _ hb, ux_up_ne _ _ hb])
theorem fron_map {vs : List (Nat × sU)} {i : Nat} (hl : vs.length = 4) (hi : i < 4) : (fron i vs).length = 4 ∧ (∀ v, v ∈ fron i vs ↔ v ∈ vs) ∧ ((vs.map fun v => v.1).Nodup → ((fron i vs).map fun v => v.1).Nodup) := by
  match vs, hl with
  | [v0, v1, v2, v3], _ =>
    have hi4 : i = 0 ∨ i = 1 ∨ i = 2 ∨ i = 3 := by omega
    rcases hi4 with rfl | rfl | rfl | rfl
    · refine ⟨rfl, fun v => ?_, fun h => ?_⟩
      · simp [fron]
      · simpa [fron] using h
    · refine ⟨rfl, fun v => ?_, fun h => ?_⟩
      · simp [fron]; grind
      · simp [fron] at h ⊢; grind
    · refine ⟨rfl, fun v => ?_, fun h => ?_⟩
      · simp [fron]; grind
      · simp [fron] at h ⊢; grind
    · refine ⟨rfl, fun v => ?_, fun h => ?_⟩
      · simp [fron]; grind
      · simp [fron] at h ⊢; grind
theorem sS.front (h : sS E f n vs) {i : Nat} (hi : i < 4) {E' : ux_Ev} (h1 : E' (21 + 24 * f) = some (105, [], (fron i vs).map fun v => .ref v.1)) (h2 : ∀ b, b ≠ 21 + 24 * f → E' b = E b) : sS E' f n (fron i vs) := by
  obtain ⟨a1, a2, a3, a4, a5, a6⟩ := h
  obtain ⟨b1, b2, b3⟩ := fron_map a3 hi
  refine ⟨by rw [h2 _ (by omega)]; exact a1, h1, b1, a4, b3 a5, fun v hv => ?_⟩
  obtain ⟨c1, k, hk, c2⟩ := a6 v ((b2 v).mp hv)
  exact ⟨c1.fr fun b hb1 hb2 => h2 b (by omega), k, hk, c2⟩
theorem ko_keepSpare (h : sS E f n vs) (hK : ∀ E' w', sS E' f (if n < 3 then n + 1 else 3) (fron n vs) → (∀ b, b ≠ 21 + 24 * f → b ≠ 20 + 24 * f → E' b = E b) → K (.inr none) E' x z w') : ux_Bm uxP sc (d + 1) 35 [.ref (20 + 24 * f)] E x z K := by
  show ux_B uxP sc (d + 1) 35 0 [.ref (20 + 24 * f)] [] E x z false K
  have hn3 := h.2.2.2.1
  refine ux_BN 2 rfl ?_
  refine ux_Bget rfl rfl h.1 rfl ?_
  refine ux_Bv rfl rfl rfl h.1 rfl (by decide) rfl rfl ?_
  refine ko_front h n (by omega) fun E1 w1 e1 e2 => ?_
  have h' := h.front (show n < 4 by omega) e1 e2
  refine ux_BN 2 rfl ?_
  refine ux_Bget rfl rfl h'.1 rfl ?_
  refine ux_BN 3 rfl ?_
  refine ux_Bmin rfl rfl rfl ?_
  refine ux_Btop (nI (if n < 3 then n + 1 else 3)) ?_ ?_
  · show (if nI 3 < nI n + 1 then nI 3 else nI n + 1) = _
    rw [nI_1]
    by_cases hn : n < 3
    · rw [if_pos hn, if_neg (show ¬ nI 3 < nI (n + 1) from nI_nlt (by omega) (by decide))]
    · rw [if_neg hn, if_pos (show nI 3 < nI (n + 1) from nI_lt (by omega) (by omega))]
  refine ux_Bput rfl rfl rfl h'.1 rfl (Nat.le_of_ble_eq_true rfl) ?_
  refine ux_Br rfl (hK _ _ ?_ (fun b b1 b2 => by rw [ux_up_ne _ _ b2]; exact e2 b b1))
  obtain ⟨a1, a2, a3, a4, a5, a6⟩ := h'
  refine ⟨ux_up_at _ _ _, by rw [ux_up_ne _ _ (by omega)]; exact a2, a3, by split <;> omega, a5, fun v hv => ?_⟩
  obtain ⟨c1, k, hk, c2⟩ := a6 v hv
  exact ⟨c1.fr fun b hb1 hb2 => ux_up_ne _ _ (by omega), k, hk, c2⟩
end KS
end
section
/-! The class's desk: what build does with one function. -/
def calOf (t sl : List Int32) : List Int32 := (List.range 8).map fun g => if nI (g + 11) ∈ t then sl.getD g 0 else -1
theorem calOf_len (t sl : List Int32) : (calOf t sl).length = 8 := by simp [calOf]
theorem calOf_at (t sl : List Int32) {g : Nat} (hg : g < 8) : (calOf t sl).getD g 0 = if nI (g + 11) ∈ t then sl.getD g 0 else -1 := by
  unfold calOf
  rw [List.getD_eq_getElem?_getD, List.getElem?_map, List.getElem?_range hg]
  rfl
theorem cx_congr {tk tk2 : Nat → Int32} {L : Nat} {own : Int32} {sg : Nat → Int32} (h : ∀ i, i < L → tk i = tk2 i) : ∀ n, cx tk L own sg n = cx tk2 L own sg n := by
  intro n
  induction n with
  | zero => rfl
  | succ n ih =>
    funext p
    show (if L ≤ p then _ else _) = (if L ≤ p then _ else _)
    by_cases hp : L ≤ p
    · rw [if_pos hp, if_pos hp]
    · rw [if_neg hp, if_neg hp, ih, h p (by omega)]
theorem cAll_congr {tk tk2 : Nat → Int32} {L : Nat} {own : Int32} {sg : Nat → Int32} (h : ∀ i, i < L → tk i = tk2 i) : cAll tk L own sg = cAll tk2 L own sg := by
  unfold cAll; rw [cx_congr h]
/-- what a text compiles to -/
def cOf (f : Nat) (t sl : List Int32) : cR := cAll (fun i => t.getD i 0) t.length (sl.getD f 0) (fun h => sl.getD h 0)
def sOk (sl : List Int32) : Prop := sl.length = 8 ∧ ∀ h, h < 8 → sl.getD h 0 = -1 ∨ ∃ j, j < 64 ∧ sl.getD h 0 = nI j
/-- the class's desk but for image and machine -/
def cS (E : ux_Ev) (sl : List Int32) (tx : Nat → List Int32) (us : Nat → List sU) (fk fp dn ct : List Int32) : Prop :=
  E 1 = some (0, [], [.ref 2, .ref 3, .ref 4, .ref 5, .ref 6, .ref 7, .ref 8, .ref 9, .ref 10, .ref 14]) ∧ E 2 = some (100, sl, []) ∧ sOk sl ∧ E 3 = some (103, [], (List.range 8).map fun f => .ref (18 + 24 * f)) ∧ E 4 = some (104, [], (List.range 8).map fun f => .ref (20 + 24 * f)) ∧ (E 5 = some (100, fk, []) ∧ fk.length = 8) ∧ (E 6 = some (100, fp, []) ∧ fp.length = 8) ∧ (E 7 = some (100, dn, []) ∧ dn.length = 8) ∧ (E 8 = some (100, ct, []) ∧ ct.length = 5) ∧ (∃ a b p, E 9 = some (1, [], [.int a, .int b, .int (nI p)])) ∧ ∀ f, f < 8 → tS E (18 + 24 * f) (tx f) ∧ ∃ n vs, sS E f n vs ∧ us f = (vs.take n).map fun v => v.2
theorem rng_at {g : Nat → Value} {f : Nat} (hf : f < 8) : ((List.range 8).map g)[f]? = some (g f) := by
  rw [List.getElem?_map, List.getElem?_range hf]; rfl
theorem tS.frL {E E2 : ux_Ev} {t : Nat} {l : List Int32} (h : tS E t l) (he : ∀ b, t ≤ b → b ≤ t + 1 → E2 b = E b) : tS E2 t l := h.fr (he _ (by omega) (by omega)) (he _ (by omega) (by omega))
theorem sS.frL {E E2 : ux_Ev} {f n : Nat} {vs : List (Nat × sU)} (h : sS E f n vs) (he : ∀ b, 20 + 24 * f ≤ b → b ≤ 41 + 24 * f → E2 b = E b) : sS E2 f n vs := by
  obtain ⟨a1, a2, a3, a4, a5, a6⟩ := h
  refine ⟨by rw [he _ (by omega) (by omega)]; exact a1, by rw [he _ (by omega) (by omega)]; exact a2, a3, a4, a5, fun v hv => ?_⟩
  obtain ⟨c1, k, hk, c2⟩ := a6 v hv
  exact ⟨c1.fr fun b hb1 hb2 => he b (by omega) (by omega), k, hk, c2⟩
/-- one content changes -/
theorem sS.put {E E2 : ux_Ev} {f n i : Nat} {vs : List (Nat × sU)} (h : sS E f n vs) {v : Nat × sU} (hv : vs[i]? = some v) (U : sU) (hU : uS E2 v.1 U) (he : ∀ b, b < v.1 ∨ v.1 + 4 < b → 20 + 24 * f ≤ b → b ≤ 41 + 24 * f → E2 b = E b) : sS E2 f n (vs.set i (v.1, U)) := by
  obtain ⟨a1, a2, a3, a4, a5, a6⟩ := h
  have hvm : v ∈ vs := List.mem_of_getElem? hv
  have hi : i < vs.length := (List.getElem?_eq_some_iff.mp hv).1
  obtain ⟨_, k, hk, hvk⟩ := a6 v hvm
  have hm : ((vs.set i (v.1, U)).map fun v => v.1) = vs.map fun v => v.1 := by
    rw [List.map_set]
    refine List.ext_getElem? fun j => ?_
    by_cases hji : j = i
    · subst hji
      rw [List.getElem?_set_self (by simpa using hi), List.getElem?_map, hv]; rfl
    · rw [List.getElem?_set_ne (fun h => hji h.symm)]
  have hm2 : ((vs.set i (v.1, U)).map fun v => Value.ref v.1) = vs.map fun v => Value.ref v.1 := by
    rw [show ((vs.set i (v.1, U)).map fun v => Value.ref v.1) = ((vs.set i (v.1, U)).map fun v => v.1).map Value.ref from by rw [List.map_map]; rfl, hm, List.map_map]; rfl
  refine ⟨by rw [he _ (by omega) (by omega) (by omega)]; exact a1, by rw [he _ (by omega) (by omega) (by omega), hm2]; exact a2, by rw [List.length_set]; exact a3, a4, by rw [hm]; exact a5, fun y hy => ?_⟩
  obtain ⟨j, hj⟩ := List.getElem?_of_mem hy
  by_cases hji : j = i
  · subst hji
    rw [List.getElem?_set_self hi] at hj
    cases hj
    exact ⟨hU, k, hk, hvk⟩
  · rw [List.getElem?_set_ne (fun h => hji h.symm)] at hj
    obtain ⟨c1, k2, hk2, c2⟩ := a6 y (List.mem_of_getElem? hj)
    refine ⟨c1.fr fun b hb1 hb2 => he b ?_ (by omega) (by omega), k2, hk2, c2⟩
    have hne : y.1 ≠ v.1 := by
      intro hyv
      have hjl : j < vs.length := (List.getElem?_eq_some_iff.mp hj).1
      have h1 : (vs.map fun v => v.1)[j]'(by simpa using hjl) = v.1 := by
        rw [List.getElem_map, (List.getElem?_eq_some_iff.mp hj).2, hyv]
      have h2 : (vs.map fun v => v.1)[i]'(by simpa using hi) = v.1 := by
        rw [List.getElem_map, (List.getElem?_eq_some_iff.mp hv).2]
      have h3 := List.pairwise_iff_getElem.mp a5
      rcases Nat.lt_or_gt_of_ne hji with hlt | hgt
      · exact h3 j i (by simpa using hjl) (by simpa using hi) hlt (h1.trans h2.symm)
      · exact h3 i j (by simpa using hi) (by simpa using hjl) hgt (h2.trans h1.symm)
    omega
section KD
variable {sc : List Int32} {d : Nat} {E : ux_Ev} {f : Nat} {sl fk fp dn ct : List Int32} {tx : Nat → List Int32} {us : Nat → List sU} {x z : Nat} {w : Bool} {K : ux_K1}
/-- from a unit just begun to the compiler's state -/
theorem kq_of {a L : Nat} {own fa fb : Int32} {p : Nat} {t : List Int32} (ha : 18 ≤ a) (hu : uS E a (t, own, List.replicate 8 (-1), [])) (h9 : E 9 = some (1, [], [.int fa, .int fb, .int (nI p)])) (h2 : E 2 = some (100, sl, [])) (hl : sl.length = 8) (hL : L = t.length) : ∃ r, (t ++ r).length = 30 ∧ kq E a sl (t ++ r) own L p fa fb (List.replicate 8 (-1)) [] E := by
  obtain ⟨h1, ⟨ht1, r, ht2, ht3⟩, ⟨h3, h4⟩, r4, h5, h6⟩ := hu
  subst hL
  exact ⟨r, ht3, ha, h9, h1, ht1, ⟨ht2, ht3⟩, ⟨h3, h4⟩, ⟨r4, h5, h6⟩, ⟨h2, hl⟩, fun _ _ _ _ _ => rfl⟩
theorem uS_of {E0 : ux_Ev} {a p : Nat} {own fa fb : Int32} {t r cal c : List Int32} (m : kq E0 a sl (t ++ r) own t.length p fa fb cal c E) : uS E a (t, own, cal, c) := by
  obtain ⟨hu, h9, hu0, hu1, hu2, hu3, ⟨t4, hu4, hl4⟩, h2, hE⟩ := m
  exact ⟨hu0, ⟨hu1, r, hu2.1, hu2.2⟩, hu3, t4, hu4, hl4⟩
theorem cal_of {t r cal : List Int32} (hr : (t ++ r).length = 30) (hc : cal.length = 8) (h : calR (fun i => (t ++ r).getD i 0) (fun h => sl.getD h 0) 0 t.length (List.replicate 8 (-1)) cal) : cal = calOf t sl ∧ ∀ g, g < 8 → nI (g + 11) ∈ t → ¬ sl.getD g 0 = -1 := by
  have hiff : ∀ g, (∃ i, 0 ≤ i ∧ i < t.length ∧ (t ++ r).getD i 0 = nI (g + 11)) ↔ nI (g + 11) ∈ t := by
    intro g
    constructor
    · rintro ⟨i, _, hi, h⟩
      rw [getD_app hi, List.getD_eq_getElem?_getD, List.getElem?_eq_getElem hi] at h
      rw [← h]
      exact List.getElem_mem hi
    · intro h
      obtain ⟨i, hi, h2⟩ := List.getElem_of_mem h
      refine ⟨i, Nat.zero_le _, hi, ?_⟩
      rw [getD_app hi, List.getD_eq_getElem?_getD, List.getElem?_eq_getElem hi]
      exact h2
  refine ⟨ext_getD (by rw [hc, calOf_len]) fun g hg => ?_, fun g hg hm => ((h g hg).1 ((hiff g).mpr hm)).2⟩
  have hg8 : g < 8 := by omega
  rw [calOf_at t sl hg8]
  by_cases hm : nI (g + 11) ∈ t
  · rw [if_pos hm]
    exact ((h g hg8).1 ((hiff g).mpr hm)).1
  · rw [if_neg hm, (h g hg8).2 (fun h2 => hm ((hiff g).mp h2))]
    have : g = 0 ∨ g = 1 ∨ g = 2 ∨ g = 3 ∨ g = 4 ∨ g = 5 ∨ g = 6 ∨ g = 7 := by omega
    rcases this with rfl | rfl | rfl | rfl | rfl | rfl | rfl | rfl <;> rfl
end KD
end
section
/-! The class's desk: compileAnew and renew. -/
theorem cPa_k {rc : Nat → cR} (h : ∀ p k pl, rc p = .inl (k, pl) → ¬ k ≤ 0) {want : Int32} {p : Nat} {k pl : Int32} (hp : cPa rc want p = .inl (k, pl)) : ¬ k ≤ 0 := by
  unfold cPa cBi at hp
  split at hp
  · rename_i e he
    cases hp
    exact h _ _ _ he
  · dsimp only at hp
    split at hp
    · cases hp
    · cases hp; decide
theorem cBi_k {r : cR} {k2 : Int32 → Nat → List Int32 → cR} {k pl : Int32} (hp : cBi r k2 = .inl (k, pl)) : r = .inl (k, pl) ∨ ∃ t q c, r = .inr (t, q, c) ∧ k2 t q c = .inl (k, pl) := by
  unfold cBi at hp
  split at hp
  · cases hp; exact Or.inl rfl
  · exact Or.inr ⟨_, _, _, rfl, hp⟩
theorem cAr_k {rc : Nat → cR} (h : ∀ p k pl, rc p = .inl (k, pl) → ¬ k ≤ 0) (s : Int32) : ∀ n j p k pl, cAr rc s n j p = .inl (k, pl) → ¬ k ≤ 0 := by
  intro n
  induction n with
  | zero => intro j p k pl hp; cases hp
  | succ n ih =>
    intro j p k pl hp
    rcases cBi_k hp with hp | ⟨t, q, c, _, hp⟩
    · exact cPa_k h hp
    · rcases cBi_k hp with hp | ⟨t, q, c, _, hp⟩
      · exact ih _ _ _ _ hp
      · cases hp
theorem cx_k (tk : Nat → Int32) (L : Nat) (own : Int32) (sg : Nat → Int32) : ∀ n p k pl, cx tk L own sg n p = .inl (k, pl) → ¬ k ≤ 0 := by
  intro n
  induction n with
  | zero => intro p k pl hp; cases hp; decide
  | succ n ih =>
    intro p k pl hp
    unfold cx at hp
    split at hp
    · cases hp; decide
    unfold cStep at hp
    split at hp
    · cases hp; decide
    split at hp
    · split at hp
      · cases hp; decide
      · cases hp
    split at hp
    · rcases cBi_k hp with hp | ⟨t, q, c, _, hp⟩
      · exact cPa_k ih hp
      · rcases cBi_k hp with hp | ⟨t, q, c, _, hp⟩
        · exact cPa_k ih hp
        · cases hp
    split at hp
    · rcases cBi_k hp with hp | ⟨t, q, c, _, hp⟩
      · exact cPa_k ih hp
      · rcases cBi_k hp with hp | ⟨t, q, c, _, hp⟩
        · exact ih _ _ _ hp
        · rcases cBi_k hp with hp | ⟨t, q, c, _, hp⟩
          · exact cPa_k ih hp
          · cases hp
    split at hp
    · cases hp
    split at hp
    · split at hp
      · cases hp; decide
      · rcases cBi_k hp with hp | ⟨t, q, c, _, hp⟩
        · exact cAr_k ih _ _ _ _ _ _ hp
        · cases hp
    · cases hp
theorem cAll_k {tk : Nat → Int32} {L : Nat} {own : Int32} {sg : Nat → Int32} {k pl : Int32} (hp : cAll tk L own sg = .inl (k, pl)) : ¬ k ≤ 0 := by
  unfold cAll at hp
  rcases cBi_k hp with hp | ⟨t, q, c, _, hp⟩
  · exact cPa_k (cx_k tk L own sg 31) hp
  · split at hp
    · cases hp; decide
    · cases hp
theorem getD_ne {l : List Int32} {i j : Nat} {y : Int32} (h : j ≠ i) : (l.set i y).getD j 0 = l.getD j 0 := by
  rw [List.getD_eq_getElem?_getD, List.getD_eq_getElem?_getD, List.getElem?_set_ne (fun h2 => h h2.symm)]
section KR
variable {sc : List Int32} {d : Nat} {E : ux_Ev} {f : Nat} {sl fk fp dn ct : List Int32} {tx : Nat → List Int32} {us : Nat → List sU} {x z : Nat} {w : Bool} {K : ux_K1}
theorem cS.upd (h : cS E sl tx us fk fp dn ct) {E2 : ux_Ev} {fk2 fp2 dn2 ct2 : List Int32} (he : ∀ b, b < 5 ∨ 9 < b → E2 b = E b) (h5 : E2 5 = some (100, fk2, []) ∧ fk2.length = 8) (h6 : E2 6 = some (100, fp2, []) ∧ fp2.length = 8) (h7 : E2 7 = some (100, dn2, []) ∧ dn2.length = 8) (h8 : E2 8 = some (100, ct2, []) ∧ ct2.length = 5) (h9 : ∃ a b p, E2 9 = some (1, [], [.int a, .int b, .int (nI p)])) : cS E2 sl tx us fk2 fp2 dn2 ct2 := by
  obtain ⟨c1, c2, c3, c4, c5, _, _, _, _, _, c11⟩ := h
  refine ⟨by rw [he _ (by omega)]; exact c1, by rw [he _ (by omega)]; exact c2, c3, by rw [he _ (by omega)]; exact c4, by rw [he _ (by omega)]; exact c5, h5, h6, h7, h8, h9, fun f hf => ?_⟩
  obtain ⟨t1, n, vs, t2, t3⟩ := c11 f hf
  exact ⟨t1.frL fun b hb1 hb2 => he b (by omega), n, vs, t2.frL (fun b hb1 hb2 => he b (by omega)), t3⟩
theorem cS.s5 (h : cS E sl tx us fk fp dn ct) (n : Nat) (y : Int32) : cS (ux_up E 5 (100, fk.set n y, [])) sl tx us (fk.set n y) fp dn ct := by
  have h' := h
  obtain ⟨c1, c2, c3, c4, c5, c6, c7, c8, c9, c10, c11⟩ := h
  exact h'.upd (fun b hb => ux_up_ne _ _ (by omega)) ⟨ux_up_at _ _ _, by rw [List.length_set]; exact c6.2⟩ (by rw [ux_up_ne _ _ (by omega)]; exact c7) (by rw [ux_up_ne _ _ (by omega)]; exact c8) (by rw [ux_up_ne _ _ (by omega)]; exact c9) (by rw [ux_up_ne _ _ (by omega)]; exact c10)
theorem cS.s6 (h : cS E sl tx us fk fp dn ct) (n : Nat) (y : Int32) : cS (ux_up E 6 (100, fp.set n y, [])) sl tx us fk (fp.set n y) dn ct := by
  have h' := h
  obtain ⟨c1, c2, c3, c4, c5, c6, c7, c8, c9, c10, c11⟩ := h
  exact h'.upd (fun b hb => ux_up_ne _ _ (by omega)) (by rw [ux_up_ne _ _ (by omega)]; exact c6) ⟨ux_up_at _ _ _, by rw [List.length_set]; exact c7.2⟩ (by rw [ux_up_ne _ _ (by omega)]; exact c8) (by rw [ux_up_ne _ _ (by omega)]; exact c9) (by rw [ux_up_ne _ _ (by omega)]; exact c10)
theorem cS.s7 (h : cS E sl tx us fk fp dn ct) (n : Nat) (y : Int32) : cS (ux_up E 7 (100, dn.set n y, [])) sl tx us fk fp (dn.set n y) ct := by
  have h' := h
  obtain ⟨c1, c2, c3, c4, c5, c6, c7, c8, c9, c10, c11⟩ := h
  exact h'.upd (fun b hb => ux_up_ne _ _ (by omega)) (by rw [ux_up_ne _ _ (by omega)]; exact c6) (by rw [ux_up_ne _ _ (by omega)]; exact c7) ⟨ux_up_at _ _ _, by rw [List.length_set]; exact c8.2⟩ (by rw [ux_up_ne _ _ (by omega)]; exact c9) (by rw [ux_up_ne _ _ (by omega)]; exact c10)
theorem cS.s8 (h : cS E sl tx us fk fp dn ct) (n : Nat) (y : Int32) : cS (ux_up E 8 (100, ct.set n y, [])) sl tx us fk fp dn (ct.set n y) := by
  have h' := h
  obtain ⟨c1, c2, c3, c4, c5, c6, c7, c8, c9, c10, c11⟩ := h
  exact h'.upd (fun b hb => ux_up_ne _ _ (by omega)) (by rw [ux_up_ne _ _ (by omega)]; exact c6) (by rw [ux_up_ne _ _ (by omega)]; exact c7) (by rw [ux_up_ne _ _ (by omega)]; exact c8) ⟨ux_up_at _ _ _, by rw [List.length_set]; exact c9.2⟩ (by rw [ux_up_ne _ _ (by omega)]; exact c10)
theorem cS.dnc (h : cS E sl tx us fk fp dn ct) {dn2 : List Int32} (hd : dn = dn2) : cS E sl tx us fk fp dn2 ct := hd ▸ h
theorem cS.shelf (h : cS E sl tx us fk fp dn ct) (hf : f < 8) {E2 : ux_Ev} {n : Nat} {vs : List (Nat × sU)} (hs : sS E2 f n vs) (h9 : ∃ a b p, E2 9 = some (1, [], [.int a, .int b, .int (nI p)])) (he : ∀ b, b ≠ 9 → b < 20 + 24 * f ∨ 41 + 24 * f < b → E2 b = E b) {l : List sU} (hl : l = (vs.take n).map fun v => v.2) : cS E2 sl tx (fU us f l) fk fp dn ct := by
  obtain ⟨c1, c2, c3, c4, c5, c6, c7, c8, c9, c10, c11⟩ := h
  refine ⟨by rw [he _ (by omega) (by omega)]; exact c1, by rw [he _ (by omega) (by omega)]; exact c2, c3, by rw [he _ (by omega) (by omega)]; exact c4, by rw [he _ (by omega) (by omega)]; exact c5, by rw [he _ (by omega) (by omega)]; exact c6, by rw [he _ (by omega) (by omega)]; exact c7, by rw [he _ (by omega) (by omega)]; exact c8, by rw [he _ (by omega) (by omega)]; exact c9, h9, fun g hg => ?_⟩
  obtain ⟨t1, n2, vs2, t2, t3⟩ := c11 g hg
  refine ⟨t1.frL fun b hb1 hb2 => he b (by omega) (by omega), ?_⟩
  by_cases hgf : g = f
  · subst hgf
    exact ⟨n, vs, hs, by rw [fU_at]; exact hl⟩
  · exact ⟨n2, vs2, t2.frL (fun b hb1 hb2 => he b (by omega) (by omega)), by rw [fU_ne _ _ hgf]; exact t3⟩
theorem keep_list {vs : List (Nat × sU)} {n : Nat} (hl : vs.length = 4) (hn : n ≤ 3) (a : Nat) (U : sU) : (U :: (vs.take n).map fun v => v.2).take 3 = ((fron n (vs.set n (a, U))).take (if n < 3 then n + 1 else 3)).map fun v => v.2 := by
  match vs, hl with
  | [v0, v1, v2, v3], _ =>
    have : n = 0 ∨ n = 1 ∨ n = 2 ∨ n = 3 := by omega
    rcases this with rfl | rfl | rfl | rfl <;> rfl
theorem front_list {vs : List (Nat × sU)} {n i : Nat} {v : Nat × sU} (hl : vs.length = 4) (hn : n ≤ 3) (hi : i < n) (hv : vs[i]? = some v) : v.2 :: ((vs.take n).map fun v => v.2).eraseIdx i = ((fron i vs).take n).map fun v => v.2 := by
  match vs, hl with
  | [v0, v1, v2, v3], _ =>
    have h1 : n = 1 ∨ n = 2 ∨ n = 3 := by omega
    have h2 : i = 0 ∨ i = 1 ∨ i = 2 := by omega
    rcases h1 with rfl | rfl | rfl <;> rcases h2 with rfl | rfl | rfl <;> first | omega | (cases hv; rfl)
theorem ko_compileAnew (h : cS E sl tx us fk fp dn ct) (hf : f < 8)
    (hC : ∀ k pl, cOf f (tx f) sl = .inl (k, pl) → ∀ E' w', cS E' sl tx us (fk.set f k) (fp.set f pl) (dn.set f 2) (((ct.set 1 (ct.getD 1 0 + 1)).set 4 (ct.getD 4 0 + 1)).set 2 (ct.getD 2 0 + 1)) → (∀ b, b < 5 ∨ 9 < b → b < 20 + 24 * f ∨ 41 + 24 * f < b → E' b = E b) → K (.inr none) E' x z w')
    (hD : ∀ t q c, cOf f (tx f) sl = .inr (t, q, c) → (∀ g, g < 8 → nI (g + 11) ∈ tx f → ¬ sl.getD g 0 = -1) → ∀ E' w', cS E' sl tx (fU us f (((tx f, sl.getD f 0, calOf (tx f) sl, c) :: us f).take 3)) fk fp (dn.set f 2) ((ct.set 1 (ct.getD 1 0 + 1)).set 4 (ct.getD 4 0 + 1)) → (∀ b, b < 5 ∨ 9 < b → b < 20 + 24 * f ∨ 41 + 24 * f < b → E' b = E b) → K (.inr none) E' x z w') : ux_Bm uxP sc 99 13 [.ref 1, .int (nI f)] E x z K := by
  show ux_B uxP sc 99 13 0 [.ref 1, .int (nI f), .null] [] E x z false K
  have h' := h
  obtain ⟨c1, c2, c3, c4, c5, c6, c7, c8, c9, c10, c11⟩ := h
  obtain ⟨t1, n, vs, hs, hus⟩ := c11 f hf
  have hn3 := hs.2.2.2.1
  have hvl := hs.2.2.1
  obtain ⟨v, hv, hvm⟩ := hs.at (show n < 4 by omega)
  obtain ⟨hu, k, hk, hvk⟩ := hs.2.2.2.2.2 v hvm
  refine ux_BN 1 rfl ?_
  refine ux_Bget rfl rfl c1 rfl ?_
  refine ux_BN 1 rfl ?_
  refine ux_BaldN f rfl c5 (by decide) rfl (by omega) (rng_at hf) ?_
  refine ux_Bv rfl rfl rfl hs.1 rfl (by decide) rfl rfl ?_
  refine ko_spare hs hv ?_
  refine ux_BN 3 rfl ?_
  refine ux_Bget rfl rfl c1 rfl ?_
  refine ux_BN 1 rfl ?_
  refine ux_BaldN f rfl c4 (by decide) rfl (by omega) (rng_at hf) ?_
  refine ux_BN 1 rfl ?_
  refine ux_Bget rfl rfl c1 rfl ?_
  refine ux_BN 1 rfl ?_
  refine ux_BildN f rfl c2 rfl (by omega) (by rw [c3.1]; exact hf) ?_
  refine ux_Bv rfl rfl rfl hu.1 rfl (by decide) rfl rfl ?_
  refine ko_begin hu t1 (by omega) (sl.getD f 0) fun E1 w1 u1 f1 => ?_
  obtain ⟨a9, b9, p9, e9⟩ := c10
  obtain ⟨r, hr, m1⟩ := kq_of (L := (tx f).length) (show 18 ≤ v.1 by omega) u1 (by rw [f1 _ (by omega)]; exact e9) (by rw [f1 _ (by omega)]; exact c2) c3.1 rfl
  have hcg : cAll (fun i => (tx f ++ r).getD i 0) (tx f).length (sl.getD f 0) (fun h => sl.getD h 0) = cOf f (tx f) sl := cAll_congr fun i hi => getD_app hi
  have d1 : E1 1 = some (0, [], [.ref 2, .ref 3, .ref 4, .ref 5, .ref 6, .ref 7, .ref 8, .ref 9, .ref 10, .ref 14]) := by rw [f1 _ (by omega)]; exact c1
  refine ux_BN 1 rfl ?_
  refine ux_Bget rfl rfl d1 rfl ?_
  refine ux_BN 2 rfl ?_
  refine ux_Bget rfl rfl d1 rfl ?_
  refine ux_Bv rfl rfl rfl m1.o9 rfl (by decide) rfl rfl ?_
  -- what stands after compiling, before the rows are written
  have hmid : ∀ (E2 : ux_Ev) (fa fb : Int32) (p2 : Nat) (cal c : List Int32), kq E1 v.1 sl (tx f ++ r) (sl.getD f 0) (tx f).length p2 fa fb cal c E2 → cS E2 sl tx us fk fp dn ct ∧ sS E2 f n (vs.set n (v.1, (tx f, sl.getD f 0, cal, c))) ∧ ∀ b, b ≠ 9 → b < v.1 ∨ v.1 + 4 < b → E2 b = E b := by
    intro E2 fa fb p2 cal c m2
    have hfr : ∀ b, b ≠ 9 → b < v.1 ∨ v.1 + 4 < b → E2 b = E b := fun b hb9 hb => by
      rw [m2.2.2.2.2.2.2.2.2 b hb9 (by omega) (by omega) (by omega), f1 b hb]
    have hs2 : sS E2 f n (vs.set n (v.1, (tx f, sl.getD f 0, cal, c))) := hs.put hv _ (uS_of m2) fun b hb _ _ => hfr b (by omega) hb
    refine ⟨?_, hs2, hfr⟩
    have := h'.shelf hf hs2 ⟨_, _, _, m2.o9⟩ (fun b hb9 hb => hfr b hb9 (by omega)) (l := us f) (by
      rw [hus, List.take_set_of_le (Nat.le_refl n)])
    rwa [show fU us f (us f) = us from funext fun j => by unfold fU; split; rename_i hj; rw [hj]; rfl] at this
  -- deeds and counts
  have hrows : ∀ (E2 : ux_Ev) (fa fb : Int32) (p2 : Nat) (w : Bool), cS E2 sl tx us fk fp dn ct → E2 9 = some (1, [], [.int fa, .int fb, .int (nI p2)]) → (∀ E3 w3, cS E3 sl tx us fk fp (dn.set f 2) ((ct.set 1 (ct.getD 1 0 + 1)).set 4 (ct.getD 4 0 + 1)) → (∀ b, b ≠ 7 → b ≠ 8 → E3 b = E2 b) → ux_B uxP sc 99 13 65 [.ref 1, .int (nI f), .ref v.1] [] E3 x z w3 K) → ux_B uxP sc 99 13 38 [.ref 1, .int (nI f), .ref v.1] [] E2 x z w K := by
    intro E2 fa fb p2 w k1 o9 hK
    refine ux_BN 1 rfl ?_
    refine ux_Bget rfl rfl k1.1 rfl ?_
    refine ux_BN 2 rfl ?_
    refine ux_BistN f rfl k1.2.2.2.2.2.2.2.1.1 rfl (by omega) (by rw [k1.2.2.2.2.2.2.2.1.2]; exact hf) ?_
    have j1 := k1.s7 f 2
    refine ux_BN 1 rfl ?_
    refine ux_Bget rfl rfl j1.1 rfl ?_
    refine ux_BN 2 rfl ?_
    refine ux_BildN 1 rfl j1.2.2.2.2.2.2.2.2.1.1 rfl (by decide) (by rw [j1.2.2.2.2.2.2.2.2.1.2]; decide) ?_
    refine ux_BN 2 rfl ?_
    refine ux_BistN 1 rfl j1.2.2.2.2.2.2.2.2.1.1 rfl (by decide) (by rw [j1.2.2.2.2.2.2.2.2.1.2]; decide) ?_
    have j2 := j1.s8 1 (ct.getD 1 0 + 1)
    refine ux_BN 1 rfl ?_
    refine ux_Bget rfl rfl j2.1 rfl ?_
    refine ux_BN 2 rfl ?_
    refine ux_BildN 4 rfl j2.2.2.2.2.2.2.2.2.1.1 rfl (by decide) (by rw [j2.2.2.2.2.2.2.2.2.1.2]; decide) ?_
    refine ux_Btop (ct.getD 4 0) (getD_ne (by decide)) ?_
    refine ux_BN 2 rfl ?_
    refine ux_BistN 4 rfl j2.2.2.2.2.2.2.2.2.1.1 rfl (by decide) (by rw [j2.2.2.2.2.2.2.2.2.1.2]; decide) ?_
    have j3 := j2.s8 4 (ct.getD 4 0 + 1)
    exact hK _ _ j3 fun b b1 b2 => by rw [ux_up_ne _ _ b2, ux_up_ne _ _ b2, ux_up_ne _ _ b1]
  refine ko_compile t1.le c3.2 m1 (fun t q c hr2 E2 w2 cal p2 m2 hcal => ?_) (fun k2 pl hr2 E2 w2 p2 cal c m2 => ?_)
  · obtain ⟨k1, k2, k3⟩ := hmid E2 _ _ _ _ _ m2
    obtain ⟨e1, e2⟩ := cal_of hr m2.2.2.2.2.2.1.2 hcal
    rw [hcg] at hr2
    refine hrows E2 _ _ _ _ k1 m2.o9 fun E3 w3 j3 g3 => ?_
    refine ux_BN 1 rfl ?_
    refine ux_Bget rfl rfl j3.1 rfl ?_
    refine ux_Bget rfl rfl (show E3 9 = _ from by rw [g3 9 (by decide) (by decide)]; exact m2.o9) rfl ?_
    refine ux_BN 1 rfl ?_
    refine ux_Bno (by decide) ?_
    refine ux_BN 1 rfl ?_
    refine ux_Bget rfl rfl j3.1 rfl ?_
    refine ux_BN 1 rfl ?_
    refine ux_BaldN f rfl j3.2.2.2.2.1 (by decide) rfl (by omega) (rng_at hf) ?_
    have hs3 : sS E3 f n (vs.set n (v.1, (tx f, sl.getD f 0, cal, c))) := k2.frL fun b b1 b2 => g3 b (by omega) (by omega)
    refine ux_Bv rfl rfl rfl hs3.1 rfl (by decide) rfl rfl ?_
    refine ko_keepSpare hs3 fun E4 w4 hs4 g4 => ?_
    refine ux_BN 1 rfl ?_
    rw [e1] at hs4
    refine ux_Br rfl (hD t q c hr2 e2 _ _ (j3.shelf hf hs4 ?_ (fun b _ hb => g4 b (by omega) (by omega)) ?_) (fun b hb1 hb2 => ?_))
    · rw [g4 9 (by omega) (by omega), g3 9 (by decide) (by decide)]; exact ⟨_, _, _, m2.o9⟩
    · rw [hus]; exact keep_list hvl hn3 _ _
    · rw [g4 b (by omega) (by omega), g3 b (by omega) (by omega), k3 b (by omega) (by omega)]
  · obtain ⟨k1, k3, k4⟩ := hmid E2 _ _ _ _ _ m2
    rw [hcg] at hr2
    refine hrows E2 _ _ _ _ k1 m2.o9 fun E3 w3 j3 g3 => ?_
    have o9 : ∀ (E' : ux_Ev), (∀ b, b ≠ 5 → b ≠ 6 → E' b = E3 b) → E' 9 = some (1, [], [.int k2, .int pl, .int (nI p2)]) := fun E' he => by
      rw [he 9 (by decide) (by decide), g3 9 (by decide) (by decide)]; exact m2.o9
    refine ux_BN 1 rfl ?_
    refine ux_Bget rfl rfl j3.1 rfl ?_
    refine ux_Bget rfl rfl (o9 E3 fun _ _ _ => rfl) rfl ?_
    refine ux_BN 1 rfl ?_
    refine ux_Byes (fun h0 => cAll_k hr2 (by rw [h0]; decide)) ?_
    refine ux_BN 1 rfl ?_
    refine ux_Bget rfl rfl j3.1 rfl ?_
    refine ux_BN 2 rfl ?_
    refine ux_Bget rfl rfl j3.1 rfl ?_
    refine ux_Bget rfl rfl (o9 E3 fun _ _ _ => rfl) rfl ?_
    refine ux_BistN f rfl j3.2.2.2.2.2.1.1 rfl (by omega) (by rw [j3.2.2.2.2.2.1.2]; exact hf) ?_
    have j4 := j3.s5 f k2
    refine ux_BN 1 rfl ?_
    refine ux_Bget rfl rfl j4.1 rfl ?_
    refine ux_BN 2 rfl ?_
    refine ux_Bget rfl rfl j4.1 rfl ?_
    refine ux_Bget rfl rfl (o9 _ fun b b1 b2 => ux_up_ne _ _ b1) rfl ?_
    refine ux_BistN f rfl j4.2.2.2.2.2.2.1.1 rfl (by omega) (by rw [j4.2.2.2.2.2.2.1.2]; exact hf) ?_
    have j5 := j4.s6 f pl
    refine ux_BN 1 rfl ?_
    refine ux_Bget rfl rfl j5.1 rfl ?_
    refine ux_BN 2 rfl ?_
    refine ux_BildN 2 rfl j5.2.2.2.2.2.2.2.2.1.1 rfl (by decide) (by rw [j5.2.2.2.2.2.2.2.2.1.2]; decide) ?_
    refine ux_Btop (ct.getD 2 0) (by rw [getD_ne (by decide), getD_ne (by decide)]) ?_
    refine ux_BN 2 rfl ?_
    refine ux_BistN 2 rfl j5.2.2.2.2.2.2.2.2.1.1 rfl (by decide) (by rw [j5.2.2.2.2.2.2.2.2.1.2]; decide) ?_
    have j6 := j5.s8 2 (ct.getD 2 0 + 1)
    refine ux_Br rfl (hC k2 pl hr2 _ _ j6 (fun b hb1 hb2 => ?_))
    rw [ux_up_ne _ _ (by omega), ux_up_ne _ _ (by omega), ux_up_ne _ _ (by omega), g3 b (by omega) (by omega), k4 b (by omega) (by omega)]
theorem ko_renew (h : cS E sl tx us fk fp dn ct) (hf : f < 8)
    (hA : sl.getD f 0 = -1 → ∀ E' w', cS E' sl tx us (fk.set f 0) (fp.set f (-1)) (dn.set f 0) ct → (∀ b, b < 5 ∨ 9 < b → b < 20 + 24 * f ∨ 41 + 24 * f < b → E' b = E b) → K (.inr none) E' x z w')
    (hB : ¬ sl.getD f 0 = -1 → ∀ i U, (us f)[i]? = some U → uFit f sl (tx f) U = true → (∀ j U, j < i → (us f)[j]? = some U → ¬ uFit f sl (tx f) U = true) → ∀ E' w', cS E' sl tx (fU us f (U :: (us f).eraseIdx i)) (fk.set f 0) (fp.set f (-1)) (dn.set f 1) ((ct.set 0 (ct.getD 0 0 + 1)).set 3 (ct.getD 3 0 + 1)) → (∀ b, b < 5 ∨ 9 < b → b < 20 + 24 * f ∨ 41 + 24 * f < b → E' b = E b) → K (.inr none) E' x z w')
    (hC : ¬ sl.getD f 0 = -1 → (∀ U, U ∈ us f → ¬ uFit f sl (tx f) U = true) → ∀ k pl, cOf f (tx f) sl = .inl (k, pl) → ∀ E' w', cS E' sl tx us (fk.set f k) (fp.set f pl) (dn.set f 2) (((ct.set 1 (ct.getD 1 0 + 1)).set 4 (ct.getD 4 0 + 1)).set 2 (ct.getD 2 0 + 1)) → (∀ b, b < 5 ∨ 9 < b → b < 20 + 24 * f ∨ 41 + 24 * f < b → E' b = E b) → K (.inr none) E' x z w')
    (hD : ¬ sl.getD f 0 = -1 → (∀ U, U ∈ us f → ¬ uFit f sl (tx f) U = true) → ∀ t q c, cOf f (tx f) sl = .inr (t, q, c) → (∀ g, g < 8 → nI (g + 11) ∈ tx f → ¬ sl.getD g 0 = -1) → ∀ E' w', cS E' sl tx (fU us f (((tx f, sl.getD f 0, calOf (tx f) sl, c) :: us f).take 3)) (fk.set f 0) (fp.set f (-1)) (dn.set f 2) ((ct.set 1 (ct.getD 1 0 + 1)).set 4 (ct.getD 4 0 + 1)) → (∀ b, b < 5 ∨ 9 < b → b < 20 + 24 * f ∨ 41 + 24 * f < b → E' b = E b) → K (.inr none) E' x z w') : ux_Bm uxP sc 100 9 [.ref 1, .int (nI f)] E x z K := by
  show ux_B uxP sc 100 9 0 [.ref 1, .int (nI f), .null] [] E x z false K
  refine ux_BN 1 rfl ?_
  refine ux_Bget rfl rfl h.1 rfl ?_
  refine ux_BN 2 rfl ?_
  refine ux_BistN f rfl h.2.2.2.2.2.1.1 rfl (by omega) (by rw [h.2.2.2.2.2.1.2]; exact hf) ?_
  have j1 := h.s5 f 0
  refine ux_BN 1 rfl ?_
  refine ux_Bget rfl rfl j1.1 rfl ?_
  refine ux_BN 2 rfl ?_
  refine ux_BistN f rfl j1.2.2.2.2.2.2.1.1 rfl (by omega) (by rw [j1.2.2.2.2.2.2.1.2]; exact hf) ?_
  have j2 := j1.s6 f (-1)
  refine ux_BN 1 rfl ?_
  refine ux_Bget rfl rfl j2.1 rfl ?_
  refine ux_BN 2 rfl ?_
  refine ux_BistN f rfl j2.2.2.2.2.2.2.2.1.1 rfl (by omega) (by rw [j2.2.2.2.2.2.2.2.1.2]; exact hf) ?_
  have j3 := j2.s7 f 0
  have g3 : ∀ b, b < 5 ∨ 9 < b → (ux_up (ux_up (ux_up E 5 (100, fk.set f 0, [])) 6 (100, fp.set f (-1), [])) 7 (100, dn.set f 0, [])) b = E b := fun b hb => by
    rw [ux_up_ne _ _ (by omega), ux_up_ne _ _ (by omega), ux_up_ne _ _ (by omega)]
  generalize hE3 : (ux_up (ux_up (ux_up E 5 (100, fk.set f 0, [])) 6 (100, fp.set f (-1), [])) 7 (100, dn.set f 0, [])) = E3 at j3 g3
  refine ux_B.view ?_ (show _ = E3 from hE3)
  refine ux_BN 1 rfl ?_
  refine ux_Bget rfl rfl j3.1 rfl ?_
  refine ux_BN 1 rfl ?_
  refine ux_BildN f rfl j3.2.1 rfl (by omega) (by rw [j3.2.2.1.1]; exact hf) ?_
  refine ux_BN 2 rfl ?_
  refine ux_Bne (fun ha => ?_) (fun ha => ?_)
  · exact ux_Br rfl (hA ha _ _ j3 (fun b hb1 hb2 => g3 b hb1))
  · obtain ⟨t1, n, vs, hs, hus⟩ := j3.2.2.2.2.2.2.2.2.2.2 f hf
    have hn3 := hs.2.2.2.1
    have hvl := hs.2.2.1
    have hus' : ∀ i, i < n → (us f)[i]? = vs[i]?.map fun v => v.2 := fun i hi => by
      rw [hus, List.getElem?_map, List.getElem?_take_of_lt hi]
    refine ux_BN 1 rfl ?_
    refine ux_Bget rfl rfl j3.1 rfl ?_
    refine ux_BN 1 rfl ?_
    refine ux_BaldN f rfl j3.2.2.2.2.1 (by decide) rfl (by omega) (rng_at hf) ?_
    refine ux_BN 1 rfl ?_
    refine ux_Bget rfl rfl j3.1 rfl ?_
    refine ux_BN 1 rfl ?_
    refine ux_BaldN f rfl j3.2.2.2.1 (by decide) rfl (by omega) (rng_at hf) ?_
    refine ux_BN 2 rfl ?_
    refine ux_Bget rfl rfl j3.1 rfl ?_
    refine ux_Bv rfl rfl rfl hs.1 rfl (by decide) rfl rfl ?_
    refine ko_fitting hs t1 j3.2.1 j3.2.2.1.1 hf (fun i v hi hv hfit hno => ?_) (fun hno => ?_)
    · refine ux_BN 4 rfl ?_
      refine ux_Byes (fun hi2 => by have := nI_pos (show i < 2 ^ 31 by omega); rw [hi2] at this; exact this (by decide)) ?_
      refine ux_BN 1 rfl ?_
      refine ux_Bget rfl rfl j3.1 rfl ?_
      refine ux_BN 1 rfl ?_
      refine ux_BaldN f rfl j3.2.2.2.2.1 (by decide) rfl (by omega) (rng_at hf) ?_
      refine ux_BN 1 rfl ?_
      refine ux_Bv rfl rfl rfl hs.1 rfl (by decide) rfl rfl ?_
      refine ko_front hs i (by omega) fun E4 w4 e1 e2 => ?_
      have hs4 := hs.front (show i < 4 by omega) e1 e2
      have j4 : cS E4 sl tx (fU us f (v.2 :: (us f).eraseIdx i)) (fk.set f 0) (fp.set f (-1)) (dn.set f 0) ct := j3.shelf hf hs4 (by rw [e2 9 (by omega)]; exact j3.2.2.2.2.2.2.2.2.2.1) (fun b _ hb => e2 b (by omega)) (by rw [hus]; exact front_list hvl hn3 hi hv)
      refine ux_BN 1 rfl ?_
      refine ux_Bget rfl rfl j4.1 rfl ?_
      refine ux_BN 2 rfl ?_
      refine ux_BistN f rfl j4.2.2.2.2.2.2.2.1.1 rfl (by omega) (by rw [j4.2.2.2.2.2.2.2.1.2]; exact hf) ?_
      have j5 := j4.s7 f 1
      refine ux_BN 1 rfl ?_
      refine ux_Bget rfl rfl j5.1 rfl ?_
      refine ux_BN 2 rfl ?_
      refine ux_BildN 0 rfl j5.2.2.2.2.2.2.2.2.1.1 rfl (by decide) (by rw [j5.2.2.2.2.2.2.2.2.1.2]; decide) ?_
      refine ux_BN 2 rfl ?_
      refine ux_BistN 0 rfl j5.2.2.2.2.2.2.2.2.1.1 rfl (by decide) (by rw [j5.2.2.2.2.2.2.2.2.1.2]; decide) ?_
      have j6 := j5.s8 0 (ct.getD 0 0 + 1)
      refine ux_BN 1 rfl ?_
      refine ux_Bget rfl rfl j6.1 rfl ?_
      refine ux_BN 2 rfl ?_
      refine ux_BildN 3 rfl j6.2.2.2.2.2.2.2.2.1.1 rfl (by decide) (by rw [j6.2.2.2.2.2.2.2.2.1.2]; decide) ?_
      refine ux_Btop (ct.getD 3 0) (getD_ne (by decide)) ?_
      refine ux_BN 2 rfl ?_
      refine ux_BistN 3 rfl j6.2.2.2.2.2.2.2.2.1.1 rfl (by decide) (by rw [j6.2.2.2.2.2.2.2.2.1.2]; decide) ?_
      have j7 := j6.s8 3 (ct.getD 3 0 + 1)
      have j7 := j7.dnc (List.set_set ..)
      refine ux_Br rfl (hB ha i v.2 (by rw [hus' i hi, hv]; rfl) hfit (fun j U hj hU => ?_) _ _ j7 (fun b hb1 hb2 => ?_))
      · rw [hus' j (by omega)] at hU
        cases hv2 : vs[j]? with
        | none => rw [hv2] at hU; cases hU
        | some v2 =>
          rw [hv2] at hU
          cases hU
          exact hno j v2 hj hv2
      · rw [ux_up_ne _ _ (by omega), ux_up_ne _ _ (by omega), ux_up_ne _ _ (by omega), e2 b (by omega), g3 b hb1]
    · have hno2 : ∀ U, U ∈ us f → ¬ uFit f sl (tx f) U = true := by
        intro U hU
        rw [hus] at hU
        obtain ⟨v, hv, rfl⟩ := List.mem_map.mp hU
        obtain ⟨j, hj⟩ := List.getElem?_of_mem hv
        have hjn : j < n := by
          have := (List.getElem?_eq_some_iff.mp hj).1
          rw [List.length_take] at this
          omega
        rw [List.getElem?_take_of_lt hjn] at hj
        exact hno j v hjn hj
      refine ux_BN 4 rfl ?_
      refine ux_Bno (by decide) ?_
      refine ux_BN 2 rfl ?_
      refine ux_Bv rfl rfl rfl j3.1 rfl (by decide) rfl rfl ?_
      refine ko_compileAnew j3 hf (fun k pl hr E4 w4 j4 g4 => ?_) (fun t q c hr hca E4 w4 j4 g4 => ?_)
      · rw [List.set_set, List.set_set, List.set_set] at j4
        refine ux_BN 1 rfl ?_
        exact ux_Br rfl (hC ha hno2 k pl hr _ _ j4 (fun b hb1 hb2 => by rw [g4 b hb1 hb2, g3 b hb1]))
      · rw [List.set_set] at j4
        refine ux_BN 1 rfl ?_
        exact ux_Br rfl (hD ha hno2 t q c hr hca _ _ j4 (fun b hb1 hb2 => by rw [g4 b hb1 hb2, g3 b hb1]))
end KR
end
section
/-! The reference's units: fits, fitting, oldest, callsIn. -/
def mFit (A : Nat → List Int32) (u f L : Nat) : Prop := (¬ (A 215).getD u 0 ≤ 0 ∧ (A 216).getD u 0 = (A 213).getD f 0) ∧ (∀ k, k < L → (A 217).getD (30 * u + k) 0 = (A 214).getD (30 * f + k) 0) ∧ ∀ g, g < 8 → (A 218).getD (9 * u + g) 0 < 0 ∨ (¬ (A 211).getD g 0 = 0 ∧ (A 218).getD (9 * u + g) 0 = (A 212).getD g 0)
theorem nI_9 (f k : Nat) : (9 : Int32) * nI f + nI k = nI (9 * f + k) := by
  rw [show (9 : Int32) = nI 9 from rfl, pk_mul, nI_add]
theorem nI_80 (f k : Nat) : (80 : Int32) * nI f + nI k = nI (80 * f + k) := by
  rw [show (80 : Int32) = nI 80 from rfl, pk_mul, nI_add]
theorem nI_s (i : Nat) : nI i + Int32.ofInt 1 = nI (i + 1) := nI_1 i
section MF2
variable {sc : List Int32} {d : Nat} {E0 E : ux_Ev} {g : Nat → Int32} {A : Nat → List Int32} {x z : Nat} {w : Bool} {K : ux_K1}
theorem mo_fits (hm : md E0 g A E) (u f L : Nat) (hu : u < 24) (hf : f < 8) (hL : L ≤ 30) (hLA : (A 213).getD f 0 = nI L) (hK1 : mFit A u f L → K (.inr (some (.int 1))) E x z false) (hK0 : ¬ mFit A u f L → K (.inr (some (.int 0))) E x z false) : ux_Bm uxP sc d 91 [.ref 210, .int (nI u), .int (nI f)] E x z K := by
  show ux_B uxP sc d 91 0 [.ref 210, .int (nI u), .int (nI f), .null, .null, .null] [] E x z false K
  -- not, from the second loop's head
  have z90 : ¬ mFit A u f L → ∀ i v5, i ≤ 8 → ux_B uxP sc d 91 90 [.ref 210, .int (nI u), .int (nI f), .int 0, .int (nI i), v5] [] E x z false K := by
    intro hn i v5 hi
    refine ux_BN 3 rfl ?_
    refine ux_BleN 8 i rfl rfl (by decide) (by omega) (fun h => ?_) (fun h => ?_)
    · refine ux_BN 1 rfl ?_
      exact ux_Bri rfl (Or.inr ⟨rfl, Or.inl rfl⟩) (hK0 hn)
    · refine ux_BN 2 rfl ?_
      refine ux_Byes rfl ?_
      refine ux_BN 1 rfl ?_
      exact ux_Bri rfl (Or.inr ⟨rfl, Or.inl rfl⟩) (hK0 hn)
  have z33 : ¬ mFit A u f L → ∀ i v5, i ≤ 30 → ux_B uxP sc d 91 33 [.ref 210, .int (nI u), .int (nI f), .int 0, .int (nI i), v5] [] E x z false K := by
    intro hn i v5 hi
    refine ux_BN 2 rfl ?_
    refine ux_Bget rfl rfl hm.1 rfl ?_
    refine ux_BN 1 rfl ?_
    refine mr_ild hm 213 f rfl (by decide) hf rfl ?_
    rw [hLA]
    refine ux_BN 1 rfl ?_
    refine ux_BleN L i rfl rfl (by omega) (by omega) (fun h => ?_) (fun h => ?_)
    · refine ux_BN 2 rfl ?_
      exact z90 hn 0 v5 (by decide)
    · refine ux_BN 2 rfl ?_
      refine ux_Byes rfl ?_
      refine ux_BN 2 rfl ?_
      exact z90 hn 0 v5 (by decide)
  have l90 : (¬ (A 215).getD u 0 ≤ 0 ∧ (A 216).getD u 0 = (A 213).getD f 0) → (∀ k, k < L → (A 217).getD (30 * u + k) 0 = (A 214).getD (30 * f + k) 0) → ∀ n i v5, i + n = 8 → (∀ g, g < i → (A 218).getD (9 * u + g) 0 < 0 ∨ (¬ (A 211).getD g 0 = 0 ∧ (A 218).getD (9 * u + g) 0 = (A 212).getD g 0)) → ux_B uxP sc d 91 90 [.ref 210, .int (nI u), .int (nI f), .int 1, .int (nI i), v5] [] E x z false K := by
    intro p1 p2 n
    induction n with
    | zero =>
      intro i v5 hi p3
      refine ux_BN 3 rfl ?_
      refine ux_Byes (nI_le (show 8 ≤ i by omega) (by omega)) ?_
      refine ux_BN 1 rfl ?_
      exact ux_Bri rfl (Or.inr ⟨rfl, Or.inr rfl⟩) (hK1 ⟨p1, p2, fun g hg => p3 g (by omega)⟩)
    | succ n ih =>
      intro i v5 hi p3
      have hyes : ((A 218).getD (9 * u + i) 0 < 0 ∨ (¬ (A 211).getD i 0 = 0 ∧ (A 218).getD (9 * u + i) 0 = (A 212).getD i 0)) → ux_B uxP sc d 91 142 [.ref 210, .int (nI u), .int (nI f), .int 1, .int (nI i), .int ((A 218).getD (9 * u + i) 0)] [] E x z false K := by
        intro hg
        refine ux_BN 5 rfl ?_
        have := ih (i + 1) (.int ((A 218).getD (9 * u + i) 0)) (by omega) (fun g hg2 => by
          by_cases hgi : g = i
          · rw [hgi]; exact hg
          · exact p3 g (by omega))
        rw [← nI_s] at this
        exact this
      have hno : ¬ ((A 218).getD (9 * u + i) 0 < 0 ∨ (¬ (A 211).getD i 0 = 0 ∧ (A 218).getD (9 * u + i) 0 = (A 212).getD i 0)) → ux_B uxP sc d 91 146 [.ref 210, .int (nI u), .int (nI f), .int 1, .int (nI i), .int ((A 218).getD (9 * u + i) 0)] [] E x z false K := by
        intro hg
        refine ux_BN 4 rfl ?_
        have := z90 (fun hfit => hg (hfit.2.2 i (by omega))) (i + 1) (.int ((A 218).getD (9 * u + i) 0)) (by omega)
        rw [← nI_s] at this
        exact this
      refine ux_BN 3 rfl ?_
      refine ux_Bno (nI_ge (show i < 8 by omega) (by decide)) ?_
      refine ux_BN 2 rfl ?_
      refine ux_Bno (by decide) ?_
      refine ux_BN 1 rfl ?_
      refine ux_Bget rfl rfl hm.1 rfl ?_
      refine ux_BN 5 rfl ?_
      refine mr_ild hm 218 (9 * u + i) rfl (by decide) (show 9 * u + i < 216 by omega) (nI_9 u i) ?_
      refine ux_BN 3 rfl ?_
      refine ux_Bif (fun h1 => ?_) (fun h1 => ?_)
      · exact hyes (Or.inl h1)
      · refine ux_BN 1 rfl ?_
        refine ux_Bget rfl rfl hm.1 rfl ?_
        refine ux_BN 1 rfl ?_
        refine mr_zld hm i rfl (by omega) rfl ?_
        refine ux_BN 1 rfl ?_
        refine ux_Bif (fun h2 => ?_) (fun h2 => ?_)
        · exact hno (fun h => h.elim h1 (fun h => h.1 h2))
        · refine ux_BN 2 rfl ?_
          refine ux_Bget rfl rfl hm.1 rfl ?_
          refine ux_BN 1 rfl ?_
          refine mr_ild hm 212 i rfl (by decide) (show i < 8 by omega) rfl ?_
          refine ux_BN 1 rfl ?_
          refine ux_Bne (fun h3 => ?_) (fun h3 => ?_)
          · exact hyes (Or.inr ⟨h2, h3⟩)
          · exact hno (fun h => h.elim h1 (fun h => h3 h.2))
  have l33 : (¬ (A 215).getD u 0 ≤ 0 ∧ (A 216).getD u 0 = (A 213).getD f 0) → ∀ n i v5, i + n = L → (∀ k, k < i → (A 217).getD (30 * u + k) 0 = (A 214).getD (30 * f + k) 0) → ux_B uxP sc d 91 33 [.ref 210, .int (nI u), .int (nI f), .int 1, .int (nI i), v5] [] E x z false K := by
    intro p1 n
    induction n with
    | zero =>
      intro i v5 hi p2
      refine ux_BN 2 rfl ?_
      refine ux_Bget rfl rfl hm.1 rfl ?_
      refine ux_BN 1 rfl ?_
      refine mr_ild hm 213 f rfl (by decide) hf rfl ?_
      rw [hLA]
      refine ux_BN 1 rfl ?_
      refine ux_Byes (nI_le (show L ≤ i by omega) (by omega)) ?_
      refine ux_BN 2 rfl ?_
      exact l90 p1 (fun k hk => p2 k (by omega)) 8 0 v5 rfl (fun g hg => by omega)
    | succ n ih =>
      intro i v5 hi p2
      refine ux_BN 2 rfl ?_
      refine ux_Bget rfl rfl hm.1 rfl ?_
      refine ux_BN 1 rfl ?_
      refine mr_ild hm 213 f rfl (by decide) hf rfl ?_
      rw [hLA]
      refine ux_BN 1 rfl ?_
      refine ux_Bno (nI_ge (show i < L by omega) (by omega)) ?_
      refine ux_BN 2 rfl ?_
      refine ux_Bno (by decide) ?_
      refine ux_BN 1 rfl ?_
      refine ux_Bget rfl rfl hm.1 rfl ?_
      refine ux_BN 5 rfl ?_
      refine mr_ild hm 217 (30 * u + i) rfl (by decide) (show 30 * u + i < 720 by omega) (nI_30 u i) ?_
      refine ux_BN 1 rfl ?_
      refine ux_Bget rfl rfl hm.1 rfl ?_
      refine ux_BN 5 rfl ?_
      refine mr_ild hm 214 (30 * f + i) rfl (by decide) (show 30 * f + i < 240 by omega) (nI_30 f i) ?_
      refine ux_BN 1 rfl ?_
      refine ux_Bne (fun h1 => ?_) (fun h1 => ?_)
      · refine ux_BN 5 rfl ?_
        have := ih (i + 1) v5 (by omega) (fun k hk => by
          by_cases hki : k = i
          · rw [hki]; exact h1
          · exact p2 k (by omega))
        rw [← nI_s] at this
        exact this
      · refine ux_BN 4 rfl ?_
        have := z33 (fun hfit => h1 (hfit.2.1 i (by omega))) (i + 1) v5 (by omega)
        rw [← nI_s] at this
        exact this
  refine ux_BN 1 rfl ?_
  refine ux_Bget rfl rfl hm.1 rfl ?_
  refine ux_BN 1 rfl ?_
  refine mr_ild hm 215 u rfl (by decide) hu rfl ?_
  refine ux_BN 1 rfl ?_
  refine ux_Bif (fun h1 => ?_) (fun h1 => ?_)
  · refine ux_BN 4 rfl ?_
    exact z33 (fun hfit => hfit.1.1 h1) 0 _ (by decide)
  · refine ux_BN 1 rfl ?_
    refine ux_Bget rfl rfl hm.1 rfl ?_
    refine ux_BN 1 rfl ?_
    refine mr_ild hm 216 u rfl (by decide) hu rfl ?_
    refine ux_BN 1 rfl ?_
    refine ux_Bget rfl rfl hm.1 rfl ?_
    refine ux_BN 1 rfl ?_
    refine mr_ild hm 213 f rfl (by decide) hf rfl ?_
    refine ux_BN 1 rfl ?_
    refine ux_Bne (fun h2 => ?_) (fun h2 => ?_)
    · refine ux_BN 5 rfl ?_
      exact l33 ⟨h1, h2⟩ L 0 _ (by omega) (fun k hk => by omega)
    · refine ux_BN 4 rfl ?_
      exact z33 (fun hfit => h2 hfit.1.2) 0 _ (by decide)
theorem mo_callsIn (hm : md E0 g A E) (f h L : Nat) (hf : f < 8) (hh : h < 8) (hL : L ≤ 30) (hLA : (A 213).getD f 0 = nI L) (hK1 : (f = h ∨ ∃ k, k < L ∧ (A 214).getD (30 * f + k) 0 = nI (h + 11)) → K (.inr (some (.int 1))) E x z false) (hK0 : ¬ (f = h ∨ ∃ k, k < L ∧ (A 214).getD (30 * f + k) 0 = nI (h + 11)) → K (.inr (some (.int 0))) E x z false) : ux_Bm uxP sc d 107 [.ref 210, .int (nI f), .int (nI h)] E x z K := by
  show ux_B uxP sc d 107 0 [.ref 210, .int (nI f), .int (nI h), .null, .null] [] E x z false K
  have hloop : ∀ n i (b : Int32), i + n = L → (b = 1 ∧ (f = h ∨ ∃ k, k < i ∧ (A 214).getD (30 * f + k) 0 = nI (h + 11)) ∨ b = 0 ∧ ¬ (f = h ∨ ∃ k, k < i ∧ (A 214).getD (30 * f + k) 0 = nI (h + 11))) → ux_B uxP sc d 107 17 [.ref 210, .int (nI f), .int (nI h), .int b, .int (nI (30 * f + i))] [] E x z false K := by
    intro n
    induction n with
    | zero =>
      intro i b hi hb
      have : i = L := by omega
      subst this
      refine ux_BN 5 rfl ?_
      refine ux_Bget rfl rfl hm.1 rfl ?_
      refine ux_BN 1 rfl ?_
      refine mr_ild hm 213 f rfl (by decide) hf rfl ?_
      rw [hLA]
      refine ux_BN 2 rfl ?_
      refine ux_BleN (30 * f + i) (30 * f + i) (nI_30 f i) rfl (by omega) (by omega) (fun _ => ?_) (fun h => by omega)
      refine ux_BN 1 rfl ?_
      rcases hb with ⟨rfl, hb⟩ | ⟨rfl, hb⟩
      · exact ux_Bri rfl (Or.inr ⟨rfl, Or.inr rfl⟩) (hK1 hb)
      · exact ux_Bri rfl (Or.inr ⟨rfl, Or.inl rfl⟩) (hK0 hb)
    | succ n ih =>
      intro i b hi hb
      have hone : (f = h ∨ ∃ k, k < i + 1 ∧ (A 214).getD (30 * f + k) 0 = nI (h + 11)) → ux_B uxP sc d 107 51 [.ref 210, .int (nI f), .int (nI h), .int b, .int (nI (30 * f + i))] [] E x z false K := by
        intro h1
        refine ux_BN 5 rfl ?_
        have := ih (i + 1) 1 (by omega) (Or.inl ⟨rfl, h1⟩)
        rw [show 30 * f + (i + 1) = 30 * f + i + 1 by omega, ← nI_s] at this
        exact this
      refine ux_BN 5 rfl ?_
      refine ux_Bget rfl rfl hm.1 rfl ?_
      refine ux_BN 1 rfl ?_
      refine mr_ild hm 213 f rfl (by decide) hf rfl ?_
      rw [hLA]
      refine ux_BN 2 rfl ?_
      refine ux_BleN (30 * f + L) (30 * f + i) (nI_30 f L) rfl (by omega) (by omega) (fun h => by omega) (fun _ => ?_)
      refine ux_BN 2 rfl ?_
      rcases hb with ⟨rfl, hb⟩ | ⟨rfl, hb⟩
      · refine ux_Byes (by decide) ?_
        exact hone (hb.imp id fun ⟨k, h1, h2⟩ => ⟨k, by omega, h2⟩)
      · refine ux_Bno (by decide) ?_
        refine ux_BN 1 rfl ?_
        refine ux_Bget rfl rfl hm.1 rfl ?_
        refine ux_BN 1 rfl ?_
        refine mr_ild hm 214 (30 * f + i) rfl (by decide) (show 30 * f + i < 240 by omega) rfl ?_
        refine ux_BN 3 rfl ?_
        refine ux_Btop (nI (h + 11)) ((nI_add 11 h).trans (congrArg nI (Nat.add_comm 11 h))) ?_
        refine ux_BN 1 rfl ?_
        refine ux_Bif (fun h1 => ?_) (fun h1 => ?_)
        · refine ux_BN 4 rfl ?_
          have := ih (i + 1) 0 (by omega) (Or.inr ⟨rfl, fun h2 => h2.elim (fun h3 => hb (Or.inl h3)) (fun ⟨k, h3, h4⟩ => by
            by_cases hki : k = i
            · rw [hki] at h4; exact h1 h4
            · exact hb (Or.inr ⟨k, by omega, h4⟩))⟩)
          rw [show 30 * f + (i + 1) = 30 * f + i + 1 by omega, ← nI_s] at this
          exact this
        · exact hone (Or.inr ⟨i, by omega, Decidable.not_not.mp h1⟩)
  have hst : nI (30 * f + 0) = (Int8.ofInt 30).toInt32 * nI f := by rw [show (Int8.ofInt 30).toInt32 = nI 30 from rfl, pk_mul]; rfl
  refine ux_BN 3 rfl ?_
  refine ux_BneN f h rfl rfl (by omega) (by omega) (fun h1 => ?_) (fun h1 => ?_)
  · refine ux_BN 6 rfl ?_
    have := hloop L 0 0 (by omega) (Or.inr ⟨rfl, fun h2 => h2.elim h1 (fun ⟨k, h3, _⟩ => by omega)⟩)
    rw [hst] at this
    exact this
  · refine ux_BN 7 rfl ?_
    have := hloop L 0 1 (by omega) (Or.inl ⟨rfl, Or.inl h1⟩)
    rw [hst] at this
    exact this
theorem mo_oldest (hm : md E0 g A E) (f : Nat) (hf : f < 8) (hK : ∀ o, o < 3 → (∀ j, j < 3 → (A 215).getD (3 * f + o) 0 ≤ (A 215).getD (3 * f + j) 0) → K (.inr (some (.int (nI (3 * f + o))))) E x z false) : ux_Bm uxP sc d 106 [.ref 210, .int (nI f)] E x z K := by
  show ux_B uxP sc d 106 0 [.ref 210, .int (nI f), .null, .null] [] E x z false K
  have hend : ∀ o, o < 3 → (∀ j, j < 3 → (A 215).getD (3 * f + o) 0 ≤ (A 215).getD (3 * f + j) 0) → ux_B uxP sc d 106 8 [.ref 210, .int (nI f), .int (nI (3 * f + o)), .int (nI (3 * f + 3))] [] E x z false K := by
    intro o ho hmin
    refine ux_BN 7 rfl ?_
    refine ux_BleN (3 * f + 3) (3 * f + 3) (nI_3 f 3) rfl (by omega) (by omega) (fun _ => ?_) (fun h => by omega)
    refine ux_BN 1 rfl ?_
    exact ux_Bri rfl (Or.inl rfl) (hK o ho hmin)
  have hstep : ∀ o k, o < 3 → k < 3 → (∀ w o', w = false → (o' = o ∧ (A 215).getD (3 * f + o) 0 ≤ (A 215).getD (3 * f + k) 0 ∨ o' = k ∧ (A 215).getD (3 * f + k) 0 < (A 215).getD (3 * f + o) 0) → ux_B uxP sc d 106 8 [.ref 210, .int (nI f), .int (nI (3 * f + o')), .int (nI (3 * f + (k + 1)))] [] E x z w K) → ux_B uxP sc d 106 8 [.ref 210, .int (nI f), .int (nI (3 * f + o)), .int (nI (3 * f + k))] [] E x z false K := by
    intro o k ho hk hB
    refine ux_BN 7 rfl ?_
    refine ux_BleN (3 * f + 3) (3 * f + k) (nI_3 f 3) rfl (by omega) (by omega) (fun h => by omega) (fun _ => ?_)
    refine ux_BN 1 rfl ?_
    refine ux_Bget rfl rfl hm.1 rfl ?_
    refine ux_BN 1 rfl ?_
    refine mr_ild hm 215 (3 * f + k) rfl (by decide) (show 3 * f + k < 24 by omega) rfl ?_
    refine ux_BN 1 rfl ?_
    refine ux_Bget rfl rfl hm.1 rfl ?_
    refine ux_BN 1 rfl ?_
    refine mr_ild hm 215 (3 * f + o) rfl (by decide) (show 3 * f + o < 24 by omega) rfl ?_
    refine ux_BN 1 rfl ?_
    refine ux_Bif (fun h => ?_) (fun h => ?_)
    · refine ux_BN 4 rfl ?_
      have := hB false o rfl (Or.inl ⟨rfl, h⟩)
      rw [show 3 * f + (k + 1) = 3 * f + k + 1 by omega, ← nI_s] at this
      exact this
    · refine ux_BN 5 rfl ?_
      have := hB false k rfl (Or.inr ⟨rfl, k2_lt h⟩)
      rw [show 3 * f + (k + 1) = 3 * f + k + 1 by omega, ← nI_s] at this
      exact this
  have hst : nI (3 * f + 0) = Int32.ofInt 3 * nI f := by rw [show Int32.ofInt 3 = nI 3 from rfl, pk_mul]; rfl
  have hst1 : nI (3 * f + 1) = Int32.ofInt 3 * nI f + Int32.ofInt 1 := by rw [← hst]; exact (nI_s _).symm
  have hgo : ux_B uxP sc d 106 8 [.ref 210, .int (nI f), .int (nI (3 * f + 0)), .int (nI (3 * f + 1))] [] E x z false K := by
    refine hstep 0 1 (by decide) (by decide) fun w o1 hw h1 => ?_
    subst hw
    refine hstep o1 2 (by omega) (by decide) fun w o2 hw h2 => ?_
    subst hw
    refine hend o2 (by omega) fun j hj => ?_
    have hlt : ∀ {a b : Int32}, a < b → a ≤ b := fun h => Int32.le_of_lt h
    have htr : ∀ {a b c : Int32}, a ≤ b → b ≤ c → a ≤ c := fun h1 h2 => Int32.le_trans h1 h2
    have hj3 : j = 0 ∨ j = 1 ∨ j = 2 := by omega
    rcases h1 with ⟨rfl, h1⟩ | ⟨rfl, h1⟩ <;> rcases h2 with ⟨rfl, h2⟩ | ⟨rfl, h2⟩ <;> rcases hj3 with rfl | rfl | rfl
    · exact Int32.le_refl _
    · exact h1
    · exact h2
    · exact hlt h2
    · exact htr (hlt h2) h1
    · exact Int32.le_refl _
    · exact hlt h1
    · exact Int32.le_refl _
    · exact h2
    · exact htr (hlt h2) (hlt h1)
    · exact hlt h2
    · exact Int32.le_refl _
  refine ux_BN 8 rfl ?_
  rw [hst1, hst] at hgo
  exact hgo
theorem mo_fitting (hm : md E0 g A E) (f L : Nat) (hf : f < 8) (hL : L ≤ 30) (hLA : (A 213).getD f 0 = nI L) (hK1 : ∀ o, o < 3 → mFit A (3 * f + o) f L → K (.inr (some (.int (nI (3 * f + o))))) E x z false) (hK2 : (∀ o, o < 3 → ¬ mFit A (3 * f + o) f L) → K (.inr (some (.int (-1)))) E x z false) : ux_Bm uxP sc (d + 1) 90 [.ref 210, .int (nI f)] E x z K := by
  show ux_B uxP sc (d + 1) 90 0 [.ref 210, .int (nI f), .null] [] E x z false K
  have hloop : ∀ n i, i + n = 3 → (∀ o, o < i → ¬ mFit A (3 * f + o) f L) → ux_B uxP sc (d + 1) 90 4 [.ref 210, .int (nI f), .int (nI (3 * f + i))] [] E x z false K := by
    intro n
    induction n with
    | zero =>
      intro i hi hno
      refine ux_BN 7 rfl ?_
      refine ux_BleN (3 * f + 3) (3 * f + i) (nI_3 f 3) rfl (by omega) (by omega) (fun _ => ?_) (fun h => by omega)
      refine ux_BN 1 rfl ?_
      exact ux_Bri rfl (Or.inl rfl) (hK2 fun o ho => hno o (by omega))
    | succ n ih =>
      intro i hi hno
      refine ux_BN 7 rfl ?_
      refine ux_BleN (3 * f + 3) (3 * f + i) (nI_3 f 3) rfl (by omega) (by omega) (fun h => by omega) (fun _ => ?_)
      refine ux_BN 3 rfl ?_
      refine ux_Bv rfl rfl rfl hm.1 rfl (by decide) rfl rfl ?_
      refine mo_fits hm (3 * f + i) f L (by omega) hf hL hLA (fun h1 => ?_) (fun h1 => ?_)
      · refine ux_BN 1 rfl ?_
        refine ux_Bno (by decide) ?_
        refine ux_BN 1 rfl ?_
        exact ux_Bri rfl (Or.inl rfl) (hK1 i (by omega) h1)
      · refine ux_BN 1 rfl ?_
        refine ux_Byes rfl ?_
        refine ux_BN 2 rfl ?_
        have := ih (i + 1) (by omega) (fun o ho => by
          by_cases hoi : o = i
          · rw [hoi]; exact h1
          · exact hno o (by omega))
        rw [show 3 * f + (i + 1) = 3 * f + i + 1 by omega, ← nI_s] at this
        exact this
  have hst : nI (3 * f + 0) = Int32.ofInt 3 * nI f := by rw [show Int32.ofInt 3 = nI 3 from rfl, pk_mul]; rfl
  refine ux_BN 4 rfl ?_
  have := hloop 3 0 rfl (fun o ho => by omega)
  rw [hst] at this
  exact this
end MF2
end
section
/-! The reference keeps a unit. -/
theorem getD_set {l : List Int32} {i j : Nat} {y : Int32} (h : i < l.length) : (l.set i y).getD j 0 = if j = i then y else l.getD j 0 := by
  by_cases hji : j = i
  · subst hji
    rw [if_pos rfl, List.getD_eq_getElem?_getD, List.getElem?_set_self h]; rfl
  · rw [if_neg hji]; exact getD_ne hji
section MK
variable {sc : List Int32} {d : Nat} {E0 E : ux_Ev} {g : Nat → Int32} {A : Nat → List Int32} {x z : Nat} {w : Bool} {K : ux_K1} {u f L : Nat}
theorem mk_l1 (hu : u < 24) (hf : f < 8) (hL : L ≤ 30) (hLA : (A 213).getD f 0 = nI L)
    (hK : ∀ E' A' w', md E0 g A' E' → (∀ a, a ≠ 217 → A' a = A a) → (∀ j, (A' 217).getD j 0 = if 30 * u ≤ j ∧ j < 30 * u + L then (A 214).getD (30 * f + (j - 30 * u)) 0 else (A 217).getD j 0) → ux_B uxP sc d 105 58 [.ref 210, .int (nI f), .int (nI u), .int (nI L)] [] E' x z w' K) :
    ∀ n i E1 A1 w, i + n = L → md E0 g A1 E1 → (∀ a, a ≠ 217 → A1 a = A a) → (∀ j, (A1 217).getD j 0 = if 30 * u ≤ j ∧ j < 30 * u + i then (A 214).getD (30 * f + (j - 30 * u)) 0 else (A 217).getD j 0) → ux_B uxP sc d 105 20 [.ref 210, .int (nI f), .int (nI u), .int (nI i)] [] E1 x z w K := by
  intro n
  induction n with
  | zero =>
    intro i E1 A1 w hi m h1 h2
    have : i = L := by omega
    subst this
    refine ux_BN 2 rfl ?_
    refine ux_Bget rfl rfl m.1 rfl ?_
    refine ux_BN 1 rfl ?_
    refine mr_ild m 213 f rfl (by decide) hf rfl ?_
    rw [h1 213 (by decide), hLA]
    refine ux_BN 1 rfl ?_
    refine ux_Byes (nI_le (Nat.le_refl _) (by omega)) ?_
    exact hK _ _ _ m h1 h2
  | succ n ih =>
    intro i E1 A1 w hi m h1 h2
    refine ux_BN 2 rfl ?_
    refine ux_Bget rfl rfl m.1 rfl ?_
    refine ux_BN 1 rfl ?_
    refine mr_ild m 213 f rfl (by decide) hf rfl ?_
    rw [h1 213 (by decide), hLA]
    refine ux_BN 1 rfl ?_
    refine ux_Bno (nI_ge (show i < L by omega) (by omega)) ?_
    refine ux_BN 1 rfl ?_
    refine ux_Bget rfl rfl m.1 rfl ?_
    refine ux_BN 6 rfl ?_
    refine ux_Bget rfl rfl m.1 rfl ?_
    refine ux_BN 5 rfl ?_
    refine mr_ild m 214 (30 * f + i) rfl (by decide) (show 30 * f + i < 240 by omega) (nI_30 f i) ?_
    rw [h1 214 (by decide)]
    refine mr_ist m 217 (30 * u + i) rfl (by decide) (show 30 * u + i < 720 by omega) (nI_30 u i) fun E2 m2 => ?_
    refine ux_BN 2 rfl ?_
    have := fun w => ih (i + 1) E2 _ w (by omega) m2 (fun a ha => by rw [fU_ne _ _ ha]; exact h1 a ha) (fun j => by
      rw [fU_at, getD_set (by rw [m.len 217 (by decide)]; exact (show 30 * u + i < 720 by omega))]
      by_cases hj : j = 30 * u + i
      · rw [if_pos hj, if_pos (by omega), hj, show 30 * u + i - 30 * u = i by omega]
      · rw [if_neg hj, h2 j]
        by_cases hj2 : 30 * u ≤ j ∧ j < 30 * u + i
        · rw [if_pos hj2, if_pos (by omega)]
        · rw [if_neg hj2, if_neg (by omega)])
    rw [← nI_s] at this
    exact this _
theorem mk_l2 (hu : u < 24) (hf : f < 8) (hL : L ≤ 30) (hLA : (A 213).getD f 0 = nI L)
    (hK : ∀ E' A' w', md E0 g A' E' → (∀ a, a ≠ 218 → A' a = A a) → (∀ h, h < 8 → ((f = h ∨ ∃ k, k < L ∧ (A 214).getD (30 * f + k) 0 = nI (h + 11)) → (A' 218).getD (9 * u + h) 0 = (A 212).getD h 0) ∧ (¬ (f = h ∨ ∃ k, k < L ∧ (A 214).getD (30 * f + k) 0 = nI (h + 11)) → (A' 218).getD (9 * u + h) 0 = -1)) → (∀ j, j < 9 * u ∨ 9 * u + 8 ≤ j → (A' 218).getD j 0 = (A 218).getD j 0) → ux_B uxP sc (d + 1) 105 102 [.ref 210, .int (nI f), .int (nI u), .int (nI 8)] [] E' x z w' K) :
    ∀ n i E1 A1 w, i + n = 8 → md E0 g A1 E1 → (∀ a, a ≠ 218 → A1 a = A a) → (∀ h, h < i → ((f = h ∨ ∃ k, k < L ∧ (A 214).getD (30 * f + k) 0 = nI (h + 11)) → (A1 218).getD (9 * u + h) 0 = (A 212).getD h 0) ∧ (¬ (f = h ∨ ∃ k, k < L ∧ (A 214).getD (30 * f + k) 0 = nI (h + 11)) → (A1 218).getD (9 * u + h) 0 = -1)) → (∀ j, j < 9 * u ∨ 9 * u + 8 ≤ j → (A1 218).getD j 0 = (A 218).getD j 0) → ux_B uxP sc (d + 1) 105 60 [.ref 210, .int (nI f), .int (nI u), .int (nI i)] [] E1 x z w K := by
  intro n
  induction n with
  | zero =>
    intro i E1 A1 w hi m h1 h2 h3
    have : i = 8 := by omega
    subst this
    refine ux_BN 3 rfl ?_
    refine ux_Byes (by decide) ?_
    exact hK _ _ _ m h1 h2 h3
  | succ n ih =>
    intro i E1 A1 w hi m h1 h2 h3
    have hst : ∀ (y : Int32) (w : Bool), ((f = i ∨ ∃ k, k < L ∧ (A 214).getD (30 * f + k) 0 = nI (i + 11)) → y = (A 212).getD i 0) → (¬ (f = i ∨ ∃ k, k < L ∧ (A 214).getD (30 * f + k) 0 = nI (i + 11)) → y = -1) → ux_B uxP sc (d + 1) 105 95 [.ref 210, .int (nI f), .int (nI u), .int (nI i)] [.int y, .int (nI (9 * u + i)), .ref 218] E1 x z w K := by
      intro y w hy1 hy2
      refine mr_ist m 218 (9 * u + i) rfl (by decide) (show 9 * u + i < 216 by omega) rfl fun E2 m2 => ?_
      refine ux_BN 2 rfl ?_
      have hset : ∀ j, ((fU A1 218 ((A1 218).set (9 * u + i) y)) 218).getD j 0 = if j = 9 * u + i then y else (A1 218).getD j 0 := fun j => by
        rw [fU_at, getD_set (by rw [m.len 218 (by decide)]; exact (show 9 * u + i < 216 by omega))]
      have := fun w => ih (i + 1) E2 _ w (by omega) m2 (fun a ha => by rw [fU_ne _ _ ha]; exact h1 a ha) (fun h hh => by
        rw [hset]
        by_cases hhi : h = i
        · subst hhi
          rw [if_pos rfl]
          exact ⟨hy1, hy2⟩
        · rw [if_neg (by omega)]
          exact h2 h (by omega)) (fun j hj => by
        rw [hset, if_neg (by omega)]
        exact h3 j hj)
      rw [← nI_s] at this
      exact this _
    refine ux_BN 3 rfl ?_
    refine ux_Bno (nI_ge (show i < 8 by omega) (by decide)) ?_
    refine ux_BN 1 rfl ?_
    refine ux_Bget rfl rfl m.1 rfl ?_
    refine ux_BN 5 rfl ?_
    refine ux_Btop (nI (9 * u + i)) (nI_9 u i) ?_
    refine ux_BN 3 rfl ?_
    refine ux_Bv rfl rfl rfl m.1 rfl (by decide) rfl rfl ?_
    refine mo_callsIn m f i L hf (by omega) hL (by rw [h1 213 (by decide)]; exact hLA) (fun hc => ?_) (fun hc => ?_)
    · rw [h1 214 (by decide)] at hc
      refine ux_BN 1 rfl ?_
      refine ux_Bno (by decide) ?_
      refine ux_BN 1 rfl ?_
      refine ux_Bget rfl rfl m.1 rfl ?_
      refine ux_BN 1 rfl ?_
      refine mr_ild m 212 i rfl (by decide) (show i < 8 by omega) rfl ?_
      rw [h1 212 (by decide)]
      refine ux_BN 1 rfl ?_
      exact hst _ _ (fun _ => rfl) (fun h => absurd hc h)
    · rw [h1 214 (by decide)] at hc
      refine ux_BN 1 rfl ?_
      refine ux_Byes rfl ?_
      refine ux_BN 1 rfl ?_
      exact hst _ _ (fun h => absurd h hc) (fun _ => rfl)
theorem mk_l3 {nn : Nat} (hu : u < 24) (hn : nn ≤ 80) (hg : g 28 = nI nn)
    (hK : ∀ E' A' w', md E0 g A' E' → (∀ a, a ≠ 220 → A' a = A a) → (∀ j, (A' 220).getD j 0 = if 80 * u ≤ j ∧ j < 80 * u + nn then (A 234).getD (j - 80 * u) 0 else (A 220).getD j 0) → ux_B uxP sc d 105 145 [.ref 210, .int (nI f), .int (nI u), .int (nI nn)] [] E' x z w' K) :
    ∀ n i E1 A1 w, i + n = nn → md E0 g A1 E1 → (∀ a, a ≠ 220 → A1 a = A a) → (∀ j, (A1 220).getD j 0 = if 80 * u ≤ j ∧ j < 80 * u + i then (A 234).getD (j - 80 * u) 0 else (A 220).getD j 0) → ux_B uxP sc d 105 114 [.ref 210, .int (nI f), .int (nI u), .int (nI i)] [] E1 x z w K := by
  intro n
  induction n with
  | zero =>
    intro i E1 A1 w hi m h1 h2
    have : i = nn := by omega
    subst this
    refine ux_BN 2 rfl ?_
    refine ux_Bget rfl rfl m.1 rfl ?_
    refine ux_BN 1 rfl ?_
    refine ux_BleN i i hg rfl (by omega) (by omega) (fun _ => ?_) (fun h => by omega)
    exact hK _ _ _ m h1 h2
  | succ n ih =>
    intro i E1 A1 w hi m h1 h2
    refine ux_BN 2 rfl ?_
    refine ux_Bget rfl rfl m.1 rfl ?_
    refine ux_BN 1 rfl ?_
    refine ux_BleN nn i hg rfl (by omega) (by omega) (fun h => by omega) (fun _ => ?_)
    refine ux_BN 1 rfl ?_
    refine ux_Bget rfl rfl m.1 rfl ?_
    refine ux_BN 6 rfl ?_
    refine ux_Bget rfl rfl m.1 rfl ?_
    refine ux_BN 1 rfl ?_
    refine mr_ild m 234 i rfl (by decide) (show i < 80 by omega) rfl ?_
    rw [h1 234 (by decide)]
    refine mr_ist m 220 (80 * u + i) rfl (by decide) (show 80 * u + i < 1920 by omega) (nI_80 u i) fun E2 m2 => ?_
    refine ux_BN 2 rfl ?_
    have := fun w => ih (i + 1) E2 _ w (by omega) m2 (fun a ha => by rw [fU_ne _ _ ha]; exact h1 a ha) (fun j => by
      rw [fU_at, getD_set (by rw [m.len 220 (by decide)]; exact (show 80 * u + i < 1920 by omega))]
      by_cases hj : j = 80 * u + i
      · rw [if_pos hj, if_pos (by omega), hj, show 80 * u + i - 80 * u = i by omega]
      · rw [if_neg hj, h2 j]
        by_cases hj2 : 80 * u ≤ j ∧ j < 80 * u + i
        · rw [if_pos hj2, if_pos (by omega)]
        · rw [if_neg hj2, if_neg (by omega)])
    rw [← nI_s] at this
    exact this _
/-- what keep writes for slot u -/
def mKept (A A2 : Nat → List Int32) (u f L nn : Nat) : Prop := (∀ a, a < 216 ∨ 220 < a → A2 a = A a) ∧ (∀ j, (A2 216).getD j 0 = if j = u then nI L else (A 216).getD j 0) ∧ (∀ j, (A2 219).getD j 0 = if j = u then nI nn else (A 219).getD j 0) ∧ (∀ j, (A2 217).getD j 0 = if 30 * u ≤ j ∧ j < 30 * u + L then (A 214).getD (30 * f + (j - 30 * u)) 0 else (A 217).getD j 0) ∧ (∀ h, h < 8 → ((f = h ∨ ∃ k, k < L ∧ (A 214).getD (30 * f + k) 0 = nI (h + 11)) → (A2 218).getD (9 * u + h) 0 = (A 212).getD h 0) ∧ (¬ (f = h ∨ ∃ k, k < L ∧ (A 214).getD (30 * f + k) 0 = nI (h + 11)) → (A2 218).getD (9 * u + h) 0 = -1)) ∧ (∀ j, j < 9 * u ∨ 9 * u + 8 ≤ j → (A2 218).getD j 0 = (A 218).getD j 0) ∧ ∀ j, (A2 220).getD j 0 = if 80 * u ≤ j ∧ j < 80 * u + nn then (A 234).getD (j - 80 * u) 0 else (A 220).getD j 0
theorem mo_keep {nn : Nat} (hm : md E0 g A E) (hf : f < 8) (hL : L ≤ 30) (hLA : (A 213).getD f 0 = nI L) (hn : nn ≤ 80) (hg : g 28 = nI nn)
    (hK : ∀ o, o < 3 → (∀ j, j < 3 → (A 215).getD (3 * f + o) 0 ≤ (A 215).getD (3 * f + j) 0) → ∀ E' A' w', md E0 g A' E' → mKept A A' (3 * f + o) f L nn → K (.inr (some (.int (nI (3 * f + o))))) E' x z w') : ux_Bm uxP sc (d + 1) 105 [.ref 210, .int (nI f)] E x z K := by
  show ux_B uxP sc (d + 1) 105 0 [.ref 210, .int (nI f), .null, .null] [] E x z false K
  refine ux_BN 2 rfl ?_
  refine ux_Bv rfl rfl rfl hm.1 rfl (by decide) rfl rfl ?_
  refine mo_oldest hm f hf fun o ho hmin => ?_
  have hu : 3 * f + o < 24 := by omega
  refine ux_BN 2 rfl ?_
  refine ux_Bget rfl rfl hm.1 rfl ?_
  refine ux_BN 2 rfl ?_
  refine ux_Bget rfl rfl hm.1 rfl ?_
  refine ux_BN 1 rfl ?_
  refine mr_ild hm 213 f rfl (by decide) hf rfl ?_
  rw [hLA]
  refine mr_ist hm 216 (3 * f + o) rfl (by decide) hu rfl fun E1 m1 => ?_
  refine ux_BN 2 rfl ?_
  refine mk_l1 (A := fU A 216 ((A 216).set (3 * f + o) (nI L))) hu hf hL hLA (fun E2 A2 w2 m2 e1 e2 => ?_) L 0 E1 _ _ (by omega) m1 (fun _ _ => rfl) (fun j => by rw [if_neg (by omega)])
  refine ux_BN 2 rfl ?_
  refine mk_l2 (A := A2) hu hf hL (by rw [e1 213 (by decide)]; exact hLA) (fun E3 A3 w3 m3 e3 e4 e5 => ?_) 8 0 E2 _ _ rfl m2 (fun _ _ => rfl) (fun h hh => by omega) (fun _ _ => rfl)
  refine ux_BN 1 rfl ?_
  refine ux_Bget rfl rfl m3.1 rfl ?_
  refine ux_BN 2 rfl ?_
  refine ux_Bget rfl rfl m3.1 rfl ?_
  refine mr_ist m3 219 (3 * f + o) rfl (by decide) hu rfl fun E4 m4 => ?_
  refine ux_BN 2 rfl ?_
  refine mk_l3 (A := fU A3 219 ((A3 219).set (3 * f + o) (g 28))) hu hn hg (fun E5 A5 w5 m5 e6 e7 => ?_) nn 0 E4 _ _ (by omega) m4 (fun _ _ => rfl) (fun j => by rw [if_neg (by omega)])
  refine ux_BN 1 rfl ?_
  refine ux_Bri rfl (Or.inl rfl) (hK o ho hmin E5 A5 _ m5 ⟨fun a ha => ?_, fun j => ?_, fun j => ?_, fun j => ?_, fun h hh => ?_, fun j hj => ?_, fun j => ?_⟩)
  · rw [e6 a (by omega), fU_ne _ _ (by omega), e3 a (by omega), e1 a (by omega), fU_ne _ _ (by omega)]
  · rw [e6 216 (by decide), fU_ne _ _ (by decide), e3 216 (by decide), e1 216 (by decide), fU_at, getD_set (by rw [hm.len 216 (by decide)]; exact hu)]
  · rw [e6 219 (by decide), fU_at, getD_set (by rw [m3.len 219 (by decide)]; exact hu), hg, e3 219 (by decide), e1 219 (by decide), fU_ne _ _ (by decide)]
  · rw [e6 217 (by decide), fU_ne _ _ (by decide), e3 217 (by decide), e2 j]; rfl
  · rw [e6 218 (by decide), fU_ne _ _ (by decide)]
    have := e4 h hh
    rw [e1 214 (by decide), e1 212 (by decide)] at this
    exact this
  · rw [e6 218 (by decide), fU_ne _ _ (by decide), e5 j hj, e1 218 (by decide), fU_ne _ _ (by decide)]
  · rw [e7 j, fU_ne _ _ (by decide), fU_ne _ _ (by decide), e3 234 (by decide), e1 234 (by decide), e3 220 (by decide), e1 220 (by decide)]; rfl
end MK
end
section
/-! The reference's make. -/
def mA1 (A : Nat → List Int32) (f : Nat) : Nat → List Int32 := fU (fU (fU (fU A 221 ((A 221).set f 0)) 222 ((A 222).set f (-1))) 223 ((A 223).set f 0)) 224 ((A 224).set f (-1))
section MM
variable {sc : List Int32} {d : Nat} {E0 E : ux_Ev} {g : Nat → Int32} {A : Nat → List Int32} {x z : Nat} {w : Bool} {K : ux_K1} {f L : Nat} {tk : Nat → Int32} {own : Int32} {sg : Nat → Int32}
theorem mS_congr {A A2 : Nat → List Int32} (h : mS A f L tk own sg) (he : ∀ a, 211 ≤ a → a ≤ 214 → A2 a = A a) : mS A2 f L tk own sg := by
  unfold mS at h ⊢
  rw [he 211 (by decide) (by decide), he 212 (by decide) (by decide), he 213 (by decide) (by decide), he 214 (by decide) (by decide)]
  exact h
/-- the last rows of make: the stamp, the unit's use, the choice -/
theorem mm_end {u : Nat} (hm : md E0 g A E) (hf : f < 8) (hu : u < 24) (hK : ∀ E' w', md E0 (fU g 11 (g 11 + 1)) (fU (fU A 215 ((A 215).set u (g 11 + 1))) 224 ((A 224).set f (nI u))) E' → K (.inr none) E' x z w') : ux_B uxP sc d 89 130 [.ref 210, .int (nI f), .int (nI u)] [] E x z w K := by
  refine ux_BN 2 rfl ?_
  refine ux_Bget rfl rfl hm.1 rfl ?_
  refine ux_BN 2 rfl ?_
  refine ux_Btop (g 11 + 1) rfl ?_
  refine mr_put hm rfl rfl rfl (by decide) rfl fun E1 m1 => ?_
  refine ux_BN 1 rfl ?_
  refine ux_Bget rfl rfl m1.1 rfl ?_
  refine ux_BN 2 rfl ?_
  refine ux_Bget rfl rfl m1.1 rfl ?_
  refine ux_Btop (g 11 + 1) rfl ?_
  refine mr_ist m1 215 u rfl (by decide) hu rfl fun E2 m2 => ?_
  refine ux_BN 1 rfl ?_
  refine ux_Bget rfl rfl m2.1 rfl ?_
  refine ux_BN 2 rfl ?_
  refine mr_ist m2 224 f rfl (by decide) hf rfl fun E3 m3 => ?_
  exact ux_Br rfl (hK _ _ m3)
theorem mo_make (hm : md E0 g A E) (hs : mS A f L tk own sg) (hown : ¬ (A 211).getD f 0 = 0 → ∃ j, j < 64 ∧ own = nI j)
    (hA : (A 211).getD f 0 = 0 → ∀ E' w', md E0 g (mA1 A f) E' → K (.inr none) E' x z w')
    (hB : ¬ (A 211).getD f 0 = 0 → ∀ o, o < 3 → mFit A (3 * f + o) f L → ∀ E' w', md E0 (fU g 11 (g 11 + 1)) (fU (fU (fU (fU (mA1 A f) 223 ((mA1 A f 223).set f 1)) 225 ((A 225).set 0 ((A 225).getD 0 0 + 1))) 215 ((A 215).set (3 * f + o) (g 11 + 1))) 224 ((mA1 A f 224).set f (nI (3 * f + o)))) E' → K (.inr none) E' x z w')
    (hC : ¬ (A 211).getD f 0 = 0 → (∀ o, o < 3 → ¬ mFit A (3 * f + o) f L) → ∀ k pl, cAll tk L own sg = .inl (k, pl) → ∀ E' w' g' A', md E0 g' A' E' → (∀ j, j ≠ 26 → j ≠ 28 → j ≠ 29 → j ≠ 30 → g' j = g j) → (∀ a, a < 229 ∨ 234 < a → A' a = (fU (fU (fU (fU (fU (mA1 A f) 223 ((mA1 A f 223).set f 2)) 225 ((A 225).set 1 ((A 225).getD 1 0 + 1))) 221 ((mA1 A f 221).set f k)) 222 ((mA1 A f 222).set f pl)) 225 (((A 225).set 1 ((A 225).getD 1 0 + 1)).set 2 (((A 225).set 1 ((A 225).getD 1 0 + 1)).getD 2 0 + 1))) a) → K (.inr none) E' x z w')
    (hD : ¬ (A 211).getD f 0 = 0 → (∀ o, o < 3 → ¬ mFit A (3 * f + o) f L) → ∀ t q c, cAll tk L own sg = .inr (t, q, c) → ∀ o, o < 3 → (∀ j, j < 3 → (A 215).getD (3 * f + o) 0 ≤ (A 215).getD (3 * f + j) 0) → ∀ E' w' g' A' A2 A3, md E0 (fU g' 11 (g' 11 + 1)) A' E' → (∀ j, j ≠ 26 → j ≠ 28 → j ≠ 29 → j ≠ 30 → g' j = g j) → (∀ a, a < 229 ∨ 234 < a → A2 a = (fU (fU (fU (fU (mA1 A f) 223 ((mA1 A f 223).set f 2)) 225 ((A 225).set 1 ((A 225).getD 1 0 + 1))) 221 ((mA1 A f 221).set f 0)) 222 ((mA1 A f 222).set f (-1))) a) → (∀ k, k < c.length → (A2 234).getD k 0 = c.getD k 0) → mKept A2 A3 (3 * f + o) f L c.length → A' = fU (fU A3 215 ((A3 215).set (3 * f + o) (g' 11 + 1))) 224 ((A3 224).set f (nI (3 * f + o))) → K (.inr none) E' x z w') : ux_Bm uxP sc (d + 3) 89 [.ref 210, .int (nI f)] E x z K := by
  show ux_B uxP sc (d + 3) 89 0 [.ref 210, .int (nI f), .null] [] E x z false K
  have hs' := hs
  obtain ⟨hf, hL, h213, htk, how, hsg⟩ := hs
  refine ux_BN 1 rfl ?_
  refine ux_Bget rfl rfl hm.1 rfl ?_
  refine ux_BN 2 rfl ?_
  refine mr_ist hm 221 f rfl (by decide) hf rfl fun E1 m1 => ?_
  refine ux_BN 1 rfl ?_
  refine ux_Bget rfl rfl m1.1 rfl ?_
  refine ux_BN 2 rfl ?_
  refine mr_ist m1 222 f rfl (by decide) hf rfl fun E2 m2 => ?_
  refine ux_BN 1 rfl ?_
  refine ux_Bget rfl rfl m2.1 rfl ?_
  refine ux_BN 2 rfl ?_
  refine mr_ist m2 223 f rfl (by decide) hf rfl fun E3 m3 => ?_
  refine ux_BN 1 rfl ?_
  refine ux_Bget rfl rfl m3.1 rfl ?_
  refine ux_BN 2 rfl ?_
  refine mr_ist m3 224 f rfl (by decide) hf rfl fun E4 m4 => ?_
  have m4 : md E0 g (mA1 A f) E4 := m4
  refine ux_BN 1 rfl ?_
  refine ux_Bget rfl rfl m4.1 rfl ?_
  refine ux_BN 1 rfl ?_
  refine mr_zld m4 f rfl hf rfl ?_
  refine ux_BN 1 rfl ?_
  refine ux_Bne (fun h0 => ?_) (fun h0 => ?_)
  · exact ux_Br rfl (hA h0 _ _ m4)
  · have h0 : ¬ (A 211).getD f 0 = 0 := h0
    refine ux_BN 2 rfl ?_
    refine ux_Bv rfl rfl rfl m4.1 rfl (by decide) rfl rfl ?_
    refine mo_fitting m4 f L hf hL h213 (fun o ho hfit => ?_) (fun hno => ?_)
    · refine ux_BN 2 rfl ?_
      refine ux_Bget rfl rfl m4.1 rfl ?_
      refine ux_BN 3 rfl ?_
      refine ux_Bsel 1 2 rfl rfl ?_
      refine ux_Btop 1 (if_neg (nI_pos (by omega))) ?_
      refine mr_ist m4 223 f rfl (by decide) hf rfl fun E5 m5 => ?_
      refine ux_BN 1 rfl ?_
      refine ux_Bget rfl rfl m5.1 rfl ?_
      refine ux_BN 2 rfl ?_
      refine ux_Bsel 1 2 rfl rfl ?_
      refine ux_Btop (nI 0) (if_neg (nI_pos (by omega))) ?_
      refine ux_BN 1 rfl ?_
      refine mr_ild m5 225 0 rfl (by decide) (by decide) rfl ?_
      refine ux_BN 2 rfl ?_
      refine ux_Btop ((A 225).getD 0 0 + 1) rfl ?_
      refine mr_ist m5 225 0 rfl (by decide) (by decide) rfl fun E6 m6 => ?_
      refine ux_BN 2 rfl ?_
      refine ux_Byes (nI_pos' (by omega)) ?_
      exact mm_end m6 hf (by omega) fun E7 w7 m7 => hB h0 o ho hfit E7 w7 m7
    · refine ux_BN 2 rfl ?_
      refine ux_Bget rfl rfl m4.1 rfl ?_
      refine ux_BN 3 rfl ?_
      refine ux_Bsel 1 2 rfl rfl ?_
      refine ux_Btop 2 rfl ?_
      refine mr_ist m4 223 f rfl (by decide) hf rfl fun E5 m5 => ?_
      refine ux_BN 1 rfl ?_
      refine ux_Bget rfl rfl m5.1 rfl ?_
      refine ux_BN 2 rfl ?_
      refine ux_Bsel 1 2 rfl rfl ?_
      refine ux_Btop (nI 1) rfl ?_
      refine ux_BN 1 rfl ?_
      refine mr_ild m5 225 1 rfl (by decide) (by decide) rfl ?_
      refine ux_BN 2 rfl ?_
      refine ux_Btop ((A 225).getD 1 0 + 1) rfl ?_
      refine mr_ist m5 225 1 rfl (by decide) (by decide) rfl fun E6 m6 => ?_
      refine ux_BN 2 rfl ?_
      refine ux_Bno (by decide) ?_
      refine ux_BN 2 rfl ?_
      refine ux_Bv rfl rfl rfl m6.1 rfl (by decide) rfl rfl ?_
      refine mo_compile (tk := tk) (own := own) (sg := sg) m6 (mS_congr hs' fun a h1 h2 => by rw [fU_ne _ _ (by omega), fU_ne _ _ (by omega)]; unfold mA1; rw [fU_ne _ _ (by omega), fU_ne _ _ (by omega), fU_ne _ _ (by omega), fU_ne _ _ (by omega)]) (hown h0) (fun t q c hr E7 w7 dd R m7 => ?_) (fun k pl hr E7 w7 dd c R m7 => ?_)
      · obtain ⟨g', A7, hm7, hg7, hA7, h26, h28, h29, h30, ⟨tl, h234⟩, hR⟩ := m7
        have hlen := hm7.len 234 (by decide)
        rw [h234, List.length_append] at hlen
        have hlen : c.length + tl.length = 80 := hlen
        refine ux_BN 1 rfl ?_
        refine ux_Bget rfl rfl hm7.1 rfl ?_
        refine ux_BN 2 rfl ?_
        refine ux_Bget rfl rfl hm7.1 rfl ?_
        refine ux_Btop 0 h29 ?_
        refine mr_ist hm7 221 f rfl (by decide) hf rfl fun E8 m8 => ?_
        refine ux_BN 1 rfl ?_
        refine ux_Bget rfl rfl m8.1 rfl ?_
        refine ux_BN 2 rfl ?_
        refine ux_Bget rfl rfl m8.1 rfl ?_
        refine ux_Btop (-1) h30 ?_
        refine mr_ist m8 222 f rfl (by decide) hf rfl fun E9 m9 => ?_
        refine ux_BN 1 rfl ?_
        refine ux_Bget rfl rfl m9.1 rfl ?_
        refine ux_Btop 0 h29 ?_
        refine ux_BN 1 rfl ?_
        refine ux_Byes (by decide) ?_
        refine ux_BN 2 rfl ?_
        refine ux_Bv rfl rfl rfl m9.1 rfl (by decide) rfl rfl ?_
        refine mo_keep m9 hf hL (show (A7 213).getD f 0 = nI L from by rw [hA7 213 (by decide)]; exact h213) (show c.length ≤ 80 by omega) h28 fun o ho hmin E10 A10 w10 m10 hkept => ?_
        refine ux_BN 1 rfl ?_
        refine mm_end m10 hf (by omega) fun E11 w11 m11 => hD h0 hno t q c hr o ho (fun j hj => ?_) E11 w11 g' _ _ A10 m11 (fun j a b e f => hg7 j a b e f) (fun a ha => ?_) (fun k hk => ?_) hkept rfl
        · have := hmin j hj
          rw [show (fU (fU A7 221 ((A7 221).set f 0)) 222 ((fU A7 221 ((A7 221).set f 0) 222).set f (-1))) 215 = A7 215 from rfl, hA7 215 (by decide)] at this
          exact this
        · by_cases h222 : a = 222
          · subst h222
            rw [fU_at, fU_at, fU_ne _ _ (by decide), hA7 222 (by decide)]; rfl
          · rw [fU_ne _ _ h222, fU_ne _ _ h222]
            by_cases h221 : a = 221
            · subst h221
              rw [fU_at, fU_at, hA7 221 (by decide)]; rfl
            · rw [fU_ne _ _ h221, fU_ne _ _ h221, hA7 a ha]; rfl
        · rw [show (fU (fU A7 221 ((A7 221).set f 0)) 222 ((fU A7 221 ((A7 221).set f 0) 222).set f (-1))) 234 = A7 234 from rfl, h234, getD_app hk]
      · obtain ⟨g', A7, hm7, hg7, hA7, h26, h28, h29, h30, ht, hR⟩ := m7
        refine ux_BN 1 rfl ?_
        refine ux_Bget rfl rfl hm7.1 rfl ?_
        refine ux_BN 2 rfl ?_
        refine ux_Bget rfl rfl hm7.1 rfl ?_
        refine ux_Btop k h29 ?_
        refine mr_ist hm7 221 f rfl (by decide) hf rfl fun E8 m8 => ?_
        refine ux_BN 1 rfl ?_
        refine ux_Bget rfl rfl m8.1 rfl ?_
        refine ux_BN 2 rfl ?_
        refine ux_Bget rfl rfl m8.1 rfl ?_
        refine ux_Btop pl h30 ?_
        refine mr_ist m8 222 f rfl (by decide) hf rfl fun E9 m9 => ?_
        refine ux_BN 1 rfl ?_
        refine ux_Bget rfl rfl m9.1 rfl ?_
        refine ux_Btop k h29 ?_
        refine ux_BN 1 rfl ?_
        refine ux_Bno (cAll_k hr) ?_
        refine ux_BN 1 rfl ?_
        refine ux_Bget rfl rfl m9.1 rfl ?_
        refine ux_BN 2 rfl ?_
        refine mr_ild m9 225 2 rfl (by decide) (by decide) rfl ?_
        refine ux_BN 2 rfl ?_
        have h225 : A7 225 = (A 225).set 1 ((A 225).getD 1 0 + 1) := hA7 225 (by decide)
        refine ux_Btop (((A 225).set 1 ((A 225).getD 1 0 + 1)).getD 2 0 + 1) (by rw [← h225]; rfl) ?_
        refine mr_ist m9 225 2 rfl (by decide) (by decide) rfl fun E10 m10 => ?_
        refine ux_Br rfl (hC h0 hno k pl hr E10 _ g' _ m10 hg7 (fun a ha => ?_))
        by_cases h5 : a = 225
        · subst h5
          rw [fU_at, fU_at, fU_ne _ _ (by decide), fU_ne _ _ (by decide), h225]
        · rw [fU_ne _ _ h5, fU_ne _ _ h5]
          by_cases h222 : a = 222
          · subst h222
            rw [fU_at, fU_at, fU_ne _ _ (by decide), hA7 222 (by decide)]; rfl
          · rw [fU_ne _ _ h222, fU_ne _ _ h222]
            by_cases h221 : a = 221
            · subst h221
              rw [fU_at, fU_at, hA7 221 (by decide)]; rfl
            · rw [fU_ne _ _ h221, fU_ne _ _ h221, hA7 a ha]; rfl
end MM
end
section
/-! What renewing one function does, as a pure function. -/
def uIdx (f : Nat) (sl t : List Int32) : List sU → Option Nat
  | [] => none
  | U :: r => if uFit f sl t U = true then some 0 else (uIdx f sl t r).map (fun i => i + 1)
theorem uIdx_none {f : Nat} {sl t : List Int32} : ∀ {us : List sU}, (∀ U, U ∈ us → ¬ uFit f sl t U = true) → uIdx f sl t us = none := by
  intro us
  induction us with
  | nil => intro _; rfl
  | cons U r ih =>
    intro h
    unfold uIdx
    rw [if_neg (h U (by simp)), ih (fun V hV => h V (by simp [hV]))]
    rfl
theorem uIdx_some {f : Nat} {sl t : List Int32} : ∀ {us : List sU} {i : Nat} {U : sU}, us[i]? = some U → uFit f sl t U = true → (∀ j V, j < i → us[j]? = some V → ¬ uFit f sl t V = true) → uIdx f sl t us = some i := by
  intro us
  induction us with
  | nil => intro i U h; simp at h
  | cons V r ih =>
    intro i U h hf hno
    unfold uIdx
    cases i with
    | zero =>
      rw [List.getElem?_cons_zero] at h
      cases h
      rw [if_pos hf]
    | succ i =>
      rw [List.getElem?_cons_succ] at h
      rw [if_neg (hno 0 V (by omega) rfl), ih h hf (fun j W hj hW => hno (j + 1) W (by omega) (by rw [List.getElem?_cons_succ]; exact hW))]
      rfl
theorem uIdx_spec {f : Nat} {sl t : List Int32} : ∀ {us : List sU} {i : Nat}, uIdx f sl t us = some i → ∃ U, us[i]? = some U ∧ uFit f sl t U = true := by
  intro us
  induction us with
  | nil => intro i h; cases h
  | cons V r ih =>
    intro i h
    unfold uIdx at h
    by_cases hf : uFit f sl t V = true
    · rw [if_pos hf] at h
      cases h
      exact ⟨V, rfl, hf⟩
    · rw [if_neg hf] at h
      cases hr : uIdx f sl t r with
      | none => rw [hr] at h; cases h
      | some j =>
        rw [hr] at h
        cases h
        obtain ⟨U, h1, h2⟩ := ih hr
        exact ⟨U, by rw [List.getElem?_cons_succ]; exact h1, h2⟩
theorem uIdx_n {f : Nat} {sl t : List Int32} : ∀ {us : List sU}, uIdx f sl t us = none → ∀ U, U ∈ us → ¬ uFit f sl t U = true := by
  intro us
  induction us with
  | nil => intro _ U hU; cases hU
  | cons V r ih =>
    intro h U hU
    unfold uIdx at h
    by_cases hf : uFit f sl t V = true
    · rw [if_pos hf] at h; cases h
    · rw [if_neg hf] at h
      cases hr : uIdx f sl t r with
      | some j => rw [hr] at h; cases h
      | none =>
        rcases List.mem_cons.mp hU with rfl | hU
        · exact hf
        · exact ih hr U hU
def rnU (f : Nat) (sl t : List Int32) (us : List sU) : List sU := if sl.getD f 0 = -1 then us else match uIdx f sl t us with
  | some i => (match us[i]? with
    | some U => U :: us.eraseIdx i
    | none => us)
  | none => (match cOf f t sl with
    | .inl _ => us
    | .inr (_, _, c) => ((t, sl.getD f 0, calOf t sl, c) :: us).take 3)
/-- kind, place, deed -/
def rnR (f : Nat) (sl t : List Int32) (us : List sU) : Int32 × Int32 × Int32 := if sl.getD f 0 = -1 then (0, -1, 0) else match uIdx f sl t us with
  | some _ => (0, -1, 1)
  | none => (match cOf f t sl with
    | .inl (k, p) => (k, p, 2)
    | .inr _ => (0, -1, 2))
/-- the class's counts -/
def rnC (r : Int32 × Int32 × Int32) (ct : List Int32) : List Int32 := if r.2.2 = 0 then ct else if r.2.2 = 1 then (ct.set 0 (ct.getD 0 0 + 1)).set 3 (ct.getD 3 0 + 1) else if r.1 = 0 then (ct.set 1 (ct.getD 1 0 + 1)).set 4 (ct.getD 4 0 + 1) else ((ct.set 1 (ct.getD 1 0 + 1)).set 4 (ct.getD 4 0 + 1)).set 2 (ct.getD 2 0 + 1)
theorem fU_self {α : Type} (f : Nat → α) (k : Nat) : fU f k (f k) = f := funext fun j => by
  unfold fU
  split
  · rename_i hj; rw [hj]
  · rfl
section KR2
variable {sc : List Int32} {d : Nat} {E : ux_Ev} {f : Nat} {sl fk fp dn ct : List Int32} {tx : Nat → List Int32} {us : Nat → List sU} {x z : Nat} {w : Bool} {K : ux_K1}
theorem ko_renew2 (h : cS E sl tx us fk fp dn ct) (hf : f < 8) (hK : ∀ E' w', cS E' sl tx (fU us f (rnU f sl (tx f) (us f))) (fk.set f (rnR f sl (tx f) (us f)).1) (fp.set f (rnR f sl (tx f) (us f)).2.1) (dn.set f (rnR f sl (tx f) (us f)).2.2) (rnC (rnR f sl (tx f) (us f)) ct) → (∀ b, b < 5 ∨ 9 < b → b < 20 + 24 * f ∨ 41 + 24 * f < b → E' b = E b) → K (.inr none) E' x z w') : ux_Bm uxP sc 100 9 [.ref 1, .int (nI f)] E x z K := by
  refine ko_renew h hf (fun ha E' w' h' g' => hK E' w' ?_ g') (fun ha i U hU hfit hno E' w' h' g' => hK E' w' ?_ g') (fun ha hno k pl hr E' w' h' g' => hK E' w' ?_ g') (fun ha hno t q c hr hca E' w' h' g' => hK E' w' ?_ g')
  · have e1 : rnU f sl (tx f) (us f) = us f := if_pos ha
    have e2 : rnR f sl (tx f) (us f) = (0, -1, 0) := if_pos ha
    rw [e1, e2, fU_self]
    exact h'
  · have hi := uIdx_some hU hfit hno
    have e1 : rnU f sl (tx f) (us f) = U :: (us f).eraseIdx i := by unfold rnU; rw [if_neg ha, hi]; simp only [hU]
    have e2 : rnR f sl (tx f) (us f) = (0, -1, 1) := by unfold rnR; rw [if_neg ha, hi]
    rw [e1, e2]
    exact h'
  · have hi := uIdx_none hno
    have e1 : rnU f sl (tx f) (us f) = us f := by unfold rnU; rw [if_neg ha, hi]; simp only [hr]
    have e2 : rnR f sl (tx f) (us f) = (k, pl, 2) := by unfold rnR; rw [if_neg ha, hi]; simp only [hr]
    have hk : ¬ k = 0 := fun h0 => cAll_k hr (by rw [h0]; decide)
    rw [e1, e2, fU_self]
    have e3 : rnC (k, pl, 2) ct = ((ct.set 1 (ct.getD 1 0 + 1)).set 4 (ct.getD 4 0 + 1)).set 2 (ct.getD 2 0 + 1) := by unfold rnC; rw [if_neg (show ¬ (2 : Int32) = 0 by decide), if_neg (show ¬ (2 : Int32) = 1 by decide), if_neg hk]
    rw [e3]
    exact h'
  · have hi := uIdx_none hno
    have e1 : rnU f sl (tx f) (us f) = ((tx f, sl.getD f 0, calOf (tx f) sl, c) :: us f).take 3 := by unfold rnU; rw [if_neg ha, hi]; simp only [hr]
    have e2 : rnR f sl (tx f) (us f) = (0, -1, 2) := by unfold rnR; rw [if_neg ha, hi]; simp only [hr]
    rw [e1, e2]
    exact h'
end KR2
end
section
/-! The reference's units by latest use; its make as the pure function. -/
def mU (A : Nat → List Int32) (u f : Nat) (U : sU) : Prop := (A 216).getD u 0 = nI U.1.length ∧ (∀ k, k < U.1.length → (A 217).getD (30 * u + k) 0 = U.1.getD k 0) ∧ (∀ h, h < 8 → (A 218).getD (9 * u + h) 0 = if h = f then U.2.1 else U.2.2.1.getD h 0) ∧ (A 219).getD u 0 = nI U.2.2.2.length ∧ ∀ k, k < U.2.2.2.length → (A 220).getD (80 * u + k) 0 = U.2.2.2.getD k 0
/-- a unit that was compiled once -/
def uV (f : Nat) (U : sU) : Prop := ∃ sl t q, sOk sl ∧ ¬ sl.getD f 0 = -1 ∧ (∀ h, h < 8 → nI (h + 11) ∈ U.1 → ¬ sl.getD h 0 = -1) ∧ U.2.1 = sl.getD f 0 ∧ U.2.2.1 = calOf U.1 sl ∧ cOf f U.1 sl = .inr (t, q, U.2.2.2) ∧ U.1.length ≤ 30
/-- signatures and texts -/
def mT (A : Nat → List Int32) (sl : List Int32) (tx : Nat → List Int32) : Prop := (∀ h, h < 8 → ((A 211).getD h 0 = 0 → sl.getD h 0 = -1) ∧ (¬ (A 211).getD h 0 = 0 → sl.getD h 0 = (A 212).getD h 0 ∧ ∃ j, j < 64 ∧ sl.getD h 0 = nI j)) ∧ ∀ f, f < 8 → (tx f).length ≤ 30 ∧ (A 213).getD f 0 = nI (tx f).length ∧ ∀ k, k < (tx f).length → (A 214).getD (30 * f + k) 0 = (tx f).getD k 0
theorem mT.s {A : Nat → List Int32} {sl : List Int32} {tx : Nat → List Int32} (h : mT A sl tx) {f : Nat} (hf : f < 8) : mS A f (tx f).length (fun i => (tx f).getD i 0) ((A 212).getD f 0) (fun h => sl.getD h 0) := by
  obtain ⟨h1, h2⟩ := h
  obtain ⟨a1, a2, a3⟩ := h2 f hf
  exact ⟨hf, a1, a2, a3, rfl, h1⟩
theorem val_pos {j : Nat} (hj : j < 64) : ¬ nI j < 0 := nI_pos (by omega)
theorem fit_iff {A : Nat → List Int32} {sl : List Int32} {tx : Nat → List Int32} (h : mT A sl tx) {f u : Nat} (hf : f < 8) {U : sU} (hV : uV f U) (hU : mU A u f U) (hu : ¬ (A 215).getD u 0 ≤ 0) : mFit A u f (tx f).length ↔ uFit f sl (tx f) U = true := by
  obtain ⟨sl0, t0, q0, hok, hsf, hca, hown, hcal, hcof, hlen⟩ := hV
  obtain ⟨u1, u2, u3, u4, u5⟩ := hU
  obtain ⟨h1, h2⟩ := h
  obtain ⟨a1, a2, a3⟩ := h2 f hf
  obtain ⟨jf, hjf, hsf0⟩ := (hok.2 f hf).resolve_left hsf
  have hcalg : ∀ g, g < 8 → U.2.2.1.getD g 0 = if nI (g + 11) ∈ U.1 then sl0.getD g 0 else -1 := fun g hg => by rw [hcal]; exact calOf_at U.1 sl0 hg
  rw [uFit_iff]
  constructor
  · rintro ⟨⟨_, f1⟩, f2, f3⟩
    have hll : U.1.length = (tx f).length := by
      rw [u1, a2] at f1
      exact (nI_eq (by omega) (by omega)).mp f1
    have ht : U.1 = tx f := ext_getD hll fun k hk => by rw [← u2 k hk, f2 k (by omega), a3 k (by omega)]
    have hown2 : U.2.1 = sl.getD f 0 := by
      have hh := f3 f hf
      rw [u3 f hf, if_pos rfl] at hh
      rcases hh with hh | ⟨hh1, hh2⟩
      · rw [hown, hsf0] at hh
        exact absurd hh (val_pos hjf)
      · rw [hh2, ((h1 f hf).2 hh1).1]
    refine ⟨hown2, ht, fun g hg => ?_⟩
    by_cases hm : nI (g + 11) ∈ U.1
    · right
      have hne := hca g hg hm
      obtain ⟨j, hj, hsj⟩ := (hok.2 g hg).resolve_left hne
      have hcg : U.2.2.1.getD g 0 = nI j := by rw [hcalg g hg, if_pos hm, hsj]
      by_cases hgf : g = f
      · subst hgf
        rw [hcg, ← hown2, hown, hsj]
      · have hh := f3 g hg
        rw [u3 g hg, if_neg hgf, hcg] at hh
        rcases hh with hh | ⟨hh1, hh2⟩
        · exact absurd hh (val_pos hj)
        · rw [hcg, hh2, ((h1 g hg).2 hh1).1]
    · left
      rw [hcalg g hg, if_neg hm]
  · rintro ⟨f1, f2, f3⟩
    refine ⟨⟨hu, by rw [u1, a2, f2]⟩, fun k hk => ?_, fun g hg => ?_⟩
    · rw [a3 k hk, u2 k (by rw [f2]; exact hk), f2]
    · have hthere : ∀ j, j < 64 → sl.getD g 0 = nI j → ¬ (A 211).getD g 0 = 0 := fun j hj hs h0 => by
        have := (h1 g hg).1 h0
        rw [hs] at this
        exact nI_m1 j hj this
      rw [u3 g hg]
      by_cases hgf : g = f
      · subst hgf
        rw [if_pos rfl, f1]
        right
        have := hthere jf hjf (by rw [← f1, hown, hsf0])
        exact ⟨this, ((h1 g hg).2 this).1⟩
      · rw [if_neg hgf]
        by_cases hm : nI (g + 11) ∈ U.1
        · have hne := hca g hg hm
          obtain ⟨j, hj, hsj⟩ := (hok.2 g hg).resolve_left hne
          have hcg : U.2.2.1.getD g 0 = nI j := by rw [hcalg g hg, if_pos hm, hsj]
          have hcs : U.2.2.1.getD g 0 = sl.getD g 0 := (f3 g hg).resolve_left (by rw [hcg]; exact nI_m1 j hj)
          right
          have := hthere j hj (by rw [← hcs, hcg])
          exact ⟨this, by rw [hcs]; exact ((h1 g hg).2 this).1⟩
        · left
          rw [hcalg g hg, if_neg hm]
          decide
/-- two kept units of a function that fit are the same -/
theorem fit_key {sl t : List Int32} {f : Nat} {U : sU} (hV : uV f U) (h : uFit f sl t U = true) : U.1 = t ∧ U.2.1 = sl.getD f 0 ∧ U.2.2.1 = calOf t sl := by
  obtain ⟨sl0, t0, q0, hok, hsf, hca, hown, hcal, hcof, hlen⟩ := hV
  obtain ⟨f1, f2, f3⟩ := (uFit_iff f sl t U).mp h
  refine ⟨f2, f1, ext_getD (by rw [hcal, calOf_len, calOf_len]) fun g hg => ?_⟩
  have hg8 : g < 8 := by rw [hcal, calOf_len] at hg; exact hg
  rw [calOf_at t sl hg8]
  have hcg : U.2.2.1.getD g 0 = if nI (g + 11) ∈ U.1 then sl0.getD g 0 else -1 := by rw [hcal]; exact calOf_at U.1 sl0 hg8
  by_cases hm : nI (g + 11) ∈ t
  · rw [if_pos hm]
    have hm' : nI (g + 11) ∈ U.1 := by rw [f2]; exact hm
    refine (f3 g hg8).resolve_left ?_
    rw [hcg, if_pos hm']
    exact hca g hg8 hm'
  · rw [if_neg hm, hcg, if_neg (by rw [f2]; exact hm)]
/-- the reference's slots of function f: slot, stamp and unit, by latest use -/
def mSl (A : Nat → List Int32) (f st : Nat) (qs : List (Nat × Nat × sU)) : Prop := qs.length ≤ 3 ∧ (∀ q, q ∈ qs → (3 * f ≤ q.1 ∧ q.1 < 3 * f + 3) ∧ (A 215).getD q.1 0 = nI q.2.1 ∧ (0 < q.2.1 ∧ q.2.1 ≤ st) ∧ mU A q.1 f q.2.2) ∧ (qs.Pairwise fun a b => b.2.1 < a.2.1 ∧ a.1 ≠ b.1) ∧ ∀ s, 3 * f ≤ s → s < 3 * f + 3 → (∀ q, q ∈ qs → q.1 ≠ s) → (A 215).getD s 0 = 0
/-- the units are sound and differ -/
def uO (f : Nat) (us : List sU) : Prop := (∀ U, U ∈ us → uV f U) ∧ us.Pairwise fun U V => ¬ (U.1 = V.1 ∧ U.2.1 = V.2.1 ∧ U.2.2.1 = V.2.2.1)
/-- the reference's desk but for image and run -/
def mR (g : Nat → Int32) (A : Nat → List Int32) (sl : List Int32) (tx : Nat → List Int32) (us : Nat → List sU) (st : Nat) : Prop := mT A sl tx ∧ g 11 = nI st ∧ ∀ f, f < 8 → uO f (us f) ∧ ∃ qs, mSl A f st qs ∧ us f = qs.map fun q => q.2.2
/-- slot s is the same -/
def sSame (A A2 : Nat → List Int32) (s : Nat) : Prop := (A2 215).getD s 0 = (A 215).getD s 0 ∧ (A2 216).getD s 0 = (A 216).getD s 0 ∧ (∀ k, k < 30 → (A2 217).getD (30 * s + k) 0 = (A 217).getD (30 * s + k) 0) ∧ (∀ h, h < 8 → (A2 218).getD (9 * s + h) 0 = (A 218).getD (9 * s + h) 0) ∧ (A2 219).getD s 0 = (A 219).getD s 0 ∧ ∀ k, k < 80 → (A2 220).getD (80 * s + k) 0 = (A 220).getD (80 * s + k) 0
theorem uV.len {f : Nat} {U : sU} (h : uV f U) : U.1.length ≤ 30 ∧ U.2.2.2.length ≤ 80 := by
  obtain ⟨sl0, t0, q0, hok, hsf, hca, hown, hcal, hcof, hlen⟩ := h
  exact ⟨hlen, (cAll_len hcof hlen).1⟩
theorem mU.congr {A A2 : Nat → List Int32} {s f : Nat} {U : sU} (h : mU A s f U) (hs : sSame A A2 s) (hV : uV f U) : mU A2 s f U := by
  obtain ⟨u1, u2, u3, u4, u5⟩ := h
  obtain ⟨s1, s2, s3, s4, s5, s6⟩ := hs
  obtain ⟨l1, l2⟩ := hV.len
  exact ⟨by rw [s2]; exact u1, fun k hk => by rw [s3 k (by omega)]; exact u2 k hk, fun h hh => by rw [s4 h hh]; exact u3 h hh, by rw [s5]; exact u4, fun k hk => by rw [s6 k (by omega)]; exact u5 k hk⟩
theorem mSl.congr {A A2 : Nat → List Int32} {f st st2 : Nat} {qs : List (Nat × Nat × sU)} (h : mSl A f st qs) (hV : ∀ q, q ∈ qs → uV f q.2.2) (hs : ∀ s, 3 * f ≤ s → s < 3 * f + 3 → sSame A A2 s) (hst : st ≤ st2) : mSl A2 f st2 qs := by
  obtain ⟨a1, a2, a3, a4⟩ := h
  refine ⟨a1, fun q hq => ?_, a3, fun s h1 h2 h3 => by rw [(hs s h1 h2).1]; exact a4 s h1 h2 h3⟩
  obtain ⟨b1, b2, b3, b4⟩ := a2 q hq
  exact ⟨b1, by rw [(hs q.1 b1.1 b1.2).1]; exact b2, ⟨b3.1, by omega⟩, b4.congr (hs q.1 b1.1 b1.2) (hV q hq)⟩
end
section
/-! The reference's slots: a unit comes to the front, a unit is new. -/
theorem mSl_front {A A2 : Nat → List Int32} {f st i : Nat} {qs : List (Nat × Nat × sU)} {q : Nat × Nat × sU} (h : mSl A f st qs) (hq : qs[i]? = some q) (h215 : ∀ s, (A2 215).getD s 0 = if s = q.1 then nI (st + 1) else (A 215).getD s 0) (hrest : ∀ a, 216 ≤ a → a ≤ 220 → A2 a = A a) : mSl A2 f (st + 1) ((q.1, st + 1, q.2.2) :: qs.eraseIdx i) := by
  obtain ⟨a1, a2, a3, a4⟩ := h
  have hi : i < qs.length := (List.getElem?_eq_some_iff.mp hq).1
  have hqm : q ∈ qs := List.mem_of_getElem? hq
  have hmU : ∀ s U, mU A s f U → mU A2 s f U := fun s U hU => by
    unfold mU at hU ⊢
    rw [hrest 216 (by decide) (by decide), hrest 217 (by decide) (by decide), hrest 218 (by decide) (by decide), hrest 219 (by decide) (by decide), hrest 220 (by decide) (by decide)]
    exact hU
  have hmem : ∀ p, p ∈ qs.eraseIdx i → p ∈ qs ∧ p.1 ≠ q.1 := by
    intro p hp
    obtain ⟨j, hji, hj⟩ := List.mem_eraseIdx_iff_getElem?.mp hp
    refine ⟨List.mem_of_getElem? hj, ?_⟩
    have hjl : j < qs.length := (List.getElem?_eq_some_iff.mp hj).1
    have e1 : qs[j] = p := (List.getElem?_eq_some_iff.mp hj).2
    have e2 : qs[i] = q := (List.getElem?_eq_some_iff.mp hq).2
    have h3 := List.pairwise_iff_getElem.mp a3
    rcases Nat.lt_or_gt_of_ne hji with hlt | hgt
    · have := (h3 j i hjl hi hlt).2
      rw [e1, e2] at this
      exact this
    · have := (h3 i j hi hjl hgt).2
      rw [e1, e2] at this
      exact fun h => this h.symm
  refine ⟨by rw [List.length_cons, List.length_eraseIdx, if_pos hi]; omega, fun p hp => ?_, ?_, fun s h1 h2 h3 => ?_⟩
  · rcases List.mem_cons.mp hp with rfl | hp
    · obtain ⟨b1, b2, b3, b4⟩ := a2 q hqm
      exact ⟨b1, by rw [h215, if_pos rfl], ⟨Nat.succ_pos _, Nat.le_refl _⟩, hmU _ _ b4⟩
    · obtain ⟨c1, c2⟩ := hmem p hp
      obtain ⟨b1, b2, b3, b4⟩ := a2 p c1
      exact ⟨b1, by rw [h215, if_neg c2]; exact b2, ⟨b3.1, by omega⟩, hmU _ _ b4⟩
  · refine List.pairwise_cons.mpr ⟨fun p hp => ?_, a3.sublist (List.eraseIdx_sublist _ _)⟩
    obtain ⟨c1, c2⟩ := hmem p hp
    have := (a2 p c1).2.2.1.2
    exact ⟨Nat.lt_succ_of_le this, fun h => c2 h.symm⟩
  · have hsq : s ≠ q.1 := fun h => h3 (q.1, st + 1, q.2.2) (by simp) h.symm
    rw [h215, if_neg hsq]
    refine a4 s h1 h2 fun p hp hps => ?_
    obtain ⟨j, hj⟩ := List.getElem?_of_mem hp
    by_cases hji : j = i
    · subst hji
      rw [hq] at hj
      cases hj
      exact hsq hps.symm
    · exact h3 p (List.mem_cons_of_mem _ (List.mem_eraseIdx_iff_getElem?.mpr ⟨j, hji, hj⟩)) hps
theorem mSl_new {A A2 : Nat → List Int32} {f st o : Nat} {qs : List (Nat × Nat × sU)} {U : sU} (h : mSl A f st qs) (hst : st < 2 ^ 30) (ho : o < 3) (hmin : ∀ j, j < 3 → (A 215).getD (3 * f + o) 0 ≤ (A 215).getD (3 * f + j) 0) (hV : ∀ q, q ∈ qs → uV f q.2.2) (hU : mU A2 (3 * f + o) f U) (h215 : ∀ s, (A2 215).getD s 0 = if s = 3 * f + o then nI (st + 1) else (A 215).getD s 0) (hs : ∀ s, s ≠ 3 * f + o → sSame A A2 s) : mSl A2 f (st + 1) (((3 * f + o, st + 1, U) :: qs).take 3) := by
  obtain ⟨a1, a2, a3, a4⟩ := h
  have hU2 : ∀ q, q ∈ qs → q.1 ≠ 3 * f + o → mU A2 q.1 f q.2.2 := fun q hq hne => (a2 q hq).2.2.2.congr (hs q.1 hne) (hV q hq)
  have hzero : ∀ s, 3 * f ≤ s → s < 3 * f + 3 → (∀ q, q ∈ qs → q.1 ≠ s) → ∀ q, q ∈ qs → q.1 ≠ 3 * f + o := by
    intro s h1 h2 h3 q hq hqo
    have hz := a4 s h1 h2 h3
    have hm := hmin (s - 3 * f) (by omega)
    rw [show 3 * f + (s - 3 * f) = s by omega, hz, ← hqo, (a2 q hq).2.1] at hm
    have hp := (a2 q hq).2.2.1
    exact nI_nle hp.1 (by omega) hm
  have hle : ∀ p q, p ∈ qs → q ∈ qs → p.1 = 3 * f + o → p.2.1 ≤ q.2.1 := by
    intro p q hp hq hpo
    have hr := (a2 q hq).1
    have hm := hmin (q.1 - 3 * f) (by omega)
    rw [show 3 * f + (q.1 - 3 * f) = q.1 by omega, ← hpo, (a2 p hp).2.1, (a2 q hq).2.1] at hm
    exact (nI_leI (by have := (a2 p hp).2.2.1.2; omega) (by have := (a2 q hq).2.2.1.2; omega)).mp hm
  -- the new list: those of qs that stay are not in slot 3f+o
  have hcore : ∀ rs : List (Nat × Nat × sU), rs.Sublist qs → rs.length ≤ 2 → (∀ q, q ∈ rs → q.1 ≠ 3 * f + o) → (∀ s, 3 * f ≤ s → s < 3 * f + 3 → s ≠ 3 * f + o → (∀ q, q ∈ rs → q.1 ≠ s) → (A 215).getD s 0 = 0) → mSl A2 f (st + 1) ((3 * f + o, st + 1, U) :: rs) := by
    intro rs hsub hlen hne hz
    refine ⟨by rw [List.length_cons]; omega, fun p hp => ?_, ?_, fun s h1 h2 h3 => ?_⟩
    · rcases List.mem_cons.mp hp with rfl | hp
      · exact ⟨⟨by omega, by omega⟩, by rw [h215, if_pos rfl], ⟨Nat.succ_pos _, Nat.le_refl _⟩, hU⟩
      · have hpm := hsub.subset hp
        obtain ⟨b1, b2, b3, b4⟩ := a2 p hpm
        exact ⟨b1, by rw [h215, if_neg (hne p hp)]; exact b2, ⟨b3.1, by omega⟩, hU2 p hpm (hne p hp)⟩
    · refine List.pairwise_cons.mpr ⟨fun p hp => ?_, a3.sublist hsub⟩
      exact ⟨Nat.lt_succ_of_le (a2 p (hsub.subset hp)).2.2.1.2, fun h => hne p hp h.symm⟩
    · have hso : s ≠ 3 * f + o := fun h => h3 (3 * f + o, st + 1, U) (by simp) h.symm
      rw [h215, if_neg hso]
      exact hz s h1 h2 hso fun q hq => h3 q (by simp [hq])
  match qs, a1 with
  | [], _ =>
    exact hcore [] (List.Sublist.refl _) (by simp) (fun q hq => by cases hq) (fun s h1 h2 h3 h4 => a4 s h1 h2 h4)
  | [q0], _ =>
    have hr0 := (a2 q0 (by simp)).1
    have hne : ∀ q, q ∈ [q0] → q.1 ≠ 3 * f + o := by
      by_cases h0 : q0.1 = 3 * f
      · exact hzero (3 * f + 1) (by omega) (by omega) (fun q hq => by simp at hq; subst hq; omega)
      · exact hzero (3 * f) (by omega) (by omega) (fun q hq => by simp at hq; subst hq; omega)
    exact hcore [q0] (List.Sublist.refl _) (by simp) hne (fun s h1 h2 h3 h4 => a4 s h1 h2 h4)
  | [q0, q1], _ =>
    have hr0 := (a2 q0 (by simp)).1
    have hr1 := (a2 q1 (by simp)).1
    have hne : ∀ q, q ∈ [q0, q1] → q.1 ≠ 3 * f + o := by
      have hfree : ∃ s, 3 * f ≤ s ∧ s < 3 * f + 3 ∧ s ≠ q0.1 ∧ s ≠ q1.1 := by
        by_cases h0 : 3 * f ≠ q0.1 ∧ 3 * f ≠ q1.1
        · exact ⟨3 * f, by omega, by omega, h0.1, h0.2⟩
        · by_cases h1 : 3 * f + 1 ≠ q0.1 ∧ 3 * f + 1 ≠ q1.1
          · exact ⟨3 * f + 1, by omega, by omega, h1.1, h1.2⟩
          · exact ⟨3 * f + 2, by omega, by omega, by omega, by omega⟩
      obtain ⟨s, s1, s2, s3, s4⟩ := hfree
      exact hzero s s1 s2 (fun q hq => by
        simp at hq
        rcases hq with rfl | rfl
        · exact fun h => s3 h.symm
        · exact fun h => s4 h.symm)
    exact hcore [q0, q1] (List.Sublist.refl _) (by simp) hne (fun s h1 h2 h3 h4 => a4 s h1 h2 h4)
  | [q0, q1, q2], _ =>
    have hr0 := (a2 q0 (by simp)).1
    have hr1 := (a2 q1 (by simp)).1
    have hr2 := (a2 q2 (by simp)).1
    obtain ⟨p0, p1⟩ := List.pairwise_cons.mp a3
    obtain ⟨p2, _⟩ := List.pairwise_cons.mp p1
    have d01 := p0 q1 (by simp)
    have d02 := p0 q2 (by simp)
    have d12 := p2 q2 (by simp)
    have n0 : q0.1 ≠ 3 * f + o := fun h => by
      have := hle q0 q2 (by simp) (by simp) h
      omega
    have n1 : q1.1 ≠ 3 * f + o := fun h => by
      have := hle q1 q2 (by simp) (by simp) h
      omega
    refine hcore [q0, q1] ((List.Sublist.refl [q0, q1]).append (List.nil_sublist [q2])) (by simp) (fun q hq => ?_) (fun s h1 h2 h3 h4 => ?_)
    · simp at hq
      rcases hq with rfl | rfl
      · exact n0
      · exact n1
    · exfalso
      have e0 := h4 q0 (by simp)
      have e1 := h4 q1 (by simp)
      have := d01.2
      omega
/-! A text that compiles calls only functions that are there. -/
def cHere (tk sg : Nat → Int32) (rc : Nat → cR) : Prop := ∀ p t q c, rc p = .inr (t, q, c) → ∀ i, p ≤ i → i < q → ∀ h, h < 8 → tk i = nI (h + 11) → ¬ sg h = -1
theorem cAr_here {tk sg : Nat → Int32} {rc : Nat → cR} (hc : cHere tk sg rc) (s : Int32) : ∀ n k p t q c, cAr rc s n k p = .inr (t, q, c) → ∀ i, p ≤ i → i < q → ∀ h, h < 8 → tk i = nI (h + 11) → ¬ sg h = -1 := by
  intro n
  induction n with
  | zero =>
    intro k p t q c hr i h1 h2
    cases hr
    omega
  | succ n ih =>
    intro k p t q c hr i h1 h2 h hh ht
    obtain ⟨t1, q1, c1, e1, e2⟩ := cBi_inr hr
    obtain ⟨t2, q2, c2, e3, e4⟩ := cBi_inr e2
    cases e4
    by_cases hi : i < q1
    · exact hc _ _ _ _ (cPa_inr e1).1 i h1 hi h hh ht
    · exact ih _ _ _ _ _ e3 i (by omega) h2 h hh ht
theorem cx_here (tk : Nat → Int32) (L : Nat) (own : Int32) (sg : Nat → Int32) : ∀ n, cHere tk sg (cx tk L own sg n) := by
  intro n
  induction n with
  | zero => intro p t q c h; cases h
  | succ n ih =>
    intro p t q c hr i h1 h2 h hh ht
    unfold cx at hr
    split at hr
    · cases hr
    by_cases hip : i = p
    · subst hip
      rw [ht, cS_call hh] at hr
      intro hs
      rw [if_pos hs] at hr
      cases hr
    unfold cStep at hr
    split at hr
    · cases hr
    split at hr
    · split at hr
      · cases hr
      · cases hr; omega
    split at hr
    · obtain ⟨t1, q1, c1, e1, e2⟩ := cBi_inr hr
      obtain ⟨t2, q2, c2, e3, e4⟩ := cBi_inr e2
      cases e4
      by_cases hi : i < q1
      · exact ih _ _ _ _ (cPa_inr e1).1 i (by omega) hi h hh ht
      · exact ih _ _ _ _ (cPa_inr e3).1 i (by omega) h2 h hh ht
    split at hr
    · obtain ⟨t1, q1, c1, e1, e2⟩ := cBi_inr hr
      obtain ⟨t2, q2, c2, e3, e4⟩ := cBi_inr e2
      obtain ⟨t3, q3, c3, e5, e6⟩ := cBi_inr e4
      cases e6
      by_cases hi : i < q1
      · exact ih _ _ _ _ (cPa_inr e1).1 i (by omega) hi h hh ht
      · by_cases hi2 : i < q2
        · exact ih _ _ _ _ e3 i (by omega) hi2 h hh ht
        · exact ih _ _ _ _ (cPa_inr e5).1 i (by omega) h2 h hh ht
    split at hr
    · cases hr; omega
    split at hr
    · split at hr
      · cases hr
      · obtain ⟨t1, q1, c1, e1, e2⟩ := cBi_inr hr
        cases e2
        exact cAr_here ih _ _ _ _ _ _ _ e1 i (by omega) h2 h hh ht
    · cases hr; omega
theorem cOf_here {f : Nat} {t sl : List Int32} {ty : Int32} {q : Nat} {c : List Int32} (hr : cOf f t sl = .inr (ty, q, c)) : ∀ h, h < 8 → nI (h + 11) ∈ t → ¬ sl.getD h 0 = -1 := by
  intro h hh hm
  unfold cOf cAll at hr
  obtain ⟨t1, q1, c1, e1, e2⟩ := cBi_inr hr
  obtain ⟨g1, g2, _, _⟩ := cx_good _ _ _ _ _ _ _ _ _ (cPa_inr e1).1
  split at e2
  · cases e2
  · obtain ⟨i, hi, hi2⟩ := List.getElem_of_mem hm
    exact cx_here _ _ _ _ _ _ _ _ _ (cPa_inr e1).1 i (Nat.zero_le _) (by omega) h hh (by
      show t.getD i 0 = _
      rw [List.getD_eq_getElem?_getD, List.getElem?_eq_getElem hi]
      exact hi2)
end
section
/-! The reference's make as the pure function. -/
/-- the reference's counts -/
def rnM (r : Int32 × Int32 × Int32) (ct : List Int32) : List Int32 := if r.2.2 = 0 then ct else if r.2.2 = 1 then ct.set 0 (ct.getD 0 0 + 1) else if r.1 = 0 then ct.set 1 (ct.getD 1 0 + 1) else (ct.set 1 (ct.getD 1 0 + 1)).set 2 ((ct.set 1 (ct.getD 1 0 + 1)).getD 2 0 + 1)
/-- what make leaves: A2 of A -/
def mMade (A A2 : Nat → List Int32) (f : Nat) (r : Int32 × Int32 × Int32) (l : List sU) : Prop := A2 221 = (A 221).set f r.1 ∧ A2 222 = (A 222).set f r.2.1 ∧ A2 223 = (A 223).set f r.2.2 ∧ A2 225 = rnM r (A 225) ∧ (∃ v, A2 224 = (A 224).set f v ∧ ((r.2.2 = 0 ∨ ¬ r.1 = 0) → v = -1) ∧ (¬ (r.2.2 = 0 ∨ ¬ r.1 = 0) → ∃ u U rs, v = nI u ∧ (3 * f ≤ u ∧ u < 3 * f + 3) ∧ l = U :: rs ∧ mU A2 u f U)) ∧ (∀ a, a < 215 ∨ (226 ≤ a ∧ a ≤ 228) ∨ 234 < a → A2 a = A a) ∧ ∀ s, s < 3 * f ∨ 3 * f + 3 ≤ s → sSame A A2 s
theorem mT.congr {A A2 : Nat → List Int32} {sl : List Int32} {tx : Nat → List Int32} (h : mT A sl tx) (he : ∀ a, 211 ≤ a → a ≤ 214 → A2 a = A a) : mT A2 sl tx := by
  unfold mT at h ⊢
  rw [he 211 (by decide) (by decide), he 212 (by decide) (by decide), he 213 (by decide) (by decide), he 214 (by decide) (by decide)]
  exact h
theorem sSame_of {A A2 : Nat → List Int32} (h : ∀ a, 215 ≤ a → a ≤ 220 → A2 a = A a) (s : Nat) : sSame A A2 s := by
  unfold sSame
  rw [h 215 (by decide) (by decide), h 216 (by decide) (by decide), h 217 (by decide) (by decide), h 218 (by decide) (by decide), h 219 (by decide) (by decide), h 220 (by decide) (by decide)]
  exact ⟨rfl, rfl, fun _ _ => rfl, fun _ _ => rfl, rfl, fun _ _ => rfl⟩
theorem map_erase {α β : Type} (h : α → β) : ∀ (l : List α) (i : Nat), (l.map h).eraseIdx i = (l.eraseIdx i).map h := by
  intro l
  induction l with
  | nil => intro i; rfl
  | cons a l ih =>
    intro i
    cases i with
    | zero => rfl
    | succ i => simp only [List.map_cons, List.eraseIdx_cons_succ, ih]
theorem uO_front {f i : Nat} {us : List sU} {U : sU} (h : uO f us) (hU : us[i]? = some U) : uO f (U :: us.eraseIdx i) := by
  obtain ⟨h1, h2⟩ := h
  have hi : i < us.length := (List.getElem?_eq_some_iff.mp hU).1
  have e2 : us[i] = U := (List.getElem?_eq_some_iff.mp hU).2
  refine ⟨fun V hV => ?_, List.pairwise_cons.mpr ⟨fun V hV => ?_, h2.sublist (List.eraseIdx_sublist _ _)⟩⟩
  · rcases List.mem_cons.mp hV with rfl | hV
    · exact h1 V (List.mem_of_getElem? hU)
    · exact h1 V ((List.eraseIdx_sublist _ _).subset hV)
  · obtain ⟨j, hji, hj⟩ := List.mem_eraseIdx_iff_getElem?.mp hV
    have hjl : j < us.length := (List.getElem?_eq_some_iff.mp hj).1
    have e1 : us[j] = V := (List.getElem?_eq_some_iff.mp hj).2
    have h3 := List.pairwise_iff_getElem.mp h2
    rcases Nat.lt_or_gt_of_ne hji with hlt | hgt
    · have := h3 j i hjl hi hlt
      rw [e1, e2] at this
      exact fun h => this ⟨h.1.symm, h.2.1.symm, h.2.2.symm⟩
    · have := h3 i j hi hjl hgt
      rw [e1, e2] at this
      exact this
section MM2
variable {sc : List Int32} {d : Nat} {E0 E : ux_Ev} {g : Nat → Int32} {A : Nat → List Int32} {x z : Nat} {w : Bool} {K : ux_K1} {f st : Nat} {sl : List Int32} {tx : Nat → List Int32} {us : Nat → List sU}
/-- the other functions' slots stay -/
theorem mR_one {g2 : Nat → Int32} {A2 : Nat → List Int32} {st2 : Nat} {l : List sU} (h : mR g A sl tx us st) (hf : f < 8) (hA : ∀ a, 211 ≤ a → a ≤ 214 → A2 a = A a) (hg : g2 11 = nI st2) (hst : st ≤ st2) (hs : ∀ s, s < 3 * f ∨ 3 * f + 3 ≤ s → sSame A A2 s) (hl : uO f l ∧ ∃ qs, mSl A2 f st2 qs ∧ l = qs.map fun q => q.2.2) : mR g2 A2 sl tx (fU us f l) st2 := by
  obtain ⟨h1, h2, h3⟩ := h
  refine ⟨h1.congr hA, hg, fun k hk => ?_⟩
  by_cases hkf : k = f
  · subst hkf; rw [fU_at]; exact hl
  · rw [fU_ne _ _ hkf]
    obtain ⟨b1, qs, b2, b3⟩ := h3 k hk
    refine ⟨b1, qs, b2.congr (fun q hq => b1.1 _ (by rw [b3]; exact List.mem_map_of_mem hq)) (fun s h4 h5 => hs s (by omega)) hst, b3⟩
theorem mo_make2 (hm : md E0 g A E) (hR : mR g A sl tx us st) (hok : sOk sl) (hst : st < 100000) (hf : f < 8)
    (hK : ∀ E' w' g' A' st', md E0 g' A' E' → mR g' A' sl tx (fU us f (rnU f sl (tx f) (us f))) st' → st ≤ st' → st' ≤ st + 1 → mMade A A' f (rnR f sl (tx f) (us f)) (rnU f sl (tx f) (us f)) → (∀ j, j ≠ 11 → j ≠ 26 → j ≠ 28 → j ≠ 29 → j ≠ 30 → g' j = g j) → K (.inr none) E' x z w') : ux_Bm uxP sc (d + 3) 89 [.ref 210, .int (nI f)] E x z K := by
  have hR' := hR
  obtain ⟨hT, hg11, hF⟩ := hR
  obtain ⟨hO, qs, hsl, hus⟩ := hF f hf
  have hT1 := hT.1 f hf
  have hthere : ¬ (A 211).getD f 0 = 0 → sl.getD f 0 = (A 212).getD f 0 ∧ ¬ sl.getD f 0 = -1 := fun h0 => by
    obtain ⟨a, j, hj, b⟩ := hT1.2 h0
    exact ⟨a, by rw [b]; exact nI_m1 j hj⟩
  have hVq : ∀ q, q ∈ qs → uV f q.2.2 := fun q hq => hO.1 _ (by rw [hus]; exact List.mem_map_of_mem hq)
  -- a slot that fits holds a unit that fits
  have hslot : ∀ o, o < 3 → mFit A (3 * f + o) f (tx f).length → ∃ (i : Nat) (q : Nat × Nat × sU), qs[i]? = some q ∧ q.1 = 3 * f + o ∧ uFit f sl (tx f) q.2.2 = true := by
    intro o ho hfit
    have hin : ∃ q, q ∈ qs ∧ q.1 = 3 * f + o := by
      by_cases hq : ∃ q, q ∈ qs ∧ q.1 = 3 * f + o
      · exact hq
      · have := hsl.2.2.2 (3 * f + o) (by omega) (by omega) (fun q hq1 hq2 => hq ⟨q, hq1, hq2⟩)
        exact absurd (show (A 215).getD (3 * f + o) 0 ≤ 0 from by rw [this]; decide) hfit.1.1
    obtain ⟨q, hq1, hq2⟩ := hin
    obtain ⟨i, hi⟩ := List.getElem?_of_mem hq1
    obtain ⟨b1, b2, b3, b4⟩ := hsl.2.1 q hq1
    refine ⟨i, q, hi, hq2, (fit_iff hT hf (hVq q hq1) b4 (by rw [b2]; exact nI_nle b3.1 (by omega))).mp ?_⟩
    rw [hq2]; exact hfit
  have hnofit : (∀ o, o < 3 → ¬ mFit A (3 * f + o) f (tx f).length) → ∀ U, U ∈ us f → ¬ uFit f sl (tx f) U = true := by
    intro hno U hU hfit
    rw [hus] at hU
    obtain ⟨q, hq, rfl⟩ := List.mem_map.mp hU
    obtain ⟨b1, b2, b3, b4⟩ := hsl.2.1 q hq
    refine hno (q.1 - 3 * f) (by omega) ?_
    rw [show 3 * f + (q.1 - 3 * f) = q.1 by omega]
    exact (fit_iff hT hf (hVq q hq) b4 (by rw [b2]; exact nI_nle b3.1 (by omega))).mpr hfit
  refine mo_make hm (hT.s hf) (fun h0 => by obtain ⟨a, j, hj, b⟩ := hT1.2 h0; exact ⟨j, hj, by rw [← a, b]⟩) (fun h0 E' w' m' => ?_) (fun h0 o ho hfit E' w' m' => ?_) (fun h0 hno k pl hr E' w' g' A' m' hg' hA' => ?_) (fun h0 hno t q c hr o ho hmin E' w' g' A' A2 A3 m' hg' hA2 hc hkept hA' => ?_)
  · -- absent
    have ha : sl.getD f 0 = -1 := hT1.1 h0
    have e1 : rnU f sl (tx f) (us f) = us f := if_pos ha
    have e2 : rnR f sl (tx f) (us f) = (0, -1, 0) := if_pos ha
    refine hK E' w' g _ st m' ?_ (Nat.le_refl _) (Nat.le_succ _) ?_ (fun _ _ _ _ _ _ => rfl)
    · rw [e1]
      exact mR_one hR' hf (fun a h1 h2 => by unfold mA1; rw [fU_ne _ _ (by omega), fU_ne _ _ (by omega), fU_ne _ _ (by omega), fU_ne _ _ (by omega)]) hg11 (Nat.le_refl _) (fun s _ => sSame_of (fun a h1 h2 => by unfold mA1; rw [fU_ne _ _ (by omega), fU_ne _ _ (by omega), fU_ne _ _ (by omega), fU_ne _ _ (by omega)]) s) ⟨hO, qs, hsl.congr hVq (fun s _ _ => sSame_of (fun a h1 h2 => by unfold mA1; rw [fU_ne _ _ (by omega), fU_ne _ _ (by omega), fU_ne _ _ (by omega), fU_ne _ _ (by omega)]) s) (Nat.le_refl _), hus⟩
    · rw [e1, e2]
      refine ⟨rfl, rfl, rfl, rfl, ⟨-1, rfl, fun _ => rfl, fun h => absurd (Or.inl rfl) h⟩, fun a h1 => ?_, fun s _ => sSame_of (fun a h1 h2 => by unfold mA1; rw [fU_ne _ _ (by omega), fU_ne _ _ (by omega), fU_ne _ _ (by omega), fU_ne _ _ (by omega)]) s⟩
      unfold mA1; rw [fU_ne _ _ (by omega), fU_ne _ _ (by omega), fU_ne _ _ (by omega), fU_ne _ _ (by omega)]
  · -- a unit fits
    obtain ⟨i, q, hqi, hqo, hqf⟩ := hslot o ho hfit
    have hqm : q ∈ qs := List.mem_of_getElem? hqi
    have ha := (hthere h0).2
    have hUi : (us f)[i]? = some q.2.2 := by rw [hus, List.getElem?_map, hqi]; rfl
    have huniq : ∀ j V, j < i → (us f)[j]? = some V → ¬ uFit f sl (tx f) V = true := by
      intro j V hji hj hVf
      have k1 := fit_key (hO.1 V (List.mem_of_getElem? hj)) hVf
      have k2 := fit_key (hVq q hqm) hqf
      have h3 := List.pairwise_iff_getElem.mp hO.2
      have hjl : j < (us f).length := (List.getElem?_eq_some_iff.mp hj).1
      have hil : i < (us f).length := (List.getElem?_eq_some_iff.mp hUi).1
      have := h3 j i hjl hil hji
      rw [(List.getElem?_eq_some_iff.mp hj).2, (List.getElem?_eq_some_iff.mp hUi).2] at this
      exact this ⟨k1.1.trans k2.1.symm, k1.2.1.trans k2.2.1.symm, k1.2.2.trans k2.2.2.symm⟩
    have hi := uIdx_some hUi hqf huniq
    have e1 : rnU f sl (tx f) (us f) = q.2.2 :: (us f).eraseIdx i := by unfold rnU; rw [if_neg ha, hi]; simp only [hUi]
    have e2 : rnR f sl (tx f) (us f) = (0, -1, 1) := by unfold rnR; rw [if_neg ha, hi]
    have hg1 : g 11 + 1 = nI (st + 1) := by rw [hg11]; exact nI_1 st
    have hl215 : (A 215).length = 24 := hm.len 215 (by decide)
    generalize hA2 : fU (fU (fU (fU (mA1 A f) 223 ((mA1 A f 223).set f 1)) 225 ((A 225).set 0 ((A 225).getD 0 0 + 1))) 215 ((A 215).set (3 * f + o) (g 11 + 1))) 224 ((mA1 A f 224).set f (nI (3 * f + o))) = A2 at m'
    have r215 : A2 215 = (A 215).set (3 * f + o) (nI (st + 1)) := by rw [← hA2, ← hg1]; rfl
    have r224 : A2 224 = (A 224).set f (nI (3 * f + o)) := by rw [← hA2]; exact List.set_set ..
    have r223 : A2 223 = (A 223).set f 1 := by rw [← hA2]; exact List.set_set ..
    have rest : ∀ a, a ≠ 215 → a < 221 ∨ 225 < a → A2 a = A a := fun a h1 h2 => by
      rw [← hA2, fU_ne _ _ (by omega), fU_ne _ _ (by omega), fU_ne _ _ (by omega), fU_ne _ _ (by omega)]
      unfold mA1
      rw [fU_ne _ _ (by omega), fU_ne _ _ (by omega), fU_ne _ _ (by omega), fU_ne _ _ (by omega)]
    have h215 : ∀ s, (A2 215).getD s 0 = if s = q.1 then nI (st + 1) else (A 215).getD s 0 := fun s => by
      rw [r215, getD_set (by omega), hqo]
    have hsl2 := mSl_front hsl hqi h215 (fun a h1 h2 => rest a (by omega) (by omega))
    have hsame : ∀ s, s ≠ q.1 → sSame A A2 s := fun s hs => by
      unfold sSame
      rw [h215, if_neg hs, rest 216 (by decide) (by decide), rest 217 (by decide) (by decide), rest 218 (by decide) (by decide), rest 219 (by decide) (by decide), rest 220 (by decide) (by decide)]
      exact ⟨rfl, rfl, fun _ _ => rfl, fun _ _ => rfl, rfl, fun _ _ => rfl⟩
    have hO2 := uO_front hO hUi
    refine hK E' w' _ A2 (st + 1) m' ?_ (Nat.le_succ _) (Nat.le_refl _) ?_ (fun j h1 _ _ _ _ => fU_ne _ _ h1)
    · rw [e1]
      refine mR_one hR' hf (fun a h1 h2 => rest a (by omega) (by omega)) (by rw [fU_at]; exact hg1) (Nat.le_succ _) (fun s hs => hsame s (by omega)) ⟨hO2, _, hsl2, ?_⟩
      rw [hus, List.map_cons, map_erase]
    · rw [e1, e2]
      refine ⟨?_, ?_, r223, ?_, ⟨nI (3 * f + o), r224, fun h => absurd h (by decide), fun _ => ⟨3 * f + o, q.2.2, _, rfl, ⟨by omega, by omega⟩, rfl, ?_⟩⟩, fun a h1 => rest a (by omega) (by omega), fun s hs => hsame s (by omega)⟩
      · rw [← hA2]; rfl
      · rw [← hA2]; rfl
      · rw [← hA2]; rfl
      · have := (hsl2.2.1 (q.1, st + 1, q.2.2) (by simp)).2.2.2
        rw [← hqo]; exact this
  · -- a fault
    have ha := (hthere h0).2
    have hcof : cOf f (tx f) sl = .inl (k, pl) := by unfold cOf; rw [(hthere h0).1]; exact hr
    have hk : ¬ k = 0 := fun h => cAll_k hr (by rw [h]; decide)
    have hi := uIdx_none (hnofit hno)
    have e1 : rnU f sl (tx f) (us f) = us f := by unfold rnU; rw [if_neg ha, hi]; simp only [hcof]
    have e2 : rnR f sl (tx f) (us f) = (k, pl, 2) := by unfold rnR; rw [if_neg ha, hi]; simp only [hcof]
    have rest : ∀ a, a < 221 ∨ (226 ≤ a ∧ a ≤ 228) ∨ 234 < a → A' a = A a := fun a h1 => by
      rw [hA' a (by omega), fU_ne _ _ (by omega), fU_ne _ _ (by omega), fU_ne _ _ (by omega), fU_ne _ _ (by omega), fU_ne _ _ (by omega)]
      unfold mA1
      rw [fU_ne _ _ (by omega), fU_ne _ _ (by omega), fU_ne _ _ (by omega), fU_ne _ _ (by omega)]
    have hsame : ∀ s, sSame A A' s := sSame_of fun a h1 h2 => rest a (by omega)
    refine hK E' w' g' A' st m' ?_ (Nat.le_refl _) (Nat.le_succ _) ?_ (fun j _ h2 h3 h4 h5 => hg' j h2 h3 h4 h5)
    · rw [e1]
      exact mR_one hR' hf (fun a h1 h2 => rest a (by omega)) (by rw [hg' 11 (by decide) (by decide) (by decide) (by decide)]; exact hg11) (Nat.le_refl _) (fun s _ => hsame s) ⟨hO, qs, hsl.congr hVq (fun s _ _ => hsame s) (Nat.le_refl _), hus⟩
    · rw [e1, e2]
      refine ⟨?_, ?_, ?_, ?_, ⟨-1, ?_, fun _ => rfl, fun h => absurd (Or.inr hk) h⟩, fun a h1 => rest a (by omega), fun s _ => hsame s⟩
      · rw [hA' 221 (by decide)]; exact List.set_set ..
      · rw [hA' 222 (by decide)]; exact List.set_set ..
      · rw [hA' 223 (by decide)]; exact List.set_set ..
      · rw [hA' 225 (by decide)]
        unfold rnM
        rw [if_neg (show ¬ (2 : Int32) = 0 by decide), if_neg (show ¬ (2 : Int32) = 1 by decide), if_neg hk]
        rfl
      · rw [hA' 224 (by decide)]; rfl
  · -- a new unit
    have ha := (hthere h0).2
    have hcof : cOf f (tx f) sl = .inr (t, q, c) := by unfold cOf; rw [(hthere h0).1]; exact hr
    have hno2 := hnofit hno
    have hi := uIdx_none hno2
    have e1 : rnU f sl (tx f) (us f) = ((tx f, sl.getD f 0, calOf (tx f) sl, c) :: us f).take 3 := by unfold rnU; rw [if_neg ha, hi]; simp only [hcof]
    have e2 : rnR f sl (tx f) (us f) = (0, -1, 2) := by unfold rnR; rw [if_neg ha, hi]; simp only [hcof]
    have hhere := cOf_here hcof
    have hlen30 := (hT.2 f hf).1
    have hV : uV f (tx f, sl.getD f 0, calOf (tx f) sl, c) := ⟨sl, t, q, hok, ha, hhere, rfl, rfl, hcof, hlen30⟩
    have hlenc : c.length ≤ 80 := hV.len.2
    have restA2 : ∀ a, a < 221 ∨ (226 ≤ a ∧ a ≤ 228) ∨ 234 < a → A2 a = A a := fun a h1 => by
      rw [hA2 a (by omega), fU_ne _ _ (by omega), fU_ne _ _ (by omega), fU_ne _ _ (by omega), fU_ne _ _ (by omega)]
      unfold mA1
      rw [fU_ne _ _ (by omega), fU_ne _ _ (by omega), fU_ne _ _ (by omega), fU_ne _ _ (by omega)]
    obtain ⟨k1, k2, k3, k4, k5, k6, k7⟩ := hkept
    have hg1 : g' 11 + 1 = nI (st + 1) := by rw [hg' 11 (by decide) (by decide) (by decide) (by decide), hg11]; exact nI_1 st
    have rest : ∀ a, a < 215 ∨ (226 ≤ a ∧ a ≤ 228) ∨ 234 < a → A' a = A a := fun a h1 => by
      rw [hA', fU_ne _ _ (by omega), fU_ne _ _ (by omega), k1 a (by omega), restA2 a (by omega)]
    have r3 : ∀ a, 216 ≤ a → a ≤ 220 → A' a = A3 a := fun a h1 h2 => by rw [hA', fU_ne _ _ (by omega), fU_ne _ _ (by omega)]
    have r215 : A' 215 = (A 215).set (3 * f + o) (nI (st + 1)) := by
      rw [hA', fU_ne _ _ (by decide), fU_at, k1 215 (by decide), restA2 215 (by decide), hg1]
    have hl215 : (A 215).length = 24 := hm.len 215 (by decide)
    have h215 : ∀ s, (A' 215).getD s 0 = if s = 3 * f + o then nI (st + 1) else (A 215).getD s 0 := fun s => by
      rw [r215, getD_set (by omega)]
    have hsame : ∀ s, s ≠ 3 * f + o → sSame A A' s := fun s hs => by
      unfold sSame
      rw [h215, if_neg hs, r3 216 (by decide) (by decide), r3 217 (by decide) (by decide), r3 218 (by decide) (by decide), r3 219 (by decide) (by decide), r3 220 (by decide) (by decide)]
      refine ⟨rfl, ?_, fun k hk => ?_, fun h hh => ?_, ?_, fun k hk => ?_⟩
      · rw [k2, if_neg hs, restA2 216 (by decide)]
      · rw [k4, if_neg (by omega), restA2 217 (by decide)]
      · rw [k6 _ (by omega), restA2 218 (by decide)]
      · rw [k3, if_neg hs, restA2 219 (by decide)]
      · rw [k7, if_neg (by omega), restA2 220 (by decide)]
    have hmU : mU A' (3 * f + o) f (tx f, sl.getD f 0, calOf (tx f) sl, c) := by
      unfold mU
      rw [r3 216 (by decide) (by decide), r3 217 (by decide) (by decide), r3 218 (by decide) (by decide), r3 219 (by decide) (by decide), r3 220 (by decide) (by decide)]
      refine ⟨by rw [k2, if_pos rfl], fun k hk => ?_, fun h hh => ?_, by rw [k3, if_pos rfl], fun k hk => ?_⟩
      · have hk : k < (tx f).length := hk
        rw [k4, if_pos (by omega), restA2 214 (by decide), show 30 * (3 * f + o) + k - 30 * (3 * f + o) = k by omega]
        exact (hT.2 f hf).2.2 k hk
      · have hiff : (f = h ∨ ∃ k, k < (tx f).length ∧ (A2 214).getD (30 * f + k) 0 = nI (h + 11)) ↔ (f = h ∨ nI (h + 11) ∈ tx f) := by
          rw [restA2 214 (by decide)]
          constructor
          · rintro (h1 | ⟨k, hk, h2⟩)
            · exact Or.inl h1
            · right
              rw [(hT.2 f hf).2.2 k hk, List.getD_eq_getElem?_getD, List.getElem?_eq_getElem hk] at h2
              rw [← h2]
              exact List.getElem_mem hk
          · rintro (h1 | h1)
            · exact Or.inl h1
            · obtain ⟨k, hk, h2⟩ := List.getElem_of_mem h1
              refine Or.inr ⟨k, hk, ?_⟩
              rw [(hT.2 f hf).2.2 k hk, List.getD_eq_getElem?_getD, List.getElem?_eq_getElem hk]
              exact h2
        have hsig : ∀ j, j < 8 → ¬ sl.getD j 0 = -1 → (A2 212).getD j 0 = sl.getD j 0 := fun j hj hne => by
          rw [restA2 212 (by decide)]
          have hn0 : ¬ (A 211).getD j 0 = 0 := fun h9 => hne ((hT.1 j hj).1 h9)
          exact ((hT.1 j hj).2 hn0).1.symm
        by_cases hhf : h = f
        · subst hhf
          rw [if_pos rfl, (k5 h hh).1 (Or.inl rfl)]
          exact hsig h hh ha
        · rw [if_neg hhf]
          show _ = (calOf (tx f) sl).getD h 0
          rw [calOf_at _ _ hh]
          by_cases hmem : nI (h + 11) ∈ tx f
          · rw [if_pos hmem, (k5 h hh).1 (hiff.mpr (Or.inr hmem))]
            exact hsig h hh (hhere h hh hmem)
          · rw [if_neg hmem, (k5 h hh).2 (fun h9 => (hiff.mp h9).elim (fun e => hhf e.symm) hmem)]
      · have hk : k < c.length := hk
        rw [k7, if_pos (by omega), show 80 * (3 * f + o) + k - 80 * (3 * f + o) = k by omega]
        exact hc k hk
    have hsl2 := mSl_new hsl (by omega) ho hmin hVq hmU h215 hsame
    have hO2 : uO f (((tx f, sl.getD f 0, calOf (tx f) sl, c) :: us f).take 3) := by
      refine ⟨fun V hVm => ?_, ?_⟩
      · rcases List.mem_cons.mp (List.mem_of_mem_take hVm) with rfl | hVm
        · exact hV
        · exact hO.1 V hVm
      · refine List.Pairwise.sublist (List.take_sublist _ _) (List.pairwise_cons.mpr ⟨fun V hVm hkey => ?_, hO.2⟩)
        refine hno2 V hVm ((uFit_iff f sl (tx f) V).mpr ⟨hkey.2.1.symm, hkey.1.symm, fun j hj => ?_⟩)
        rw [← hkey.2.2]
        show (calOf (tx f) sl).getD j 0 = -1 ∨ (calOf (tx f) sl).getD j 0 = sl.getD j 0
        rw [calOf_at _ _ hj]
        split
        · exact Or.inr rfl
        · exact Or.inl rfl
    refine hK E' w' _ A' (st + 1) m' ?_ (Nat.le_succ _) (Nat.le_refl _) ?_ (fun j h1 h2 h3 h4 h5 => by rw [fU_ne _ _ h1]; exact hg' j h2 h3 h4 h5)
    · rw [e1]
      refine mR_one hR' hf (fun a h1 h2 => rest a (by omega)) (by rw [fU_at]; exact hg1) (Nat.le_succ _) (fun s hs => hsame s (by omega)) ⟨hO2, _, hsl2, ?_⟩
      rw [hus, List.map_take, List.map_cons]
    · rw [e1, e2]
      refine ⟨?_, ?_, ?_, ?_, ⟨nI (3 * f + o), ?_, fun h => absurd h (by decide), fun _ => ⟨3 * f + o, _, (us f).take 2, rfl, ⟨by omega, by omega⟩, rfl, hmU⟩⟩, rest, fun s hs => hsame s (by omega)⟩
      · rw [hA', fU_ne _ _ (by decide), fU_ne _ _ (by decide), k1 221 (by decide), hA2 221 (by decide)]; exact List.set_set ..
      · rw [hA', fU_ne _ _ (by decide), fU_ne _ _ (by decide), k1 222 (by decide), hA2 222 (by decide)]; exact List.set_set ..
      · rw [hA', fU_ne _ _ (by decide), fU_ne _ _ (by decide), k1 223 (by decide), hA2 223 (by decide)]; exact List.set_set ..
      · rw [hA', fU_ne _ _ (by decide), fU_ne _ _ (by decide), k1 225 (by decide), hA2 225 (by decide)]; rfl
      · rw [hA', fU_at, k1 224 (by decide), hA2 224 (by decide)]; exact List.set_set ..
end MM2
end
section
/-! build's loop over the functions, on both sides. -/
def rwN (g : Nat → Int32) : Nat → List Int32 → List Int32
  | 0, l => l
  | n + 1, l => (rwN g n l).set n (g n)
def ctN (k : Int32 × Int32 × Int32 → List Int32 → List Int32) (r : Nat → Int32 × Int32 × Int32) : Nat → List Int32 → List Int32
  | 0, l => l
  | n + 1, l => k (r n) (ctN k r n l)
def usN (sl : List Int32) (tx : Nat → List Int32) (us : Nat → List sU) (n : Nat) : Nat → List sU := fun f => if f < n then rnU f sl (tx f) (us f) else us f
theorem usN_0 (sl : List Int32) (tx : Nat → List Int32) (us : Nat → List sU) : usN sl tx us 0 = us := funext fun f => if_neg (by omega)
theorem usN_at (sl : List Int32) (tx : Nat → List Int32) (us : Nat → List sU) (n : Nat) : usN sl tx us n n = us n := if_neg (by omega)
theorem usN_s (sl : List Int32) (tx : Nat → List Int32) (us : Nat → List sU) (n : Nat) : fU (usN sl tx us n) n (rnU n sl (tx n) (us n)) = usN sl tx us (n + 1) := funext fun f => by
  unfold fU usN
  by_cases h : f = n
  · rw [if_pos h, if_pos (by omega), h]
  · rw [if_neg h]
    by_cases h2 : f < n
    · rw [if_pos h2, if_pos (by omega)]
    · rw [if_neg h2, if_neg (by omega)]
section LP
variable {sc : List Int32} {d : Nat} {E : ux_Ev} {sl fk fp dn ct : List Int32} {tx : Nat → List Int32} {us : Nat → List sU} {x z : Nat} {w : Bool} {K : ux_K1}
theorem ko_loop (h : cS E sl tx us fk fp dn ct) (hK : ∀ E' w', cS E' sl tx (usN sl tx us 8) (rwN (fun f => (rnR f sl (tx f) (us f)).1) 8 fk) (rwN (fun f => (rnR f sl (tx f) (us f)).2.1) 8 fp) (rwN (fun f => (rnR f sl (tx f) (us f)).2.2) 8 dn) (ctN rnC (fun f => rnR f sl (tx f) (us f)) 8 ct) → (∀ b, (b < 5 ∨ 9 < b) → (b < 20 ∨ 209 < b) → E' b = E b) → ux_B uxP sc 101 8 40 [.ref 1, .int (nI 8)] [] E' x z w' K) :
    ∀ m n E1 w, n + m = 8 → cS E1 sl tx (usN sl tx us n) (rwN (fun f => (rnR f sl (tx f) (us f)).1) n fk) (rwN (fun f => (rnR f sl (tx f) (us f)).2.1) n fp) (rwN (fun f => (rnR f sl (tx f) (us f)).2.2) n dn) (ctN rnC (fun f => rnR f sl (tx f) (us f)) n ct) → (∀ b, (b < 5 ∨ 9 < b) → (b < 20 ∨ 209 < b) → E1 b = E b) → ux_B uxP sc 101 8 23 [.ref 1, .int (nI n)] [] E1 x z w K := by
  intro m
  induction m with
  | zero =>
    intro n E1 w hn h1 g1
    have : n = 8 := by omega
    subst this
    refine ux_BN 3 rfl ?_
    refine ux_Byes (by decide) ?_
    exact hK _ _ h1 g1
  | succ m ih =>
    intro n E1 w hn h1 g1
    refine ux_BN 3 rfl ?_
    refine ux_Bno (nI_ge (show n < 8 by omega) (by decide)) ?_
    refine ux_BN 2 rfl ?_
    refine ux_Bv rfl rfl rfl h1.1 rfl (by decide) rfl rfl ?_
    refine ko_renew2 h1 (by omega) fun E2 w2 h2 g2 => ?_
    rw [usN_at, usN_s] at h2
    refine ux_BN 2 rfl ?_
    have := fun w => ih (n + 1) E2 w (by omega) h2 (fun b b1 b2 => by rw [g2 b b1 (by omega), g1 b b1 b2])
    rw [← nI_s] at this
    exact this _
end LP
end
section
/-! The reference's build: its loop. -/
def rOut (r : Int32 × Int32 × Int32) : Prop := r.2.2 = 0 ∨ ¬ r.1 = 0
/-- the size of what is chosen -/
def zF (r : Int32 × Int32 × Int32) (l : List sU) : Nat := if r.2.2 = 0 then 0 else if r.1 = 0 then (match l with
  | U :: _ => U.2.2.2.length
  | [] => 0) else 0
def zN (z : Nat → Nat) : Nat → Nat
  | 0 => 0
  | n + 1 => zN z n + z n
theorem zF_out {r : Int32 × Int32 × Int32} {l : List sU} (h : rOut r) : zF r l = 0 := by
  unfold zF
  rcases h with h | h
  · rw [if_pos h]
  · by_cases h0 : r.2.2 = 0
    · rw [if_pos h0]
    · rw [if_neg h0, if_neg h]
theorem zF_in {r : Int32 × Int32 × Int32} {U : sU} {l : List sU} (h : ¬ rOut r) : zF r (U :: l) = U.2.2.2.length := by
  unfold zF
  have h1 : ¬ r.2.2 = 0 := fun e => h (Or.inl e)
  have h2 : r.1 = 0 := Decidable.not_not.mp fun e => h (Or.inr e)
  rw [if_neg h1, if_pos h2]
/-- what is chosen for f -/
def chG (A : Nat → List Int32) (f : Nat) (r : Int32 × Int32 × Int32) (l : List sU) : Prop := (rOut r → (A 224).getD f 0 = -1) ∧ (¬ rOut r → ∃ u U rs, (A 224).getD f 0 = nI u ∧ (3 * f ≤ u ∧ u < 3 * f + 3) ∧ l = U :: rs ∧ mU A u f U)
section MB
variable {sc : List Int32} {d : Nat} {E0 E : ux_Ev} {g : Nat → Int32} {A : Nat → List Int32} {x z : Nat} {w : Bool} {K : ux_K1} {st : Nat} {sl : List Int32} {tx : Nat → List Int32} {us : Nat → List sU}
def mB (E0 : ux_Ev) (g : Nat → Int32) (A : Nat → List Int32) (sl : List Int32) (tx : Nat → List Int32) (us : Nat → List sU) (st n : Nat) (E' : ux_Ev) (g' : Nat → Int32) (A' : Nat → List Int32) (st' : Nat) : Prop :=
  md E0 g' A' E' ∧ mR g' A' sl tx (usN sl tx us n) st' ∧ (st ≤ st' ∧ st' ≤ st + n) ∧ A' 221 = rwN (fun f => (rnR f sl (tx f) (us f)).1) n (A 221) ∧ A' 222 = rwN (fun f => (rnR f sl (tx f) (us f)).2.1) n (A 222) ∧ A' 223 = rwN (fun f => (rnR f sl (tx f) (us f)).2.2) n (A 223) ∧ A' 225 = ctN rnM (fun f => rnR f sl (tx f) (us f)) n (A 225) ∧ (∀ f, f < n → chG A' f (rnR f sl (tx f) (us f)) (rnU f sl (tx f) (us f))) ∧ (∀ a, a < 215 ∨ (226 ≤ a ∧ a ≤ 228) ∨ 234 < a → A' a = A a) ∧ ∀ j, j ≠ 11 → j ≠ 26 → j ≠ 28 → j ≠ 29 → j ≠ 30 → g' j = g j
theorem mo_loop (hok : sOk sl) (hst : st < 50000)
    (hK : ∀ E' w' g' A' st', mB E0 g A sl tx us st 8 E' g' A' st' → ux_B uxP sc (d + 4) 88 74 [.ref 210, .int (nI (zN (fun f => zF (rnR f sl (tx f) (us f)) (rnU f sl (tx f) (us f))) 8)), .int (nI 8)] [] E' x z w' K) :
    ∀ m n E1 w g1 A1 st1, n + m = 8 → mB E0 g A sl tx us st n E1 g1 A1 st1 → zN (fun f => zF (rnR f sl (tx f) (us f)) (rnU f sl (tx f) (us f))) n ≤ 80 * n → ux_B uxP sc (d + 4) 88 30 [.ref 210, .int (nI (zN (fun f => zF (rnR f sl (tx f) (us f)) (rnU f sl (tx f) (us f))) n)), .int (nI n)] [] E1 x z w K := by
  intro m
  induction m with
  | zero =>
    intro n E1 w g1 A1 st1 hn hB _
    have : n = 8 := by omega
    subst this
    refine ux_BN 3 rfl ?_
    refine ux_Byes (by decide) ?_
    exact hK _ _ _ _ _ hB
  | succ m ih =>
    intro n E1 w g1 A1 st1 hn hB hz
    obtain ⟨b1, b2, b3, b4, b5, b6, b7, b8, b9, b10⟩ := hB
    refine ux_BN 3 rfl ?_
    refine ux_Bno (nI_ge (show n < 8 by omega) (by decide)) ?_
    refine ux_BN 2 rfl ?_
    refine ux_Bv rfl rfl rfl b1.1 rfl (by decide) rfl rfl ?_
    refine mo_make2 b1 b2 hok (by omega) (show n < 8 by omega) fun E2 w2 g2 A2 st2 m2 R2 s1 s2 made hg2 => ?_
    rw [usN_at, usN_s] at R2
    rw [usN_at] at made
    obtain ⟨e1, e2, e3, e4, ⟨v, e5, e6, e7⟩, e8, e9⟩ := made
    have hl224 : (A1 224).length = 8 := b1.len 224 (by decide)
    have h224 : ∀ f, (A2 224).getD f 0 = if f = n then v else (A1 224).getD f 0 := fun f => by rw [e5, getD_set (by omega)]
    have hch : ∀ f, f < n + 1 → chG A2 f (rnR f sl (tx f) (us f)) (rnU f sl (tx f) (us f)) := by
      intro f hf
      by_cases hfn : f = n
      · subst hfn
        refine ⟨fun h => by rw [h224, if_pos rfl]; exact e6 h, fun h => ?_⟩
        obtain ⟨u, U, rs, c1, c2, c3, c4⟩ := e7 h
        exact ⟨u, U, rs, by rw [h224, if_pos rfl]; exact c1, c2, c3, c4⟩
      · obtain ⟨c1, c2⟩ := b8 f (by omega)
        refine ⟨fun h => by rw [h224, if_neg hfn]; exact c1 h, fun h => ?_⟩
        obtain ⟨u, U, rs, d1, d2, d3, d4⟩ := c2 h
        refine ⟨u, U, rs, by rw [h224, if_neg hfn]; exact d1, d2, d3, d4.congr (e9 u (by omega)) ?_⟩
        have hO := (R2.2.2 f (by omega)).1
        rw [show usN sl tx us (n + 1) f = rnU f sl (tx f) (us f) from if_pos (by omega), d3] at hO
        exact hO.1 U (by simp)
    have hB2 : mB E0 g A sl tx us st (n + 1) E2 g2 A2 st2 := ⟨m2, R2, ⟨by omega, by omega⟩, by rw [e1, b4]; rfl, by rw [e2, b5]; rfl, by rw [e3, b6]; rfl, by rw [e4, b7]; rfl, hch, fun a ha => by rw [e8 a ha, b9 a ha], fun j j1 j2 j3 j4 j5 => by rw [hg2 j j1 j2 j3 j4 j5, b10 j j1 j2 j3 j4 j5]⟩
    obtain ⟨q1, q2⟩ := hch n (by omega)
    have hnext : ∀ (y : Nat) (w : Bool), y = zF (rnR n sl (tx n) (us n)) (rnU n sl (tx n) (us n)) → y ≤ 80 → ux_B uxP sc (d + 4) 88 66 [.ref 210, .int (nI (zN (fun f => zF (rnR f sl (tx f) (us f)) (rnU f sl (tx f) (us f))) n)), .int (nI n)] [.int (nI y), .int (nI (zN (fun f => zF (rnR f sl (tx f) (us f)) (rnU f sl (tx f) (us f))) n))] E2 x z w K := by
      intro y w hy hy80
      refine ux_BN 1 rfl ?_
      refine ux_Btop (nI (zN (fun f => zF (rnR f sl (tx f) (us f)) (rnU f sl (tx f) (us f))) (n + 1))) (by
        show nI _ + nI _ = _
        rw [nI_add, hy]; rfl) ?_
      refine ux_BN 3 rfl ?_
      have := fun w => ih (n + 1) E2 w g2 A2 st2 (by omega) hB2 (by
        show zN _ n + zF _ _ ≤ _
        rw [← hy]; omega)
      rw [← nI_s n] at this
      exact this _
    refine ux_BN 2 rfl ?_
    refine ux_Bget rfl rfl m2.1 rfl ?_
    refine ux_BN 1 rfl ?_
    refine mr_ild m2 224 n rfl (by decide) (show n < 8 by omega) rfl ?_
    by_cases hout : rOut (rnR n sl (tx n) (us n))
    · rw [q1 hout]
      refine ux_BN 1 rfl ?_
      refine ux_Bno (by decide) ?_
      refine ux_BN 2 rfl ?_
      exact hnext 0 _ (zF_out hout).symm (by omega)
    · obtain ⟨u, U, rs, d1, d2, d3, d4⟩ := q2 hout
      have hVU : uV n U := by
        have hO := (R2.2.2 n (by omega)).1
        rw [show usN sl tx us (n + 1) n = rnU n sl (tx n) (us n) from if_pos (by omega), d3] at hO
        exact hO.1 U (by simp)
      rw [d1]
      refine ux_BN 1 rfl ?_
      refine ux_Byes (nI_pos' (by omega)) ?_
      refine ux_BN 1 rfl ?_
      refine ux_Bget rfl rfl m2.1 rfl ?_
      refine ux_BN 1 rfl ?_
      refine ux_Bget rfl rfl m2.1 rfl ?_
      refine ux_BN 1 rfl ?_
      refine mr_ild m2 224 n rfl (by decide) (show n < 8 by omega) rfl ?_
      rw [d1]
      refine mr_ild m2 219 u rfl (by decide) (show u < 24 by omega) rfl ?_
      rw [d4.2.2.2.1]
      exact hnext _ _ (by rw [d3, zF_in hout]) hVU.len.2
end MB
end
section
/-! Codes are well formed: a mark stands at each word: 0 at an operand, the height plus one at an operation. -/
def wI (par : Nat) (ar : Nat → Nat) (ok : Nat → Prop) (c : List Int32) (m : List Nat) (i h : Nat) : Prop :=
  (c.getD i 0 = 0 ∧ m.getD (i + 1) 0 = 0 ∧ m.getD (i + 2) 0 = h + 2 ∧ i + 2 ≤ c.length) ∨
  (c.getD i 0 = 1 ∧ m.getD (i + 1) 0 = 0 ∧ m.getD (i + 2) 0 = h + 2 ∧ i + 2 ≤ c.length ∧ ∃ k, k < par ∧ c.getD (i + 1) 0 = nI k) ∨
  ((∃ k, (2 ≤ k ∧ k ≤ 6) ∧ c.getD i 0 = nI k) ∧ par + 2 ≤ h ∧ m.getD (i + 1) 0 = h ∧ i + 1 ≤ c.length) ∨
  (c.getD i 0 = 7 ∧ m.getD (i + 1) 0 = 0 ∧ m.getD (i + 2) 0 = h ∧ par + 1 ≤ h ∧ ∃ d, c.getD (i + 1) 0 = nI d ∧ i + 2 + d ≤ c.length ∧ m.getD (i + 2 + d) 0 = h) ∨
  (c.getD i 0 = 8 ∧ m.getD (i + 1) 0 = 0 ∧ 0 < m.getD (i + 2) 0 ∧ ∃ d, c.getD (i + 1) 0 = nI d ∧ i + 2 + d ≤ c.length ∧ m.getD (i + 2 + d) 0 = h + 1) ∨
  (c.getD i 0 = 9 ∧ m.getD (i + 1) 0 = 0 ∧ i + 2 ≤ c.length ∧ ∃ k, (k < 8 ∧ ok k) ∧ c.getD (i + 1) 0 = nI k ∧ par + ar k ≤ h ∧ m.getD (i + 2) 0 = h - ar k + 2)
def wC (par : Nat) (ar : Nat → Nat) (ok : Nat → Prop) (c : List Int32) (m : List Nat) (h0 h1 : Nat) : Prop := m.length = c.length ∧ (m ++ [h1 + 1]).getD 0 0 = h0 + 1 ∧ ∀ i h, i < c.length → m.getD i 0 = h + 1 → wI par ar ok c (m ++ [h1 + 1]) i h
section WF
variable {par : Nat} {ar : Nat → Nat} {ok : Nat → Prop}
theorem wI.shift {c c2 : List Int32} {m m2 : List Nat} {i h s : Nat} (hw : wI par ar ok c m i h) (hi : i < c.length) (hc : ∀ j, i ≤ j → j < c.length → c2.getD (j + s) 0 = c.getD j 0) (hm : ∀ j, i ≤ j → j ≤ c.length → m2.getD (j + s) 0 = m.getD j 0) (hl : c.length + s ≤ c2.length) : wI par ar ok c2 m2 (i + s) h := by
  have e0 := hc i (Nat.le_refl _) hi
  have a1 : i + s + 1 = i + 1 + s := by omega
  have a2 : i + s + 2 = i + 2 + s := by omega
  have a3 : ∀ d, i + 2 + s + d = i + 2 + d + s := fun d => by omega
  unfold wI at hw ⊢
  rw [e0, a1, a2]
  simp only [a3]
  rcases hw with ⟨w1, w2, w3, w4⟩ | ⟨w1, w2, w3, w4, k, w5, w6⟩ | ⟨w1, w2, w3, w4⟩ | ⟨w1, w2, w3, w4, d, w5, w6, w7⟩ | ⟨w1, w2, w3, d, w5, w6, w7⟩ | ⟨w1, w2, w3, k, w4, w5, w6, w7⟩
  · exact Or.inl ⟨w1, by rw [hm _ (by omega) (by omega)]; exact w2, by rw [hm _ (by omega) (by omega)]; exact w3, by omega⟩
  · exact Or.inr (Or.inl ⟨w1, by rw [hm _ (by omega) (by omega)]; exact w2, by rw [hm _ (by omega) (by omega)]; exact w3, by omega, k, w5, by rw [hc _ (by omega) (by omega)]; exact w6⟩)
  · exact Or.inr (Or.inr (Or.inl ⟨w1, w2, by rw [hm _ (by omega) (by omega)]; exact w3, by omega⟩))
  · exact Or.inr (Or.inr (Or.inr (Or.inl ⟨w1, by rw [hm _ (by omega) (by omega)]; exact w2, by rw [hm _ (by omega) (by omega)]; exact w3, w4, d, by rw [hc _ (by omega) (by omega)]; exact w5, by omega, by rw [hm _ (by omega) (by omega)]; exact w7⟩)))
  · exact Or.inr (Or.inr (Or.inr (Or.inr (Or.inl ⟨w1, by rw [hm _ (by omega) (by omega)]; exact w2, by rw [hm _ (by omega) (by omega)]; exact w3, d, by rw [hc _ (by omega) (by omega)]; exact w5, by omega, by rw [hm _ (by omega) (by omega)]; exact w7⟩))))
  · exact Or.inr (Or.inr (Or.inr (Or.inr (Or.inr ⟨w1, by rw [hm _ (by omega) (by omega)]; exact w2, by omega, k, w4, by rw [hc _ (by omega) (by omega)]; exact w5, w6, by rw [hm _ (by omega) (by omega)]; exact w7⟩))))
theorem gN_l {l r : List Nat} {i : Nat} (h : i < l.length) : (l ++ r).getD i 0 = l.getD i 0 := by
  rw [List.getD_eq_getElem?_getD, List.getD_eq_getElem?_getD, List.getElem?_append_left h]
theorem gN_r {l r : List Nat} {i : Nat} (j : Nat) (h : i = l.length + j) : (l ++ r).getD i 0 = r.getD j 0 := by
  rw [List.getD_eq_getElem?_getD, List.getD_eq_getElem?_getD, List.getElem?_append_right (by omega), show i - l.length = j by omega]
theorem gI_r {l r : List Int32} {i : Nat} (j : Nat) (h : i = l.length + j) : (l ++ r).getD i 0 = r.getD j 0 := by
  rw [List.getD_eq_getElem?_getD, List.getD_eq_getElem?_getD, List.getElem?_append_right (by omega), show i - l.length = j by omega]
theorem wC.app {c1 c2 : List Int32} {m1 m2 : List Nat} {h0 h1 h2 : Nat} (a : wC par ar ok c1 m1 h0 h1) (b : wC par ar ok c2 m2 h1 h2) : wC par ar ok (c1 ++ c2) (m1 ++ m2) h0 h2 := by
  obtain ⟨a1, a2, a3⟩ := a
  obtain ⟨b1, b2, b3⟩ := b
  have hleft : ∀ j, j ≤ c1.length → (m1 ++ m2 ++ [h2 + 1]).getD j 0 = (m1 ++ [h1 + 1]).getD j 0 := by
    intro j hj
    by_cases hj2 : j < m1.length
    · rw [List.append_assoc, gN_l hj2, gN_l hj2]
    · rw [List.append_assoc, gN_r 0 (show j = m1.length + 0 by omega), b2, gN_r 0 (show j = m1.length + 0 by omega)]
      rfl
  refine ⟨by rw [List.length_append, List.length_append, a1, b1], ?_, fun i h hi hm => ?_⟩
  · rw [hleft 0 (Nat.zero_le _)]; exact a2
  · by_cases hi1 : i < c1.length
    · rw [gN_l (by omega)] at hm
      have := (a3 i h hi1 hm).shift (c2 := c1 ++ c2) (m2 := m1 ++ m2 ++ [h2 + 1]) (s := 0) hi1 (fun j _ hj2 => by rw [Nat.add_zero]; exact getD_app hj2) (fun j _ hj2 => by rw [Nat.add_zero]; exact hleft j hj2) (by rw [List.length_append]; omega)
      exact this
    · obtain ⟨k, rfl⟩ : ∃ k, i = k + c1.length := ⟨i - c1.length, by omega⟩
      rw [gN_r k (by omega)] at hm
      rw [List.length_append] at hi
      exact (b3 k h (by omega) hm).shift (by omega) (fun j _ _ => gI_r j (by omega)) (fun j _ _ => by rw [List.append_assoc, gN_r j (by omega)]) (by rw [List.length_append]; omega)
theorem wC_num (x : Int32) (h : Nat) : wC par ar ok [0, x] [h + 1, 0] h (h + 1) := by
  refine ⟨rfl, rfl, fun i h' hi hm => ?_⟩
  have : i = 0 ∨ i = 1 := by simp at hi; omega
  rcases this with rfl | rfl
  · cases hm
    exact Or.inl ⟨rfl, rfl, rfl, by simp⟩
  · cases hm
theorem wC_par {k : Nat} (hk : k < par) (h : Nat) : wC par ar ok [1, nI k] [h + 1, 0] h (h + 1) := by
  refine ⟨rfl, rfl, fun i h' hi hm => ?_⟩
  have : i = 0 ∨ i = 1 := by simp at hi; omega
  rcases this with rfl | rfl
  · cases hm
    exact Or.inr (Or.inl ⟨rfl, rfl, rfl, by simp, k, hk, rfl⟩)
  · cases hm
theorem wC_op {k : Nat} (hk : 2 ≤ k ∧ k ≤ 6) {h : Nat} (hh : par ≤ h) : wC par ar ok [nI k] [h + 3] (h + 2) (h + 1) := by
  refine ⟨rfl, rfl, fun i h' hi hm => ?_⟩
  have : i = 0 := by simp at hi; omega
  subst this
  cases hm
  exact Or.inr (Or.inr (Or.inl ⟨⟨k, hk, rfl⟩, by omega, rfl, by simp⟩))
theorem wC_call {k : Nat} (hk : k < 8 ∧ ok k) {h : Nat} (hh : par ≤ h) : wC par ar ok [9, nI k] [h + ar k + 1, 0] (h + ar k) (h + 1) := by
  refine ⟨rfl, rfl, fun i h' hi hm => ?_⟩
  have : i = 0 ∨ i = 1 := by simp at hi; omega
  rcases this with rfl | rfl
  · have hm : h + ar k + 1 = h' + 1 := hm
    have : h' = h + ar k := by omega
    subst this
    refine Or.inr (Or.inr (Or.inr (Or.inr (Or.inr ⟨rfl, rfl, by simp, k, hk, rfl, by omega, ?_⟩))))
    show h + 1 + 1 = _
    omega
  · cases hm
end WF
end
