/-! ONE EVALUATOR for the class, the reference and the law: ux_run. A cell: its kind (a class's number; 100 and on: an array), its ints, its values; an address: 0 is the script, k+1 the k-th cell that was made. A heap: the cells, how many exceptions were made, how many slots, whether the frame on top has written. -/
abbrev ux_C : Type := Nat × List Int32 × List Value
abbrev ux_H : Type := List ux_C × Nat × Nat × Bool
abbrev ux_O : Type := Nat ⊕ Option Value
/-- tables: instructions; fields (class, number, is it a reference); calls (kind, callee, arguments); classes; a class's first values; an array's component; a method's locals, its answer (0 none, 1 an int, 2 a boolean, 3 a reference, 4 it is a constructor), its handlers -/
abbrev ux_P : Type := (Nat → Nat → Option (Instr × Nat)) × (Nat → Nat → Option (Nat × Nat × Bool)) × (Nat → Nat → Option (Nat × Nat × Nat)) × (Nat → Nat → Option Nat) × (Nat → List Value) × (Nat → Nat) × (Nat → Nat × Nat × List (Nat × Nat × Nat × Nat))
def ux_ad (b n0 k : Nat) : Nat := if k = 0 then b else n0 + (k - 1)
def ux_tr (b n0 : Nat) (v : Value) : Value := match v with
  | .ref k => .ref (ux_ad b n0 k)
  | v => v
def ux_ii (f : Int32 → Int32 → Int32) (pc : Nat) (ls st : List Value) : Option (Nat × List Value × List Value) := match st with
  | .int y :: .int x :: r => some (pc + 1, ls, .int (f x y) :: r)
  | _ => none
def ux_br (c : Bool) (off : Int) (pc : Nat) (ls st : List Value) : Option (Nat × List Value × List Value) :=
  if 0 ≤ (pc : Int) + off then some (if c then ((pc : Int) + off).toNat else pc + 3, ls, st) else none
def ux_i1 (q : Int32 → Bool) (off : Int) (pc : Nat) (ls st : List Value) : Option (Nat × List Value × List Value) := match st with
  | .int x :: r => ux_br (q x) off pc ls r
  | _ => none
def ux_i2 (q : Int32 → Int32 → Bool) (off : Int) (pc : Nat) (ls st : List Value) : Option (Nat × List Value × List Value) := match st with
  | .int y :: .int x :: r => ux_br (q x y) off pc ls r
  | _ => none
def ux_ldi (len i pc : Nat) (ls st : List Value) : Option (Nat × List Value × List Value) := match ls[i]? with
  | some (.int x) => some (pc + len, ls, .int x :: st)
  | _ => none
def ux_lda (len i pc : Nat) (ls st : List Value) : Option (Nat × List Value × List Value) := match ls[i]? with
  | some (.ref x) => some (pc + len, ls, .ref x :: st)
  | _ => none
def ux_sti (len i pc : Nat) (ls st : List Value) : Option (Nat × List Value × List Value) := match st with
  | .int x :: r => if i < ls.length then some (pc + len, ls.set i (.int x), r) else none
  | _ => none
def ux_sta (len i pc : Nat) (ls st : List Value) : Option (Nat × List Value × List Value) := match st with
  | .ref x :: r => if i < ls.length then some (pc + len, ls.set i (.ref x), r) else none
  | _ => none
def ux_inc (i : Nat) (n : Int) (pc : Nat) (ls st : List Value) : Option (Nat × List Value × List Value) := match ls[i]? with
  | some (.int x) => some (pc + 3, ls.set i (.int (x + Int32.ofInt n)), st)
  | _ => none
def ux_dup (pc : Nat) (ls st : List Value) : Option (Nat × List Value × List Value) := match st with
  | v :: r => if v.category = 1 then some (pc + 1, ls, v :: v :: r) else none
  | _ => none
def ux_pop (pc : Nat) (ls st : List Value) : Option (Nat × List Value × List Value) := match st with
  | v :: r => if v.category = 1 then some (pc + 1, ls, r) else none
  | _ => none
def ux_dup2 (pc : Nat) (ls st : List Value) : Option (Nat × List Value × List Value) := match st with
  | v :: w :: r => if v.category = 1 ∧ w.category = 1 then some (pc + 1, ls, v :: w :: v :: w :: r) else none
  | _ => none
def ux_dupx1 (pc : Nat) (ls st : List Value) : Option (Nat × List Value × List Value) := match st with
  | v :: w :: r => if v.category = 1 ∧ w.category = 1 then some (pc + 1, ls, v :: w :: v :: r) else none
  | _ => none
def ux_i2l (pc : Nat) (ls st : List Value) : Option (Nat × List Value × List Value) := match st with
  | .int x :: r => some (pc + 1, ls, .long x.toInt64 :: r)
  | _ => none
def ux_lcmp (pc : Nat) (ls st : List Value) : Option (Nat × List Value × List Value) := match st with
  | .long y :: .long x :: r => some (pc + 1, ls, .int (lg_cmp x y) :: r)
  | _ => none
def ux_go (off : Int) (pc : Nat) (ls st : List Value) : Option (Nat × List Value × List Value) :=
  if 0 ≤ (pc : Int) + off then some (((pc : Int) + off).toNat, ls, st) else none
def ux_tsw (dflt lo hi : Int) (offs : Array Int) (pc : Nat) (ls st : List Value) : Option (Nat × List Value × List Value) := match st with
  | .int x :: r => if x.toInt < lo ∨ hi < x.toInt then ux_go dflt pc ls r else (match offs[(x.toInt - lo).toNat]? with
      | some off => ux_go off pc ls r
      | none => none)
  | _ => none
def ux_lsw (dflt : Int) (ps : Array (Int × Int)) (pc : Nat) (ls st : List Value) : Option (Nat × List Value × List Value) := match st with
  | .int x :: r => if (ps.toList.zip (ps.toList.drop 1)).all (fun (a, next) => a.1 < next.1) = true then ux_go (Op.lookupswitch.offset ps.toList dflt x.toInt) pc ls r else none
  | _ => none
/-- instructions that touch the frame alone -/
def ux_sim (ins : Instr) (pc : Nat) (ls st : List Value) : Option (Nat × List Value × List Value) := match ins with
  | .iconst n => some (pc + 1, ls, .int (Int32.ofInt n) :: st)
  | .bipush n => some (pc + 2, ls, .int (Int8.ofInt n).toInt32 :: st)
  | .sipush n => some (pc + 3, ls, .int (Int16.ofInt n).toInt32 :: st)
  | .lconst n => some (pc + 1, ls, .long (Int64.ofNat (n : Nat)) :: st)
  | .iload i => ux_ldi 2 i pc ls st
  | .iload_n i => ux_ldi 1 i pc ls st
  | .aload i => ux_lda 2 i pc ls st
  | .aload_n i => ux_lda 1 i pc ls st
  | .istore i => ux_sti 2 i pc ls st
  | .istore_n i => ux_sti 1 i pc ls st
  | .astore i => ux_sta 2 i pc ls st
  | .astore_n i => ux_sta 1 i pc ls st
  | .iinc i n => ux_inc i n pc ls st
  | .iadd => ux_ii (fun x y => x + y) pc ls st
  | .isub => ux_ii (fun x y => x - y) pc ls st
  | .imul => ux_ii (fun x y => x * y) pc ls st
  | .iand => ux_ii (fun x y => x &&& y) pc ls st
  | .ior => ux_ii (fun x y => x ||| y) pc ls st
  | .ishl => ux_ii (fun x y => x <<< (y &&& 31)) pc ls st
  | .ishr => ux_ii (fun x y => x >>> (y &&& 31)) pc ls st
  | .i2l => ux_i2l pc ls st
  | .lcmp => ux_lcmp pc ls st
  | .dup => ux_dup pc ls st
  | .dup2 => ux_dup2 pc ls st
  | .dup_x1 => ux_dupx1 pc ls st
  | .pop => ux_pop pc ls st
  | .ifCond .eq off => ux_i1 (fun x => decide (x = 0)) off pc ls st
  | .ifCond .ne off => ux_i1 (fun x => decide (¬ x = 0)) off pc ls st
  | .ifCond .lt off => ux_i1 (fun x => decide (x < 0)) off pc ls st
  | .ifCond .ge off => ux_i1 (fun x => decide (0 ≤ x)) off pc ls st
  | .ifCond .gt off => ux_i1 (fun x => decide (0 < x)) off pc ls st
  | .ifCond .le off => ux_i1 (fun x => decide (x ≤ 0)) off pc ls st
  | .if_icmp .eq off => ux_i2 (fun x y => decide (x = y)) off pc ls st
  | .if_icmp .ne off => ux_i2 (fun x y => decide (¬ x = y)) off pc ls st
  | .if_icmp .lt off => ux_i2 (fun x y => decide (x < y)) off pc ls st
  | .if_icmp .ge off => ux_i2 (fun x y => decide (y ≤ x)) off pc ls st
  | .if_icmp .gt off => ux_i2 (fun x y => decide (y < x)) off pc ls st
  | .if_icmp .le off => ux_i2 (fun x y => decide (x ≤ y)) off pc ls st
  | .goto off => ux_go off pc ls st
  | .tableswitch dflt lo hi offs => ux_tsw dflt lo hi offs pc ls st
  | .lookupswitch dflt ps => ux_lsw dflt ps pc ls st
  | _ => none
/-- an instruction's length -/
def ux_lok (ins : Instr) (len : Nat) : Bool := match ins with
  | .tableswitch _ _ _ _ => true
  | .lookupswitch _ _ => true
  | .bipush _ => len == 2
  | .sipush _ => len == 3
  | .iload _ => len == 2
  | .aload _ => len == 2
  | .istore _ => len == 2
  | .astore _ => len == 2
  | .iinc _ _ => len == 3
  | .ifCond _ _ => len == 3
  | .if_icmp _ _ => len == 3
  | .goto _ => len == 3
  | .getfield _ => len == 3
  | .putfield _ => len == 3
  | .new _ => len == 3
  | .newarray _ => len == 2
  | .anewarray _ => len == 3
  | .invokevirtual _ => len == 3
  | .invokespecial _ => len == 3
  | .invokestatic _ => len == 3
  | _ => len == 1
/-! memory -/
def ux_cell (h : ux_H) (a : Nat) : Option ux_C := match a with
  | 0 => none
  | k + 1 => h.1[k]?
def ux_set (h : ux_H) (a : Nat) (c : ux_C) : ux_H := (h.1.set (a - 1) c, h.2.1, h.2.2.1, true)
def ux_get (h : ux_H) (a ci j : Nat) : Option Value := match ux_cell h a with
  | some (t, _, vs) => if t = ci then vs[j]? else none
  | none => none
def ux_put (h : ux_H) (a ci j : Nat) (v : Value) : Option ux_H := match ux_cell h a with
  | some (t, is, vs) => if t = ci ∧ j < vs.length then some (ux_set h a (t, is, vs.set j v)) else none
  | none => none
/-- an array of ints (100) or booleans (101) -/
def ux_ld (t : Nat) (sc : List Int32) (h : ux_H) (a : Nat) (j : Int32) : Option Int32 :=
  if j < 0 then none else match a with
  | 0 => if t = 100 then sc[j.toNatClampNeg]? else none
  | _ + 1 => match ux_cell h a with
    | some (t', is, _) => if t' = t then is[j.toNatClampNeg]? else none
    | none => none
def ux_st (t : Nat) (h : ux_H) (a : Nat) (j x : Int32) : Option ux_H :=
  if j < 0 then none else match ux_cell h a with
    | some (t', is, vs) => if t' = t ∧ j.toNatClampNeg < is.length then some (ux_set h a (t', is.set j.toNatClampNeg x, vs)) else none
    | none => none
/-- an array of longs (102) or of references (103 and on) -/
def ux_ldv (h : ux_H) (a : Nat) (j : Int32) : Option (Nat × Value) :=
  if j < 0 then none else match ux_cell h a with
    | some (t, _, vs) => (vs[j.toNatClampNeg]?).map fun v => (t, v)
    | none => none
def ux_stv (h : ux_H) (a : Nat) (j : Int32) (v : Value) : Option (Nat × ux_H) :=
  if j < 0 then none else match ux_cell h a with
    | some (t, is, vs) => if j.toNatClampNeg < vs.length then some (t, ux_set h a (t, is, vs.set j.toNatClampNeg v)) else none
    | none => none
def ux_len (sc : List Int32) (h : ux_H) (a : Nat) : Option Nat := match a with
  | 0 => some sc.length
  | _ + 1 => match ux_cell h a with
    | some (t, is, vs) => if t < 100 then none else if t < 102 then some is.length else some vs.length
    | none => none
def ux_new (h : ux_H) (c : ux_C) (n : Nat) : ux_H := (h.1 ++ [c], h.2.1, h.2.2.1 + n, true)
def ux_isr (v : Value) : Option Bool := match v with
  | .int _ => some false
  | .ref _ => some true
  | _ => none
/-- instructions that touch memory; and the library's three methods -/
def ux_mem (P : ux_P) (sc : List Int32) (i : Nat) (ins : Instr) (st : List Value) (h : ux_H) : Option (Nat × List Value × ux_H) := match ins with
  | .getfield k => (match P.2.1 i k, st with
    | some (ci, j, _), .ref a :: r => (ux_get h a ci j).map fun v => (3, v :: r, h)
    | _, _ => none)
  | .putfield k => (match P.2.1 i k, st with
    | some (ci, j, q), v :: .ref a :: r => if ux_isr v = some q ∧ (P.2.2.2.1 i (200000 + k) = some 2000 ∨ (P.2.2.2.1 i (200000 + k) = some 2001 ∧ (P.2.2.2.2.2.2 i).2.1 = 4)) then (ux_put h a ci j v).map fun h' => (3, r, h') else none
    | _, _ => none)
  | .iaload => (match st with
    | .int j :: .ref a :: r => (ux_ld 100 sc h a j).map fun x => (1, .int x :: r, h)
    | _ => none)
  | .baload => (match st with
    | .int j :: .ref a :: r => (ux_ld 101 sc h a j).map fun x => (1, .int x :: r, h)
    | _ => none)
  | .laload => (match st with
    | .int j :: .ref a :: r => (match ux_ldv h a j with
      | some (102, v) => some (1, v :: r, h)
      | _ => none)
    | _ => none)
  | .aaload => (match st with
    | .int j :: .ref a :: r => (match ux_ldv h a j with
      | some (t, v) => if 102 < t then some (1, v :: r, h) else none
      | _ => none)
    | _ => none)
  | .iastore => (match st with
    | .int x :: .int j :: .ref a :: r => (ux_st 100 h a j x).map fun h' => (1, r, h')
    | _ => none)
  | .bastore => (match st with
    | .int x :: .int j :: .ref a :: r => if x = 0 ∨ x = 1 then (ux_st 101 h a j x).map fun h' => (1, r, h') else none
    | _ => none)
  | .lastore => (match st with
    | .long x :: .int j :: .ref a :: r => (match ux_stv h a j (.long x) with
      | some (102, h') => some (1, r, h')
      | _ => none)
    | _ => none)
  | .aastore => (match st with
    | .ref v :: .int j :: .ref a :: r => (match ux_stv h a j (.ref v), ux_cell h v with
      | some (t, h'), some (ci, _, _) => if 102 < t ∧ ci < 100 ∧ P.2.2.2.2.2.1 t = ci then some (1, r, h') else none
      | _, _ => none)
    | _ => none)
  | .arraylength => (match st with
    | .ref a :: r => (ux_len sc h a).map fun n => (1, .int (Int32.ofNat n) :: r, h)
    | _ => none)
  | .new k => (match P.2.2.2.1 i k with
    | some ci => if ci < 100 ∧ h.2.1 = 0 then some (3, .ref (h.1.length + 1) :: st, ux_new h (ci, [], P.2.2.2.2.1 ci) (P.2.2.2.2.1 ci).length) else none
    | none => none)
  | .newarray t => (match t, st with
    | .int, .int n :: r => if ¬ n < 0 ∧ n.toNatClampNeg ≤ 100000 ∧ h.2.1 = 0 then some (2, .ref (h.1.length + 1) :: r, ux_new h (100, List.replicate n.toNatClampNeg 0, []) n.toNatClampNeg) else none
    | .boolean, .int n :: r => if ¬ n < 0 ∧ n.toNatClampNeg ≤ 100000 ∧ h.2.1 = 0 then some (2, .ref (h.1.length + 1) :: r, ux_new h (101, List.replicate n.toNatClampNeg 0, []) n.toNatClampNeg) else none
    | .long, .int n :: r => if ¬ n < 0 ∧ n.toNatClampNeg ≤ 100000 ∧ h.2.1 = 0 then some (2, .ref (h.1.length + 1) :: r, ux_new h (102, [], List.replicate n.toNatClampNeg (.long 0)) n.toNatClampNeg) else none
    | _, _ => none)
  | .anewarray k => (match P.2.2.2.1 i (100000 + k), st with
    | some t, .int n :: r => if 102 < t ∧ t < 1000 ∧ ¬ n < 0 ∧ n.toNatClampNeg ≤ 100000 ∧ h.2.1 = 0 then some (3, .ref (h.1.length + 1) :: r, ux_new h (t, [], List.replicate n.toNatClampNeg .null) n.toNatClampNeg) else none
    | _, _ => none)
  | .invokespecial k => (match P.2.2.1 i k, st with
    | some (6, _, _), .ref _ :: r => if (r.map fun v => v.category).sum ≤ 16 then some (3, r, h) else none
    | _, _ => none)
  | .invokestatic k => (match P.2.2.1 i k, st with
    | some (7, _, _), .int y :: .int x :: r => if (r.map fun v => v.category).sum ≤ 16 then some (3, .int (if x < y then y else x) :: r, h) else none
    | some (8, _, _), .int y :: .int x :: r => if (r.map fun v => v.category).sum ≤ 16 then some (3, .int (if y < x then y else x) :: r, h) else none
    | _, _ => none)
  | _ => none
/-- the end of a method -/
def ux_ret (rk : Nat) (ins : Instr) (st : List Value) : Option (Option Value) := match ins with
  | .ireturn => (match st with
    | [.int x] => if rk = 1 ∨ (rk = 2 ∧ (x = 0 ∨ x = 1)) then some (some (.int x)) else none
    | _ => none)
  | .areturn => (match st with
    | [.ref x] => if rk = 3 then some (some (.ref x)) else none
    | _ => none)
  | .return_ => (match st with
    | [] => if rk = 0 ∨ rk = 4 then some none else none
    | _ => none)
  | _ => none
/-- 'throw new X()' -/
def ux_thr (P : ux_P) (i pc : Nat) (ins : Instr) (st : List Value) (h : ux_H) : Option Nat := match ins with
  | .new k => (match P.2.2.2.1 i k, P.1 i (pc + 3), P.1 i (pc + 4), P.1 i (pc + 7) with
    | some q, some (.dup, 1), some (.invokespecial k2, 3), some (.athrow, 1) => if 1000 ≤ q ∧ P.2.2.1 i k2 = some (9, q, 0) ∧ st = [] ∧ h.2.2.2 = false ∧ (P.2.2.2.2.2.2 i).2.2 = [] then some (q - 1000) else none
    | _, _, _, _ => none)
  | _ => none
/-- a call: the callee, its arguments, what stays on the stack -/
def ux_cal (P : ux_P) (i : Nat) (ins : Instr) (st : List Value) (h : ux_H) : Option (Nat × List Value × List Value) := match ins with
  | .invokestatic k => (match P.2.2.1 i k with
    | some (q, j, n) => if q < 2 ∧ n ≤ st.length then some (j, (st.take n).reverse, st.drop n) else none
    | none => none)
  | .invokevirtual k => (match P.2.2.1 i k with
    | some (q, j, n) => (match st.drop n with
      | .ref a :: r => (match ux_cell h a with
        | some (ci, _, _) => if q = 100 + ci ∧ ci < 100 then some (j, .ref a :: (st.take n).reverse, r) else none
        | none => none)
      | _ => none)
    | none => none)
  | .invokespecial k => (match P.2.2.1 i k with
    | some (q, j, n) => (match st.drop n with
      | .ref a :: r => if q = 4 ∨ q = 5 then some (j, .ref a :: (st.take n).reverse, r) else none
      | _ => none)
    | none => none)
  | _ => none
/-- where an exception of this kind is caught: not at all; at a place -/
def ux_hnd (hs : List (Nat × Nat × Nat × Nat)) (pc k : Nat) : Option Nat := match hs with
  | [] => none
  | (a, b, t, q) :: r => if a ≤ pc ∧ pc < b ∧ q = k then some t else ux_hnd r pc k
/-- the handler's first instruction: it lays the exception by -/
def ux_lay (ins : Instr) : Option (Nat × Nat) := match ins with
  | .astore i => some (i, 2)
  | .astore_n i => some (i, 1)
  | _ => none
def ux_run (P : ux_P) (sc : List Int32) : Nat → Nat → Nat → Nat → List Value → List Value → ux_H → Option (ux_O × ux_H)
  | 0, _, _, _, _, _, _ => none
  | n + 1, d, i, pc, ls, st, h => match P.1 i pc with
    | none => none
    | some (ins, _) => match ux_sim ins pc ls st with
      | some (pc', ls', st') => ux_run P sc n d i pc' ls' st' h
      | none => match ux_mem P sc i ins st h with
        | some (len, st', h') => ux_run P sc n d i (pc + len) ls st' h'
        | none => match ux_ret (P.2.2.2.2.2.2 i).2.1 ins st with
          | some v => some (.inr v, h)
          | none => match ux_thr P i pc ins st h with
            | some k => some (.inl k, (h.1, h.2.1 + 1, h.2.2.1 + 6, true))
            | none => match ux_cal P i ins st h, d with
              | some (j, as, r), d' + 1 => if (r.map fun v => v.category).sum ≤ 16 ∧ as.length ≤ (P.2.2.2.2.2.2 j).1 ∧ (P.2.2.2.2.2.2 j).1 ≤ 30 ∧ (as.all fun v => v.category == 1) then
                  match ux_run P sc n d' j 0 (as ++ List.replicate ((P.2.2.2.2.2.2 j).1 - as.length) .null) [] (h.1, h.2.1, h.2.2.1, false) with
                  | some (.inr v, h') => ux_run P sc n (d' + 1) i (pc + 3) ls (v.toList ++ r) (h'.1, h'.2.1, h'.2.2.1, h.2.2.2 || h'.2.2.2)
                  | some (.inl k, h') => (match ux_hnd (P.2.2.2.2.2.2 i).2.2 pc k with
                    | none => if (P.2.2.2.2.2.2 i).2.2 = [] then some (.inl k, (h'.1, h'.2.1, h'.2.2.1, true)) else none
                    | some t => (match (P.1 i t).bind fun x => ux_lay x.1 with
                      | some (q, len) => if q < ls.length then ux_run P sc n (d' + 1) i (t + len) (ls.set q .null) [] (h'.1, h'.2.1, h'.2.2.1, true) else none
                      | none => none))
                  | none => none
                else none
              | _, _ => none
