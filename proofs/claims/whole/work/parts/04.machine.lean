/-! A PURE MACHINE over resolved code. References are numbers of cells from a base on; 100000 is the script. A cell's shape: .inl (0 | 1, n) a row of n ints | bytes; .inr (ci, refs) an object of class ci (its references by field number), ci = 100 a row of references. All ints lie in w : cell, place. -/
abbrev ShC : Type := (Nat × Nat) ⊕ (Nat × List (Option Nat))
abbrev Sh : Type := List ShC
abbrev Wd : Type := Nat → Nat → Int32
abbrev PLs : Type := List (Option Value)
abbrev PSt : Type := Nat × PLs × List Value × Sh × Wd
abbrev Scr : Type := Nat × (Nat → Int32)
def up2 (w : Wd) (a k : Nat) (v : Int32) : Wd := fun b => if b = a then upd (w a) k v else w b
def zr2 (w : Wd) (a : Nat) : Wd := fun b => if b = a then (fun _ => 0) else w b
def cp2 (w : Wd) (a0 a1 sp dp n : Nat) : Wd := fun b => if b = a1 then va_cpy (w a0) (w a1) sp dp n else w b
def nFd (ci : Nat) : Nat := ((CLS[ci]?).map fun q => q.2.2).getD 0
def setL (ls : PLs) (i : Nat) (v : Value) : Option PLs :=
  if i < ls.length then
    match i with
    | 0 => some (ls.set 0 (some v))
    | j + 1 => match ls[j]? with
      | some (some x) => if x.category = 2 then none else some (ls.set (j + 1) (some v))
      | _ => some (ls.set (j + 1) (some v))
  else none
def setL2 (ls : PLs) (i : Nat) (v : Value) : Option PLs :=
  if i + 1 < ls.length then
    match setL ls i v with
    | some l2 => some (l2.set (i + 1) none)
    | none => none
  else none
def pcmp (c : ClassFile.Cond) (x y : Int32) : Bool := match c with
  | .eq => decide (x = y)
  | .ne => decide (¬ x = y)
  | .lt => decide (x < y)
  | .ge => decide (y ≤ x)
  | .gt => decide (y < x)
  | .le => decide (x ≤ y)
/-- arithmetic on ints: operator, left, right -/
def parith (i : Instr) (x y : Int32) : Option Int32 := match i with
  | .iadd => some (x + y)
  | .isub => some (x - y)
  | .imul => some (x * y)
  | .iand => some (x &&& y)
  | .ior => some (x ||| y)
  | .ixor => some (x ^^^ y)
  | .ishl => some (x <<< (y &&& 31))
  | .ishr => some (x >>> (y &&& 31))
  | .iushr => some ((x.toUInt32 >>> (y.toUInt32 &&& Int32.toUInt32 31)).toInt32)
  | .idiv => if y = 0 then none else some (x / y)
  | .irem => if y = 0 then none else some (x - x / y * y)
  | _ => none
def pstack (i : Instr) (st : List Value) : Option (List Value) := match i with
  | .iconst n => some (.int (Int32.ofInt n) :: st)
  | .lconst n => some (.long (Int64.ofNat n) :: st)
  | .ldc2_w _ => some (.long (-1) :: st)
  | .ldc _ => some (.ref 100001 :: st)
  | .ineg => match st with
    | .int x :: r => some (.int (-x) :: r)
    | _ => none
  | .i2l => match st with
    | .int x :: r => some (.long x.toInt64 :: r)
    | _ => none
  | .i2b => match st with
    | .int x :: r => some (.int x.toInt8.toInt32 :: r)
    | _ => none
  | .i2c => match st with
    | .int x :: r => some (.int (x.toUInt32 % 65536).toInt32 :: r)
    | _ => none
  | .lmul => match st with
    | .long y :: .long x :: r => some (.long (x * y) :: r)
    | _ => none
  | .ldiv => match st with
    | .long y :: .long x :: r => if y = 0 then none else some (.long (x / y) :: r)
    | _ => none
  | .lcmp => match st with
    | .long y :: .long x :: r => some (.int (lg_cmp x y) :: r)
    | _ => none
  | .dup => match st with
    | v :: r => if v.category = 1 then some (v :: v :: r) else none
    | _ => none
  | .dup2 => match st with
    | v :: u :: r => if v.category = 1 then (if u.category = 1 then some (v :: u :: v :: u :: r) else none) else none
    | _ => none
  | .pop => match st with
    | v :: r => if v.category = 1 then some r else none
    | _ => none
  | i => match st with
    | .int y :: .int x :: r => match parith i x y with
      | some z => some (.int z :: r)
      | none => none
    | _ => none
/-- the place of a sign among the letters c f a s t p m y r g h q -/
def idxL : List Int32 := [99, 102, 97, 115, 116, 112, 109, 121, 114, 103, 104, 113]
def idxGo (x : Int32) : List Int32 → Int32 → Int32
  | [], _ => -1
  | a :: l, n => if x = a then n else idxGo x l (n + 1)
def idxOf (x : Int32) : Int32 := idxGo x idxL 0
def inB (i : Int32) (n : Nat) : Bool := !(decide (i < 0) || decide (n ≤ i.toNatClampNeg))
def pread (X : Scr) (i : Instr) (st : List Value) (sh : Sh) (w : Wd) : Option (List Value) := match i with
  | .getfield n => match st with
    | .ref a :: r => match sh[a]? with
      | some (.inr (ci, rs)) => if ci = n / 512 then
          (if n % 4 = 1 then
            match rs[n / 4 % 128]? with
            | some (some b) => some (.ref b :: r)
            | _ => none
          else some (.int (w a (n / 4 % 128)) :: r))
        else none
      | _ => none
    | _ => none
  | .iaload => match st with
    | .int j :: .ref a :: r => if a = 100000 then (if X.1 < 4000 then (if inB j X.1 = true then some (.int (X.2 j.toNatClampNeg) :: r) else none) else none)
      else match sh[a]? with
        | some (.inl (0, n)) => if inB j n = true then some (.int (w a j.toNatClampNeg) :: r) else none
        | _ => none
    | _ => none
  | .baload => match st with
    | .int j :: .ref a :: r => match sh[a]? with
        | some (.inl (1, n)) => if inB j n = true then some (.int (w a j.toNatClampNeg) :: r) else none
        | _ => none
    | _ => none
  | .aaload => match st with
    | .int j :: .ref a :: r => match sh[a]? with
        | some (.inr (100, rs)) => if inB j rs.length = true then
            match rs[j.toNatClampNeg]? with
            | some (some b) => some (.ref b :: r)
            | _ => none
          else none
        | _ => none
    | _ => none
  | .arraylength => match st with
    | .ref a :: r => if a = 100000 then (if X.1 < 4000 then some (.int (Int32.ofNat X.1) :: r) else none) else
      match sh[a]? with
        | some (.inl (_, n)) => some (.int (Int32.ofNat n) :: r)
        | some (.inr (100, rs)) => some (.int (Int32.ofNat rs.length) :: r)
        | _ => none
    | _ => none
  | _ => none
def pwrite (d : Nat) (i : Instr) (st : List Value) (sh : Sh) (w : Wd) : Option (List Value × Sh × Wd) := match i with
  | .putfield n => match st with
    | .int x :: .ref a :: r => match sh[a]? with
      | some (.inr (ci, rs)) => if ci = n / 512 then
          (if n % 4 = 0 then some (r, sh, up2 w a (n / 4 % 128) x)
           else if n % 4 = 2 then (if x = 0 ∨ x = 1 then some (r, sh, up2 w a (n / 4 % 128) x) else none) else none)
        else none
      | _ => none
    | .ref b :: .ref a :: r => match sh[a]? with
      | some (.inr (ci, rs)) => if ci = n / 512 then
          (if n % 4 = 1 then (if n / 4 % 128 < rs.length then some (r, sh.set a (.inr (ci, rs.set (n / 4 % 128) (some b))), w) else none) else none)
        else none
      | _ => none
    | _ => none
  | .iastore => match st with
    | .int x :: .int j :: .ref a :: r => match sh[a]? with
        | some (.inl (0, n)) => if inB j n = true then some (r, sh, up2 w a j.toNatClampNeg x) else none
        | _ => none
    | _ => none
  | .bastore => match st with
    | .int x :: .int j :: .ref a :: r => match sh[a]? with
        | some (.inl (1, n)) => if inB j n = true then some (r, sh, up2 w a j.toNatClampNeg (vp_nar .byte x)) else none
        | _ => none
    | _ => none
  | .aastore => match st with
    | .ref v :: .int j :: .ref a :: r => match sh[a]?, sh[v]? with
        | some (.inr (100, rs)), some (.inr (7, _)) => if inB j rs.length = true then some (r, sh.set a (.inr (100, rs.set j.toNatClampNeg (some v))), w) else none
        | _, _ => none
    | _ => none
  | .new ci => if 100000 ≤ sh.length then none else some (.ref sh.length :: st, sh ++ [.inr (ci, List.replicate (nFd ci) none)], zr2 w sh.length)
  | .newarray t => match st with
    | .int n :: r => if n < 0 then none else if 100000 < n.toNatClampNeg ∨ 100000 ≤ sh.length then none else
      match t with
      | .int => some (.ref sh.length :: r, sh ++ [.inl (0, n.toNatClampNeg)], zr2 w sh.length)
      | .byte => some (.ref sh.length :: r, sh ++ [.inl (1, n.toNatClampNeg)], zr2 w sh.length)
      | _ => none
    | _ => none
  | .anewarray _ => match st with
    | .int n :: r => if n < 0 then none else if 100000 < n.toNatClampNeg ∨ 100000 ≤ sh.length then none else some (.ref sh.length :: r, sh ++ [.inr (100, List.replicate n.toNatClampNeg none)], zr2 w sh.length)
    | _ => none
  | .invokespecial 99999 => match d, st with
    | _ + 1, .ref _ :: r => if (r.map fun v => v.category).sum ≤ 8 then some (r, sh, w) else none
    | _, _ => none
  | .invokevirtual 99998 => match d, st with
    | _ + 6, .int x :: .ref 100001 :: r => if (r.map fun v => v.category).sum ≤ 8 then some (.int (idxOf x) :: r, sh, w) else none
    | _, _ => none
  | .invokestatic 99995 => match d, st with
    | _ + 1, .int y :: .int x :: r => if (r.map fun v => v.category).sum ≤ 8 then some (.int (if x < y then y else x) :: r, sh, w) else none
    | _, _ => none
  | .invokestatic 99996 => match d, st with
    | _ + 1, .int y :: .int x :: r => if (r.map fun v => v.category).sum ≤ 8 then some (.int (if y < x then y else x) :: r, sh, w) else none
    | _, _ => none
  | .invokestatic 99997 => match d, st with
    | _ + 1, .int x :: r => if (r.map fun v => v.category).sum ≤ 8 then some (.int (if 0 ≤ x then x else 0 - x) :: r, sh, w) else none
    | _, _ => none
  | .invokestatic 99999 => match d, st with
    | _ + 1, .int n :: .int dp :: .ref a1 :: .int sp :: .ref a0 :: r => match sh[a0]?, sh[a1]? with
        | some (.inl (0, n0)), some (.inl (0, n1)) =>
          if n < 0 ∨ sp < 0 ∨ dp < 0 ∨ n0 < sp.toNatClampNeg + n.toNatClampNeg ∨ n1 < dp.toNatClampNeg + n.toNatClampNeg ∨ 8 < (r.map fun v => v.category).sum then none
          else some (r, sh, cp2 w a0 a1 sp.toNatClampNeg dp.toNatClampNeg n.toNatClampNeg)
        | _, _ => none
    | _, _ => none
  | _ => none
def plocal (i : Instr) (ls : PLs) (st : List Value) : Option (PLs × List Value) := match i with
  | .iload j => match ls[j]? with
    | some (some (.int x)) => some (ls, .int x :: st)
    | _ => none
  | .lload j => match ls[j]? with
    | some (some (.long x)) => some (ls, .long x :: st)
    | _ => none
  | .aload j => match ls[j]? with
    | some (some (.ref x)) => some (ls, .ref x :: st)
    | _ => none
  | .istore j => match st with
    | .int x :: r => match setL ls j (.int x) with
      | some l2 => some (l2, r)
      | none => none
    | _ => none
  | .astore j => match st with
    | .ref x :: r => match setL ls j (.ref x) with
      | some l2 => some (l2, r)
      | none => none
    | _ => none
  | .lstore j => match st with
    | .long x :: r => match setL2 ls j (.long x) with
      | some l2 => some (l2, r)
      | none => none
    | _ => none
  | .iinc j n => match ls[j]? with
    | some (some (.int x)) => match setL ls j (.int (x + Int32.ofInt n)) with
      | some l2 => some (l2, st)
      | none => none
    | _ => none
  | _ => none
def pjump (i : Instr) (pc len : Nat) (st : List Value) : Option (Nat × List Value) := match i with
  | .goto t => some (t.toNat, st)
  | .ifCond c t => match st with
    | .int x :: r => if pcmp c x 0 = true then some (t.toNat, r) else some (pc + len, r)
    | _ => none
  | .if_icmp c t => match st with
    | .int y :: .int x :: r => if pcmp c x y = true then some (t.toNat, r) else some (pc + len, r)
    | _ => none
  | .lookupswitch df ps => match st with
    | .int x :: r => some (((pc : Int) + Op.lookupswitch.offset ps.toList df x.toInt).toNat, r)
    | _ => none
  | .tableswitch df lo hi offs => match st with
    | .int x :: r => if x.toInt < lo ∨ hi < x.toInt then some (((pc : Int) + df).toNat, r) else
      match offs[(x.toInt - lo).toNat]? with
      | some o => some (((pc : Int) + o).toNat, r)
      | none => none
    | _ => none
  | _ => none
/-- which of the five an instruction is -/
def pkind (i : Instr) : Nat := match i with
  | .iload _ => 0
  | .lload _ => 0
  | .aload _ => 0
  | .istore _ => 0
  | .astore _ => 0
  | .lstore _ => 0
  | .iinc _ _ => 0
  | .goto _ => 1
  | .ifCond _ _ => 1
  | .if_icmp _ _ => 1
  | .lookupswitch _ _ => 1
  | .tableswitch _ _ _ _ => 1
  | .getfield _ => 2
  | .iaload => 2
  | .baload => 2
  | .aaload => 2
  | .arraylength => 2
  | .putfield _ => 3
  | .iastore => 3
  | .bastore => 3
  | .aastore => 3
  | .new _ => 3
  | .newarray _ => 3
  | .anewarray _ => 3
  | .invokespecial n => if 99990 ≤ n ∧ n ≤ 99999 then 3 else 5
  | .invokestatic n => if 99990 ≤ n ∧ n ≤ 99999 then 3 else 5
  | .invokevirtual n => if 99990 ≤ n ∧ n ≤ 99999 then 3 else 5
  | .ireturn => 6
  | .lreturn => 6
  | .return_ => 6
  | _ => 4
def pstep (X : Scr) (d : Nat) (i : Instr) (len : Nat) (q : PSt) : Option PSt :=
  match pkind i with
  | 0 => match plocal i q.2.1 q.2.2.1 with
    | some (ls, st) => some (q.1 + len, ls, st, q.2.2.2.1, q.2.2.2.2)
    | none => none
  | 1 => match pjump i q.1 len q.2.2.1 with
    | some (t, st) => some (t, q.2.1, st, q.2.2.2.1, q.2.2.2.2)
    | none => none
  | 2 => match pread X i q.2.2.1 q.2.2.2.1 q.2.2.2.2 with
    | some st => some (q.1 + len, q.2.1, st, q.2.2.2.1, q.2.2.2.2)
    | none => none
  | 3 => match pwrite d i q.2.2.1 q.2.2.2.1 q.2.2.2.2 with
    | some (st, sh, w) => some (q.1 + len, q.2.1, st, sh, w)
    | none => none
  | 4 => match pstack i q.2.2.1 with
    | some st => some (q.1 + len, q.2.1, st, q.2.2.2.1, q.2.2.2.2)
    | none => none
  | _ => none
def codeAt (k pc : Nat) : Option (Instr × Nat) := match RCT[k]? with
  | some l => match l[pc]? with
    | some o => o
    | none => none
  | none => none
/-- a call: the callee, its arguments, what is left on the stack -/
def pcall (i : Instr) (st : List Value) (sh : Sh) : Option (Nat × List Value × List Value) := match i with
  | .invokestatic n => if n / 1000 % 16 ≤ st.length then (if ((st.drop (n / 1000 % 16)).map fun v => v.category).sum ≤ 8 then some (n % 1000, (st.take (n / 1000 % 16)).reverse, st.drop (n / 1000 % 16)) else none) else none
  | .invokespecial n => match st.drop (n / 1000 % 16) with
    | .ref a :: r => if (r.map fun v => v.category).sum ≤ 8 then some (n % 1000, .ref a :: (st.take (n / 1000 % 16)).reverse, r) else none
    | _ => none
  | .invokevirtual n => match st.drop (n / 1000 % 16) with
    | .ref a :: r => match sh[a]? with
      | some (.inr (ci, _)) => if ci = n / 16000 then (if (r.map fun v => v.category).sum ≤ 8 then some (n % 1000, .ref a :: (st.take (n / 1000 % 16)).reverse, r) else none) else none
      | _ => none
    | _ => none
  | _ => none
def MRT (k : Nat) : Nat := ((MTB[k]?).map fun q => q.2.2.2.1).getD 9
def MLN (k : Nat) : Nat := ((MTB[k]?).map fun q => q.2.2.1).getD 0
def pret (k : Nat) (i : Instr) (st : List Value) : Option (Option Value) := match i with
  | .ireturn => match st with
    | [.int v] => if MRT k = 1 then some (some (.int v)) else if MRT k = 2 then (if v = 0 ∨ v = 1 then some (some (.int v)) else none) else none
    | _ => none
  | .lreturn => match st with
    | [.long v] => if MRT k = 3 then some (some (.long v)) else none
    | _ => none
  | .return_ => match st with
    | [] => if MRT k = 0 then some none else none
    | _ => none
  | _ => none
abbrev PRes : Type := Option Value × Sh × Wd
def prun (X : Scr) (d : Nat) (call : Nat → List Value → Sh → Wd → Option PRes) (k : Nat) : Nat → PSt → Option PRes
  | 0, _ => none
  | n + 1, q => match codeAt k q.1 with
    | none => none
    | some (i, len) => match pkind i with
      | 5 => match pcall i q.2.2.1 q.2.2.2.1 with
        | some (kc, av, r) => match call kc av q.2.2.2.1 q.2.2.2.2 with
          | some (v, sh, w) => prun X d call k n (q.1 + len, q.2.1, v.toList ++ r, sh, w)
          | none => none
        | none => none
      | 6 => match pret k i q.2.2.1 with
        | some v => some (v, q.2.2.2.1, q.2.2.2.2)
        | none => none
      | _ => match pstep X d i len q with
        | some q2 => prun X d call k n q2
        | none => none
def pentry (k : Nat) (av : List Value) : PLs := av.map some ++ List.replicate (MLN k - av.length) none
def pev (X : Scr) (n : Nat) : Nat → Nat → List Value → Sh → Wd → Option PRes
  | 0, _, _, _, _ => none
  | d + 1, k, av, sh, w => if av.length ≤ MLN k ∧ av.all (fun v => v.category == 1) = true then prun X d (pev X n d) k n (0, pentry k av, [], sh, w) else none
