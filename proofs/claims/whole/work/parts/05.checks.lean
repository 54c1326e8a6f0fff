/-! what the tables say, checked by the kernel -/
def tyF (ci k : Nat) : FieldType := match ci with
  | 0 => tyX0 k
  | 1 => tyX1 k
  | 2 => tyX2 k
  | 3 => tyX3 k
  | 4 => tyX4 k
  | 5 => tyX5 k
  | 6 => tyX6 k
  | 7 => tyX7 k
  | 8 => tyX8 k
  | 9 => tyX9 k
  | 10 => tyX10 k
  | 11 => tyX11 k
  | _ => tyX12 k
def flagOf (t : FieldType) : Nat := match t with
  | .int => 0
  | .boolean => 2
  | .object _ => 1
  | .array _ => 1
  | _ => 3
def MOW (k : Nat) : Nat := ((MTB[k]?).map fun q => q.2.2.2.2.1).getD 99
def MKD (k : Nat) : Nat := ((MTB[k]?).map fun q => q.2.2.2.2.2.1).getD 99
def MNP (k : Nat) : Nat := ((MTB[k]?).map fun q => q.2.2.2.2.2.2).getD 99
def MNM (k : Nat) : MethodName := ((MTB[k]?).map fun q => q.1).getD ⟨"", "", ""⟩
def MBY (k : Nat) : ByteArray := ((MTB[k]?).map fun q => q.2.1).getD ⟨#[]⟩
def CNO (o : Nat) : String := CNM.getD o ""
def lnF (o idx : Nat) : Option (Nat × Nat × Nat × Nat) := LNF.find? fun q => q.1 == o && q.2.1 == idx
def lnM (o idx : Nat) : Option (Nat × Nat × Nat × Nat × Nat) := LNM.find? fun q => q.1 == o && q.2.1 == idx
def lnC (o idx : Nat) : Option (Nat × Nat × Nat × Nat) := LNC.find? fun q => q.1 == o && q.2.1 == idx
def lnK (o idx : Nat) : Option (Nat × Nat × Int × Nat) := LNK.find? fun q => q.1 == o && q.2.1 == idx
def lnL (o idx : Nat) : Option (Nat × Nat × Nat) := LNL.find? fun q => q.1 == o && q.2.1 == idx
def isFin (n : Nat) : Bool := match CLS[n / 512]? with
  | some r => (r.2.1 (n / 4 % 128)).2.2.2
  | none => true
def putOK (k n : Nat) : Bool := if isFin n = true then (MKD k == 2 && MOW k == n / 512) else true
abbrev TB : List Cond := lw_tbl.filter goodWord
theorem tb_in {p : Nat} {w : Cond} (h : lw_tbl[p]? = some w) (g : goodWord w = true) : w ∈ TB := List.mem_filter.mpr ⟨List.mem_of_getElem? h, g⟩
def fOK (q : Nat × Nat × Nat × Nat) : Bool := match CLS[q.2.2.1 / 512]? with
  | some r => decide (q.2.2.1 / 4 % 128 < r.2.2) && (decide (lw_tbl[q.2.2.2]? = some (.fieldLink (CNO q.1) q.2.1 (r.2.1 (q.2.2.1 / 4 % 128)).1 (r.2.1 (q.2.2.1 / 4 % 128)).2.1 (r.2.1 (q.2.2.1 / 4 % 128)).2.2.1)) && decide (flagOf (tyF (q.2.2.1 / 512) (q.2.2.1 / 4 % 128)) = q.2.2.1 % 4))
  | none => false
def mOK (q : Nat × Nat × Nat × Nat × Nat) : Bool :=
  match q.2.2.2.1 with
  | 0 => decide (lw_tbl[q.2.2.2.2]? = some (.methodLink (CNO q.1) q.2.1 (MNM (q.2.2.1 % 1000)))) && (decide (q.2.2.1 / 1000 % 16 = MNP (q.2.2.1 % 1000)) && (decide (q.2.2.1 / 16000 = MOW (q.2.2.1 % 1000)) && decide (q.2.2.1 % 1000 < 260 ∧ ¬ (99990 ≤ q.2.2.1 ∧ q.2.2.1 ≤ 99999))))
  | 1 => decide (lw_tbl[q.2.2.2.2]? = some (.methodLinkNest (CNO q.1) q.2.1 (MNM (q.2.2.1 % 1000)) "YearFigures")) && (decide (q.2.2.1 / 1000 % 16 = MNP (q.2.2.1 % 1000)) && (decide (q.2.2.1 / 16000 = MOW (q.2.2.1 % 1000)) && decide (q.2.2.1 % 1000 < 260 ∧ ¬ (99990 ≤ q.2.2.1 ∧ q.2.2.1 ≤ 99999))))
  | 2 => decide (lw_tbl[q.2.2.2.2]? = some (.methodLink (CNO q.1) q.2.1 arraycopyName)) && decide (q.2.2.1 = 99999)
  | 3 => decide (lw_tbl[q.2.2.2.2]? = some (.methodLink (CNO q.1) q.2.1 objectInit)) && decide (q.2.2.1 = 99999)
  | 5 => decide (lw_tbl[q.2.2.2.2]? = some (.methodLink (CNO q.1) q.2.1 Lib.Math.max.name)) && decide (q.2.2.1 = 99995)
  | 6 => decide (lw_tbl[q.2.2.2.2]? = some (.methodLink (CNO q.1) q.2.1 Lib.Math.min.name)) && decide (q.2.2.1 = 99996)
  | 7 => decide (lw_tbl[q.2.2.2.2]? = some (.methodLink (CNO q.1) q.2.1 Lib.Math.abs.name)) && decide (q.2.2.1 = 99997)
  | _ => decide (lw_tbl[q.2.2.2.2]? = some (.methodLink (CNO q.1) q.2.1 ⟨"java/lang/String", "indexOf", "(I)I"⟩)) && decide (q.2.2.1 = 99998)
def cOK (q : Nat × Nat × Nat × Nat) : Bool := match CLS[q.2.2.1]? with
  | some r => decide (lw_tbl[q.2.2.2]? = some (.classLink (CNO q.1) q.2.1 r.1))
  | none => false
def kOK (q : Nat × Nat × Int × Nat) : Bool := decide (lw_tbl[q.2.2.2]? = some (.constant (CNO q.1) q.2.1 (Int32.ofInt q.2.2.1)))
def lOK (q : Nat × Nat × Nat) : Bool := decide (lw_tbl[q.2.2]? = some (.constantLong (CNO q.1) q.2.1 (-1)))
/-- a method's own words -/
def wOK (k : Nat) : Bool := match MTB[k]?, MPW[k]? with
  | some q, some r => (decide (lw_tbl[r.2.1]? = some (.initialized q.1.cls)) && (decide (lw_tbl[r.2.2.1]? = some (if q.2.2.2.2.2.1 = 0 then .static q.1 else .instanceMethod q.1)) && ((if q.2.2.2.2.2.1 = 1 then decide (lw_tbl[r.2.2.2]? = some (.selects q.1.cls q.1 q.1)) else true) && (decide (q.1.cls = CNO q.2.2.2.2.1) && ((if q.2.2.2.2.2.1 = 2 then decide (q.1.name = "<init>") && decide (q.2.2.2.1 = 0) else true) && (decide ((parseMethodDescriptor q.1.desc).map (fun d => d.parameters.length) = some q.2.2.2.2.2.2) && (plainName q.1.cls && (decide (q.1.cls ≠ "java/lang/invoke/MethodHandle" ∧ q.1.cls ≠ "java/lang/invoke/VarHandle") && (decide (q.2.2.1 ≤ 45) && decide (q.2.2.2.1 < 4))))))))))
  | _, _ => false
def kPart (k : Nat) : Bool := match CLS[k]?, CPW[k]? with
  | some r, some q => decide (lw_tbl[q.1]? = some (.instantiable r.1 r.2.2)) && (decide (lw_tbl[q.2]? = some (.initialized r.1)) && (List.range r.2.2).all fun j => decide (u_lay r.1 r.2.1 j ∈ lw_tbl) && (goodWord (u_lay r.1 r.2.1 j) && decide ((r.2.1 j).1 = CNO k)))
  | _, _ => false
set_option maxRecDepth 100000 in
theorem LNF_ok : LNF.all fOK = true := by decide +kernel
set_option maxRecDepth 100000 in
theorem LNM_ok : LNM.all mOK = true := by decide +kernel
set_option maxRecDepth 100000 in
theorem LNC_ok : LNC.all cOK = true := by decide +kernel
set_option maxRecDepth 100000 in
theorem LNK_ok : LNK.all kOK = true := by decide +kernel
set_option maxRecDepth 100000 in
theorem LNL_ok : LNL.all lOK = true := by decide +kernel
set_option maxRecDepth 100000 in
theorem MTB_ok_0 : (List.range' 0 40).all wOK = true := by decide +kernel
set_option maxRecDepth 100000 in
theorem MTB_ok_1 : (List.range' 40 40).all wOK = true := by decide +kernel
set_option maxRecDepth 100000 in
theorem MTB_ok_2 : (List.range' 80 40).all wOK = true := by decide +kernel
set_option maxRecDepth 100000 in
theorem MTB_ok_3 : (List.range' 120 40).all wOK = true := by decide +kernel
set_option maxRecDepth 100000 in
theorem MTB_ok_4 : (List.range' 160 40).all wOK = true := by decide +kernel
set_option maxRecDepth 100000 in
theorem MTB_ok_5 : (List.range' 200 40).all wOK = true := by decide +kernel
set_option maxRecDepth 100000 in
theorem MTB_ok_6 : (List.range' 240 20).all wOK = true := by decide +kernel
set_option maxRecDepth 100000 in
theorem CLS_ok : (List.range 13).all kPart = true := by decide +kernel
/-- an instruction as it is decoded, resolved -/
def rsv (k pc : Nat) (raw : Instr) : Option Instr := match raw with
  | .iload_n n => some (.iload n.val)
  | .aload_n n => some (.aload n.val)
  | .lload_n n => some (.lload n.val)
  | .istore_n n => some (.istore n.val)
  | .astore_n n => some (.astore n.val)
  | .lstore_n n => some (.lstore n.val)
  | .iload n => some (.iload n)
  | .aload n => some (.aload n)
  | .lload n => some (.lload n)
  | .istore n => some (.istore n)
  | .astore n => some (.astore n)
  | .lstore n => some (.lstore n)
  | .iinc n v => some (.iinc n v)
  | .iconst n => some (.iconst n)
  | .lconst n => some (.lconst n)
  | .bipush n => if (Int8.ofInt n).toInt32 = Int32.ofInt n then some (.iconst n) else none
  | .sipush n => if (Int16.ofInt n).toInt32 = Int32.ofInt n then some (.iconst n) else none
  | .ldc idx => if MOW k = 6 ∧ idx = 111 then some (.ldc 0) else (lnK (MOW k) idx).map fun q => .iconst q.2.2.1
  | .ldc_w idx => (lnK (MOW k) idx).map fun q => .iconst q.2.2.1
  | .ldc2_w idx => (lnL (MOW k) idx).map fun _ => .ldc2_w 0
  | .goto off => if 0 ≤ (pc : Int) + off then some (.goto ((pc : Int) + off)) else none
  | .ifCond c off => if 0 ≤ (pc : Int) + off then some (.ifCond c ((pc : Int) + off)) else none
  | .if_icmp c off => if 0 ≤ (pc : Int) + off then some (.if_icmp c ((pc : Int) + off)) else none
  | .lookupswitch df ps => if (ps.toList.zip (ps.toList.drop 1)).all (fun (a, next) => a.1 < next.1) = true ∧ 0 ≤ (pc : Int) + df ∧ ps.toList.all (fun q => decide (0 ≤ (pc : Int) + q.2)) = true then some (.lookupswitch df ps) else none
  | .tableswitch df lo hi offs => if 0 ≤ (pc : Int) + df ∧ offs.toList.all (fun q => decide (0 ≤ (pc : Int) + q)) = true then some (.tableswitch df lo hi offs) else none
  | .getfield idx => (lnF (MOW k) idx).map fun q => .getfield q.2.2.1
  | .putfield idx => match lnF (MOW k) idx with
    | some q => if putOK k q.2.2.1 = true then some (.putfield q.2.2.1) else none
    | none => none
  | .invokestatic idx => match lnM (MOW k) idx with
    | some q => if q.2.2.2.1 = 2 then some (.invokestatic 99999) else if q.2.2.2.1 = 5 then some (.invokestatic 99995) else if q.2.2.2.1 = 6 then some (.invokestatic 99996) else if q.2.2.2.1 = 7 then some (.invokestatic 99997) else if q.2.2.2.1 ≤ 1 ∧ MKD (q.2.2.1 % 1000) = 0 then some (.invokestatic q.2.2.1) else none
    | none => none
  | .invokespecial idx => match lnM (MOW k) idx with
    | some q => if q.2.2.2.1 = 3 then some (.invokespecial 99999) else if q.2.2.2.1 ≤ 1 ∧ MKD (q.2.2.1 % 1000) = 2 then some (.invokespecial q.2.2.1) else none
    | none => none
  | .invokevirtual idx => match lnM (MOW k) idx with
    | some q => if q.2.2.2.1 = 4 then some (.invokevirtual 99998) else if q.2.2.2.1 ≤ 1 ∧ MKD (q.2.2.1 % 1000) = 1 then some (.invokevirtual q.2.2.1) else none
    | none => none
  | .new idx => (lnC (MOW k) idx).map fun q => .new q.2.2.1
  | .anewarray idx => match lnC (MOW k) idx with
    | some q => if q.2.2.1 = 7 then some (.anewarray 7) else none
    | none => none
  | .newarray t => some (.newarray t)
  | .iadd => some .iadd
  | .isub => some .isub
  | .imul => some .imul
  | .iand => some .iand
  | .ior => some .ior
  | .ixor => some .ixor
  | .ishl => some .ishl
  | .ishr => some .ishr
  | .iushr => some .iushr
  | .idiv => some .idiv
  | .irem => some .irem
  | .ineg => some .ineg
  | .i2l => some .i2l
  | .i2b => some .i2b
  | .i2c => some .i2c
  | .lmul => some .lmul
  | .ldiv => some .ldiv
  | .lcmp => some .lcmp
  | .dup => some .dup
  | .dup2 => some .dup2
  | .pop => some .pop
  | .iaload => some .iaload
  | .baload => some .baload
  | .aaload => some .aaload
  | .arraylength => some .arraylength
  | .iastore => some .iastore
  | .bastore => some .bastore
  | .aastore => some .aastore
  | .ireturn => some .ireturn
  | .lreturn => some .lreturn
  | .return_ => some .return_
  | _ => none
def rlen (raw : Instr) : Nat := match raw with
  | .iload _ => 2
  | .aload _ => 2
  | .lload _ => 2
  | .istore _ => 2
  | .astore _ => 2
  | .lstore _ => 2
  | .bipush _ => 2
  | .ldc _ => 2
  | .newarray _ => 2
  | .iinc _ _ => 3
  | .sipush _ => 3
  | .ldc_w _ => 3
  | .ldc2_w _ => 3
  | .goto _ => 3
  | .ifCond _ _ => 3
  | .if_icmp _ _ => 3
  | .getfield _ => 3
  | .putfield _ => 3
  | .invokestatic _ => 3
  | .invokespecial _ => 3
  | .invokevirtual _ => 3
  | .new _ => 3
  | .anewarray _ => 3
  | .lookupswitch _ _ => 0
  | .tableswitch _ _ _ _ => 0
  | _ => 1
def chkI (k pc : Nat) (o : Option (Instr × Nat)) : Bool := match o with
  | none => true
  | some (i, len) => match decode (MBY k) pc with
    | .ok (raw, l2) => decide (l2 = len) && (decide (rlen raw = 0 ∨ len = rlen raw) && decide (rsv k pc raw = some i))
    | .error _ => false
def chkL (k : Nat) : Nat → List (Option (Instr × Nat)) → Bool
  | _, [] => true
  | pc, o :: l => chkI k pc o && chkL k (pc + 1) l
def chkM (k : Nat) : Bool := match RCT[k]? with
  | some l => chkL k 0 l
  | none => true
