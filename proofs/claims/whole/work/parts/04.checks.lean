/-! ===== the code tables are right: each row decodes, its pool entry is what its numbers say ===== -/
def lk (l : List (Nat × CE)) (pc : Nat) : Option CE := match l with
  | [] => none
  | q :: t => bif Nat.beq q.1 pc then some q.2 else lk t pc
def ce (k pc : Nat) : Option CE := lk ((cdT k).getD (pc / 32) []) pc
abbrev mY (k : Nat) : MethodName := (mt k).1
abbrev mB (k : Nat) : ByteArray := (mt k).2.1
abbrev mL (k : Nat) : Nat := (mt k).2.2.1
abbrev mR (k : Nat) : Option FieldType := (mt k).2.2.2.1
abbrev mN (k : Nat) : Nat := (mt k).2.2.2.2.1
abbrev mH (k : Nat) : List (Nat × Nat × Nat × Nat) := (mt k).2.2.2.2.2
def tb (z : Nat) (w : Cond) : Bool := decide (tables_1[z]? = some w)
abbrev exNs : List String := ["java/lang/RuntimeException", "java/lang/Exception"]
abbrev drName : MethodName := ⟨"java/lang/Double", "doubleToRawLongBits", "(D)J"⟩
def lenB (i : Instr) (len : Nat) : Bool := match i with
  | .bipush _ | .iload _ | .lload _ | .dload _ | .aload _ | .istore _ | .lstore _ | .dstore _ | .astore _ | .ldc _ | .newarray _ => decide (len = 2)
  | .sipush _ | .ldc_w _ | .ldc2_w _ | .iinc _ _ | .ifCond _ _ | .if_icmp _ _ | .goto _ | .getfield _ | .putfield _ | .getstatic _ | .new _ | .anewarray _ | .invokevirtual _ | .invokestatic _ | .invokespecial _ => decide (len = 3)
  | .lookupswitch _ _ | .tableswitch _ _ _ _ => true
  | _ => decide (len = 1)
/-- an instruction's pool entry, by the words of the tables -/
def kindK (v : Value) (ty : FieldType) : Bool := match v, ty with
  | .int _, .int => true
  | .long _, .long => true
  | .null, .object _ => true
  | .null, .array _ => true
  | _, _ => false
def tyC : Nat → Nat → FieldType := fun ci => match ci with
  | 0 => tyX0
  | 1 => tyX1
  | 2 => tyX2
  | 3 => tyX3
  | 4 => tyX4
  | _ => tyX5
/-- 'new X(text)' that is thrown at once: its five instructions -/
def thrA (k pc x : Nat) : Bool := match ce k (pc + 3), ce k (pc + 4), ce k (pc + 6), ce k (pc + 9) with
  | some (.dup, l1, _), some (.ldc is, l2, _), some (.invokespecial ic, l3, _), some (.athrow, l4, _) => decide (l1 = 1 ∧ l2 = 2 ∧ l3 = 3 ∧ l4 = 1) && strT.any (fun q => decide (q.1 = (mY k).cls) && decide (q.2.1 = is)) && decide (((mY k).cls, ic, x - 100) ∈ exT) && decide (mH k = [])
  | _, _, _, _ => false
/-- the same, the text by a wide index -/
def thrB (k pc x : Nat) : Bool := match ce k (pc + 3), ce k (pc + 4), ce k (pc + 7), ce k (pc + 10) with
  | some (.dup, l1, _), some (.ldc_w is, l2, _), some (.invokespecial ic, l3, _), some (.athrow, l4, _) => decide (l1 = 1 ∧ l2 = 3 ∧ l3 = 3 ∧ l4 = 1) && strT.any (fun q => decide (q.1 = (mY k).cls) && decide (q.2.1 = is)) && decide (((mY k).cls, ic, x - 100) ∈ exT) && decide (mH k = [])
  | _, _, _, _ => false
def thrOK (k pc x : Nat) : Bool := thrA k pc x || thrB k pc x
def lkd (k pc : Nat) (e : CE) : Bool := match e with
  | (.getfield i, _, x, y, z, _) => match clsL[x]? with
    | some (C, T, n) => decide (y < n) && decide ((T y).1 = C) && tb z (.fieldLink (mY k).cls i C (T y).2.1 (T y).2.2.1)
    | none => false
  | (.putfield i, _, x, y, z, v) => match clsL[x]? with
    | some (C, T, n) => decide (y < n) && decide ((T y).1 = C) && tb z (.fieldLink (mY k).cls i C (T y).2.1 (T y).2.2.1) && kindK v (tyC x y) && (decide ((T y).2.2.2 = false) || decide ((T y).2.2.2 = true ∧ (mY k).name = "<init>" ∧ C = (mY k).cls))
    | none => false
  | (.getstatic i, _, x, y, z, _) => decide (x < 6) && (if y = 0 then tb z (.fieldLink (mY k).cls i "FlashLevels" (xnm x) "[I") else tb z (.fieldLinkNest (mY k).cls i "FlashLevels" (xnm x) "[I" "FlashLevels") && decide (z ∈ nestT))
  | (.ldc i, _, _, _, z, .int v) => tb z (.constant (mY k).cls i v)
  | (.ldc i, _, _, _, _, .null) => strT.any (fun q => decide (q.1 = (mY k).cls) && decide (q.2.1 = i))
  | (.ldc_w i, _, _, _, z, .int v) => tb z (.constant (mY k).cls i v)
  | (.ldc2_w i, _, _, _, z, .long v) => tb z (.constantLong (mY k).cls i v)
  | (.ldc2_w i, _, _, _, z, .double v) => tb z (.constantDouble (mY k).cls i v)
  | (.invokevirtual i, _, x, _, z, _) => decide (x + 1 < nMeth) && decide (((mz x).2.2.2.2 = 1 ∨ (mz x).2.2.2.2 = 2) ∧ mH x = []) && tb z (.methodLink (mY k).cls i (mY x))
  | (.invokestatic i, _, x, _, z, _) => if x = 1000 then tb z (.methodLink (mY k).cls i arraycopyName) else if x = 1001 then tb z (.methodLink (mY k).cls i drName) else if x = 1004 then tb z (.methodLink (mY k).cls i Lib.Math.max.name) else if x = 1005 then tb z (.methodLink (mY k).cls i Lib.Math.min.name) else decide (x + 1 < nMeth) && decide ((mz x).2.2.2.2 = 0) && tb z (.methodLink (mY k).cls i (mY x))
  | (.invokespecial i, _, x, y, z, _) => if x = 1002 then tb z (.methodLink (mY k).cls i objectInit) else if x = 1003 then true else decide (x + 1 < nMeth) && decide ((mz x).2.2.2.2 = 3 ∧ mH x = []) && (if y = 0 then tb z (.methodLink (mY k).cls i (mY x)) else tb z (.methodLinkNest (mY k).cls i (mY x) "FlashLevels") && decide (z ∈ nestT))
  | (.new i, _, x, _, z, _) => match clsL[x]? with
    | some (C, _, _) => tb z (.classLink (mY k).cls i C)
    | none => decide (100 ≤ x ∧ x < 103) && tb z (.classLink (mY k).cls i (excN (x - 100))) && thrOK k pc x
  | (.iconst n, _, _, _, _, v) => decide (v = .int (Int32.ofInt n))
  | (.bipush n, _, _, _, _, v) => decide (v = .int (Int8.ofInt n).toInt32)
  | (.sipush n, _, _, _, _, v) => decide (v = .int (Int16.ofInt n).toInt32)
  | (.iinc _ n, _, _, _, _, v) => decide (v = .int (Int32.ofInt n))
  | (.goto off, _, x, _, _, _) => decide ((pc : Int) + off = (x : Int))
  | (.ifCond _ off, _, x, _, _, _) => decide ((pc : Int) + off = (x : Int))
  | (.if_icmp _ off, _, x, _, _, _) => decide ((pc : Int) + off = (x : Int))
  | (.tableswitch d lo hi offs, _, _, _, _, _) => decide (0 ≤ (pc : Int) + d) && offs.toList.all (fun o => decide (0 ≤ (pc : Int) + o)) && decide ((offs.size : Int) = hi - lo + 1)
  | (.lookupswitch d ps, _, _, _, _, _) => decide (0 ≤ (pc : Int) + d) && ps.toList.all (fun o => decide (0 ≤ (pc : Int) + o.2)) && (ps.toList.zip (ps.toList.drop 1)).all (fun (a, next) => a.1 < next.1)
  | (.newarray t, _, x, _, _, _) => decide ((t = .int ∧ x = 0) ∨ (t = .long ∧ x = 1))
  | (.anewarray i, _, x, _, z, _) => if x = 2 then tb z (.classLink (mY k).cls i RX3) else decide (x = 3) && tb z (.classLink (mY k).cls i RX2)
  | _ => true
def chkM (k : Nat) : Bool := (cdT k).all (fun ch => ch.all (fun q => decide (decode (mB k) q.1 = .ok (q.2.1, q.2.2.1)) && lkd k q.1 q.2 && lenB q.2.1 q.2.2.1))
/-- a method's own words -/
def chkW (k : Nat) : Bool := match mz k with
  | (zc, za, zs, zi, kd) => (if mH k = [] then tb zc (.code (mY k) (mB k) (mL k) (mR k)) else tb zc (.codeWith (mY k) (mB k) (mL k) (mR k) (mH k))) && tb zi (.initialized (mY k).cls) &&
    (if kd = 0 then tb za (.static (mY k)) else tb za (.instanceMethod (mY k))) && (if kd = 1 then tb zs (.selects (mY k).cls (mY k) (mY k)) else if kd = 2 then decide (Cond.selects (mY k).cls (mY k) (mY k) ∈ k2_sels lw_privs) else true) &&
    (if kd = 3 then decide ((mY k).name = "<init>") else true) && plainName (mY k).cls && decide ((mY k).cls ≠ "java/lang/invoke/MethodHandle" ∧ (mY k).cls ≠ "java/lang/invoke/VarHandle") &&
    decide ((parseMethodDescriptor (mY k).desc).map (fun d => d.parameters.length) = some (if kd = 0 then mN k else mN k - 1)) && decide (mL k ≤ 11)
def chkC (k : Nat) (ch : List (Nat × CE)) : Bool := ch.all (fun q => decide (decode (mB k) q.1 = .ok (q.2.1, q.2.2.1)) && lkd k q.1 q.2 && lenB q.2.1 q.2.2.1)
set_option maxRecDepth 100000 in
theorem okM_0 : chkM 0 = true := by decide +kernel
set_option maxRecDepth 100000 in
theorem okW_0 : chkW 0 = true := by decide +kernel
set_option maxRecDepth 100000 in
theorem okM_1 : chkM 1 = true := by decide +kernel
set_option maxRecDepth 100000 in
theorem okW_1 : chkW 1 = true := by decide +kernel
set_option maxRecDepth 100000 in
theorem okM_2 : chkM 2 = true := by decide +kernel
set_option maxRecDepth 100000 in
theorem okW_2 : chkW 2 = true := by decide +kernel
set_option maxRecDepth 100000 in
theorem okM_3 : chkM 3 = true := by decide +kernel
set_option maxRecDepth 100000 in
theorem okW_3 : chkW 3 = true := by decide +kernel
set_option maxRecDepth 100000 in
theorem okM_4 : chkM 4 = true := by decide +kernel
set_option maxRecDepth 100000 in
theorem okW_4 : chkW 4 = true := by decide +kernel
set_option maxRecDepth 100000 in
theorem okM_5 : chkM 5 = true := by decide +kernel
set_option maxRecDepth 100000 in
theorem okW_5 : chkW 5 = true := by decide +kernel
set_option maxRecDepth 100000 in
theorem okM_6 : chkM 6 = true := by decide +kernel
set_option maxRecDepth 100000 in
theorem okW_6 : chkW 6 = true := by decide +kernel
set_option maxRecDepth 100000 in
theorem okM_7 : chkM 7 = true := by decide +kernel
set_option maxRecDepth 100000 in
theorem okW_7 : chkW 7 = true := by decide +kernel
set_option maxRecDepth 100000 in
theorem okM_8 : chkM 8 = true := by decide +kernel
set_option maxRecDepth 100000 in
theorem okW_8 : chkW 8 = true := by decide +kernel
set_option maxRecDepth 100000 in
theorem okM_9 : chkM 9 = true := by decide +kernel
set_option maxRecDepth 100000 in
theorem okW_9 : chkW 9 = true := by decide +kernel
set_option maxRecDepth 100000 in
theorem okM_10 : chkM 10 = true := by decide +kernel
set_option maxRecDepth 100000 in
theorem okW_10 : chkW 10 = true := by decide +kernel
set_option maxRecDepth 100000 in
theorem okM_11 : chkM 11 = true := by decide +kernel
set_option maxRecDepth 100000 in
theorem okW_11 : chkW 11 = true := by decide +kernel
set_option maxRecDepth 100000 in
theorem okM_12 : chkM 12 = true := by decide +kernel
set_option maxRecDepth 100000 in
theorem okW_12 : chkW 12 = true := by decide +kernel
set_option maxRecDepth 100000 in
theorem okM_13 : chkM 13 = true := by decide +kernel
set_option maxRecDepth 100000 in
theorem okW_13 : chkW 13 = true := by decide +kernel
set_option maxRecDepth 100000 in
theorem okM_14 : chkM 14 = true := by decide +kernel
set_option maxRecDepth 100000 in
theorem okW_14 : chkW 14 = true := by decide +kernel
set_option maxRecDepth 100000 in
theorem okM_15 : chkM 15 = true := by decide +kernel
set_option maxRecDepth 100000 in
theorem okW_15 : chkW 15 = true := by decide +kernel
set_option maxRecDepth 100000 in
theorem okM_16 : chkM 16 = true := by decide +kernel
set_option maxRecDepth 100000 in
theorem okW_16 : chkW 16 = true := by decide +kernel
set_option maxRecDepth 100000 in
theorem okM_17 : chkM 17 = true := by decide +kernel
set_option maxRecDepth 100000 in
theorem okW_17 : chkW 17 = true := by decide +kernel
set_option maxRecDepth 100000 in
theorem okM_18 : chkM 18 = true := by decide +kernel
set_option maxRecDepth 100000 in
theorem okW_18 : chkW 18 = true := by decide +kernel
set_option maxRecDepth 100000 in
theorem okM_19 : chkM 19 = true := by decide +kernel
set_option maxRecDepth 100000 in
theorem okW_19 : chkW 19 = true := by decide +kernel
set_option maxRecDepth 100000 in
theorem okM_20 : chkM 20 = true := by decide +kernel
set_option maxRecDepth 100000 in
theorem okW_20 : chkW 20 = true := by decide +kernel
set_option maxRecDepth 100000 in
theorem okM_21 : chkM 21 = true := by decide +kernel
set_option maxRecDepth 100000 in
theorem okW_21 : chkW 21 = true := by decide +kernel
set_option maxRecDepth 100000 in
theorem okM_22 : chkM 22 = true := by decide +kernel
set_option maxRecDepth 100000 in
theorem okW_22 : chkW 22 = true := by decide +kernel
set_option maxRecDepth 100000 in
theorem okM_23 : chkM 23 = true := by decide +kernel
set_option maxRecDepth 100000 in
theorem okW_23 : chkW 23 = true := by decide +kernel
set_option maxRecDepth 100000 in
theorem okM_24 : chkM 24 = true := by decide +kernel
set_option maxRecDepth 100000 in
theorem okW_24 : chkW 24 = true := by decide +kernel
set_option maxRecDepth 100000 in
theorem okM_25 : chkM 25 = true := by decide +kernel
set_option maxRecDepth 100000 in
theorem okW_25 : chkW 25 = true := by decide +kernel
set_option maxRecDepth 100000 in
theorem okM_26 : chkM 26 = true := by decide +kernel
set_option maxRecDepth 100000 in
theorem okW_26 : chkW 26 = true := by decide +kernel
set_option maxRecDepth 100000 in
theorem okM_27 : chkM 27 = true := by decide +kernel
set_option maxRecDepth 100000 in
theorem okW_27 : chkW 27 = true := by decide +kernel
set_option maxRecDepth 100000 in
theorem okM_28 : chkM 28 = true := by decide +kernel
set_option maxRecDepth 100000 in
theorem okW_28 : chkW 28 = true := by decide +kernel
set_option maxRecDepth 100000 in
theorem okM_29 : chkM 29 = true := by decide +kernel
set_option maxRecDepth 100000 in
theorem okW_29 : chkW 29 = true := by decide +kernel
set_option maxRecDepth 100000 in
theorem okM_30 : chkM 30 = true := by decide +kernel
set_option maxRecDepth 100000 in
theorem okW_30 : chkW 30 = true := by decide +kernel
set_option maxRecDepth 100000 in
theorem okM_31 : chkM 31 = true := by decide +kernel
set_option maxRecDepth 100000 in
theorem okW_31 : chkW 31 = true := by decide +kernel
set_option maxRecDepth 100000 in
theorem okM_32 : chkM 32 = true := by decide +kernel
set_option maxRecDepth 100000 in
theorem okW_32 : chkW 32 = true := by decide +kernel
set_option maxRecDepth 100000 in
theorem okM_33 : chkM 33 = true := by decide +kernel
set_option maxRecDepth 100000 in
theorem okW_33 : chkW 33 = true := by decide +kernel
set_option maxRecDepth 100000 in
theorem okM_34 : chkM 34 = true := by decide +kernel
set_option maxRecDepth 100000 in
theorem okW_34 : chkW 34 = true := by decide +kernel
set_option maxRecDepth 100000 in
theorem okM_35 : chkM 35 = true := by decide +kernel
set_option maxRecDepth 100000 in
theorem okW_35 : chkW 35 = true := by decide +kernel
set_option maxRecDepth 100000 in
theorem okM_36 : chkM 36 = true := by decide +kernel
set_option maxRecDepth 100000 in
theorem okW_36 : chkW 36 = true := by decide +kernel
set_option maxRecDepth 100000 in
theorem okM_37 : chkM 37 = true := by decide +kernel
set_option maxRecDepth 100000 in
theorem okW_37 : chkW 37 = true := by decide +kernel
set_option maxRecDepth 100000 in
theorem okM_38 : chkM 38 = true := by decide +kernel
set_option maxRecDepth 100000 in
theorem okW_38 : chkW 38 = true := by decide +kernel
set_option maxRecDepth 100000 in
theorem okM_39 : chkM 39 = true := by decide +kernel
set_option maxRecDepth 100000 in
theorem okW_39 : chkW 39 = true := by decide +kernel
set_option maxRecDepth 100000 in
theorem okM_40 : chkM 40 = true := by decide +kernel
set_option maxRecDepth 100000 in
theorem okW_40 : chkW 40 = true := by decide +kernel
set_option maxRecDepth 100000 in
theorem okM_41 : chkM 41 = true := by decide +kernel
set_option maxRecDepth 100000 in
theorem okW_41 : chkW 41 = true := by decide +kernel
set_option maxRecDepth 100000 in
theorem okM_42 : chkM 42 = true := by decide +kernel
set_option maxRecDepth 100000 in
theorem okW_42 : chkW 42 = true := by decide +kernel
set_option maxRecDepth 100000 in
theorem okM_43 : chkM 43 = true := by decide +kernel
set_option maxRecDepth 100000 in
theorem okW_43 : chkW 43 = true := by decide +kernel
set_option maxRecDepth 100000 in
theorem okM_44 : chkM 44 = true := by decide +kernel
set_option maxRecDepth 100000 in
theorem okW_44 : chkW 44 = true := by decide +kernel
set_option maxRecDepth 100000 in
theorem okM_45 : chkM 45 = true := by decide +kernel
set_option maxRecDepth 100000 in
theorem okW_45 : chkW 45 = true := by decide +kernel
set_option maxRecDepth 100000 in
theorem okM_46 : chkM 46 = true := by decide +kernel
set_option maxRecDepth 100000 in
theorem okW_46 : chkW 46 = true := by decide +kernel
set_option maxRecDepth 100000 in
theorem okM_47 : chkM 47 = true := by decide +kernel
set_option maxRecDepth 100000 in
theorem okW_47 : chkW 47 = true := by decide +kernel
set_option maxRecDepth 100000 in
theorem okM_48 : chkM 48 = true := by decide +kernel
set_option maxRecDepth 100000 in
theorem okW_48 : chkW 48 = true := by decide +kernel
set_option maxRecDepth 100000 in
theorem okM_49 : chkM 49 = true := by decide +kernel
set_option maxRecDepth 100000 in
theorem okW_49 : chkW 49 = true := by decide +kernel
set_option maxRecDepth 100000 in
theorem okM_50 : chkM 50 = true := by decide +kernel
set_option maxRecDepth 100000 in
theorem okW_50 : chkW 50 = true := by decide +kernel
set_option maxRecDepth 100000 in
theorem okM_51 : chkM 51 = true := by decide +kernel
set_option maxRecDepth 100000 in
theorem okW_51 : chkW 51 = true := by decide +kernel
set_option maxRecDepth 100000 in
theorem okM_52 : chkM 52 = true := by decide +kernel
set_option maxRecDepth 100000 in
theorem okW_52 : chkW 52 = true := by decide +kernel
set_option maxRecDepth 100000 in
theorem okM_53 : chkM 53 = true := by decide +kernel
set_option maxRecDepth 100000 in
theorem okW_53 : chkW 53 = true := by decide +kernel
set_option maxRecDepth 100000 in
theorem okM_54 : chkM 54 = true := by decide +kernel
set_option maxRecDepth 100000 in
theorem okW_54 : chkW 54 = true := by decide +kernel
set_option maxRecDepth 100000 in
theorem okM_55 : chkM 55 = true := by decide +kernel
set_option maxRecDepth 100000 in
theorem okW_55 : chkW 55 = true := by decide +kernel
set_option maxRecDepth 100000 in
theorem okM_56 : chkM 56 = true := by decide +kernel
set_option maxRecDepth 100000 in
theorem okW_56 : chkW 56 = true := by decide +kernel
set_option maxRecDepth 100000 in
theorem okM_57 : chkM 57 = true := by decide +kernel
set_option maxRecDepth 100000 in
theorem okW_57 : chkW 57 = true := by decide +kernel
set_option maxRecDepth 100000 in
theorem okM_58 : chkM 58 = true := by decide +kernel
set_option maxRecDepth 100000 in
theorem okW_58 : chkW 58 = true := by decide +kernel
set_option maxRecDepth 100000 in
theorem okM_59 : chkM 59 = true := by decide +kernel
set_option maxRecDepth 100000 in
theorem okW_59 : chkW 59 = true := by decide +kernel
set_option maxRecDepth 100000 in
theorem okM_60 : chkM 60 = true := by decide +kernel
set_option maxRecDepth 100000 in
theorem okW_60 : chkW 60 = true := by decide +kernel
set_option maxRecDepth 100000 in
theorem okM_61 : chkM 61 = true := by decide +kernel
set_option maxRecDepth 100000 in
theorem okW_61 : chkW 61 = true := by decide +kernel
set_option maxRecDepth 100000 in
theorem okM_62 : chkM 62 = true := by decide +kernel
set_option maxRecDepth 100000 in
theorem okW_62 : chkW 62 = true := by decide +kernel
set_option maxRecDepth 100000 in
theorem okM_63 : chkM 63 = true := by decide +kernel
set_option maxRecDepth 100000 in
theorem okW_63 : chkW 63 = true := by decide +kernel
set_option maxRecDepth 100000 in
theorem okM_64 : chkM 64 = true := by decide +kernel
set_option maxRecDepth 100000 in
theorem okW_64 : chkW 64 = true := by decide +kernel
set_option maxRecDepth 100000 in
theorem okM_65 : chkM 65 = true := by decide +kernel
set_option maxRecDepth 100000 in
theorem okW_65 : chkW 65 = true := by decide +kernel
set_option maxRecDepth 100000 in
theorem okM_66 : chkM 66 = true := by decide +kernel
set_option maxRecDepth 100000 in
theorem okW_66 : chkW 66 = true := by decide +kernel
set_option maxRecDepth 100000 in
theorem okM_67 : chkM 67 = true := by decide +kernel
set_option maxRecDepth 100000 in
theorem okW_67 : chkW 67 = true := by decide +kernel
set_option maxRecDepth 100000 in
theorem okM_68 : chkM 68 = true := by decide +kernel
set_option maxRecDepth 100000 in
theorem okW_68 : chkW 68 = true := by decide +kernel
set_option maxRecDepth 100000 in
theorem okM_69 : chkM 69 = true := by decide +kernel
set_option maxRecDepth 100000 in
theorem okW_69 : chkW 69 = true := by decide +kernel
set_option maxRecDepth 100000 in
theorem okM_70 : chkM 70 = true := by decide +kernel
set_option maxRecDepth 100000 in
theorem okW_70 : chkW 70 = true := by decide +kernel
set_option maxRecDepth 100000 in
theorem okM_71 : chkM 71 = true := by decide +kernel
set_option maxRecDepth 100000 in
theorem okW_71 : chkW 71 = true := by decide +kernel
set_option maxRecDepth 100000 in
theorem okM_72 : chkM 72 = true := by decide +kernel
set_option maxRecDepth 100000 in
theorem okW_72 : chkW 72 = true := by decide +kernel
set_option maxRecDepth 100000 in
theorem okM_73 : chkM 73 = true := by decide +kernel
set_option maxRecDepth 100000 in
theorem okW_73 : chkW 73 = true := by decide +kernel
set_option maxRecDepth 100000 in
theorem okM_74 : chkM 74 = true := by decide +kernel
set_option maxRecDepth 100000 in
theorem okW_74 : chkW 74 = true := by decide +kernel
set_option maxRecDepth 100000 in
theorem okM_75 : chkM 75 = true := by decide +kernel
set_option maxRecDepth 100000 in
theorem okW_75 : chkW 75 = true := by decide +kernel
set_option maxRecDepth 100000 in
theorem okM_76 : chkM 76 = true := by decide +kernel
set_option maxRecDepth 100000 in
theorem okW_76 : chkW 76 = true := by decide +kernel
set_option maxRecDepth 100000 in
theorem okM_77 : chkM 77 = true := by decide +kernel
set_option maxRecDepth 100000 in
theorem okW_77 : chkW 77 = true := by decide +kernel
set_option maxRecDepth 100000 in
theorem okM_78 : chkM 78 = true := by decide +kernel
set_option maxRecDepth 100000 in
theorem okW_78 : chkW 78 = true := by decide +kernel
set_option maxRecDepth 100000 in
theorem okM_79 : chkM 79 = true := by decide +kernel
set_option maxRecDepth 100000 in
theorem okW_79 : chkW 79 = true := by decide +kernel
set_option maxRecDepth 100000 in
theorem okM_80 : chkM 80 = true := by decide +kernel
set_option maxRecDepth 100000 in
theorem okW_80 : chkW 80 = true := by decide +kernel
set_option maxRecDepth 100000 in
theorem okM_81 : chkM 81 = true := by decide +kernel
set_option maxRecDepth 100000 in
theorem okW_81 : chkW 81 = true := by decide +kernel
set_option maxRecDepth 100000 in
theorem okM_82 : chkM 82 = true := by decide +kernel
set_option maxRecDepth 100000 in
theorem okW_82 : chkW 82 = true := by decide +kernel
set_option maxRecDepth 100000 in
theorem okM_83 : chkM 83 = true := by decide +kernel
set_option maxRecDepth 100000 in
theorem okW_83 : chkW 83 = true := by decide +kernel
set_option maxRecDepth 100000 in
theorem okM_84 : chkM 84 = true := by decide +kernel
set_option maxRecDepth 100000 in
theorem okW_84 : chkW 84 = true := by decide +kernel
set_option maxRecDepth 100000 in
theorem okM_85 : chkM 85 = true := by decide +kernel
set_option maxRecDepth 100000 in
theorem okW_85 : chkW 85 = true := by decide +kernel
set_option maxRecDepth 100000 in
theorem okM_86 : chkM 86 = true := by decide +kernel
set_option maxRecDepth 100000 in
theorem okW_86 : chkW 86 = true := by decide +kernel
set_option maxRecDepth 100000 in
theorem okM_87 : chkM 87 = true := by decide +kernel
set_option maxRecDepth 100000 in
theorem okW_87 : chkW 87 = true := by decide +kernel
set_option maxRecDepth 100000 in
theorem okM_88 : chkM 88 = true := by decide +kernel
set_option maxRecDepth 100000 in
theorem okW_88 : chkW 88 = true := by decide +kernel
set_option maxRecDepth 100000 in
theorem okM_89 : chkM 89 = true := by decide +kernel
set_option maxRecDepth 100000 in
theorem okW_89 : chkW 89 = true := by decide +kernel
set_option maxRecDepth 100000 in
theorem okM_90 : chkM 90 = true := by decide +kernel
set_option maxRecDepth 100000 in
theorem okW_90 : chkW 90 = true := by decide +kernel
set_option maxRecDepth 100000 in
theorem okM_91 : chkM 91 = true := by decide +kernel
set_option maxRecDepth 100000 in
theorem okW_91 : chkW 91 = true := by decide +kernel
set_option maxRecDepth 100000 in
theorem okM_92 : chkM 92 = true := by decide +kernel
set_option maxRecDepth 100000 in
theorem okW_92 : chkW 92 = true := by decide +kernel
set_option maxRecDepth 100000 in
theorem okM_93 : chkM 93 = true := by decide +kernel
set_option maxRecDepth 100000 in
theorem okW_93 : chkW 93 = true := by decide +kernel
set_option maxRecDepth 100000 in
theorem okM_94 : chkM 94 = true := by decide +kernel
set_option maxRecDepth 100000 in
theorem okW_94 : chkW 94 = true := by decide +kernel
set_option maxRecDepth 100000 in
theorem okM_95 : chkM 95 = true := by decide +kernel
set_option maxRecDepth 100000 in
theorem okW_95 : chkW 95 = true := by decide +kernel
set_option maxRecDepth 100000 in
theorem okM_96 : chkM 96 = true := by decide +kernel
set_option maxRecDepth 100000 in
theorem okW_96 : chkW 96 = true := by decide +kernel
set_option maxRecDepth 100000 in
theorem okM_97 : chkM 97 = true := by decide +kernel
set_option maxRecDepth 100000 in
theorem okW_97 : chkW 97 = true := by decide +kernel
set_option maxRecDepth 100000 in
theorem okM_98 : chkM 98 = true := by decide +kernel
set_option maxRecDepth 100000 in
theorem okW_98 : chkW 98 = true := by decide +kernel
set_option maxRecDepth 100000 in
theorem okM_99 : chkM 99 = true := by decide +kernel
set_option maxRecDepth 100000 in
theorem okW_99 : chkW 99 = true := by decide +kernel
set_option maxRecDepth 100000 in
theorem okM_100 : chkM 100 = true := by decide +kernel
set_option maxRecDepth 100000 in
theorem okW_100 : chkW 100 = true := by decide +kernel
set_option maxRecDepth 100000 in
theorem okM_101 : chkM 101 = true := by decide +kernel
set_option maxRecDepth 100000 in
theorem okW_101 : chkW 101 = true := by decide +kernel
set_option maxRecDepth 100000 in
theorem okM_102 : chkM 102 = true := by decide +kernel
set_option maxRecDepth 100000 in
theorem okW_102 : chkW 102 = true := by decide +kernel
set_option maxRecDepth 100000 in
theorem okM_103 : chkM 103 = true := by decide +kernel
set_option maxRecDepth 100000 in
theorem okW_103 : chkW 103 = true := by decide +kernel
set_option maxRecDepth 100000 in
theorem okM_104 : chkM 104 = true := by decide +kernel
set_option maxRecDepth 100000 in
theorem okW_104 : chkW 104 = true := by decide +kernel
set_option maxRecDepth 100000 in
theorem okM_105 : chkM 105 = true := by decide +kernel
set_option maxRecDepth 100000 in
theorem okW_105 : chkW 105 = true := by decide +kernel
set_option maxRecDepth 100000 in
theorem okM_106 : chkM 106 = true := by decide +kernel
set_option maxRecDepth 100000 in
theorem okW_106 : chkW 106 = true := by decide +kernel
set_option maxRecDepth 100000 in
theorem okM_107 : chkM 107 = true := by decide +kernel
set_option maxRecDepth 100000 in
theorem okW_107 : chkW 107 = true := by decide +kernel
set_option maxRecDepth 100000 in
theorem okM_108 : chkM 108 = true := by decide +kernel
set_option maxRecDepth 100000 in
theorem okW_108 : chkW 108 = true := by decide +kernel
set_option maxRecDepth 100000 in
theorem okM_109 : chkM 109 = true := by decide +kernel
set_option maxRecDepth 100000 in
theorem okW_109 : chkW 109 = true := by decide +kernel
set_option maxRecDepth 100000 in
theorem okM_110 : chkM 110 = true := by decide +kernel
set_option maxRecDepth 100000 in
theorem okW_110 : chkW 110 = true := by decide +kernel
set_option maxRecDepth 100000 in
theorem okM_111 : chkM 111 = true := by decide +kernel
set_option maxRecDepth 100000 in
theorem okW_111 : chkW 111 = true := by decide +kernel
set_option maxRecDepth 100000 in
theorem okM_112 : chkM 112 = true := by decide +kernel
set_option maxRecDepth 100000 in
theorem okW_112 : chkW 112 = true := by decide +kernel
set_option maxRecDepth 100000 in
theorem okM_113 : chkM 113 = true := by decide +kernel
set_option maxRecDepth 100000 in
theorem okW_113 : chkW 113 = true := by decide +kernel
set_option maxRecDepth 100000 in
theorem okM_114 : chkM 114 = true := by decide +kernel
set_option maxRecDepth 100000 in
theorem okW_114 : chkW 114 = true := by decide +kernel
set_option maxRecDepth 100000 in
theorem okM_115 : chkM 115 = true := by decide +kernel
set_option maxRecDepth 100000 in
theorem okW_115 : chkW 115 = true := by decide +kernel
set_option maxRecDepth 100000 in
theorem okM_116 : chkM 116 = true := by decide +kernel
set_option maxRecDepth 100000 in
theorem okW_116 : chkW 116 = true := by decide +kernel
set_option maxRecDepth 100000 in
theorem okM_117 : chkM 117 = true := by decide +kernel
set_option maxRecDepth 100000 in
theorem okW_117 : chkW 117 = true := by decide +kernel
set_option maxRecDepth 100000 in
theorem okM_118 : chkM 118 = true := by decide +kernel
set_option maxRecDepth 100000 in
theorem okW_118 : chkW 118 = true := by decide +kernel
set_option maxRecDepth 100000 in
theorem okM_119 : chkM 119 = true := by decide +kernel
set_option maxRecDepth 100000 in
theorem okW_119 : chkW 119 = true := by decide +kernel
set_option maxRecDepth 100000 in
theorem okM_120 : chkM 120 = true := by decide +kernel
set_option maxRecDepth 100000 in
theorem okW_120 : chkW 120 = true := by decide +kernel
set_option maxRecDepth 100000 in
theorem okM_121 : chkM 121 = true := by decide +kernel
set_option maxRecDepth 100000 in
theorem okW_121 : chkW 121 = true := by decide +kernel
set_option maxRecDepth 100000 in
theorem okM_122 : chkM 122 = true := by decide +kernel
set_option maxRecDepth 100000 in
theorem okW_122 : chkW 122 = true := by decide +kernel
set_option maxRecDepth 100000 in
theorem okM_123 : chkM 123 = true := by decide +kernel
set_option maxRecDepth 100000 in
theorem okW_123 : chkW 123 = true := by decide +kernel
set_option maxRecDepth 100000 in
theorem okM_124 : chkM 124 = true := by decide +kernel
set_option maxRecDepth 100000 in
theorem okW_124 : chkW 124 = true := by decide +kernel
set_option maxRecDepth 100000 in
theorem okM_125 : chkM 125 = true := by decide +kernel
set_option maxRecDepth 100000 in
theorem okW_125 : chkW 125 = true := by decide +kernel
set_option maxRecDepth 100000 in
theorem okM_126 : chkM 126 = true := by decide +kernel
set_option maxRecDepth 100000 in
theorem okW_126 : chkW 126 = true := by decide +kernel
set_option maxRecDepth 100000 in
theorem okM_127 : chkM 127 = true := by decide +kernel
set_option maxRecDepth 100000 in
theorem okW_127 : chkW 127 = true := by decide +kernel
set_option maxRecDepth 100000 in
theorem okM_128 : chkM 128 = true := by decide +kernel
set_option maxRecDepth 100000 in
theorem okW_128 : chkW 128 = true := by decide +kernel
set_option maxRecDepth 100000 in
theorem okM_129 : chkM 129 = true := by decide +kernel
set_option maxRecDepth 100000 in
theorem okW_129 : chkW 129 = true := by decide +kernel
set_option maxRecDepth 100000 in
theorem okM_130 : chkM 130 = true := by decide +kernel
set_option maxRecDepth 100000 in
theorem okW_130 : chkW 130 = true := by decide +kernel
set_option maxRecDepth 100000 in
theorem okM_131 : chkM 131 = true := by decide +kernel
set_option maxRecDepth 100000 in
theorem okW_131 : chkW 131 = true := by decide +kernel
set_option maxRecDepth 100000 in
theorem okM_132 : chkM 132 = true := by decide +kernel
set_option maxRecDepth 100000 in
theorem okW_132 : chkW 132 = true := by decide +kernel
set_option maxRecDepth 100000 in
theorem okM_133 : chkM 133 = true := by decide +kernel
set_option maxRecDepth 100000 in
theorem okW_133 : chkW 133 = true := by decide +kernel
set_option maxRecDepth 100000 in
theorem okM_134 : chkM 134 = true := by decide +kernel
set_option maxRecDepth 100000 in
theorem okW_134 : chkW 134 = true := by decide +kernel
set_option maxRecDepth 100000 in
theorem okM_135 : chkM 135 = true := by decide +kernel
set_option maxRecDepth 100000 in
theorem okW_135 : chkW 135 = true := by decide +kernel
set_option maxRecDepth 100000 in
theorem okM_136 : chkM 136 = true := by decide +kernel
set_option maxRecDepth 100000 in
theorem okW_136 : chkW 136 = true := by decide +kernel
set_option maxRecDepth 100000 in
theorem okM_137 : chkM 137 = true := by decide +kernel
set_option maxRecDepth 100000 in
theorem okW_137 : chkW 137 = true := by decide +kernel
set_option maxRecDepth 100000 in
theorem okM_138 : chkM 138 = true := by decide +kernel
set_option maxRecDepth 100000 in
theorem okW_138 : chkW 138 = true := by decide +kernel
set_option maxRecDepth 100000 in
theorem okM_139 : chkM 139 = true := by decide +kernel
set_option maxRecDepth 100000 in
theorem okW_139 : chkW 139 = true := by decide +kernel
set_option maxRecDepth 100000 in
theorem okM_140 : chkM 140 = true := by decide +kernel
set_option maxRecDepth 100000 in
theorem okW_140 : chkW 140 = true := by decide +kernel
set_option maxRecDepth 100000 in
theorem okM_141 : chkM 141 = true := by decide +kernel
set_option maxRecDepth 100000 in
theorem okW_141 : chkW 141 = true := by decide +kernel
set_option maxRecDepth 100000 in
theorem okM_142 : chkM 142 = true := by decide +kernel
set_option maxRecDepth 100000 in
theorem okW_142 : chkW 142 = true := by decide +kernel
set_option maxRecDepth 100000 in
theorem okM_143 : chkM 143 = true := by decide +kernel
set_option maxRecDepth 100000 in
theorem okW_143 : chkW 143 = true := by decide +kernel
set_option maxRecDepth 100000 in
theorem okM_144 : chkM 144 = true := by decide +kernel
set_option maxRecDepth 100000 in
theorem okW_144 : chkW 144 = true := by decide +kernel
set_option maxRecDepth 100000 in
theorem okM_145 : chkM 145 = true := by decide +kernel
set_option maxRecDepth 100000 in
theorem okW_145 : chkW 145 = true := by decide +kernel
set_option maxRecDepth 100000 in
theorem okM_146 : chkM 146 = true := by decide +kernel
set_option maxRecDepth 100000 in
theorem okW_146 : chkW 146 = true := by decide +kernel
set_option maxRecDepth 100000 in
theorem okM_147 : chkM 147 = true := by decide +kernel
set_option maxRecDepth 100000 in
theorem okW_147 : chkW 147 = true := by decide +kernel
set_option maxRecDepth 100000 in
theorem okM_148 : chkM 148 = true := by decide +kernel
set_option maxRecDepth 100000 in
theorem okW_148 : chkW 148 = true := by decide +kernel
set_option maxRecDepth 100000 in
theorem okM_149 : chkM 149 = true := by decide +kernel
set_option maxRecDepth 100000 in
theorem okW_149 : chkW 149 = true := by decide +kernel
set_option maxRecDepth 100000 in
theorem okM_150 : chkM 150 = true := by decide +kernel
set_option maxRecDepth 100000 in
theorem okW_150 : chkW 150 = true := by decide +kernel
set_option maxRecDepth 100000 in
theorem okM_151 : chkM 151 = true := by decide +kernel
set_option maxRecDepth 100000 in
theorem okW_151 : chkW 151 = true := by decide +kernel
set_option maxRecDepth 100000 in
theorem okM_152 : chkM 152 = true := by decide +kernel
set_option maxRecDepth 100000 in
theorem okW_152 : chkW 152 = true := by decide +kernel
set_option maxRecDepth 100000 in
theorem okM_153 : chkM 153 = true := by decide +kernel
set_option maxRecDepth 100000 in
theorem okW_153 : chkW 153 = true := by decide +kernel
set_option maxRecDepth 100000 in
theorem okM_154 : chkM 154 = true := by decide +kernel
set_option maxRecDepth 100000 in
theorem okW_154 : chkW 154 = true := by decide +kernel
set_option maxRecDepth 100000 in
theorem okM_155 : chkM 155 = true := by decide +kernel
set_option maxRecDepth 100000 in
theorem okW_155 : chkW 155 = true := by decide +kernel
set_option maxRecDepth 100000 in
theorem okM_156 : chkM 156 = true := by decide +kernel
set_option maxRecDepth 100000 in
theorem okW_156 : chkW 156 = true := by decide +kernel
set_option maxRecDepth 100000 in
theorem okM_157 : chkM 157 = true := by decide +kernel
set_option maxRecDepth 100000 in
theorem okW_157 : chkW 157 = true := by decide +kernel
set_option maxRecDepth 100000 in
theorem okM_158 : chkM 158 = true := by decide +kernel
set_option maxRecDepth 100000 in
theorem okW_158 : chkW 158 = true := by decide +kernel
set_option maxRecDepth 100000 in
theorem okM_159 : chkM 159 = true := by decide +kernel
set_option maxRecDepth 100000 in
theorem okW_159 : chkW 159 = true := by decide +kernel
set_option maxRecDepth 100000 in
theorem okM_160 : chkM 160 = true := by decide +kernel
set_option maxRecDepth 100000 in
theorem okW_160 : chkW 160 = true := by decide +kernel
set_option maxRecDepth 100000 in
theorem okM_161 : chkM 161 = true := by decide +kernel
set_option maxRecDepth 100000 in
theorem okW_161 : chkW 161 = true := by decide +kernel
set_option maxRecDepth 100000 in
theorem okM_162 : chkM 162 = true := by decide +kernel
set_option maxRecDepth 100000 in
theorem okW_162 : chkW 162 = true := by decide +kernel
set_option maxRecDepth 100000 in
theorem okM_163 : chkM 163 = true := by decide +kernel
set_option maxRecDepth 100000 in
theorem okW_163 : chkW 163 = true := by decide +kernel
set_option maxRecDepth 100000 in
theorem okM_164 : chkM 164 = true := by decide +kernel
set_option maxRecDepth 100000 in
theorem okW_164 : chkW 164 = true := by decide +kernel
set_option maxRecDepth 100000 in
theorem okM_165 : chkM 165 = true := by decide +kernel
set_option maxRecDepth 100000 in
theorem okW_165 : chkW 165 = true := by decide +kernel
set_option maxRecDepth 100000 in
theorem okM_166 : chkM 166 = true := by decide +kernel
set_option maxRecDepth 100000 in
theorem okW_166 : chkW 166 = true := by decide +kernel
set_option maxRecDepth 100000 in
theorem okM_167 : chkM 167 = true := by decide +kernel
set_option maxRecDepth 100000 in
theorem okW_167 : chkW 167 = true := by decide +kernel
set_option maxRecDepth 100000 in
theorem okM_168 : chkM 168 = true := by decide +kernel
set_option maxRecDepth 100000 in
theorem okW_168 : chkW 168 = true := by decide +kernel
set_option maxRecDepth 100000 in
theorem okM_169 : chkM 169 = true := by decide +kernel
set_option maxRecDepth 100000 in
theorem okW_169 : chkW 169 = true := by decide +kernel
set_option maxRecDepth 100000 in
theorem okM_170 : chkM 170 = true := by decide +kernel
set_option maxRecDepth 100000 in
theorem okW_170 : chkW 170 = true := by decide +kernel
set_option maxRecDepth 100000 in
theorem okM_171 : chkM 171 = true := by decide +kernel
set_option maxRecDepth 100000 in
theorem okW_171 : chkW 171 = true := by decide +kernel
set_option maxRecDepth 100000 in
theorem okM_172 : chkM 172 = true := by decide +kernel
set_option maxRecDepth 100000 in
theorem okW_172 : chkW 172 = true := by decide +kernel
set_option maxRecDepth 100000 in
theorem okM_173 : chkM 173 = true := by decide +kernel
set_option maxRecDepth 100000 in
theorem okW_173 : chkW 173 = true := by decide +kernel
set_option maxRecDepth 100000 in
theorem okM_174 : chkM 174 = true := by decide +kernel
set_option maxRecDepth 100000 in
theorem okW_174 : chkW 174 = true := by decide +kernel
set_option maxRecDepth 100000 in
theorem okM_175 : chkM 175 = true := by decide +kernel
set_option maxRecDepth 100000 in
theorem okW_175 : chkW 175 = true := by decide +kernel
set_option maxRecDepth 100000 in
theorem okM_176 : chkM 176 = true := by decide +kernel
set_option maxRecDepth 100000 in
theorem okW_176 : chkW 176 = true := by decide +kernel
set_option maxRecDepth 100000 in
theorem okM_177 : chkM 177 = true := by decide +kernel
set_option maxRecDepth 100000 in
theorem okW_177 : chkW 177 = true := by decide +kernel
set_option maxRecDepth 100000 in
theorem okM_178 : chkM 178 = true := by decide +kernel
set_option maxRecDepth 100000 in
theorem okW_178 : chkW 178 = true := by decide +kernel
set_option maxRecDepth 100000 in
theorem okM_179 : chkM 179 = true := by decide +kernel
set_option maxRecDepth 100000 in
theorem okW_179 : chkW 179 = true := by decide +kernel
set_option maxRecDepth 100000 in
theorem okM_180 : chkM 180 = true := by decide +kernel
set_option maxRecDepth 100000 in
theorem okW_180 : chkW 180 = true := by decide +kernel
set_option maxRecDepth 100000 in
theorem okM_181 : chkM 181 = true := by decide +kernel
set_option maxRecDepth 100000 in
theorem okW_181 : chkW 181 = true := by decide +kernel
set_option maxRecDepth 100000 in
theorem okM_182 : chkM 182 = true := by decide +kernel
set_option maxRecDepth 100000 in
theorem okW_182 : chkW 182 = true := by decide +kernel
set_option maxRecDepth 100000 in
theorem okM_183 : chkM 183 = true := by decide +kernel
set_option maxRecDepth 100000 in
theorem okW_183 : chkW 183 = true := by decide +kernel
set_option maxRecDepth 100000 in
theorem okM_184 : chkM 184 = true := by decide +kernel
set_option maxRecDepth 100000 in
theorem okW_184 : chkW 184 = true := by decide +kernel
set_option maxRecDepth 100000 in
theorem okM_185 : chkM 185 = true := by decide +kernel
set_option maxRecDepth 100000 in
theorem okW_185 : chkW 185 = true := by decide +kernel
set_option maxRecDepth 100000 in
theorem okM_186 : chkM 186 = true := by decide +kernel
set_option maxRecDepth 100000 in
theorem okW_186 : chkW 186 = true := by decide +kernel
set_option maxRecDepth 100000 in
theorem okM_187 : chkM 187 = true := by decide +kernel
set_option maxRecDepth 100000 in
theorem okW_187 : chkW 187 = true := by decide +kernel
set_option maxRecDepth 100000 in
theorem okM_188 : chkM 188 = true := by decide +kernel
set_option maxRecDepth 100000 in
theorem okW_188 : chkW 188 = true := by decide +kernel
set_option maxRecDepth 100000 in
theorem okM_189 : chkM 189 = true := by decide +kernel
set_option maxRecDepth 100000 in
theorem okW_189 : chkW 189 = true := by decide +kernel
set_option maxRecDepth 100000 in
theorem okM_190 : chkM 190 = true := by decide +kernel
set_option maxRecDepth 100000 in
theorem okW_190 : chkW 190 = true := by decide +kernel
set_option maxRecDepth 100000 in
theorem okM_191 : chkM 191 = true := by decide +kernel
set_option maxRecDepth 100000 in
theorem okW_191 : chkW 191 = true := by decide +kernel
set_option maxRecDepth 100000 in
theorem okM_192 : chkM 192 = true := by decide +kernel
set_option maxRecDepth 100000 in
theorem okW_192 : chkW 192 = true := by decide +kernel
set_option maxRecDepth 100000 in
theorem okM_193 : chkM 193 = true := by decide +kernel
set_option maxRecDepth 100000 in
theorem okW_193 : chkW 193 = true := by decide +kernel
set_option maxRecDepth 100000 in
theorem okM_194 : chkM 194 = true := by decide +kernel
set_option maxRecDepth 100000 in
theorem okW_194 : chkW 194 = true := by decide +kernel
set_option maxRecDepth 100000 in
theorem okM_195 : chkM 195 = true := by decide +kernel
set_option maxRecDepth 100000 in
theorem okW_195 : chkW 195 = true := by decide +kernel
set_option maxRecDepth 100000 in
theorem okM_196 : chkM 196 = true := by decide +kernel
set_option maxRecDepth 100000 in
theorem okW_196 : chkW 196 = true := by decide +kernel
set_option maxRecDepth 100000 in
theorem okM_197 : chkM 197 = true := by decide +kernel
set_option maxRecDepth 100000 in
theorem okW_197 : chkW 197 = true := by decide +kernel
set_option maxRecDepth 100000 in
theorem okM_198 : chkM 198 = true := by decide +kernel
set_option maxRecDepth 100000 in
theorem okW_198 : chkW 198 = true := by decide +kernel
set_option maxRecDepth 100000 in
theorem okM_199 : chkM 199 = true := by decide +kernel
set_option maxRecDepth 100000 in
theorem okW_199 : chkW 199 = true := by decide +kernel
set_option maxRecDepth 100000 in
theorem okM_200 : chkM 200 = true := by decide +kernel
set_option maxRecDepth 100000 in
theorem okW_200 : chkW 200 = true := by decide +kernel
set_option maxRecDepth 100000 in
theorem okM_201 : chkM 201 = true := by decide +kernel
set_option maxRecDepth 100000 in
theorem okW_201 : chkW 201 = true := by decide +kernel
set_option maxRecDepth 100000 in
theorem okM_202 : chkM 202 = true := by decide +kernel
set_option maxRecDepth 100000 in
theorem okW_202 : chkW 202 = true := by decide +kernel
set_option maxRecDepth 100000 in
theorem okL_0 : chkC 203 ((cdT 203).getD 0 []) = true := by decide +kernel
set_option maxRecDepth 100000 in
theorem okL_1 : chkC 203 ((cdT 203).getD 1 []) = true := by decide +kernel
set_option maxRecDepth 100000 in
theorem okL_2 : chkC 203 ((cdT 203).getD 2 []) = true := by decide +kernel
set_option maxRecDepth 100000 in
theorem okL_3 : chkC 203 ((cdT 203).getD 3 []) = true := by decide +kernel
set_option maxRecDepth 100000 in
theorem okL_4 : chkC 203 ((cdT 203).getD 4 []) = true := by decide +kernel
set_option maxRecDepth 100000 in
theorem okL_5 : chkC 203 ((cdT 203).getD 5 []) = true := by decide +kernel
set_option maxRecDepth 100000 in
theorem okL_6 : chkC 203 ((cdT 203).getD 6 []) = true := by decide +kernel
set_option maxRecDepth 100000 in
theorem okL_7 : chkC 203 ((cdT 203).getD 7 []) = true := by decide +kernel
set_option maxRecDepth 100000 in
theorem okL_8 : chkC 203 ((cdT 203).getD 8 []) = true := by decide +kernel
set_option maxRecDepth 100000 in
theorem okL_9 : chkC 203 ((cdT 203).getD 9 []) = true := by decide +kernel
set_option maxRecDepth 100000 in
theorem okL_10 : chkC 203 ((cdT 203).getD 10 []) = true := by decide +kernel
set_option maxRecDepth 100000 in
theorem okL_11 : chkC 203 ((cdT 203).getD 11 []) = true := by decide +kernel
set_option maxRecDepth 100000 in
theorem okL_12 : chkC 203 ((cdT 203).getD 12 []) = true := by decide +kernel
set_option maxRecDepth 100000 in
theorem okL_13 : chkC 203 ((cdT 203).getD 13 []) = true := by decide +kernel
set_option maxRecDepth 100000 in
theorem okL_14 : chkC 203 ((cdT 203).getD 14 []) = true := by decide +kernel
set_option maxRecDepth 100000 in
theorem okL_15 : chkC 203 ((cdT 203).getD 15 []) = true := by decide +kernel
set_option maxRecDepth 100000 in
theorem okL_16 : chkC 203 ((cdT 203).getD 16 []) = true := by decide +kernel
set_option maxRecDepth 100000 in
theorem okL_17 : chkC 203 ((cdT 203).getD 17 []) = true := by decide +kernel
set_option maxRecDepth 100000 in
theorem okL_18 : chkC 203 ((cdT 203).getD 18 []) = true := by decide +kernel
set_option maxRecDepth 100000 in
theorem okL_19 : chkC 203 ((cdT 203).getD 19 []) = true := by decide +kernel
set_option maxRecDepth 100000 in
theorem okL_20 : chkC 203 ((cdT 203).getD 20 []) = true := by decide +kernel
set_option maxRecDepth 100000 in
theorem okL_21 : chkC 203 ((cdT 203).getD 21 []) = true := by decide +kernel
set_option maxRecDepth 100000 in
theorem okL_22 : chkC 203 ((cdT 203).getD 22 []) = true := by decide +kernel
set_option maxRecDepth 100000 in
theorem okL_23 : chkC 203 ((cdT 203).getD 23 []) = true := by decide +kernel
set_option maxRecDepth 100000 in
theorem okL_24 : chkC 203 ((cdT 203).getD 24 []) = true := by decide +kernel
set_option maxRecDepth 100000 in
theorem okL_25 : chkC 203 ((cdT 203).getD 25 []) = true := by decide +kernel
set_option maxRecDepth 100000 in
theorem okL_26 : chkC 203 ((cdT 203).getD 26 []) = true := by decide +kernel
set_option maxRecDepth 100000 in
theorem okL_27 : chkC 203 ((cdT 203).getD 27 []) = true := by decide +kernel
set_option maxRecDepth 100000 in
theorem okL_28 : chkC 203 ((cdT 203).getD 28 []) = true := by decide +kernel
set_option maxRecDepth 100000 in
theorem okL_29 : chkC 203 ((cdT 203).getD 29 []) = true := by decide +kernel
set_option maxRecDepth 100000 in
theorem okL_30 : chkC 203 ((cdT 203).getD 30 []) = true := by decide +kernel
set_option maxRecDepth 100000 in
theorem okL_31 : chkC 203 ((cdT 203).getD 31 []) = true := by decide +kernel
set_option maxRecDepth 100000 in
theorem okL_32 : chkC 203 ((cdT 203).getD 32 []) = true := by decide +kernel
set_option maxRecDepth 100000 in
theorem okL_33 : chkC 203 ((cdT 203).getD 33 []) = true := by decide +kernel
set_option maxRecDepth 100000 in
theorem okL_34 : chkC 203 ((cdT 203).getD 34 []) = true := by decide +kernel
set_option maxRecDepth 100000 in
theorem okL_35 : chkC 203 ((cdT 203).getD 35 []) = true := by decide +kernel
set_option maxRecDepth 100000 in
theorem okL_36 : chkC 203 ((cdT 203).getD 36 []) = true := by decide +kernel
set_option maxRecDepth 100000 in
theorem okL_37 : chkC 203 ((cdT 203).getD 37 []) = true := by decide +kernel
set_option maxRecDepth 100000 in
theorem okL_38 : chkC 203 ((cdT 203).getD 38 []) = true := by decide +kernel
set_option maxRecDepth 100000 in
theorem okL_39 : chkC 203 ((cdT 203).getD 39 []) = true := by decide +kernel
set_option maxRecDepth 100000 in
theorem okL_40 : chkC 203 ((cdT 203).getD 40 []) = true := by decide +kernel
set_option maxRecDepth 100000 in
theorem okL_41 : chkC 203 ((cdT 203).getD 41 []) = true := by decide +kernel
set_option maxRecDepth 100000 in
theorem okL_42 : chkC 203 ((cdT 203).getD 42 []) = true := by decide +kernel
set_option maxRecDepth 100000 in
theorem okL_43 : chkC 203 ((cdT 203).getD 43 []) = true := by decide +kernel
set_option maxRecDepth 100000 in
theorem okL_44 : chkC 203 ((cdT 203).getD 44 []) = true := by decide +kernel
set_option maxRecDepth 100000 in
theorem okL_45 : chkC 203 ((cdT 203).getD 45 []) = true := by decide +kernel
set_option maxRecDepth 100000 in
theorem okL_46 : chkC 203 ((cdT 203).getD 46 []) = true := by decide +kernel
set_option maxRecDepth 100000 in
theorem okL_47 : chkC 203 ((cdT 203).getD 47 []) = true := by decide +kernel
set_option maxRecDepth 100000 in
theorem okL_48 : chkC 203 ((cdT 203).getD 48 []) = true := by decide +kernel
set_option maxRecDepth 100000 in
theorem okL_49 : chkC 203 ((cdT 203).getD 49 []) = true := by decide +kernel
set_option maxRecDepth 100000 in
theorem okL_50 : chkC 203 ((cdT 203).getD 50 []) = true := by decide +kernel
theorem okM_203 : chkM 203 = true := by
  have hl : (cdT 203).length = 51 := by decide +kernel
  refine List.all_eq_true.mpr fun ch hch => ?_
  obtain ⟨j, hj⟩ := List.getElem?_of_mem hch
  have hlt : j < 51 := by rw [← hl]; exact (List.getElem?_eq_some_iff.mp hj).1
  have key : chkC 203 ((cdT 203).getD j []) = true := by
    match j, hlt with
    | 0, _ => exact okL_0
    | 1, _ => exact okL_1
    | 2, _ => exact okL_2
    | 3, _ => exact okL_3
    | 4, _ => exact okL_4
    | 5, _ => exact okL_5
    | 6, _ => exact okL_6
    | 7, _ => exact okL_7
    | 8, _ => exact okL_8
    | 9, _ => exact okL_9
    | 10, _ => exact okL_10
    | 11, _ => exact okL_11
    | 12, _ => exact okL_12
    | 13, _ => exact okL_13
    | 14, _ => exact okL_14
    | 15, _ => exact okL_15
    | 16, _ => exact okL_16
    | 17, _ => exact okL_17
    | 18, _ => exact okL_18
    | 19, _ => exact okL_19
    | 20, _ => exact okL_20
    | 21, _ => exact okL_21
    | 22, _ => exact okL_22
    | 23, _ => exact okL_23
    | 24, _ => exact okL_24
    | 25, _ => exact okL_25
    | 26, _ => exact okL_26
    | 27, _ => exact okL_27
    | 28, _ => exact okL_28
    | 29, _ => exact okL_29
    | 30, _ => exact okL_30
    | 31, _ => exact okL_31
    | 32, _ => exact okL_32
    | 33, _ => exact okL_33
    | 34, _ => exact okL_34
    | 35, _ => exact okL_35
    | 36, _ => exact okL_36
    | 37, _ => exact okL_37
    | 38, _ => exact okL_38
    | 39, _ => exact okL_39
    | 40, _ => exact okL_40
    | 41, _ => exact okL_41
    | 42, _ => exact okL_42
    | 43, _ => exact okL_43
    | 44, _ => exact okL_44
    | 45, _ => exact okL_45
    | 46, _ => exact okL_46
    | 47, _ => exact okL_47
    | 48, _ => exact okL_48
    | 49, _ => exact okL_49
    | 50, _ => exact okL_50
    | j + 51, h => exact absurd h (by omega)
  rw [List.getD_eq_getElem?_getD, hj] at key
  exact key
theorem okG_0 : ∀ i, i < 16 → chkM (0 + i) = true := fun i hi => match i, hi with
  | 0, _ => okM_0
  | 1, _ => okM_1
  | 2, _ => okM_2
  | 3, _ => okM_3
  | 4, _ => okM_4
  | 5, _ => okM_5
  | 6, _ => okM_6
  | 7, _ => okM_7
  | 8, _ => okM_8
  | 9, _ => okM_9
  | 10, _ => okM_10
  | 11, _ => okM_11
  | 12, _ => okM_12
  | 13, _ => okM_13
  | 14, _ => okM_14
  | 15, _ => okM_15
  | i + 16, h => absurd h (by omega)
theorem okV_0 : ∀ i, i < 16 → chkW (0 + i) = true := fun i hi => match i, hi with
  | 0, _ => okW_0
  | 1, _ => okW_1
  | 2, _ => okW_2
  | 3, _ => okW_3
  | 4, _ => okW_4
  | 5, _ => okW_5
  | 6, _ => okW_6
  | 7, _ => okW_7
  | 8, _ => okW_8
  | 9, _ => okW_9
  | 10, _ => okW_10
  | 11, _ => okW_11
  | 12, _ => okW_12
  | 13, _ => okW_13
  | 14, _ => okW_14
  | 15, _ => okW_15
  | i + 16, h => absurd h (by omega)
theorem okG_1 : ∀ i, i < 16 → chkM (16 + i) = true := fun i hi => match i, hi with
  | 0, _ => okM_16
  | 1, _ => okM_17
  | 2, _ => okM_18
  | 3, _ => okM_19
  | 4, _ => okM_20
  | 5, _ => okM_21
  | 6, _ => okM_22
  | 7, _ => okM_23
  | 8, _ => okM_24
  | 9, _ => okM_25
  | 10, _ => okM_26
  | 11, _ => okM_27
  | 12, _ => okM_28
  | 13, _ => okM_29
  | 14, _ => okM_30
  | 15, _ => okM_31
  | i + 16, h => absurd h (by omega)
theorem okV_1 : ∀ i, i < 16 → chkW (16 + i) = true := fun i hi => match i, hi with
  | 0, _ => okW_16
  | 1, _ => okW_17
  | 2, _ => okW_18
  | 3, _ => okW_19
  | 4, _ => okW_20
  | 5, _ => okW_21
  | 6, _ => okW_22
  | 7, _ => okW_23
  | 8, _ => okW_24
  | 9, _ => okW_25
  | 10, _ => okW_26
  | 11, _ => okW_27
  | 12, _ => okW_28
  | 13, _ => okW_29
  | 14, _ => okW_30
  | 15, _ => okW_31
  | i + 16, h => absurd h (by omega)
theorem okG_2 : ∀ i, i < 16 → chkM (32 + i) = true := fun i hi => match i, hi with
  | 0, _ => okM_32
  | 1, _ => okM_33
  | 2, _ => okM_34
  | 3, _ => okM_35
  | 4, _ => okM_36
  | 5, _ => okM_37
  | 6, _ => okM_38
  | 7, _ => okM_39
  | 8, _ => okM_40
  | 9, _ => okM_41
  | 10, _ => okM_42
  | 11, _ => okM_43
  | 12, _ => okM_44
  | 13, _ => okM_45
  | 14, _ => okM_46
  | 15, _ => okM_47
  | i + 16, h => absurd h (by omega)
theorem okV_2 : ∀ i, i < 16 → chkW (32 + i) = true := fun i hi => match i, hi with
  | 0, _ => okW_32
  | 1, _ => okW_33
  | 2, _ => okW_34
  | 3, _ => okW_35
  | 4, _ => okW_36
  | 5, _ => okW_37
  | 6, _ => okW_38
  | 7, _ => okW_39
  | 8, _ => okW_40
  | 9, _ => okW_41
  | 10, _ => okW_42
  | 11, _ => okW_43
  | 12, _ => okW_44
  | 13, _ => okW_45
  | 14, _ => okW_46
  | 15, _ => okW_47
  | i + 16, h => absurd h (by omega)
theorem okG_3 : ∀ i, i < 16 → chkM (48 + i) = true := fun i hi => match i, hi with
  | 0, _ => okM_48
  | 1, _ => okM_49
  | 2, _ => okM_50
  | 3, _ => okM_51
  | 4, _ => okM_52
  | 5, _ => okM_53
  | 6, _ => okM_54
  | 7, _ => okM_55
  | 8, _ => okM_56
  | 9, _ => okM_57
  | 10, _ => okM_58
  | 11, _ => okM_59
  | 12, _ => okM_60
  | 13, _ => okM_61
  | 14, _ => okM_62
  | 15, _ => okM_63
  | i + 16, h => absurd h (by omega)
theorem okV_3 : ∀ i, i < 16 → chkW (48 + i) = true := fun i hi => match i, hi with
  | 0, _ => okW_48
  | 1, _ => okW_49
  | 2, _ => okW_50
  | 3, _ => okW_51
  | 4, _ => okW_52
  | 5, _ => okW_53
  | 6, _ => okW_54
  | 7, _ => okW_55
  | 8, _ => okW_56
  | 9, _ => okW_57
  | 10, _ => okW_58
  | 11, _ => okW_59
  | 12, _ => okW_60
  | 13, _ => okW_61
  | 14, _ => okW_62
  | 15, _ => okW_63
  | i + 16, h => absurd h (by omega)
theorem okG_4 : ∀ i, i < 16 → chkM (64 + i) = true := fun i hi => match i, hi with
  | 0, _ => okM_64
  | 1, _ => okM_65
  | 2, _ => okM_66
  | 3, _ => okM_67
  | 4, _ => okM_68
  | 5, _ => okM_69
  | 6, _ => okM_70
  | 7, _ => okM_71
  | 8, _ => okM_72
  | 9, _ => okM_73
  | 10, _ => okM_74
  | 11, _ => okM_75
  | 12, _ => okM_76
  | 13, _ => okM_77
  | 14, _ => okM_78
  | 15, _ => okM_79
  | i + 16, h => absurd h (by omega)
theorem okV_4 : ∀ i, i < 16 → chkW (64 + i) = true := fun i hi => match i, hi with
  | 0, _ => okW_64
  | 1, _ => okW_65
  | 2, _ => okW_66
  | 3, _ => okW_67
  | 4, _ => okW_68
  | 5, _ => okW_69
  | 6, _ => okW_70
  | 7, _ => okW_71
  | 8, _ => okW_72
  | 9, _ => okW_73
  | 10, _ => okW_74
  | 11, _ => okW_75
  | 12, _ => okW_76
  | 13, _ => okW_77
  | 14, _ => okW_78
  | 15, _ => okW_79
  | i + 16, h => absurd h (by omega)
theorem okG_5 : ∀ i, i < 16 → chkM (80 + i) = true := fun i hi => match i, hi with
  | 0, _ => okM_80
  | 1, _ => okM_81
  | 2, _ => okM_82
  | 3, _ => okM_83
  | 4, _ => okM_84
  | 5, _ => okM_85
  | 6, _ => okM_86
  | 7, _ => okM_87
  | 8, _ => okM_88
  | 9, _ => okM_89
  | 10, _ => okM_90
  | 11, _ => okM_91
  | 12, _ => okM_92
  | 13, _ => okM_93
  | 14, _ => okM_94
  | 15, _ => okM_95
  | i + 16, h => absurd h (by omega)
theorem okV_5 : ∀ i, i < 16 → chkW (80 + i) = true := fun i hi => match i, hi with
  | 0, _ => okW_80
  | 1, _ => okW_81
  | 2, _ => okW_82
  | 3, _ => okW_83
  | 4, _ => okW_84
  | 5, _ => okW_85
  | 6, _ => okW_86
  | 7, _ => okW_87
  | 8, _ => okW_88
  | 9, _ => okW_89
  | 10, _ => okW_90
  | 11, _ => okW_91
  | 12, _ => okW_92
  | 13, _ => okW_93
  | 14, _ => okW_94
  | 15, _ => okW_95
  | i + 16, h => absurd h (by omega)
theorem okG_6 : ∀ i, i < 16 → chkM (96 + i) = true := fun i hi => match i, hi with
  | 0, _ => okM_96
  | 1, _ => okM_97
  | 2, _ => okM_98
  | 3, _ => okM_99
  | 4, _ => okM_100
  | 5, _ => okM_101
  | 6, _ => okM_102
  | 7, _ => okM_103
  | 8, _ => okM_104
  | 9, _ => okM_105
  | 10, _ => okM_106
  | 11, _ => okM_107
  | 12, _ => okM_108
  | 13, _ => okM_109
  | 14, _ => okM_110
  | 15, _ => okM_111
  | i + 16, h => absurd h (by omega)
theorem okV_6 : ∀ i, i < 16 → chkW (96 + i) = true := fun i hi => match i, hi with
  | 0, _ => okW_96
  | 1, _ => okW_97
  | 2, _ => okW_98
  | 3, _ => okW_99
  | 4, _ => okW_100
  | 5, _ => okW_101
  | 6, _ => okW_102
  | 7, _ => okW_103
  | 8, _ => okW_104
  | 9, _ => okW_105
  | 10, _ => okW_106
  | 11, _ => okW_107
  | 12, _ => okW_108
  | 13, _ => okW_109
  | 14, _ => okW_110
  | 15, _ => okW_111
  | i + 16, h => absurd h (by omega)
theorem okG_7 : ∀ i, i < 16 → chkM (112 + i) = true := fun i hi => match i, hi with
  | 0, _ => okM_112
  | 1, _ => okM_113
  | 2, _ => okM_114
  | 3, _ => okM_115
  | 4, _ => okM_116
  | 5, _ => okM_117
  | 6, _ => okM_118
  | 7, _ => okM_119
  | 8, _ => okM_120
  | 9, _ => okM_121
  | 10, _ => okM_122
  | 11, _ => okM_123
  | 12, _ => okM_124
  | 13, _ => okM_125
  | 14, _ => okM_126
  | 15, _ => okM_127
  | i + 16, h => absurd h (by omega)
theorem okV_7 : ∀ i, i < 16 → chkW (112 + i) = true := fun i hi => match i, hi with
  | 0, _ => okW_112
  | 1, _ => okW_113
  | 2, _ => okW_114
  | 3, _ => okW_115
  | 4, _ => okW_116
  | 5, _ => okW_117
  | 6, _ => okW_118
  | 7, _ => okW_119
  | 8, _ => okW_120
  | 9, _ => okW_121
  | 10, _ => okW_122
  | 11, _ => okW_123
  | 12, _ => okW_124
  | 13, _ => okW_125
  | 14, _ => okW_126
  | 15, _ => okW_127
  | i + 16, h => absurd h (by omega)
theorem okG_8 : ∀ i, i < 16 → chkM (128 + i) = true := fun i hi => match i, hi with
  | 0, _ => okM_128
  | 1, _ => okM_129
  | 2, _ => okM_130
  | 3, _ => okM_131
  | 4, _ => okM_132
  | 5, _ => okM_133
  | 6, _ => okM_134
  | 7, _ => okM_135
  | 8, _ => okM_136
  | 9, _ => okM_137
  | 10, _ => okM_138
  | 11, _ => okM_139
  | 12, _ => okM_140
  | 13, _ => okM_141
  | 14, _ => okM_142
  | 15, _ => okM_143
  | i + 16, h => absurd h (by omega)
theorem okV_8 : ∀ i, i < 16 → chkW (128 + i) = true := fun i hi => match i, hi with
  | 0, _ => okW_128
  | 1, _ => okW_129
  | 2, _ => okW_130
  | 3, _ => okW_131
  | 4, _ => okW_132
  | 5, _ => okW_133
  | 6, _ => okW_134
  | 7, _ => okW_135
  | 8, _ => okW_136
  | 9, _ => okW_137
  | 10, _ => okW_138
  | 11, _ => okW_139
  | 12, _ => okW_140
  | 13, _ => okW_141
  | 14, _ => okW_142
  | 15, _ => okW_143
  | i + 16, h => absurd h (by omega)
theorem okG_9 : ∀ i, i < 16 → chkM (144 + i) = true := fun i hi => match i, hi with
  | 0, _ => okM_144
  | 1, _ => okM_145
  | 2, _ => okM_146
  | 3, _ => okM_147
  | 4, _ => okM_148
  | 5, _ => okM_149
  | 6, _ => okM_150
  | 7, _ => okM_151
  | 8, _ => okM_152
  | 9, _ => okM_153
  | 10, _ => okM_154
  | 11, _ => okM_155
  | 12, _ => okM_156
  | 13, _ => okM_157
  | 14, _ => okM_158
  | 15, _ => okM_159
  | i + 16, h => absurd h (by omega)
theorem okV_9 : ∀ i, i < 16 → chkW (144 + i) = true := fun i hi => match i, hi with
  | 0, _ => okW_144
  | 1, _ => okW_145
  | 2, _ => okW_146
  | 3, _ => okW_147
  | 4, _ => okW_148
  | 5, _ => okW_149
  | 6, _ => okW_150
  | 7, _ => okW_151
  | 8, _ => okW_152
  | 9, _ => okW_153
  | 10, _ => okW_154
  | 11, _ => okW_155
  | 12, _ => okW_156
  | 13, _ => okW_157
  | 14, _ => okW_158
  | 15, _ => okW_159
  | i + 16, h => absurd h (by omega)
theorem okG_10 : ∀ i, i < 16 → chkM (160 + i) = true := fun i hi => match i, hi with
  | 0, _ => okM_160
  | 1, _ => okM_161
  | 2, _ => okM_162
  | 3, _ => okM_163
  | 4, _ => okM_164
  | 5, _ => okM_165
  | 6, _ => okM_166
  | 7, _ => okM_167
  | 8, _ => okM_168
  | 9, _ => okM_169
  | 10, _ => okM_170
  | 11, _ => okM_171
  | 12, _ => okM_172
  | 13, _ => okM_173
  | 14, _ => okM_174
  | 15, _ => okM_175
  | i + 16, h => absurd h (by omega)
theorem okV_10 : ∀ i, i < 16 → chkW (160 + i) = true := fun i hi => match i, hi with
  | 0, _ => okW_160
  | 1, _ => okW_161
  | 2, _ => okW_162
  | 3, _ => okW_163
  | 4, _ => okW_164
  | 5, _ => okW_165
  | 6, _ => okW_166
  | 7, _ => okW_167
  | 8, _ => okW_168
  | 9, _ => okW_169
  | 10, _ => okW_170
  | 11, _ => okW_171
  | 12, _ => okW_172
  | 13, _ => okW_173
  | 14, _ => okW_174
  | 15, _ => okW_175
  | i + 16, h => absurd h (by omega)
theorem okG_11 : ∀ i, i < 16 → chkM (176 + i) = true := fun i hi => match i, hi with
  | 0, _ => okM_176
  | 1, _ => okM_177
  | 2, _ => okM_178
  | 3, _ => okM_179
  | 4, _ => okM_180
  | 5, _ => okM_181
  | 6, _ => okM_182
  | 7, _ => okM_183
  | 8, _ => okM_184
  | 9, _ => okM_185
  | 10, _ => okM_186
  | 11, _ => okM_187
  | 12, _ => okM_188
  | 13, _ => okM_189
  | 14, _ => okM_190
  | 15, _ => okM_191
  | i + 16, h => absurd h (by omega)
theorem okV_11 : ∀ i, i < 16 → chkW (176 + i) = true := fun i hi => match i, hi with
  | 0, _ => okW_176
  | 1, _ => okW_177
  | 2, _ => okW_178
  | 3, _ => okW_179
  | 4, _ => okW_180
  | 5, _ => okW_181
  | 6, _ => okW_182
  | 7, _ => okW_183
  | 8, _ => okW_184
  | 9, _ => okW_185
  | 10, _ => okW_186
  | 11, _ => okW_187
  | 12, _ => okW_188
  | 13, _ => okW_189
  | 14, _ => okW_190
  | 15, _ => okW_191
  | i + 16, h => absurd h (by omega)
theorem okG_12 : ∀ i, i < 12 → chkM (192 + i) = true := fun i hi => match i, hi with
  | 0, _ => okM_192
  | 1, _ => okM_193
  | 2, _ => okM_194
  | 3, _ => okM_195
  | 4, _ => okM_196
  | 5, _ => okM_197
  | 6, _ => okM_198
  | 7, _ => okM_199
  | 8, _ => okM_200
  | 9, _ => okM_201
  | 10, _ => okM_202
  | 11, _ => okM_203
  | i + 12, h => absurd h (by omega)
theorem okV_12 : ∀ i, i < 11 → chkW (192 + i) = true := fun i hi => match i, hi with
  | 0, _ => okW_192
  | 1, _ => okW_193
  | 2, _ => okW_194
  | 3, _ => okW_195
  | 4, _ => okW_196
  | 5, _ => okW_197
  | 6, _ => okW_198
  | 7, _ => okW_199
  | 8, _ => okW_200
  | 9, _ => okW_201
  | 10, _ => okW_202
  | i + 11, h => absurd h (by omega)
theorem okM (k : Nat) (h : k < 204) : chkM k = true := by
  have hj : k / 16 = 0 ∨ k / 16 = 1 ∨ k / 16 = 2 ∨ k / 16 = 3 ∨ k / 16 = 4 ∨ k / 16 = 5 ∨ k / 16 = 6 ∨ k / 16 = 7 ∨ k / 16 = 8 ∨ k / 16 = 9 ∨ k / 16 = 10 ∨ k / 16 = 11 ∨ k / 16 = 12 := by omega
  rcases hj with hj | hj | hj | hj | hj | hj | hj | hj | hj | hj | hj | hj | hj
  · have e := okG_0 (k - 0) (by omega); rw [show 0 + (k - 0) = k by omega] at e; exact e
  · have e := okG_1 (k - 16) (by omega); rw [show 16 + (k - 16) = k by omega] at e; exact e
  · have e := okG_2 (k - 32) (by omega); rw [show 32 + (k - 32) = k by omega] at e; exact e
  · have e := okG_3 (k - 48) (by omega); rw [show 48 + (k - 48) = k by omega] at e; exact e
  · have e := okG_4 (k - 64) (by omega); rw [show 64 + (k - 64) = k by omega] at e; exact e
  · have e := okG_5 (k - 80) (by omega); rw [show 80 + (k - 80) = k by omega] at e; exact e
  · have e := okG_6 (k - 96) (by omega); rw [show 96 + (k - 96) = k by omega] at e; exact e
  · have e := okG_7 (k - 112) (by omega); rw [show 112 + (k - 112) = k by omega] at e; exact e
  · have e := okG_8 (k - 128) (by omega); rw [show 128 + (k - 128) = k by omega] at e; exact e
  · have e := okG_9 (k - 144) (by omega); rw [show 144 + (k - 144) = k by omega] at e; exact e
  · have e := okG_10 (k - 160) (by omega); rw [show 160 + (k - 160) = k by omega] at e; exact e
  · have e := okG_11 (k - 176) (by omega); rw [show 176 + (k - 176) = k by omega] at e; exact e
  · have e := okG_12 (k - 192) (by omega); rw [show 192 + (k - 192) = k by omega] at e; exact e
theorem okW9 (k : Nat) (h : k < 203) : chkW k = true := by
  have hj : k / 16 = 0 ∨ k / 16 = 1 ∨ k / 16 = 2 ∨ k / 16 = 3 ∨ k / 16 = 4 ∨ k / 16 = 5 ∨ k / 16 = 6 ∨ k / 16 = 7 ∨ k / 16 = 8 ∨ k / 16 = 9 ∨ k / 16 = 10 ∨ k / 16 = 11 ∨ k / 16 = 12 := by omega
  rcases hj with hj | hj | hj | hj | hj | hj | hj | hj | hj | hj | hj | hj | hj
  · have e := okV_0 (k - 0) (by omega); rw [show 0 + (k - 0) = k by omega] at e; exact e
  · have e := okV_1 (k - 16) (by omega); rw [show 16 + (k - 16) = k by omega] at e; exact e
  · have e := okV_2 (k - 32) (by omega); rw [show 32 + (k - 32) = k by omega] at e; exact e
  · have e := okV_3 (k - 48) (by omega); rw [show 48 + (k - 48) = k by omega] at e; exact e
  · have e := okV_4 (k - 64) (by omega); rw [show 64 + (k - 64) = k by omega] at e; exact e
  · have e := okV_5 (k - 80) (by omega); rw [show 80 + (k - 80) = k by omega] at e; exact e
  · have e := okV_6 (k - 96) (by omega); rw [show 96 + (k - 96) = k by omega] at e; exact e
  · have e := okV_7 (k - 112) (by omega); rw [show 112 + (k - 112) = k by omega] at e; exact e
  · have e := okV_8 (k - 128) (by omega); rw [show 128 + (k - 128) = k by omega] at e; exact e
  · have e := okV_9 (k - 144) (by omega); rw [show 144 + (k - 144) = k by omega] at e; exact e
  · have e := okV_10 (k - 160) (by omega); rw [show 160 + (k - 160) = k by omega] at e; exact e
  · have e := okV_11 (k - 176) (by omega); rw [show 176 + (k - 176) = k by omega] at e; exact e
  · have e := okV_12 (k - 192) (by omega); rw [show 192 + (k - 192) = k by omega] at e; exact e
theorem okW (k : Nat) (h : k + 1 < nMeth) : chkW k = true := okW9 k (Nat.lt_of_succ_lt_succ h)
theorem lk_mem : ∀ (l : List (Nat × CE)) (pc : Nat) (e : CE), lk l pc = some e → (pc, e) ∈ l
  | [], _, _, h => by cases h
  | q :: t, pc, e, h => by
    unfold lk at h
    cases hq : Nat.beq q.1 pc with
    | true =>
      rw [hq] at h
      have h1 : q.1 = pc := Nat.eq_of_beq_eq_true hq
      have h2 : q.2 = e := Option.some.inj h
      rw [← h1, ← h2]
      exact List.mem_cons_self
    | false =>
      rw [hq] at h
      exact List.mem_cons_of_mem _ (lk_mem t pc e h)
theorem ce_ok {k pc : Nat} {e : CE} (hk : k < nMeth) (h : ce k pc = some e) : decode (mB k) pc = .ok (e.1, e.2.1) ∧ lkd k pc e = true ∧ lenB e.1 e.2.1 = true := by
  have h1 := lk_mem _ _ _ h
  have h2 : (cdT k).getD (pc / 32) [] ∈ cdT k := by
    rw [List.getD_eq_getElem?_getD] at h1 ⊢
    cases hq : (cdT k)[pc / 32]? with
    | none => rw [hq] at h1; cases h1
    | some l => exact List.mem_of_getElem? hq
  have h3 := List.all_eq_true.mp (List.all_eq_true.mp (okM k hk) _ h2) _ h1
  simp only [Bool.and_eq_true, decide_eq_true_eq] at h3
  exact ⟨h3.1.1, h3.1.2, h3.2⟩
