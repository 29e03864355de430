/-! ===== the code tables are right: each row decodes, its pool entry is what its numbers say ===== -/
def lk (l : List (Nat × CE)) (pc : Nat) : Option CE := match l with
  | [] => none
  | q :: t => bif Nat.beq q.1 pc then some q.2 else lk t pc
def ce (k pc : Nat) : Option CE := lk ((cdT k).getD (pc / 32) []) pc
abbrev mY (k : Nat) : MethodName := (mt k).1
abbrev mB (k : Nat) : ByteArray := (mt k).2.1
abbrev mL (k : Nat) : Nat := (mt k).2.2.1
abbrev mR (k : Nat) : Option FieldType := (mt k).2.2.2.1
abbrev mN (k : Nat) : Nat := (mt k).2.2.2.2.1
abbrev mH (k : Nat) : List (Nat × Nat × Nat × Nat) := (mt k).2.2.2.2.2
def tb (z : Nat) (w : Cond) : Bool := decide (tables_1[z]? = some w)
abbrev exNs : List String := ["java/lang/RuntimeException", "java/lang/Exception"]
abbrev drName : MethodName := ⟨"java/lang/Double", "doubleToRawLongBits", "(D)J"⟩
def lenB (i : Instr) (len : Nat) : Bool := match i with
  | .bipush _ | .iload _ | .lload _ | .dload _ | .aload _ | .istore _ | .lstore _ | .dstore _ | .astore _ | .ldc _ | .newarray _ => decide (len = 2)
  | .sipush _ | .ldc_w _ | .ldc2_w _ | .iinc _ _ | .ifCond _ _ | .if_icmp _ _ | .goto _ | .getfield _ | .putfield _ | .getstatic _ | .new _ | .anewarray _ | .invokevirtual _ | .invokestatic _ | .invokespecial _ => decide (len = 3)
  | .lookupswitch _ _ | .tableswitch _ _ _ _ => true
  | _ => decide (len = 1)
/-- an instruction's pool entry, by the words of the tables -/
def kindK (v : Value) (ty : FieldType) : Bool := match v, ty with
  | .int _, .int => true
  | .long _, .long => true
  | .null, .object _ => true
  | .null, .array _ => true
  | _, _ => false
def tyC : Nat → Nat → FieldType := fun ci => match ci with
  | 0 => tyX0
  | 1 => tyX1
  | 2 => tyX2
  | 3 => tyX3
  | 4 => tyX4
  | _ => tyX4
/-- 'new X(text)' that is thrown at once: its five instructions -/
def thrA (k pc x : Nat) : Bool := match ce k (pc + 3), ce k (pc + 4), ce k (pc + 6), ce k (pc + 9) with
  | some (.dup, l1, _), some (.ldc is, l2, _), some (.invokespecial ic, l3, _), some (.athrow, l4, _) => decide (l1 = 1 ∧ l2 = 2 ∧ l3 = 3 ∧ l4 = 1) && strT.any (fun q => decide (q.1 = (mY k).cls) && decide (q.2.1 = is)) && decide (((mY k).cls, ic, x - 100) ∈ exT) && decide (mH k = [])
  | _, _, _, _ => false
/-- the same, the text by a wide index -/
def thrB (k pc x : Nat) : Bool := match ce k (pc + 3), ce k (pc + 4), ce k (pc + 7), ce k (pc + 10) with
  | some (.dup, l1, _), some (.ldc_w is, l2, _), some (.invokespecial ic, l3, _), some (.athrow, l4, _) => decide (l1 = 1 ∧ l2 = 3 ∧ l3 = 3 ∧ l4 = 1) && strT.any (fun q => decide (q.1 = (mY k).cls) && decide (q.2.1 = is)) && decide (((mY k).cls, ic, x - 100) ∈ exT) && decide (mH k = [])
  | _, _, _, _ => false
def thrOK (k pc x : Nat) : Bool := thrA k pc x || thrB k pc x
def lkd (k pc : Nat) (e : CE) : Bool := match e with
  | (.getfield i, _, x, y, z, _) => match clsL[x]? with
    | some (C, T, n) => decide (y < n) && decide ((T y).1 = C) && tb z (.fieldLink (mY k).cls i C (T y).2.1 (T y).2.2.1)
    | none => false
  | (.putfield i, _, x, y, z, v) => match clsL[x]? with
    | some (C, T, n) => decide (y < n) && decide ((T y).1 = C) && tb z (.fieldLink (mY k).cls i C (T y).2.1 (T y).2.2.1) && kindK v (tyC x y) && (decide ((T y).2.2.2 = false) || decide ((T y).2.2.2 = true ∧ (mY k).name = "<init>" ∧ C = (mY k).cls))
    | none => false
  | (.getstatic i, _, x, y, z, _) => decide (x < 6) && (if y = 0 then tb z (.fieldLink (mY k).cls i "FlashLevels" (xnm x) "[I") else tb z (.fieldLinkNest (mY k).cls i "FlashLevels" (xnm x) "[I" "FlashLevels") && decide (z ∈ nestT))
  | (.ldc i, _, _, _, z, .int v) => tb z (.constant (mY k).cls i v)
  | (.ldc i, _, _, _, _, .null) => strT.any (fun q => decide (q.1 = (mY k).cls) && decide (q.2.1 = i))
  | (.ldc_w i, _, _, _, z, .int v) => tb z (.constant (mY k).cls i v)
  | (.ldc2_w i, _, _, _, z, .long v) => tb z (.constantLong (mY k).cls i v)
  | (.ldc2_w i, _, _, _, z, .double v) => tb z (.constantDouble (mY k).cls i v)
  | (.invokevirtual i, _, x, _, z, _) => decide (x + 1 < nMeth) && decide (((mz x).2.2.2.2 = 1 ∨ (mz x).2.2.2.2 = 2) ∧ mH x = []) && tb z (.methodLink (mY k).cls i (mY x))
  | (.invokestatic i, _, x, _, z, _) => if x = 1000 then tb z (.methodLink (mY k).cls i arraycopyName) else if x = 1001 then tb z (.methodLink (mY k).cls i drName) else if x = 1004 then tb z (.methodLink (mY k).cls i Lib.Math.max.name) else if x = 1005 then tb z (.methodLink (mY k).cls i Lib.Math.min.name) else decide (x + 1 < nMeth) && decide ((mz x).2.2.2.2 = 0) && tb z (.methodLink (mY k).cls i (mY x))
  | (.invokespecial i, _, x, y, z, _) => if x = 1002 then tb z (.methodLink (mY k).cls i objectInit) else if x = 1003 then true else decide (x + 1 < nMeth) && decide ((mz x).2.2.2.2 = 3 ∧ mH x = []) && (if y = 0 then tb z (.methodLink (mY k).cls i (mY x)) else tb z (.methodLinkNest (mY k).cls i (mY x) "FlashLevels") && decide (z ∈ nestT))
  | (.new i, _, x, _, z, _) => match clsL[x]? with
    | some (C, _, _) => tb z (.classLink (mY k).cls i C)
    | none => decide (100 ≤ x ∧ x < 103) && tb z (.classLink (mY k).cls i (excN (x - 100))) && thrOK k pc x
  | (.iconst n, _, _, _, _, v) => decide (v = .int (Int32.ofInt n))
  | (.bipush n, _, _, _, _, v) => decide (v = .int (Int8.ofInt n).toInt32)
  | (.sipush n, _, _, _, _, v) => decide (v = .int (Int16.ofInt n).toInt32)
  | (.iinc _ n, _, _, _, _, v) => decide (v = .int (Int32.ofInt n))
  | (.goto off, _, x, _, _, _) => decide ((pc : Int) + off = (x : Int))
  | (.ifCond _ off, _, x, _, _, _) => decide ((pc : Int) + off = (x : Int))
  | (.if_icmp _ off, _, x, _, _, _) => decide ((pc : Int) + off = (x : Int))
  | (.tableswitch d lo hi offs, _, _, _, _, _) => decide (0 ≤ (pc : Int) + d) && offs.toList.all (fun o => decide (0 ≤ (pc : Int) + o)) && decide ((offs.size : Int) = hi - lo + 1)
  | (.lookupswitch d ps, _, _, _, _, _) => decide (0 ≤ (pc : Int) + d) && ps.toList.all (fun o => decide (0 ≤ (pc : Int) + o.2)) && (ps.toList.zip (ps.toList.drop 1)).all (fun (a, next) => a.1 < next.1)
  | (.newarray t, _, x, _, _, _) => decide ((t = .int ∧ x = 0) ∨ (t = .long ∧ x = 1))
  | (.anewarray i, _, x, _, z, _) => if x = 2 then tb z (.classLink (mY k).cls i RX3) else decide (x = 3) && tb z (.classLink (mY k).cls i RX2)
  | _ => true
def chkM (k : Nat) : Bool := (cdT k).all (fun ch => ch.all (fun q => decide (decode (mB k) q.1 = .ok (q.2.1, q.2.2.1)) && lkd k q.1 q.2 && lenB q.2.1 q.2.2.1))
/-- a method's own words -/
def chkW (k : Nat) : Bool := match mz k with
  | (zc, za, zs, zi, kd) => (if mH k = [] then tb zc (.code (mY k) (mB k) (mL k) (mR k)) else tb zc (.codeWith (mY k) (mB k) (mL k) (mR k) (mH k))) && tb zi (.initialized (mY k).cls) &&
    (if kd = 0 then tb za (.static (mY k)) else tb za (.instanceMethod (mY k))) && (if kd = 1 then tb zs (.selects (mY k).cls (mY k) (mY k)) else if kd = 2 then decide (Cond.selects (mY k).cls (mY k) (mY k) ∈ k2_sels lw_privs) else true) &&
    (if kd = 3 then decide ((mY k).name = "<init>") else true) && plainName (mY k).cls && decide ((mY k).cls ≠ "java/lang/invoke/MethodHandle" ∧ (mY k).cls ≠ "java/lang/invoke/VarHandle") &&
    decide ((parseMethodDescriptor (mY k).desc).map (fun d => d.parameters.length) = some (if kd = 0 then mN k else mN k - 1)) && decide (mL k ≤ 21)
def chkC (k : Nat) (ch : List (Nat × CE)) : Bool := ch.all (fun q => decide (decode (mB k) q.1 = .ok (q.2.1, q.2.2.1)) && lkd k q.1 q.2 && lenB q.2.1 q.2.2.1)
set_option maxRecDepth 100000 in
theorem okM_0 : chkM 0 = true := by decide +kernel
set_option maxRecDepth 100000 in
theorem okW_0 : chkW 0 = true := by decide +kernel
set_option maxRecDepth 100000 in
theorem okM_1 : chkM 1 = true := by decide +kernel
set_option maxRecDepth 100000 in
theorem okW_1 : chkW 1 = true := by decide +kernel
set_option maxRecDepth 100000 in
theorem okM_2 : chkM 2 = true := by decide +kernel
set_option maxRecDepth 100000 in
theorem okW_2 : chkW 2 = true := by decide +kernel
set_option maxRecDepth 100000 in
theorem okM_3 : chkM 3 = true := by decide +kernel
set_option maxRecDepth 100000 in
theorem okW_3 : chkW 3 = true := by decide +kernel
set_option maxRecDepth 100000 in
theorem okM_4 : chkM 4 = true := by decide +kernel
set_option maxRecDepth 100000 in
theorem okW_4 : chkW 4 = true := by decide +kernel
set_option maxRecDepth 100000 in
theorem okM_5 : chkM 5 = true := by decide +kernel
set_option maxRecDepth 100000 in
theorem okW_5 : chkW 5 = true := by decide +kernel
set_option maxRecDepth 100000 in
theorem okM_6 : chkM 6 = true := by decide +kernel
set_option maxRecDepth 100000 in
theorem okW_6 : chkW 6 = true := by decide +kernel
set_option maxRecDepth 100000 in
theorem okM_7 : chkM 7 = true := by decide +kernel
set_option maxRecDepth 100000 in
theorem okW_7 : chkW 7 = true := by decide +kernel
set_option maxRecDepth 100000 in
theorem okM_8 : chkM 8 = true := by decide +kernel
set_option maxRecDepth 100000 in
theorem okW_8 : chkW 8 = true := by decide +kernel
set_option maxRecDepth 100000 in
theorem okM_9 : chkM 9 = true := by decide +kernel
set_option maxRecDepth 100000 in
theorem okW_9 : chkW 9 = true := by decide +kernel
set_option maxRecDepth 100000 in
theorem okM_10 : chkM 10 = true := by decide +kernel
set_option maxRecDepth 100000 in
theorem okW_10 : chkW 10 = true := by decide +kernel
set_option maxRecDepth 100000 in
theorem okM_11 : chkM 11 = true := by decide +kernel
set_option maxRecDepth 100000 in
theorem okW_11 : chkW 11 = true := by decide +kernel
set_option maxRecDepth 100000 in
theorem okM_12 : chkM 12 = true := by decide +kernel
set_option maxRecDepth 100000 in
theorem okW_12 : chkW 12 = true := by decide +kernel
set_option maxRecDepth 100000 in
theorem okM_13 : chkM 13 = true := by decide +kernel
set_option maxRecDepth 100000 in
theorem okW_13 : chkW 13 = true := by decide +kernel
set_option maxRecDepth 100000 in
theorem okM_14 : chkM 14 = true := by decide +kernel
set_option maxRecDepth 100000 in
theorem okW_14 : chkW 14 = true := by decide +kernel
set_option maxRecDepth 100000 in
theorem okM_15 : chkM 15 = true := by decide +kernel
set_option maxRecDepth 100000 in
theorem okW_15 : chkW 15 = true := by decide +kernel
set_option maxRecDepth 100000 in
theorem okM_16 : chkM 16 = true := by decide +kernel
set_option maxRecDepth 100000 in
theorem okW_16 : chkW 16 = true := by decide +kernel
set_option maxRecDepth 100000 in
theorem okM_17 : chkM 17 = true := by decide +kernel
set_option maxRecDepth 100000 in
theorem okW_17 : chkW 17 = true := by decide +kernel
set_option maxRecDepth 100000 in
theorem okM_18 : chkM 18 = true := by decide +kernel
set_option maxRecDepth 100000 in
theorem okW_18 : chkW 18 = true := by decide +kernel
set_option maxRecDepth 100000 in
theorem okM_19 : chkM 19 = true := by decide +kernel
set_option maxRecDepth 100000 in
theorem okW_19 : chkW 19 = true := by decide +kernel
set_option maxRecDepth 100000 in
theorem okM_20 : chkM 20 = true := by decide +kernel
set_option maxRecDepth 100000 in
theorem okW_20 : chkW 20 = true := by decide +kernel
set_option maxRecDepth 100000 in
theorem okM_21 : chkM 21 = true := by decide +kernel
set_option maxRecDepth 100000 in
theorem okW_21 : chkW 21 = true := by decide +kernel
set_option maxRecDepth 100000 in
theorem okM_22 : chkM 22 = true := by decide +kernel
set_option maxRecDepth 100000 in
theorem okW_22 : chkW 22 = true := by decide +kernel
set_option maxRecDepth 100000 in
theorem okM_23 : chkM 23 = true := by decide +kernel
set_option maxRecDepth 100000 in
theorem okW_23 : chkW 23 = true := by decide +kernel
set_option maxRecDepth 100000 in
theorem okM_24 : chkM 24 = true := by decide +kernel
set_option maxRecDepth 100000 in
theorem okW_24 : chkW 24 = true := by decide +kernel
set_option maxRecDepth 100000 in
theorem okM_25 : chkM 25 = true := by decide +kernel
set_option maxRecDepth 100000 in
theorem okW_25 : chkW 25 = true := by decide +kernel
set_option maxRecDepth 100000 in
theorem okM_26 : chkM 26 = true := by decide +kernel
set_option maxRecDepth 100000 in
theorem okW_26 : chkW 26 = true := by decide +kernel
set_option maxRecDepth 100000 in
theorem okM_27 : chkM 27 = true := by decide +kernel
set_option maxRecDepth 100000 in
theorem okW_27 : chkW 27 = true := by decide +kernel
set_option maxRecDepth 100000 in
theorem okM_28 : chkM 28 = true := by decide +kernel
set_option maxRecDepth 100000 in
theorem okW_28 : chkW 28 = true := by decide +kernel
set_option maxRecDepth 100000 in
theorem okM_29 : chkM 29 = true := by decide +kernel
set_option maxRecDepth 100000 in
theorem okW_29 : chkW 29 = true := by decide +kernel
set_option maxRecDepth 100000 in
theorem okM_30 : chkM 30 = true := by decide +kernel
set_option maxRecDepth 100000 in
theorem okW_30 : chkW 30 = true := by decide +kernel
set_option maxRecDepth 100000 in
theorem okM_31 : chkM 31 = true := by decide +kernel
set_option maxRecDepth 100000 in
theorem okW_31 : chkW 31 = true := by decide +kernel
set_option maxRecDepth 100000 in
theorem okM_32 : chkM 32 = true := by decide +kernel
set_option maxRecDepth 100000 in
theorem okW_32 : chkW 32 = true := by decide +kernel
set_option maxRecDepth 100000 in
theorem okM_33 : chkM 33 = true := by decide +kernel
set_option maxRecDepth 100000 in
theorem okW_33 : chkW 33 = true := by decide +kernel
set_option maxRecDepth 100000 in
theorem okM_34 : chkM 34 = true := by decide +kernel
set_option maxRecDepth 100000 in
theorem okW_34 : chkW 34 = true := by decide +kernel
set_option maxRecDepth 100000 in
theorem okM_35 : chkM 35 = true := by decide +kernel
set_option maxRecDepth 100000 in
theorem okW_35 : chkW 35 = true := by decide +kernel
set_option maxRecDepth 100000 in
theorem okM_36 : chkM 36 = true := by decide +kernel
set_option maxRecDepth 100000 in
theorem okW_36 : chkW 36 = true := by decide +kernel
set_option maxRecDepth 100000 in
theorem okM_37 : chkM 37 = true := by decide +kernel
set_option maxRecDepth 100000 in
theorem okW_37 : chkW 37 = true := by decide +kernel
set_option maxRecDepth 100000 in
theorem okM_38 : chkM 38 = true := by decide +kernel
set_option maxRecDepth 100000 in
theorem okW_38 : chkW 38 = true := by decide +kernel
set_option maxRecDepth 100000 in
theorem okM_39 : chkM 39 = true := by decide +kernel
set_option maxRecDepth 100000 in
theorem okW_39 : chkW 39 = true := by decide +kernel
set_option maxRecDepth 100000 in
theorem okM_40 : chkM 40 = true := by decide +kernel
set_option maxRecDepth 100000 in
theorem okW_40 : chkW 40 = true := by decide +kernel
set_option maxRecDepth 100000 in
theorem okM_41 : chkM 41 = true := by decide +kernel
set_option maxRecDepth 100000 in
theorem okW_41 : chkW 41 = true := by decide +kernel
set_option maxRecDepth 100000 in
theorem okM_42 : chkM 42 = true := by decide +kernel
set_option maxRecDepth 100000 in
theorem okW_42 : chkW 42 = true := by decide +kernel
set_option maxRecDepth 100000 in
theorem okM_43 : chkM 43 = true := by decide +kernel
set_option maxRecDepth 100000 in
theorem okW_43 : chkW 43 = true := by decide +kernel
set_option maxRecDepth 100000 in
theorem okM_44 : chkM 44 = true := by decide +kernel
set_option maxRecDepth 100000 in
theorem okW_44 : chkW 44 = true := by decide +kernel
set_option maxRecDepth 100000 in
theorem okM_45 : chkM 45 = true := by decide +kernel
set_option maxRecDepth 100000 in
theorem okW_45 : chkW 45 = true := by decide +kernel
set_option maxRecDepth 100000 in
theorem okM_46 : chkM 46 = true := by decide +kernel
set_option maxRecDepth 100000 in
theorem okW_46 : chkW 46 = true := by decide +kernel
set_option maxRecDepth 100000 in
theorem okM_47 : chkM 47 = true := by decide +kernel
set_option maxRecDepth 100000 in
theorem okW_47 : chkW 47 = true := by decide +kernel
set_option maxRecDepth 100000 in
theorem okM_48 : chkM 48 = true := by decide +kernel
set_option maxRecDepth 100000 in
theorem okW_48 : chkW 48 = true := by decide +kernel
set_option maxRecDepth 100000 in
theorem okM_49 : chkM 49 = true := by decide +kernel
set_option maxRecDepth 100000 in
theorem okW_49 : chkW 49 = true := by decide +kernel
set_option maxRecDepth 100000 in
theorem okM_50 : chkM 50 = true := by decide +kernel
set_option maxRecDepth 100000 in
theorem okW_50 : chkW 50 = true := by decide +kernel
set_option maxRecDepth 100000 in
theorem okM_51 : chkM 51 = true := by decide +kernel
set_option maxRecDepth 100000 in
theorem okW_51 : chkW 51 = true := by decide +kernel
set_option maxRecDepth 100000 in
theorem okM_52 : chkM 52 = true := by decide +kernel
set_option maxRecDepth 100000 in
theorem okW_52 : chkW 52 = true := by decide +kernel
set_option maxRecDepth 100000 in
theorem okM_53 : chkM 53 = true := by decide +kernel
set_option maxRecDepth 100000 in
theorem okW_53 : chkW 53 = true := by decide +kernel
set_option maxRecDepth 100000 in
theorem okM_54 : chkM 54 = true := by decide +kernel
set_option maxRecDepth 100000 in
theorem okW_54 : chkW 54 = true := by decide +kernel
set_option maxRecDepth 100000 in
theorem okM_55 : chkM 55 = true := by decide +kernel
set_option maxRecDepth 100000 in
theorem okW_55 : chkW 55 = true := by decide +kernel
set_option maxRecDepth 100000 in
theorem okM_56 : chkM 56 = true := by decide +kernel
set_option maxRecDepth 100000 in
theorem okW_56 : chkW 56 = true := by decide +kernel
set_option maxRecDepth 100000 in
theorem okM_57 : chkM 57 = true := by decide +kernel
set_option maxRecDepth 100000 in
theorem okW_57 : chkW 57 = true := by decide +kernel
set_option maxRecDepth 100000 in
theorem okM_58 : chkM 58 = true := by decide +kernel
set_option maxRecDepth 100000 in
theorem okW_58 : chkW 58 = true := by decide +kernel
set_option maxRecDepth 100000 in
theorem okM_59 : chkM 59 = true := by decide +kernel
set_option maxRecDepth 100000 in
theorem okW_59 : chkW 59 = true := by decide +kernel
set_option maxRecDepth 100000 in
theorem okM_60 : chkM 60 = true := by decide +kernel
set_option maxRecDepth 100000 in
theorem okW_60 : chkW 60 = true := by decide +kernel
set_option maxRecDepth 100000 in
theorem okM_61 : chkM 61 = true := by decide +kernel
set_option maxRecDepth 100000 in
theorem okW_61 : chkW 61 = true := by decide +kernel
set_option maxRecDepth 100000 in
theorem okM_62 : chkM 62 = true := by decide +kernel
set_option maxRecDepth 100000 in
theorem okW_62 : chkW 62 = true := by decide +kernel
set_option maxRecDepth 100000 in
theorem okM_63 : chkM 63 = true := by decide +kernel
set_option maxRecDepth 100000 in
theorem okW_63 : chkW 63 = true := by decide +kernel
set_option maxRecDepth 100000 in
theorem okM_64 : chkM 64 = true := by decide +kernel
set_option maxRecDepth 100000 in
theorem okW_64 : chkW 64 = true := by decide +kernel
