/-! ===== the condition generator: runs the abstract machine as far as it goes, and says what is left to show ===== -/
abbrev WK : Type := Nat → AL → List Value → AH → W3 → Prop
abbrev CK : Type := Nat → Nat → List Value → AH → W3 → (AO → AH → W3 → Prop) → Prop
def lget : AL → Nat → Option Value
  | [], _ => none
  | a :: _, 0 => a
  | _ :: t, i + 1 => lget t i
theorem lget_some : ∀ {lv : AL} {i : Nat} {v : Value}, lget lv i = some v → lv[i]? = some (some v)
  | [], _, _, h => by simp [lget] at h
  | a :: t, 0, v, h => by simpa [lget] using h
  | a :: t, i + 1, v, h => by simpa using lget_some (lv := t) (i := i) (by simpa [lget] using h)
def vget : List Value → Nat → Option Value
  | [], _ => none
  | a :: _, 0 => some a
  | _ :: t, i + 1 => vget t i
theorem vget_some : ∀ {fs : List Value} {i : Nat} {v : Value}, vget fs i = some v → fs[i]? = some v
  | [], _, _, h => by simp [vget] at h
  | a :: t, 0, v, h => by simpa [vget] using h
  | a :: t, i + 1, v, h => by simpa using vget_some (fs := t) (i := i) (by simpa [vget] using h)
def csum : List Value → Nat
  | [] => 0
  | .long _ :: t => csum t + 2
  | .double _ :: t => csum t + 2
  | _ :: t => csum t + 1
theorem csum_eq : ∀ st : List Value, csum st = (st.map fun v => v.category).sum
  | [] => rfl
  | v :: t => by cases v <;> simp [csum, Value.category, csum_eq t, Nat.add_comm]
def sm8 (st : List Value) : Bool := Nat.ble (csum st) 8
theorem sm8_le {st : List Value} (h : sm8 st = true) : (st.map fun v => v.category).sum ≤ 8 := by rw [← csum_eq]; exact Nat.le_of_ble_eq_true h
-- what an instruction does to the stack
def vI (st : List Value) (k : Int32 → List Value → Prop) : Prop := match st with
  | .int x :: t => k x t
  | _ => False
def vII (st : List Value) (k : Int32 → Int32 → List Value → Prop) : Prop := match st with
  | .int y :: .int x :: t => k x y t
  | _ => False
def vL (st : List Value) (k : Int64 → List Value → Prop) : Prop := match st with
  | .long x :: t => k x t
  | _ => False
def vLL (st : List Value) (k : Int64 → Int64 → List Value → Prop) : Prop := match st with
  | .long y :: .long x :: t => k x y t
  | _ => False
def vLI (st : List Value) (k : Int64 → Int32 → List Value → Prop) : Prop := match st with
  | .int y :: .long x :: t => k x y t
  | _ => False
def vD (st : List Value) (k : UInt64 → List Value → Prop) : Prop := match st with
  | .double x :: t => k x t
  | _ => False
def vDD (st : List Value) (k : UInt64 → UInt64 → List Value → Prop) : Prop := match st with
  | .double y :: .double x :: t => k x y t
  | _ => False
def vldI (lv : AL) (i : Nat) (k : Value → Prop) : Prop := match lget lv i with
  | some (.int x) => k (.int x)
  | _ => False
def vldL (lv : AL) (i : Nat) (k : Value → Prop) : Prop := match lget lv i with
  | some (.long x) => k (.long x)
  | _ => False
def vldD (lv : AL) (i : Nat) (k : Value → Prop) : Prop := match lget lv i with
  | some (.double x) => k (.double x)
  | _ => False
def vldA (lv : AL) (i : Nat) (k : Value → Prop) : Prop := match lget lv i with
  | some (.ref x) => k (.ref x)
  | some (.retAddr x) => k (.retAddr x)
  | _ => False
def ifP (c : ClassFile.Cond) (x : Int32) (a b : Prop) : Prop := match c with
  | .eq => (x = 0 → a) ∧ (¬ x = 0 → b)
  | .ne => (¬ x = 0 → a) ∧ (x = 0 → b)
  | .lt => (x < 0 → a) ∧ (¬ x < 0 → b)
  | .ge => (0 ≤ x → a) ∧ (¬ 0 ≤ x → b)
  | .gt => (0 < x → a) ∧ (¬ 0 < x → b)
  | .le => (x ≤ 0 → a) ∧ (¬ x ≤ 0 → b)
def icP (c : ClassFile.Cond) (x y : Int32) (a b : Prop) : Prop := match c with
  | .eq => (x = y → a) ∧ (¬ x = y → b)
  | .ne => (¬ x = y → a) ∧ (x = y → b)
  | .lt => (x < y → a) ∧ (¬ x < y → b)
  | .ge => (y ≤ x → a) ∧ (¬ y ≤ x → b)
  | .gt => (y < x → a) ∧ (¬ y < x → b)
  | .le => (x ≤ y → a) ∧ (¬ x ≤ y → b)
def lswP (W' : Nat → Prop) (pc : Nat) (x : Int) (dflt : Int) : List (Int × Int) → Prop
  | [] => W' ((pc : Int) + dflt).toNat
  | q :: t => (x = q.1 → W' ((pc : Int) + q.2).toNat) ∧ (¬ x = q.1 → lswP W' pc x dflt t)
def tswP (W' : Nat → Prop) (pc : Nat) (x : Int) (dflt : Int) : Int → List Int → Prop
  | _, [] => W' ((pc : Int) + dflt).toNat
  | lo, o :: t => (x = lo → W' ((pc : Int) + o).toNat) ∧ (¬ x = lo → tswP W' pc x dflt (lo + 1) t)
/-- an exception behind a call -/
def excP (k pc : Nat) (j : Nat) (lv : AL) (h : AH) (w : W3) (W' : WK) (K : AO → AH → W3 → Prop) : Prop := match mH k with
  | [] => K (.inr j) h w
  | l => match fndH l pc j with
    | some t => match ce k t with
      | some (.astore i, len, _) => i < mL k ∧ W' (t + len) (st1 lv i none) [] h w
      | some (.astore_n i, len, _) => (i : Nat) < mL k ∧ W' (t + len) (st1 lv i none) [] h w
      | _ => False
    | none => False
def backP (k pc : Nat) (lv : AL) (st : List Value) (W' : WK) (K : AO → AH → W3 → Prop) : AO → AH → W3 → Prop := fun o h w => match o with
  | .inl v => W' (pc + 3) lv (v.toList ++ st) h w
  | .inr j => excP k pc j lv h w W' K
def callP (d k x pc n : Nat) (lv : AL) (st : List Value) (h : AH) (w : W3) (W' : WK) (C : CK) (K : AO → AH → W3 → Prop) : Prop := match d with
  | 0 => False
  | d + 1 => bif sm8 (st.drop n) && Nat.ble n st.length then C d x (st.take n).reverse h w (backP k pc lv (st.drop n) W' K) else False
/-- the receiver of a call: it is an object of the method's class -/
def recP (x : Nat) (st : List Value) (h : AH) (P : Prop) : Prop := match st.drop (mN x - 1) with
  | .ref b :: _ => ∃ ci fs, h b = .inr (ci, fs) ∧ (∃ q, clsL[ci]? = some q ∧ q.1 = (mY x).cls) ∧ P
  | _ => False
def incP (u v : Value) (q : Value → Prop) : Prop := match u with
  | .int n => (match v with
    | .int x => q (.int (x + n))
    | _ => False)
  | _ => False
def cpyP (G : GG) (pc : Nat) (lv : AL) (st : List Value) (h : AH) (w : W3) (W' : WK) : Prop := match st with
  | .int n :: .int dp :: .ref a :: .int sp :: .ref b :: t => sm8 t = true ∧ ∃ n' dp' sp', n = nI n' ∧ dp = nI dp' ∧ sp = nI sp' ∧ ∃ n0 f n1 g, h b = .inl (0, n0, .inl f) ∧ h a = .inl (0, n1, .inl g) ∧ (sp' + n' ≤ n0 ∧ dp' + n' ≤ n1 ∧ n0 < 100000 ∧ n1 < 100000) ∧ W' (pc + 3) lv t (upA h a (.inl (0, n1, .inl (va_cpy f g sp' dp' n')))) w
  | .int n :: .int dp :: .ref a :: .int sp :: .retAddr x :: t => sm8 t = true ∧ ∃ n' dp' sp', n = nI n' ∧ dp = nI dp' ∧ sp = nI sp' ∧ ∃ n1 g, h a = .inl (0, n1, .inl g) ∧ (x < 7 ∧ sp' + n' ≤ xlen (gL G) x ∧ dp' + n' ≤ n1 ∧ sp' + n' < 100000 ∧ n1 < 100000) ∧ W' (pc + 3) lv t (upA h a (.inl (0, n1, .inl (va_cpy (xval (gS G) x) g sp' dp' n')))) w
  | _ => False
def natP (G : GG) (d x pc : Nat) (lv : AL) (st : List Value) (h : AH) (w : W3) (W' : WK) : Prop := match d with
  | 0 => False
  | _ + 1 => bif Nat.beq x 1000 then cpyP G pc lv st h w W'
    else bif Nat.beq x 1001 then False
    else bif Nat.beq x 1004 then vII st fun x y t => (bif sm8 t then W' (pc + 3) lv (.int (if x < y then y else x) :: t) h w else False)
    else bif Nat.beq x 1005 then vII st fun x y t => (bif sm8 t then W' (pc + 3) lv (.int (if y < x then y else x) :: t) h w else False) else False
def objP (d pc : Nat) (lv : AL) (st : List Value) (h : AH) (w : W3) (W' : WK) : Prop := match d with
  | 0 => False
  | _ + 1 => match st with
    | .ref _ :: t => bif sm8 t then W' (pc + 3) lv t h w else False
    | _ => False
def iniP (r : Option FieldType) (st : List Value) (q : Prop) : Prop := match r with
  | none => (match st with
    | .ref _ :: _ => q
    | _ => False)
  | _ => False
def vc1 (G : GG) (d k : Nat) (W' : WK) (C : CK) (K : AO → AH → W3 → Prop) (e : CE) (pc : Nat) (lv : AL) (st : List Value) (h : AH) (w : W3) : Prop := match e with
  | (.iconst _, _, _, _, _, v) => W' (pc + 1) lv (v :: st) h w
  | (.bipush _, _, _, _, _, v) => W' (pc + 2) lv (v :: st) h w
  | (.sipush _, _, _, _, _, v) => W' (pc + 3) lv (v :: st) h w
  | (.lconst n, _) => W' (pc + 1) lv (.long (Int64.ofNat (n : Nat)) :: st) h w
  | (.dconst n, _) => W' (pc + 1) lv (.double (bif Nat.beq (n : Nat) 0 then FP.dconst0 else FP.dconst1) :: st) h w
  | (.ldc _, _, _, _, _, .int v) => W' (pc + 2) lv (.int v :: st) h w
  | (.ldc_w _, _, _, _, _, .int v) => W' (pc + 3) lv (.int v :: st) h w
  | (.ldc2_w _, _, _, _, _, .long v) => W' (pc + 3) lv (.long v :: st) h w
  | (.ldc2_w _, _, _, _, _, .double v) => W' (pc + 3) lv (.double v :: st) h w
  | (.iload i, _) => vldI lv i fun v => W' (pc + 2) lv (v :: st) h w
  | (.iload_n i, _) => vldI lv i fun v => W' (pc + 1) lv (v :: st) h w
  | (.lload i, _) => vldL lv i fun v => W' (pc + 2) lv (v :: st) h w
  | (.lload_n i, _) => vldL lv i fun v => W' (pc + 1) lv (v :: st) h w
  | (.dload i, _) => vldD lv i fun v => W' (pc + 2) lv (v :: st) h w
  | (.dload_n i, _) => vldD lv i fun v => W' (pc + 1) lv (v :: st) h w
  | (.aload i, _) => vldA lv i fun v => W' (pc + 2) lv (v :: st) h w
  | (.aload_n i, _) => vldA lv i fun v => W' (pc + 1) lv (v :: st) h w
  | (.istore i, _) => vI st fun x t => bif Nat.ble (i + 1) (mL k) then W' (pc + 2) (st1 lv i (some (.int x))) t h w else False
  | (.istore_n i, _) => vI st fun x t => bif Nat.ble (i + 1) (mL k) then W' (pc + 1) (st1 lv i (some (.int x))) t h w else False
  | (.astore i, _) => match st with
    | .ref x :: t => bif Nat.ble (i + 1) (mL k) then W' (pc + 2) (st1 lv i (some (.ref x))) t h w else False
    | _ => False
  | (.astore_n i, _) => match st with
    | .ref x :: t => bif Nat.ble (i + 1) (mL k) then W' (pc + 1) (st1 lv i (some (.ref x))) t h w else False
    | _ => False
  | (.lstore i, _) => vL st fun x t => bif Nat.ble (i + 2) (mL k) then W' (pc + 2) (st2 lv i (some (.long x))) t h w else False
  | (.lstore_n i, _) => vL st fun x t => bif Nat.ble (i + 2) (mL k) then W' (pc + 1) (st2 lv i (some (.long x))) t h w else False
  | (.dstore i, _) => vD st fun x t => bif Nat.ble (i + 2) (mL k) then W' (pc + 2) (st2 lv i (some (.double x))) t h w else False
  | (.dstore_n i, _) => vD st fun x t => bif Nat.ble (i + 2) (mL k) then W' (pc + 1) (st2 lv i (some (.double x))) t h w else False
  | (.iinc i _, _, _, _, _, u) => vldI lv i fun v => incP u v fun r => bif Nat.ble (i + 1) (mL k) then W' (pc + 3) (st1 lv i (some r)) st h w else False
  | (.iadd, _) => vII st fun x y t => W' (pc + 1) lv (.int (x + y) :: t) h w
  | (.isub, _) => vII st fun x y t => W' (pc + 1) lv (.int (x - y) :: t) h w
  | (.imul, _) => vII st fun x y t => W' (pc + 1) lv (.int (x * y) :: t) h w
  | (.idiv, _) => vII st fun x y t => ¬ y = 0 ∧ W' (pc + 1) lv (.int (x / y) :: t) h w
  | (.irem, _) => vII st fun x y t => ¬ y = 0 ∧ W' (pc + 1) lv (.int (x - x / y * y) :: t) h w
  | (.iand, _) => vII st fun x y t => W' (pc + 1) lv (.int (x &&& y) :: t) h w
  | (.ior, _) => vII st fun x y t => W' (pc + 1) lv (.int (x ||| y) :: t) h w
  | (.ixor, _) => vII st fun x y t => W' (pc + 1) lv (.int (x ^^^ y) :: t) h w
  | (.ishl, _) => vII st fun x y t => W' (pc + 1) lv (.int (x <<< (y &&& 31)) :: t) h w
  | (.ishr, _) => vII st fun x y t => W' (pc + 1) lv (.int (x >>> (y &&& 31)) :: t) h w
  | (.iushr, _) => vII st fun x y t => W' (pc + 1) lv (.int (x.toUInt32 >>> (y.toUInt32 &&& Int32.toUInt32 31)).toInt32 :: t) h w
  | (.ineg, _) => vI st fun x t => W' (pc + 1) lv (.int (-x) :: t) h w
  | (.ladd, _) => vLL st fun x y t => W' (pc + 1) lv (.long (x + y) :: t) h w
  | (.lsub, _) => vLL st fun x y t => W' (pc + 1) lv (.long (x - y) :: t) h w
  | (.lmul, _) => vLL st fun x y t => W' (pc + 1) lv (.long (x * y) :: t) h w
  | (.land, _) => vLL st fun x y t => W' (pc + 1) lv (.long (x &&& y) :: t) h w
  | (.lrem, _) => vLL st fun x y t => ¬ y = 0 ∧ W' (pc + 1) lv (.long (x - x / y * y) :: t) h w
  | (.lshl, _) => vLI st fun x y t => W' (pc + 1) lv (.long (x <<< (y.toInt64 &&& 63)) :: t) h w
  | (.i2l, _) => vI st fun x t => W' (pc + 1) lv (.long x.toInt64 :: t) h w
  | (.l2i, _) => vL st fun x t => W' (pc + 1) lv (.int x.toInt32 :: t) h w
  | (.i2d, _) => vI st fun x t => W' (pc + 1) lv (.double (FP.i2d x) :: t) h w
  | (.d2l, _) => vD st fun x t => W' (pc + 1) lv (.long (FP.d2l x) :: t) h w
  | (.lcmp, _) => vLL st fun x y t => W' (pc + 1) lv (.int (lg_cmp x y) :: t) h w
  | (.dcmp op, _) => vDD st fun x y t => W' (pc + 1) lv (.int (Op.cmpValue (FP.dcmp x y) op) :: t) h w
  | (.ddiv, _) => vDD st fun x y t => vf_n64 (FP.ddiv x y) ∧ W' (pc + 1) lv (.double (FP.ddiv x y) :: t) h w
  | (.dmul, _) => vDD st fun x y t => vf_n64 (FP.dmul x y) ∧ W' (pc + 1) lv (.double (FP.dmul x y) :: t) h w
  | (.dsub, _) => vDD st fun x y t => vf_n64 (FP.dsub x y) ∧ W' (pc + 1) lv (.double (FP.dsub x y) :: t) h w
  | (.dup, _) => match st with
    | .int x :: t => W' (pc + 1) lv (.int x :: .int x :: t) h w
    | .ref x :: t => W' (pc + 1) lv (.ref x :: .ref x :: t) h w
    | _ => False
  | (.dup2, _) => match st with
    | .int x :: .ref y :: t => W' (pc + 1) lv (.int x :: .ref y :: .int x :: .ref y :: t) h w
    | _ => False
  | (.ifCond c _, _, tgt, _) => vI st fun x t => ifP c x (W' tgt lv t h w) (W' (pc + 3) lv t h w)
  | (.if_icmp c _, _, tgt, _) => vII st fun x y t => icP c x y (W' tgt lv t h w) (W' (pc + 3) lv t h w)
  | (.goto _, _, tgt, _) => W' tgt lv st h w
  | (.lookupswitch dflt ps, _) => vI st fun x t => lswP (fun tgt => W' tgt lv t h w) pc x.toInt dflt ps.toList
  | (.tableswitch dflt lo _ offs, _) => vI st fun x t => tswP (fun tgt => W' tgt lv t h w) pc x.toInt dflt lo offs.toList
  | (.getfield _, _, ci, y, _) => match st with
    | .ref a :: t => ∃ fs, h a = .inr (ci, fs) ∧ match vget fs y with
      | some v => W' (pc + 3) lv (v :: t) h w
      | none => False
    | _ => False
  | (.putfield _, _, ci, y, _, fk) => match st with
    | x :: .ref a :: t => bif fitK fk x then ∃ fs, h a = .inr (ci, fs) ∧ (bif Nat.ble (y + 1) fs.length then W' (pc + 3) lv t (upA h a (.inr (ci, fs.set y x))) w else False) else False
    | _ => False
  | (.getstatic _, _, x, _) => W' (pc + 3) lv (.retAddr x :: st) h w
  | (.iaload, _) => match st with
    | .int i :: .ref a :: t => ∃ n f, h a = .inl (0, n, .inl f) ∧ ∃ j, i = nI j ∧ (j < n ∧ n < 100000) ∧ W' (pc + 1) lv (.int (f j) :: t) h w
    | .int i :: .retAddr a :: t => ∃ j, i = nI j ∧ (a < 7 ∧ j < xlen (gL G) a ∧ xlen (gL G) a < 100000) ∧ W' (pc + 1) lv (.int (xval (gS G) a j) :: t) h w
    | _ => False
  | (.iastore, _) => match st with
    | .int x :: .int i :: .ref a :: t => ∃ n f, h a = .inl (0, n, .inl f) ∧ ∃ j, i = nI j ∧ (j < n ∧ n < 100000) ∧ W' (pc + 1) lv t (upA h a (.inl (0, n, .inl (upd f j x)))) w
    | _ => False
  | (.aaload, _) => match st with
    | .int i :: .ref a :: t => ∃ tk n f, h a = .inl (tk, n, .inr (.inr (.inr (.inr f)))) ∧ (tk = 2 ∨ tk = 3) ∧ ∃ j r, i = nI j ∧ (j < n ∧ n < 100000) ∧ f j = some r ∧ W' (pc + 1) lv (.ref r :: t) h w
    | _ => False
  | (.aastore, _) => match st with
    | .ref r :: .int i :: .ref a :: t => ∃ tk n f, h a = .inl (tk, n, .inr (.inr (.inr (.inr f)))) ∧ (tk = 2 ∨ tk = 3) ∧ ∃ j vs, i = nI j ∧ (j < n ∧ n < 100000) ∧ h r = .inr (elC tk, vs) ∧ W' (pc + 1) lv t (upA h a (.inl (tk, n, .inr (.inr (.inr (.inr (va_up f j (some r)))))))) w
    | _ => False
  | (.arraylength, _) => match st with
    | .retAddr a :: t => a < 7 ∧ W' (pc + 1) lv (.int (Int32.ofNat (xlen (gL G) a)) :: t) h w
    | _ => False
  | (.new _, _, x, _) => bif Nat.ble 100 x then (6 ≤ d ∧ (bif sm8 st then K (.inr (x - 100)) h (w.1, w.2.1 + 1, w.2.2 + 6) else False)) else w.2.1 = w.1 ∧ W' (pc + 3) lv (.ref w.1 :: st) (upA h w.1 (.inr (x, dfl x (insW x)))) (w.1 + 1, w.2.1 + 1, w.2.2 + insW x)
  | (.newarray _, _, x, _) => vI st fun i t => bif Nat.beq x 0 then ∃ n, i = nI n ∧ n < 100000 ∧ w.2.1 = w.1 ∧ W' (pc + 2) lv (.ref w.1 :: t) (upA h w.1 (.inl (0, n, .inl fun _ => 0))) (w.1 + 1, w.2.1 + 1, w.2.2 + n) else False
  | (.anewarray _, _, x, _) => vI st fun i t => ∃ n, i = nI n ∧ n < 100000 ∧ w.2.1 = w.1 ∧ W' (pc + 3) lv (.ref w.1 :: t) (upA h w.1 (.inl (x, n, .inr (.inr (.inr (.inr fun _ => none)))))) (w.1 + 1, w.2.1 + 1, w.2.2 + n)
  | (.invokevirtual _, _, x, _) => recP x st h (callP d k x pc (mN x) lv st h w W' C K)
  | (.invokestatic _, _, x, _) => bif Nat.ble 1000 x then natP G d x pc lv st h w W' else callP d k x pc (mN x) lv st h w W' C K
  | (.invokespecial _, _, x, _) => bif Nat.beq x 1002 then objP d pc lv st h w W' else bif Nat.ble 1000 x then False else iniP (mR x) (st.drop (mN x - 1)) (callP d k x pc (mN x) lv st h w W' C K)
  | (.ireturn, _) => match st with
    | [.int x] => (match mR k with
      | some .int => K (.inl (some (.int x))) h w
      | some .boolean => (x = 0 ∨ x = 1) ∧ K (.inl (some (.int x))) h w
      | _ => False)
    | _ => False
  | (.lreturn, _) => match st with
    | [.long x] => (match mR k with
      | some .long => K (.inl (some (.long x))) h w
      | _ => False)
    | _ => False
  | (.dreturn, _) => match st with
    | [.double x] => (match mR k with
      | some .double => K (.inl (some (.double x))) h w
      | _ => False)
    | _ => False
  | (.return_, _) => match st with
    | [] => (match mR k with
      | none => K (.inl none) h w
      | _ => False)
    | _ => False
  | _ => False
def cutB (cuts : List Nat) (pc pc' : Nat) : Bool := Nat.ble pc' pc || cuts.any (fun q => Nat.beq q pc')
def vc (G : GG) (d k : Nat) (W' : WK) (C : CK) (K : AO → AH → W3 → Prop) (cuts : List Nat) : Nat → WK
  | 0, pc, lv, st, h, w => W' pc lv st h w
  | n + 1, pc, lv, st, h, w => match ce k pc with
    | none => False
    | some e => vc1 G d k (fun pc' lv' st' h' w' => bif cutB cuts pc pc' then W' pc' lv' st' h' w' else vc G d k W' C K cuts n pc' lv' st' h' w') C K e pc lv st h w
