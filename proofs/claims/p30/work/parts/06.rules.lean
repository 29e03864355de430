/-! ===== what holds all through a run; the place that a method stands in; AW, and its rules ===== -/
def ALLW : List Cond := lw_tbl.filter goodWord
theorem tb_in {z : Nat} {w : Cond} (h : tb z w = true) (hg : goodWord w = true) : w ∈ ALLW := by
  have h1 : tables_1[z]? = some w := by simpa [tb] using h
  exact List.mem_filter.mpr ⟨List.mem_append_right _ (List.mem_of_getElem? h1), hg⟩
theorem ALLW_good : GoodIn ALLW ALLW := fun w h => ⟨h, good_of_word (List.mem_filter.mp h).2⟩
def isNest (w : Cond) : Bool := match w with
  | .fieldLinkNest .. => true
  | .methodLinkNest .. => true
  | _ => false
set_option maxRecDepth 100000 in
theorem nestT_ok : nestT.all (fun z => match tables_1[z]? with | some w => isNest w | none => false) = true := by decide +kernel
def Inv (G : GG) (U : State) : Prop :=
  va_K (gD G) clsL (tysL G) U ∧
  (∀ k, k < 6 → va_Z "FlashLevels" (xnm k) "[I" (.ref (gX G k)) (gA G) U U.heap) ∧
  (∀ k, k < 7 → va_T .int (gX G k) (xlen (gL G) k) (fun j => .int (xval (gS G) k j)) (gA G) U U.heap) ∧
  vx_Zq Bundle.tN "UNASSIGNED_STACK" Bundle.steD (gA G) U U.heap ∧ vx_Zq Bundle.tN "SUPPRESSED_SENTINEL" Bundle.listD (gA G) U U.heap ∧
  (∀ q ∈ strT, ∃ sa, vk_R q.1 q.2.1 q.2.2 sa U) ∧
  (∀ z ∈ nestT, ∀ w, tables_1[z]? = some w → va_Nw w U) ∧
  (∀ i, i < 3 → va_Nw (.castable (excN i) (excN i)) U) ∧ (∀ i j, i < 3 → j < 3 → i ≠ j → True) ∧
  va_AO RX3 U ∧ va_AO RX2 U ∧ (∀ x : MethodName, Cond.declares x ∈ lw_tbl → va_Nw (.declares x) U)
theorem Inv.moved {G : GG} {s U : State} (hW : s.WarmedH U.vm) (hS : ∀ q : Nat, q < s.heap.size → ¬ gA G q → U.heap[q]? = s.heap[q]?) (h : Inv G s) : Inv G U := by
  obtain ⟨a1, a2, a3, a4, a5, a6, a7, a8, a9, a10, a11, a12⟩ := h
  have hv := hW.alike
  refine ⟨va_K.moved hv a1, fun k hk => (va_Z.moved hv (a2 k hk)).kept hS, fun k hk => (va_T.moved hv (a3 k hk)).kept hS, (vx_Zq.moved hv a4).kept hS, (vx_Zq.moved hv a5).kept hS, fun q hq => ?_, fun z hz w hw => ?_, fun i hi => va_Nw.warmC hW (a8 i hi), fun _ _ _ _ _ => trivial, va_AO.moved hv a10, va_AO.moved hv a11, fun x hx => va_Nw.warmD hW (a12 x hx)⟩
  · obtain ⟨sa, ha⟩ := a6 q hq
    exact ⟨sa, vk_R.warm hW ha⟩
  · have h1 := List.all_eq_true.mp nestT_ok z hz
    rw [hw] at h1
    have h2 := a7 z hz w hw
    cases w <;> first | exact va_Nw.warmF hW h2 | exact va_Nw.warmM hW h2 | cases h1
def CTX (G : GG) (d k T0 : Nat) (p : Program) (e : Env) (R : Room) (s : State) (m : MethodId) (args : Array Value) (meth : Method) (c : Code) : Prop :=
  CallFix p m c (mB k) (mL k) s args ALLW (mY k).cls ∧ meth.locks = false ∧ meth.sig.returnType = mR k ∧ meth.name = (mY k).name ∧ c.exceptionTable.toList = tableOf (mH k) ∧ Inv G s ∧ s.heap.size ≤ gB G + T0 ∧ gB G ≤ s.heap.size ∧ (gl G).stackTraces = false ∧ d ≤ R.frames ∧ 40 * d ≤ R.locals ∧ k < nMeth
def AW (G : GG) (k T0 s0 : Nat) (p : Program) (e : Env) (R : Room) (s : State) (m : MethodId) (args : Array Value) (below : List Frame) (meth : Method) (c : Code) (Q : State → Prop) (pc : Nat) (lv : AL) (st : List Value) (h : AH) (w : W3) : Prop :=
  ∀ (H : Heap) (locs : List Loc) (ls : Array Slot) (cells slots : Nat), T0 + cells = w.2.1 → s0 + slots = w.2.2 → LV G lv ls → lv.length = mL k → Rep G h w.1 H → va_S (gA G) s.heap H locs → W p (gl G) e R s m args below meth c H locs cells slots Q (F0 m pc ls (st.map (cv G)))
section AWR
variable {G : GG} {d k T0 s0 : Nat} {p : Program} {e : Env} {R : Room} {s : State} {m : MethodId} {args : Array Value} {below : List Frame} {meth : Method} {c : Code} {Q : State → Prop}
variable {pc : Nat} {lv : AL} {st : List Value} {h : AH} {w : W3}
theorem CTX.x (C : CTX G d k T0 p e R s m args meth c) : p.tables.exec = Jvm.exec := C.1.1
theorem CTX.b (C : CTX G d k T0 p e R s m args meth c) : c.code = mB k := C.1.2.1
theorem CTX.ml (C : CTX G d k T0 p e R s m args meth c) : c.maxLocals = mL k := C.1.2.2.1
theorem CTX.own (C : CTX G d k T0 p e R s m args meth c) : s.vm.findClass (mY k).cls = some m.cls := C.1.2.2.2.1
theorem CTX.ts (C : CTX G d k T0 p e R s m args meth c) : ∀ w ∈ ALLW, w.before args s = true := C.1.2.2.2.2
theorem CTX.wd (C : CTX G d k T0 p e R s m args meth c) {z : Nat} {w : Cond} (h : tb z w = true) (hg : goodWord w = true) : w.before args s = true := C.ts w (tb_in h hg)
theorem CTX.inv (C : CTX G d k T0 p e R s m args meth c) : Inv G s := C.2.2.2.2.2.1

theorem aw_iconst (C : CTX G d k T0 p e R s m args meth c) {n : Int} (hd : decode (mB k) pc = .ok (.iconst n, 1))  (kk : AW G k T0 s0 p e R s m args below meth c Q (pc + 1) lv (.int (Int32.ofInt n) :: st) h w) : AW G k T0 s0 p e R s m args below meth c Q pc lv (st) h w := by
  intro H locs ls cells slots e1 e2 hl hn hR hS
  exact lv_iconst C.x C.b hd rfl (kk H locs ls cells slots e1 e2 hl hn hR hS)
theorem aw_bipush (C : CTX G d k T0 p e R s m args meth c) {n : Int} (hd : decode (mB k) pc = .ok (.bipush n, 2))  (kk : AW G k T0 s0 p e R s m args below meth c Q (pc + 2) lv (.int (Int8.ofInt n).toInt32 :: st) h w) : AW G k T0 s0 p e R s m args below meth c Q pc lv (st) h w := by
  intro H locs ls cells slots e1 e2 hl hn hR hS
  exact lv_bipush C.x C.b hd rfl (kk H locs ls cells slots e1 e2 hl hn hR hS)
theorem aw_sipush (C : CTX G d k T0 p e R s m args meth c) {n : Int} (hd : decode (mB k) pc = .ok (.sipush n, 3))  (kk : AW G k T0 s0 p e R s m args below meth c Q (pc + 3) lv (.int (Int16.ofInt n).toInt32 :: st) h w) : AW G k T0 s0 p e R s m args below meth c Q pc lv (st) h w := by
  intro H locs ls cells slots e1 e2 hl hn hR hS
  exact lv_sipush C.x C.b hd rfl (kk H locs ls cells slots e1 e2 hl hn hR hS)
theorem aw_lconst (C : CTX G d k T0 p e R s m args meth c) {n : Fin 2} (hd : decode (mB k) pc = .ok (.lconst n, 1))  (kk : AW G k T0 s0 p e R s m args below meth c Q (pc + 1) lv (.long (Int64.ofNat (n : Nat)) :: st) h w) : AW G k T0 s0 p e R s m args below meth c Q pc lv (st) h w := by
  intro H locs ls cells slots e1 e2 hl hn hR hS
  exact lv_lconst C.x C.b hd rfl (kk H locs ls cells slots e1 e2 hl hn hR hS)
theorem aw_dconst0 (C : CTX G d k T0 p e R s m args meth c)  (hd : decode (mB k) pc = .ok (.dconst 0, 1))  (kk : AW G k T0 s0 p e R s m args below meth c Q (pc + 1) lv (.double FP.dconst0 :: st) h w) : AW G k T0 s0 p e R s m args below meth c Q pc lv (st) h w := by
  intro H locs ls cells slots e1 e2 hl hn hR hS
  exact lv_dconst0 C.x C.b hd (kk H locs ls cells slots e1 e2 hl hn hR hS)
theorem aw_dconst1 (C : CTX G d k T0 p e R s m args meth c)  (hd : decode (mB k) pc = .ok (.dconst 1, 1))  (kk : AW G k T0 s0 p e R s m args below meth c Q (pc + 1) lv (.double FP.dconst1 :: st) h w) : AW G k T0 s0 p e R s m args below meth c Q pc lv (st) h w := by
  intro H locs ls cells slots e1 e2 hl hn hR hS
  exact lv_dconst1 C.x C.b hd (kk H locs ls cells slots e1 e2 hl hn hR hS)
theorem aw_iadd (C : CTX G d k T0 p e R s m args meth c) {x y : Int32} (hd : decode (mB k) pc = .ok (.iadd, 1))  (kk : AW G k T0 s0 p e R s m args below meth c Q (pc + 1) lv (.int (x + y) :: st) h w) : AW G k T0 s0 p e R s m args below meth c Q pc lv (.int y :: .int x :: st) h w := by
  intro H locs ls cells slots e1 e2 hl hn hR hS
  exact lv_iadd C.x C.b hd (kk H locs ls cells slots e1 e2 hl hn hR hS)
theorem aw_isub (C : CTX G d k T0 p e R s m args meth c) {x y : Int32} (hd : decode (mB k) pc = .ok (.isub, 1))  (kk : AW G k T0 s0 p e R s m args below meth c Q (pc + 1) lv (.int (x - y) :: st) h w) : AW G k T0 s0 p e R s m args below meth c Q pc lv (.int y :: .int x :: st) h w := by
  intro H locs ls cells slots e1 e2 hl hn hR hS
  exact lv_isub C.x C.b hd (kk H locs ls cells slots e1 e2 hl hn hR hS)
theorem aw_imul (C : CTX G d k T0 p e R s m args meth c) {x y : Int32} (hd : decode (mB k) pc = .ok (.imul, 1))  (kk : AW G k T0 s0 p e R s m args below meth c Q (pc + 1) lv (.int (x * y) :: st) h w) : AW G k T0 s0 p e R s m args below meth c Q pc lv (.int y :: .int x :: st) h w := by
  intro H locs ls cells slots e1 e2 hl hn hR hS
  exact lv_imul C.x C.b hd (kk H locs ls cells slots e1 e2 hl hn hR hS)
theorem aw_iand (C : CTX G d k T0 p e R s m args meth c) {x y : Int32} (hd : decode (mB k) pc = .ok (.iand, 1))  (kk : AW G k T0 s0 p e R s m args below meth c Q (pc + 1) lv (.int (x &&& y) :: st) h w) : AW G k T0 s0 p e R s m args below meth c Q pc lv (.int y :: .int x :: st) h w := by
  intro H locs ls cells slots e1 e2 hl hn hR hS
  exact lv_iand C.x C.b hd (kk H locs ls cells slots e1 e2 hl hn hR hS)
theorem aw_ior (C : CTX G d k T0 p e R s m args meth c) {x y : Int32} (hd : decode (mB k) pc = .ok (.ior, 1))  (kk : AW G k T0 s0 p e R s m args below meth c Q (pc + 1) lv (.int (x ||| y) :: st) h w) : AW G k T0 s0 p e R s m args below meth c Q pc lv (.int y :: .int x :: st) h w := by
  intro H locs ls cells slots e1 e2 hl hn hR hS
  exact lv_ior C.x C.b hd (kk H locs ls cells slots e1 e2 hl hn hR hS)
theorem aw_ixor (C : CTX G d k T0 p e R s m args meth c) {x y : Int32} (hd : decode (mB k) pc = .ok (.ixor, 1))  (kk : AW G k T0 s0 p e R s m args below meth c Q (pc + 1) lv (.int (x ^^^ y) :: st) h w) : AW G k T0 s0 p e R s m args below meth c Q pc lv (.int y :: .int x :: st) h w := by
  intro H locs ls cells slots e1 e2 hl hn hR hS
  exact lv_ixor C.x C.b hd (kk H locs ls cells slots e1 e2 hl hn hR hS)
theorem aw_ishl (C : CTX G d k T0 p e R s m args meth c) {x y : Int32} (hd : decode (mB k) pc = .ok (.ishl, 1))  (kk : AW G k T0 s0 p e R s m args below meth c Q (pc + 1) lv (.int (x <<< (y &&& 31)) :: st) h w) : AW G k T0 s0 p e R s m args below meth c Q pc lv (.int y :: .int x :: st) h w := by
  intro H locs ls cells slots e1 e2 hl hn hR hS
  exact lv_ishl C.x C.b hd (kk H locs ls cells slots e1 e2 hl hn hR hS)
theorem aw_ishr (C : CTX G d k T0 p e R s m args meth c) {x y : Int32} (hd : decode (mB k) pc = .ok (.ishr, 1))  (kk : AW G k T0 s0 p e R s m args below meth c Q (pc + 1) lv (.int (x >>> (y &&& 31)) :: st) h w) : AW G k T0 s0 p e R s m args below meth c Q pc lv (.int y :: .int x :: st) h w := by
  intro H locs ls cells slots e1 e2 hl hn hR hS
  exact lv_ishr C.x C.b hd (kk H locs ls cells slots e1 e2 hl hn hR hS)
theorem aw_iushr (C : CTX G d k T0 p e R s m args meth c) {x y : Int32} (hd : decode (mB k) pc = .ok (.iushr, 1))  (kk : AW G k T0 s0 p e R s m args below meth c Q (pc + 1) lv (.int (x.toUInt32 >>> (y.toUInt32 &&& Int32.toUInt32 31)).toInt32 :: st) h w) : AW G k T0 s0 p e R s m args below meth c Q pc lv (.int y :: .int x :: st) h w := by
  intro H locs ls cells slots e1 e2 hl hn hR hS
  exact lv_iushr C.x C.b hd rfl (kk H locs ls cells slots e1 e2 hl hn hR hS)
theorem aw_ineg (C : CTX G d k T0 p e R s m args meth c) {x : Int32} (hd : decode (mB k) pc = .ok (.ineg, 1))  (kk : AW G k T0 s0 p e R s m args below meth c Q (pc + 1) lv (.int (-x) :: st) h w) : AW G k T0 s0 p e R s m args below meth c Q pc lv (.int x :: st) h w := by
  intro H locs ls cells slots e1 e2 hl hn hR hS
  exact lv_ineg C.x C.b hd (kk H locs ls cells slots e1 e2 hl hn hR hS)
theorem aw_idiv (C : CTX G d k T0 p e R s m args meth c) {x y : Int32} (hd : decode (mB k) pc = .ok (.idiv, 1)) (hne : ¬ y = 0) (kk : AW G k T0 s0 p e R s m args below meth c Q (pc + 1) lv (.int (x / y) :: st) h w) : AW G k T0 s0 p e R s m args below meth c Q pc lv (.int y :: .int x :: st) h w := by
  intro H locs ls cells slots e1 e2 hl hn hR hS
  exact lv_idiv C.x C.b hd hne (kk H locs ls cells slots e1 e2 hl hn hR hS)
theorem aw_irem (C : CTX G d k T0 p e R s m args meth c) {x y : Int32} (hd : decode (mB k) pc = .ok (.irem, 1)) (hne : ¬ y = 0) (kk : AW G k T0 s0 p e R s m args below meth c Q (pc + 1) lv (.int (x - x / y * y) :: st) h w) : AW G k T0 s0 p e R s m args below meth c Q pc lv (.int y :: .int x :: st) h w := by
  intro H locs ls cells slots e1 e2 hl hn hR hS
  exact lv_irem C.x C.b hd hne (kk H locs ls cells slots e1 e2 hl hn hR hS)
theorem aw_ladd (C : CTX G d k T0 p e R s m args meth c) {x y : Int64} (hd : decode (mB k) pc = .ok (.ladd, 1))  (kk : AW G k T0 s0 p e R s m args below meth c Q (pc + 1) lv (.long (x + y) :: st) h w) : AW G k T0 s0 p e R s m args below meth c Q pc lv (.long y :: .long x :: st) h w := by
  intro H locs ls cells slots e1 e2 hl hn hR hS
  exact lv_ladd C.x C.b hd (kk H locs ls cells slots e1 e2 hl hn hR hS)
theorem aw_lsub (C : CTX G d k T0 p e R s m args meth c) {x y : Int64} (hd : decode (mB k) pc = .ok (.lsub, 1))  (kk : AW G k T0 s0 p e R s m args below meth c Q (pc + 1) lv (.long (x - y) :: st) h w) : AW G k T0 s0 p e R s m args below meth c Q pc lv (.long y :: .long x :: st) h w := by
  intro H locs ls cells slots e1 e2 hl hn hR hS
  exact lv_lsub C.x C.b hd (kk H locs ls cells slots e1 e2 hl hn hR hS)
theorem aw_lmul (C : CTX G d k T0 p e R s m args meth c) {x y : Int64} (hd : decode (mB k) pc = .ok (.lmul, 1))  (kk : AW G k T0 s0 p e R s m args below meth c Q (pc + 1) lv (.long (x * y) :: st) h w) : AW G k T0 s0 p e R s m args below meth c Q pc lv (.long y :: .long x :: st) h w := by
  intro H locs ls cells slots e1 e2 hl hn hR hS
  exact lv_lmul C.x C.b hd (kk H locs ls cells slots e1 e2 hl hn hR hS)
theorem aw_land (C : CTX G d k T0 p e R s m args meth c) {x y : Int64} (hd : decode (mB k) pc = .ok (.land, 1))  (kk : AW G k T0 s0 p e R s m args below meth c Q (pc + 1) lv (.long (x &&& y) :: st) h w) : AW G k T0 s0 p e R s m args below meth c Q pc lv (.long y :: .long x :: st) h w := by
  intro H locs ls cells slots e1 e2 hl hn hR hS
  exact lv_land C.x C.b hd (kk H locs ls cells slots e1 e2 hl hn hR hS)
theorem aw_lrem (C : CTX G d k T0 p e R s m args meth c) {x y : Int64} (hd : decode (mB k) pc = .ok (.lrem, 1)) (hne : ¬ y = 0) (kk : AW G k T0 s0 p e R s m args below meth c Q (pc + 1) lv (.long (x - x / y * y) :: st) h w) : AW G k T0 s0 p e R s m args below meth c Q pc lv (.long y :: .long x :: st) h w := by
  intro H locs ls cells slots e1 e2 hl hn hR hS
  exact lv_lrem C.x C.b hd hne (kk H locs ls cells slots e1 e2 hl hn hR hS)
theorem aw_lshl (C : CTX G d k T0 p e R s m args meth c) {x : Int64} {y : Int32} (hd : decode (mB k) pc = .ok (.lshl, 1))  (kk : AW G k T0 s0 p e R s m args below meth c Q (pc + 1) lv (.long (x <<< (y.toInt64 &&& 63)) :: st) h w) : AW G k T0 s0 p e R s m args below meth c Q pc lv (.int y :: .long x :: st) h w := by
  intro H locs ls cells slots e1 e2 hl hn hR hS
  exact lv_lshl C.x C.b hd rfl (kk H locs ls cells slots e1 e2 hl hn hR hS)
theorem aw_i2l (C : CTX G d k T0 p e R s m args meth c) {x : Int32} (hd : decode (mB k) pc = .ok (.i2l, 1))  (kk : AW G k T0 s0 p e R s m args below meth c Q (pc + 1) lv (.long x.toInt64 :: st) h w) : AW G k T0 s0 p e R s m args below meth c Q pc lv (.int x :: st) h w := by
  intro H locs ls cells slots e1 e2 hl hn hR hS
  exact lv_i2l C.x C.b hd rfl (kk H locs ls cells slots e1 e2 hl hn hR hS)
theorem aw_l2i (C : CTX G d k T0 p e R s m args meth c) {x : Int64} (hd : decode (mB k) pc = .ok (.l2i, 1))  (kk : AW G k T0 s0 p e R s m args below meth c Q (pc + 1) lv (.int x.toInt32 :: st) h w) : AW G k T0 s0 p e R s m args below meth c Q pc lv (.long x :: st) h w := by
  intro H locs ls cells slots e1 e2 hl hn hR hS
  exact lv_l2i C.x C.b hd rfl (kk H locs ls cells slots e1 e2 hl hn hR hS)
theorem aw_i2d (C : CTX G d k T0 p e R s m args meth c) {x : Int32} (hd : decode (mB k) pc = .ok (.i2d, 1))  (kk : AW G k T0 s0 p e R s m args below meth c Q (pc + 1) lv (.double (FP.i2d x) :: st) h w) : AW G k T0 s0 p e R s m args below meth c Q pc lv (.int x :: st) h w := by
  intro H locs ls cells slots e1 e2 hl hn hR hS
  exact lv_i2d C.x C.b hd (kk H locs ls cells slots e1 e2 hl hn hR hS)
theorem aw_d2l (C : CTX G d k T0 p e R s m args meth c) {x : UInt64} (hd : decode (mB k) pc = .ok (.d2l, 1))  (kk : AW G k T0 s0 p e R s m args below meth c Q (pc + 1) lv (.long (FP.d2l x) :: st) h w) : AW G k T0 s0 p e R s m args below meth c Q pc lv (.double x :: st) h w := by
  intro H locs ls cells slots e1 e2 hl hn hR hS
  exact lv_d2l C.x C.b hd (kk H locs ls cells slots e1 e2 hl hn hR hS)
theorem aw_lcmp (C : CTX G d k T0 p e R s m args meth c) {x y : Int64} (hd : decode (mB k) pc = .ok (.lcmp, 1))  (kk : AW G k T0 s0 p e R s m args below meth c Q (pc + 1) lv (.int (lg_cmp x y) :: st) h w) : AW G k T0 s0 p e R s m args below meth c Q pc lv (.long y :: .long x :: st) h w := by
  intro H locs ls cells slots e1 e2 hl hn hR hS
  exact W.lcmp C.x C.b hd (kk H locs ls cells slots e1 e2 hl hn hR hS)
theorem aw_dcmp (C : CTX G d k T0 p e R s m args meth c) {x y : UInt64} {op : CmpOp} (hd : decode (mB k) pc = .ok (.dcmp op, 1))  (kk : AW G k T0 s0 p e R s m args below meth c Q (pc + 1) lv (.int (Op.cmpValue (FP.dcmp x y) op) :: st) h w) : AW G k T0 s0 p e R s m args below meth c Q pc lv (.double y :: .double x :: st) h w := by
  intro H locs ls cells slots e1 e2 hl hn hR hS
  exact lv_dcmp C.x C.b hd (kk H locs ls cells slots e1 e2 hl hn hR hS)
theorem aw_ddiv (C : CTX G d k T0 p e R s m args meth c) {x y : UInt64} (hd : decode (mB k) pc = .ok (.ddiv, 1)) (hne : vf_n64 (FP.ddiv x y)) (kk : AW G k T0 s0 p e R s m args below meth c Q (pc + 1) lv (.double (FP.ddiv x y) :: st) h w) : AW G k T0 s0 p e R s m args below meth c Q pc lv (.double y :: .double x :: st) h w := by
  intro H locs ls cells slots e1 e2 hl hn hR hS
  exact lv_ddiv C.x C.b hd hne (kk H locs ls cells slots e1 e2 hl hn hR hS)
theorem aw_dmul (C : CTX G d k T0 p e R s m args meth c) {x y : UInt64} (hd : decode (mB k) pc = .ok (.dmul, 1)) (hne : vf_n64 (FP.dmul x y)) (kk : AW G k T0 s0 p e R s m args below meth c Q (pc + 1) lv (.double (FP.dmul x y) :: st) h w) : AW G k T0 s0 p e R s m args below meth c Q pc lv (.double y :: .double x :: st) h w := by
  intro H locs ls cells slots e1 e2 hl hn hR hS
  exact lv_dmul C.x C.b hd hne (kk H locs ls cells slots e1 e2 hl hn hR hS)
theorem aw_dsub (C : CTX G d k T0 p e R s m args meth c) {x y : UInt64} (hd : decode (mB k) pc = .ok (.dsub, 1)) (hne : vf_n64 (FP.dsub x y)) (kk : AW G k T0 s0 p e R s m args below meth c Q (pc + 1) lv (.double (FP.dsub x y) :: st) h w) : AW G k T0 s0 p e R s m args below meth c Q pc lv (.double y :: .double x :: st) h w := by
  intro H locs ls cells slots e1 e2 hl hn hR hS
  exact lv_dsub C.x C.b hd hne (kk H locs ls cells slots e1 e2 hl hn hR hS)
theorem aw_dup (C : CTX G d k T0 p e R s m args meth c) {a : Value} (hd : decode (mB k) pc = .ok (.dup, 1)) (hc : a.category = 1) (kk : AW G k T0 s0 p e R s m args below meth c Q (pc + 1) lv (a :: a :: st) h w) : AW G k T0 s0 p e R s m args below meth c Q pc lv (a :: st) h w := by
  intro H locs ls cells slots e1 e2 hl hn hR hS
  exact lv_dup C.x C.b hd (cv_cat.trans hc) (kk H locs ls cells slots e1 e2 hl hn hR hS)
theorem aw_dup2 (C : CTX G d k T0 p e R s m args meth c) {a b : Value} (hd : decode (mB k) pc = .ok (.dup2, 1)) (hc : a.category = 1) (hc2 : b.category = 1) (kk : AW G k T0 s0 p e R s m args below meth c Q (pc + 1) lv (a :: b :: a :: b :: st) h w) : AW G k T0 s0 p e R s m args below meth c Q pc lv (a :: b :: st) h w := by
  intro H locs ls cells slots e1 e2 hl hn hR hS
  exact lv_dup2_11 C.x C.b hd (cv_cat.trans hc) (cv_cat.trans hc2) (kk H locs ls cells slots e1 e2 hl hn hR hS)
theorem aw_iload (C : CTX G d k T0 p e R s m args meth c) {i : Nat} {x : Int32} (hd : decode (mB k) pc = .ok (.iload i, 2)) (hi : lv[i]? = some (some (.int x))) (kk : AW G k T0 s0 p e R s m args below meth c Q (pc + 2) lv (.int x :: st) h w) : AW G k T0 s0 p e R s m args below meth c Q pc lv st h w := by
  intro H locs ls cells slots e1 e2 hl hn hR hS
  exact lv_iload C.x C.b hd (hl.at hi) (kk H locs ls cells slots e1 e2 hl hn hR hS)
theorem aw_iload_n (C : CTX G d k T0 p e R s m args meth c) {i : Fin 4} {x : Int32} (hd : decode (mB k) pc = .ok (.iload_n i, 1)) (hi : lv[(i : Nat)]? = some (some (.int x))) (kk : AW G k T0 s0 p e R s m args below meth c Q (pc + 1) lv (.int x :: st) h w) : AW G k T0 s0 p e R s m args below meth c Q pc lv st h w := by
  intro H locs ls cells slots e1 e2 hl hn hR hS
  exact lv_iload_n C.x C.b hd rfl (hl.at hi) (kk H locs ls cells slots e1 e2 hl hn hR hS)
theorem aw_lload (C : CTX G d k T0 p e R s m args meth c) {i : Nat} {x : Int64} (hd : decode (mB k) pc = .ok (.lload i, 2)) (hi : lv[i]? = some (some (.long x))) (kk : AW G k T0 s0 p e R s m args below meth c Q (pc + 2) lv (.long x :: st) h w) : AW G k T0 s0 p e R s m args below meth c Q pc lv st h w := by
  intro H locs ls cells slots e1 e2 hl hn hR hS
  exact lv_lload C.x C.b hd (hl.at hi) (kk H locs ls cells slots e1 e2 hl hn hR hS)
theorem aw_lload_n (C : CTX G d k T0 p e R s m args meth c) {i : Fin 4} {x : Int64} (hd : decode (mB k) pc = .ok (.lload_n i, 1)) (hi : lv[(i : Nat)]? = some (some (.long x))) (kk : AW G k T0 s0 p e R s m args below meth c Q (pc + 1) lv (.long x :: st) h w) : AW G k T0 s0 p e R s m args below meth c Q pc lv st h w := by
  intro H locs ls cells slots e1 e2 hl hn hR hS
  exact lv_lload_n C.x C.b hd rfl (hl.at hi) (kk H locs ls cells slots e1 e2 hl hn hR hS)
theorem aw_dload (C : CTX G d k T0 p e R s m args meth c) {i : Nat} {x : UInt64} (hd : decode (mB k) pc = .ok (.dload i, 2)) (hi : lv[i]? = some (some (.double x))) (kk : AW G k T0 s0 p e R s m args below meth c Q (pc + 2) lv (.double x :: st) h w) : AW G k T0 s0 p e R s m args below meth c Q pc lv st h w := by
  intro H locs ls cells slots e1 e2 hl hn hR hS
  exact lv_dload C.x C.b hd (hl.at hi) (kk H locs ls cells slots e1 e2 hl hn hR hS)
theorem aw_dload_n (C : CTX G d k T0 p e R s m args meth c) {i : Fin 4} {x : UInt64} (hd : decode (mB k) pc = .ok (.dload_n i, 1)) (hi : lv[(i : Nat)]? = some (some (.double x))) (kk : AW G k T0 s0 p e R s m args below meth c Q (pc + 1) lv (.double x :: st) h w) : AW G k T0 s0 p e R s m args below meth c Q pc lv st h w := by
  intro H locs ls cells slots e1 e2 hl hn hR hS
  exact lv_dload_n C.x C.b hd rfl (hl.at hi) (kk H locs ls cells slots e1 e2 hl hn hR hS)
theorem aw_aload (C : CTX G d k T0 p e R s m args meth c) {i : Nat} {x : Nat} (hd : decode (mB k) pc = .ok (.aload i, 2)) (hi : lv[i]? = some (some (.ref x))) (kk : AW G k T0 s0 p e R s m args below meth c Q (pc + 2) lv (.ref x :: st) h w) : AW G k T0 s0 p e R s m args below meth c Q pc lv st h w := by
  intro H locs ls cells slots e1 e2 hl hn hR hS
  exact lv_aload C.x C.b hd (hl.at hi) (kk H locs ls cells slots e1 e2 hl hn hR hS)
theorem aw_aload_n (C : CTX G d k T0 p e R s m args meth c) {i : Fin 4} {x : Nat} (hd : decode (mB k) pc = .ok (.aload_n i, 1)) (hi : lv[(i : Nat)]? = some (some (.ref x))) (kk : AW G k T0 s0 p e R s m args below meth c Q (pc + 1) lv (.ref x :: st) h w) : AW G k T0 s0 p e R s m args below meth c Q pc lv st h w := by
  intro H locs ls cells slots e1 e2 hl hn hR hS
  exact lv_aload_n C.x C.b hd rfl (hl.at hi) (kk H locs ls cells slots e1 e2 hl hn hR hS)
theorem aw_aload_x (C : CTX G d k T0 p e R s m args meth c) {i : Nat} {x : Nat} (hd : decode (mB k) pc = .ok (.aload i, 2)) (hi : lv[i]? = some (some (.retAddr x))) (kk : AW G k T0 s0 p e R s m args below meth c Q (pc + 2) lv (.retAddr x :: st) h w) : AW G k T0 s0 p e R s m args below meth c Q pc lv st h w := by
  intro H locs ls cells slots e1 e2 hl hn hR hS
  exact lv_aload C.x C.b hd (hl.at hi) (kk H locs ls cells slots e1 e2 hl hn hR hS)
theorem aw_aload_nx (C : CTX G d k T0 p e R s m args meth c) {i : Fin 4} {x : Nat} (hd : decode (mB k) pc = .ok (.aload_n i, 1)) (hi : lv[(i : Nat)]? = some (some (.retAddr x))) (kk : AW G k T0 s0 p e R s m args below meth c Q (pc + 1) lv (.retAddr x :: st) h w) : AW G k T0 s0 p e R s m args below meth c Q pc lv st h w := by
  intro H locs ls cells slots e1 e2 hl hn hR hS
  exact lv_aload_n C.x C.b hd rfl (hl.at hi) (kk H locs ls cells slots e1 e2 hl hn hR hS)
theorem aw_istore (C : CTX G d k T0 p e R s m args meth c) {i : Nat} {x : Int32} (hd : decode (mB k) pc = .ok (.istore i, 2)) (hi : i < mL k) (kk : AW G k T0 s0 p e R s m args below meth c Q (pc + 2) (st1 lv i (some (.int x))) st h w) : AW G k T0 s0 p e R s m args below meth c Q pc lv (.int x :: st) h w := by
  intro H locs ls cells slots e1 e2 hl hn hR hS
  exact lv_istore C.x C.b hd hl (hn.symm ▸ hi) rfl (fun ls1 hl1 => kk H locs ls1 cells slots e1 e2 (LV.st1 (v := some (.int x)) hl1 (Or.inr ⟨_, rfl, rfl⟩)) ((st1_len _ _ _).trans hn) hR hS)
theorem aw_istore_n (C : CTX G d k T0 p e R s m args meth c) {i : Fin 4} {x : Int32} (hd : decode (mB k) pc = .ok (.istore_n i, 1)) (hi : (i : Nat) < mL k) (kk : AW G k T0 s0 p e R s m args below meth c Q (pc + 1) (st1 lv (i : Nat) (some (.int x))) st h w) : AW G k T0 s0 p e R s m args below meth c Q pc lv (.int x :: st) h w := by
  intro H locs ls cells slots e1 e2 hl hn hR hS
  exact lv_istore_n C.x C.b hd rfl hl (hn.symm ▸ hi) rfl (fun ls1 hl1 => kk H locs ls1 cells slots e1 e2 (LV.st1 (v := some (.int x)) hl1 (Or.inr ⟨_, rfl, rfl⟩)) ((st1_len _ _ _).trans hn) hR hS)
theorem aw_astore (C : CTX G d k T0 p e R s m args meth c) {i : Nat} {x : Nat} (hd : decode (mB k) pc = .ok (.astore i, 2)) (hi : i < mL k) (kk : AW G k T0 s0 p e R s m args below meth c Q (pc + 2) (st1 lv i (some (.ref x))) st h w) : AW G k T0 s0 p e R s m args below meth c Q pc lv (.ref x :: st) h w := by
  intro H locs ls cells slots e1 e2 hl hn hR hS
  exact lv_astore C.x C.b hd hl (hn.symm ▸ hi) rfl (fun ls1 hl1 => kk H locs ls1 cells slots e1 e2 (LV.st1 (v := some (.ref x)) hl1 (Or.inr ⟨_, rfl, rfl⟩)) ((st1_len _ _ _).trans hn) hR hS)
theorem aw_astore_n (C : CTX G d k T0 p e R s m args meth c) {i : Fin 4} {x : Nat} (hd : decode (mB k) pc = .ok (.astore_n i, 1)) (hi : (i : Nat) < mL k) (kk : AW G k T0 s0 p e R s m args below meth c Q (pc + 1) (st1 lv (i : Nat) (some (.ref x))) st h w) : AW G k T0 s0 p e R s m args below meth c Q pc lv (.ref x :: st) h w := by
  intro H locs ls cells slots e1 e2 hl hn hR hS
  exact lv_astore_n C.x C.b hd rfl hl (hn.symm ▸ hi) rfl (fun ls1 hl1 => kk H locs ls1 cells slots e1 e2 (LV.st1 (v := some (.ref x)) hl1 (Or.inr ⟨_, rfl, rfl⟩)) ((st1_len _ _ _).trans hn) hR hS)
theorem aw_lstore (C : CTX G d k T0 p e R s m args meth c) {i : Nat} {x : Int64} (hd : decode (mB k) pc = .ok (.lstore i, 2)) (hi : i + 1 < mL k) (kk : AW G k T0 s0 p e R s m args below meth c Q (pc + 2) (st2 lv i (some (.long x))) st h w) : AW G k T0 s0 p e R s m args below meth c Q pc lv (.long x :: st) h w := by
  intro H locs ls cells slots e1 e2 hl hn hR hS
  exact lv_lstore C.x C.b hd hl (hn.symm ▸ hi) rfl (fun ls1 hl1 => kk H locs ls1 cells slots e1 e2 (LV.st2 (u := .long x) hl1) ((st2_len _ _ _).trans hn) hR hS)
theorem aw_lstore_n (C : CTX G d k T0 p e R s m args meth c) {i : Fin 4} {x : Int64} (hd : decode (mB k) pc = .ok (.lstore_n i, 1)) (hi : (i : Nat) + 1 < mL k) (kk : AW G k T0 s0 p e R s m args below meth c Q (pc + 1) (st2 lv (i : Nat) (some (.long x))) st h w) : AW G k T0 s0 p e R s m args below meth c Q pc lv (.long x :: st) h w := by
  intro H locs ls cells slots e1 e2 hl hn hR hS
  exact lv_lstore_n C.x C.b hd rfl hl (hn.symm ▸ hi) rfl (fun ls1 hl1 => kk H locs ls1 cells slots e1 e2 (LV.st2 (u := .long x) hl1) ((st2_len _ _ _).trans hn) hR hS)
theorem aw_dstore (C : CTX G d k T0 p e R s m args meth c) {i : Nat} {x : UInt64} (hd : decode (mB k) pc = .ok (.dstore i, 2)) (hi : i + 1 < mL k) (kk : AW G k T0 s0 p e R s m args below meth c Q (pc + 2) (st2 lv i (some (.double x))) st h w) : AW G k T0 s0 p e R s m args below meth c Q pc lv (.double x :: st) h w := by
  intro H locs ls cells slots e1 e2 hl hn hR hS
  exact lv_dstore C.x C.b hd hl (hn.symm ▸ hi) rfl (fun ls1 hl1 => kk H locs ls1 cells slots e1 e2 (LV.st2 (u := .double x) hl1) ((st2_len _ _ _).trans hn) hR hS)
theorem aw_dstore_n (C : CTX G d k T0 p e R s m args meth c) {i : Fin 4} {x : UInt64} (hd : decode (mB k) pc = .ok (.dstore_n i, 1)) (hi : (i : Nat) + 1 < mL k) (kk : AW G k T0 s0 p e R s m args below meth c Q (pc + 1) (st2 lv (i : Nat) (some (.double x))) st h w) : AW G k T0 s0 p e R s m args below meth c Q pc lv (.double x :: st) h w := by
  intro H locs ls cells slots e1 e2 hl hn hR hS
  exact lv_dstore_n C.x C.b hd rfl hl (hn.symm ▸ hi) rfl (fun ls1 hl1 => kk H locs ls1 cells slots e1 e2 (LV.st2 (u := .double x) hl1) ((st2_len _ _ _).trans hn) hR hS)
theorem aw_iinc (C : CTX G d k T0 p e R s m args meth c) {i : Nat} {n : Int} {x : Int32} (hd : decode (mB k) pc = .ok (.iinc i n, 3)) (hx : lv[i]? = some (some (.int x))) (hi : i < mL k) (kk : AW G k T0 s0 p e R s m args below meth c Q (pc + 3) (st1 lv i (some (.int (x + Int32.ofInt n)))) st h w) : AW G k T0 s0 p e R s m args below meth c Q pc lv st h w := by
  intro H locs ls cells slots e1 e2 hl hn hR hS
  have hm : (i, Value.int x) ∈ asc G 0 lv := (asc_mem lv 0 i _).mpr ⟨i, .int x, hx, by omega, rfl⟩
  obtain ⟨q, hq⟩ := List.getElem?_of_mem hm
  exact lv_iinc (k := q) C.x C.b hd hl hq rfl (hn.symm ▸ hi) rfl (fun ls1 hl1 => kk H locs ls1 cells slots e1 e2 (LV.st1 (v := some (.int (x + Int32.ofInt n))) hl1 (Or.inr ⟨_, rfl, rfl⟩)) ((st1_len _ _ _).trans hn) hR hS)
theorem aw_if_eq (C : CTX G d k T0 p e R s m args meth c) {x : Int32} {off : Int} {tgt : Nat} (hd : decode (mB k) pc = .ok (.ifCond .eq off, 3)) (ht : (pc : Int) + off = (tgt : Int)) (kt : x = 0 → AW G k T0 s0 p e R s m args below meth c Q tgt lv st h w) (kf : ¬ x = 0 → AW G k T0 s0 p e R s m args below meth c Q (pc + 3) lv st h w) : AW G k T0 s0 p e R s m args below meth c Q pc lv (.int x :: st) h w := by
  intro H locs ls cells slots e1 e2 hl hn hR hS
  exact lv_if_eq C.x C.b hd ht (fun q => kt q H locs ls cells slots e1 e2 hl hn hR hS) (fun q => kf q H locs ls cells slots e1 e2 hl hn hR hS)
theorem aw_if_ne (C : CTX G d k T0 p e R s m args meth c) {x : Int32} {off : Int} {tgt : Nat} (hd : decode (mB k) pc = .ok (.ifCond .ne off, 3)) (ht : (pc : Int) + off = (tgt : Int)) (kt : ¬ x = 0 → AW G k T0 s0 p e R s m args below meth c Q tgt lv st h w) (kf : x = 0 → AW G k T0 s0 p e R s m args below meth c Q (pc + 3) lv st h w) : AW G k T0 s0 p e R s m args below meth c Q pc lv (.int x :: st) h w := by
  intro H locs ls cells slots e1 e2 hl hn hR hS
  exact lv_if_ne C.x C.b hd ht (fun q => kt q H locs ls cells slots e1 e2 hl hn hR hS) (fun q => kf q H locs ls cells slots e1 e2 hl hn hR hS)
theorem aw_if_lt (C : CTX G d k T0 p e R s m args meth c) {x : Int32} {off : Int} {tgt : Nat} (hd : decode (mB k) pc = .ok (.ifCond .lt off, 3)) (ht : (pc : Int) + off = (tgt : Int)) (kt : x < 0 → AW G k T0 s0 p e R s m args below meth c Q tgt lv st h w) (kf : ¬ x < 0 → AW G k T0 s0 p e R s m args below meth c Q (pc + 3) lv st h w) : AW G k T0 s0 p e R s m args below meth c Q pc lv (.int x :: st) h w := by
  intro H locs ls cells slots e1 e2 hl hn hR hS
  exact lv_if_lt C.x C.b hd ht (fun q => kt q H locs ls cells slots e1 e2 hl hn hR hS) (fun q => kf q H locs ls cells slots e1 e2 hl hn hR hS)
theorem aw_if_ge (C : CTX G d k T0 p e R s m args meth c) {x : Int32} {off : Int} {tgt : Nat} (hd : decode (mB k) pc = .ok (.ifCond .ge off, 3)) (ht : (pc : Int) + off = (tgt : Int)) (kt : 0 ≤ x → AW G k T0 s0 p e R s m args below meth c Q tgt lv st h w) (kf : ¬ 0 ≤ x → AW G k T0 s0 p e R s m args below meth c Q (pc + 3) lv st h w) : AW G k T0 s0 p e R s m args below meth c Q pc lv (.int x :: st) h w := by
  intro H locs ls cells slots e1 e2 hl hn hR hS
  exact lv_if_ge C.x C.b hd ht (fun q => kt q H locs ls cells slots e1 e2 hl hn hR hS) (fun q => kf q H locs ls cells slots e1 e2 hl hn hR hS)
theorem aw_if_gt (C : CTX G d k T0 p e R s m args meth c) {x : Int32} {off : Int} {tgt : Nat} (hd : decode (mB k) pc = .ok (.ifCond .gt off, 3)) (ht : (pc : Int) + off = (tgt : Int)) (kt : 0 < x → AW G k T0 s0 p e R s m args below meth c Q tgt lv st h w) (kf : ¬ 0 < x → AW G k T0 s0 p e R s m args below meth c Q (pc + 3) lv st h w) : AW G k T0 s0 p e R s m args below meth c Q pc lv (.int x :: st) h w := by
  intro H locs ls cells slots e1 e2 hl hn hR hS
  exact lv_if_gt C.x C.b hd ht (fun q => kt q H locs ls cells slots e1 e2 hl hn hR hS) (fun q => kf q H locs ls cells slots e1 e2 hl hn hR hS)
theorem aw_if_le (C : CTX G d k T0 p e R s m args meth c) {x : Int32} {off : Int} {tgt : Nat} (hd : decode (mB k) pc = .ok (.ifCond .le off, 3)) (ht : (pc : Int) + off = (tgt : Int)) (kt : x ≤ 0 → AW G k T0 s0 p e R s m args below meth c Q tgt lv st h w) (kf : ¬ x ≤ 0 → AW G k T0 s0 p e R s m args below meth c Q (pc + 3) lv st h w) : AW G k T0 s0 p e R s m args below meth c Q pc lv (.int x :: st) h w := by
  intro H locs ls cells slots e1 e2 hl hn hR hS
  exact lv_if_le C.x C.b hd ht (fun q => kt q H locs ls cells slots e1 e2 hl hn hR hS) (fun q => kf q H locs ls cells slots e1 e2 hl hn hR hS)
theorem aw_icmp_eq (C : CTX G d k T0 p e R s m args meth c) {x y : Int32} {off : Int} {tgt : Nat} (hd : decode (mB k) pc = .ok (.if_icmp .eq off, 3)) (ht : (pc : Int) + off = (tgt : Int)) (kt : x = y → AW G k T0 s0 p e R s m args below meth c Q tgt lv st h w) (kf : ¬ x = y → AW G k T0 s0 p e R s m args below meth c Q (pc + 3) lv st h w) : AW G k T0 s0 p e R s m args below meth c Q pc lv (.int y :: .int x :: st) h w := by
  intro H locs ls cells slots e1 e2 hl hn hR hS
  exact lv_icmp_eq C.x C.b hd ht (fun q => kt q H locs ls cells slots e1 e2 hl hn hR hS) (fun q => kf q H locs ls cells slots e1 e2 hl hn hR hS)
theorem aw_icmp_ne (C : CTX G d k T0 p e R s m args meth c) {x y : Int32} {off : Int} {tgt : Nat} (hd : decode (mB k) pc = .ok (.if_icmp .ne off, 3)) (ht : (pc : Int) + off = (tgt : Int)) (kt : ¬ x = y → AW G k T0 s0 p e R s m args below meth c Q tgt lv st h w) (kf : x = y → AW G k T0 s0 p e R s m args below meth c Q (pc + 3) lv st h w) : AW G k T0 s0 p e R s m args below meth c Q pc lv (.int y :: .int x :: st) h w := by
  intro H locs ls cells slots e1 e2 hl hn hR hS
  exact lv_icmp_ne C.x C.b hd ht (fun q => kt q H locs ls cells slots e1 e2 hl hn hR hS) (fun q => kf q H locs ls cells slots e1 e2 hl hn hR hS)
theorem aw_icmp_lt (C : CTX G d k T0 p e R s m args meth c) {x y : Int32} {off : Int} {tgt : Nat} (hd : decode (mB k) pc = .ok (.if_icmp .lt off, 3)) (ht : (pc : Int) + off = (tgt : Int)) (kt : x < y → AW G k T0 s0 p e R s m args below meth c Q tgt lv st h w) (kf : ¬ x < y → AW G k T0 s0 p e R s m args below meth c Q (pc + 3) lv st h w) : AW G k T0 s0 p e R s m args below meth c Q pc lv (.int y :: .int x :: st) h w := by
  intro H locs ls cells slots e1 e2 hl hn hR hS
  exact lv_icmp_lt C.x C.b hd ht (fun q => kt q H locs ls cells slots e1 e2 hl hn hR hS) (fun q => kf q H locs ls cells slots e1 e2 hl hn hR hS)
theorem aw_icmp_ge (C : CTX G d k T0 p e R s m args meth c) {x y : Int32} {off : Int} {tgt : Nat} (hd : decode (mB k) pc = .ok (.if_icmp .ge off, 3)) (ht : (pc : Int) + off = (tgt : Int)) (kt : y ≤ x → AW G k T0 s0 p e R s m args below meth c Q tgt lv st h w) (kf : ¬ y ≤ x → AW G k T0 s0 p e R s m args below meth c Q (pc + 3) lv st h w) : AW G k T0 s0 p e R s m args below meth c Q pc lv (.int y :: .int x :: st) h w := by
  intro H locs ls cells slots e1 e2 hl hn hR hS
  exact lv_icmp_ge C.x C.b hd ht (fun q => kt q H locs ls cells slots e1 e2 hl hn hR hS) (fun q => kf q H locs ls cells slots e1 e2 hl hn hR hS)
theorem aw_icmp_gt (C : CTX G d k T0 p e R s m args meth c) {x y : Int32} {off : Int} {tgt : Nat} (hd : decode (mB k) pc = .ok (.if_icmp .gt off, 3)) (ht : (pc : Int) + off = (tgt : Int)) (kt : y < x → AW G k T0 s0 p e R s m args below meth c Q tgt lv st h w) (kf : ¬ y < x → AW G k T0 s0 p e R s m args below meth c Q (pc + 3) lv st h w) : AW G k T0 s0 p e R s m args below meth c Q pc lv (.int y :: .int x :: st) h w := by
  intro H locs ls cells slots e1 e2 hl hn hR hS
  exact lv_icmp_gt C.x C.b hd ht (fun q => kt q H locs ls cells slots e1 e2 hl hn hR hS) (fun q => kf q H locs ls cells slots e1 e2 hl hn hR hS)
theorem aw_icmp_le (C : CTX G d k T0 p e R s m args meth c) {x y : Int32} {off : Int} {tgt : Nat} (hd : decode (mB k) pc = .ok (.if_icmp .le off, 3)) (ht : (pc : Int) + off = (tgt : Int)) (kt : x ≤ y → AW G k T0 s0 p e R s m args below meth c Q tgt lv st h w) (kf : ¬ x ≤ y → AW G k T0 s0 p e R s m args below meth c Q (pc + 3) lv st h w) : AW G k T0 s0 p e R s m args below meth c Q pc lv (.int y :: .int x :: st) h w := by
  intro H locs ls cells slots e1 e2 hl hn hR hS
  exact lv_icmp_le C.x C.b hd ht (fun q => kt q H locs ls cells slots e1 e2 hl hn hR hS) (fun q => kf q H locs ls cells slots e1 e2 hl hn hR hS)
theorem aw_goto (C : CTX G d k T0 p e R s m args meth c) {off : Int} {tgt : Nat} (hd : decode (mB k) pc = .ok (.goto off, 3)) (ht : (pc : Int) + off = (tgt : Int)) (kk : AW G k T0 s0 p e R s m args below meth c Q tgt lv st h w) : AW G k T0 s0 p e R s m args below meth c Q pc lv st h w := by
  intro H locs ls cells slots e1 e2 hl hn hR hS
  exact lv_goto C.x C.b hd ht (kk H locs ls cells slots e1 e2 hl hn hR hS)
theorem aw_lookup (C : CTX G d k T0 p e R s m args meth c) {dflt : Int} {ps : Array (Int × Int)} {len tgt : Nat} {x : Int32} {off : Int} (hd : decode (mB k) pc = .ok (.lookupswitch dflt ps, len)) (hp : (ps.toList.zip (ps.toList.drop 1)).all (fun (a, next) => a.1 < next.1) = true) (ho : Op.lookupswitch.offset ps.toList dflt x.toInt = off) (ht : (pc : Int) + off = (tgt : Int)) (kk : AW G k T0 s0 p e R s m args below meth c Q tgt lv st h w) : AW G k T0 s0 p e R s m args below meth c Q pc lv (.int x :: st) h w := by
  intro H locs ls cells slots e1 e2 hl hn hR hS
  exact lv_lookup C.x C.b hd hp ho ht (kk H locs ls cells slots e1 e2 hl hn hR hS)
theorem aw_tableOut (C : CTX G d k T0 p e R s m args meth c) {dflt lo hi : Int} {offs : Array Int} {len tgt : Nat} {x : Int32} (hd : decode (mB k) pc = .ok (.tableswitch dflt lo hi offs, len)) (hx : x.toInt < lo ∨ hi < x.toInt) (ht : (pc : Int) + dflt = (tgt : Int)) (kk : AW G k T0 s0 p e R s m args below meth c Q tgt lv st h w) : AW G k T0 s0 p e R s m args below meth c Q pc lv (.int x :: st) h w := by
  intro H locs ls cells slots e1 e2 hl hn hR hS
  exact lv_tableOut C.x C.b hd hx ht (kk H locs ls cells slots e1 e2 hl hn hR hS)
theorem aw_tableIn (C : CTX G d k T0 p e R s m args meth c) {dflt lo hi : Int} {offs : Array Int} {len tgt : Nat} {x : Int32} {off : Int} (hd : decode (mB k) pc = .ok (.tableswitch dflt lo hi offs, len)) (h1 : ¬ x.toInt < lo) (h2 : ¬ hi < x.toInt) (ho : offs[(x.toInt - lo).toNat]? = some off) (ht : (pc : Int) + off = (tgt : Int)) (kk : AW G k T0 s0 p e R s m args below meth c Q tgt lv st h w) : AW G k T0 s0 p e R s m args below meth c Q pc lv (.int x :: st) h w := by
  intro H locs ls cells slots e1 e2 hl hn hR hS
  exact lv_tableIn C.x C.b hd h1 h2 ho ht (kk H locs ls cells slots e1 e2 hl hn hR hS)
-- constants of the pool
theorem aw_ldc (C : CTX G d k T0 p e R s m args meth c) {i z : Nat} {v : Int32} (hd : decode (mB k) pc = .ok (.ldc i, 2)) (hz : tb z (.constant (mY k).cls i v) = true) (kk : AW G k T0 s0 p e R s m args below meth c Q (pc + 2) lv (.int v :: st) h w) : AW G k T0 s0 p e R s m args below meth c Q pc lv st h w := by
  intro H locs ls cells slots e1 e2 hl hn hR hS
  exact lv_ldc C.x C.b C.own (C.wd hz rfl) hd (kk H locs ls cells slots e1 e2 hl hn hR hS)
theorem aw_ldcw (C : CTX G d k T0 p e R s m args meth c) {i z : Nat} {v : Int32} (hd : decode (mB k) pc = .ok (.ldc_w i, 3)) (hz : tb z (.constant (mY k).cls i v) = true) (kk : AW G k T0 s0 p e R s m args below meth c Q (pc + 3) lv (.int v :: st) h w) : AW G k T0 s0 p e R s m args below meth c Q pc lv st h w := by
  intro H locs ls cells slots e1 e2 hl hn hR hS
  exact lv_ldcw C.x C.b C.own (C.wd hz rfl) hd (kk H locs ls cells slots e1 e2 hl hn hR hS)
theorem aw_ldc2 (C : CTX G d k T0 p e R s m args meth c) {i z : Nat} {v : Int64} (hd : decode (mB k) pc = .ok (.ldc2_w i, 3)) (hz : tb z (.constantLong (mY k).cls i v) = true) (kk : AW G k T0 s0 p e R s m args below meth c Q (pc + 3) lv (.long v :: st) h w) : AW G k T0 s0 p e R s m args below meth c Q pc lv st h w := by
  intro H locs ls cells slots e1 e2 hl hn hR hS
  exact lv_ldc2 C.x C.b C.own (C.wd hz rfl) hd (kk H locs ls cells slots e1 e2 hl hn hR hS)
theorem aw_ldc2d (C : CTX G d k T0 p e R s m args meth c) {i z : Nat} {v : UInt64} (hd : decode (mB k) pc = .ok (.ldc2_w i, 3)) (hz : tb z (.constantDouble (mY k).cls i v) = true) (kk : AW G k T0 s0 p e R s m args below meth c Q (pc + 3) lv (.double v :: st) h w) : AW G k T0 s0 p e R s m args below meth c Q pc lv st h w := by
  intro H locs ls cells slots e1 e2 hl hn hR hS
  exact lv_ldc2d C.x C.b C.own (C.wd hz rfl) hd (kk H locs ls cells slots e1 e2 hl hn hR hS)
end AWR
