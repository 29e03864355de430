/-! ===== natives, contracts, calls, returns, throws ===== -/
set_option maxRecDepth 100000 in
theorem nat_in : ∀ w ∈ ([.static arraycopyName, .native arraycopyName, .initialized "java/lang/System", .initialized "java/lang/System", .initialized "java/lang/System", .initialized "java/lang/System", .static Lib.Math.max.name, .static Lib.Math.min.name, .initialized "java/lang/Math", .code Lib.Math.max.name Lib.Math.max.code 2 (some .int), .code Lib.Math.min.name Lib.Math.min.code 2 (some .int), .instanceMethod objectInit, .code objectInit ⟨#[0xb1]⟩ 1 none] : List Cond), w ∈ lw_tbl ∧ goodWord w = true := by decide +kernel
theorem nfw_ok : nativeFrameWords "java/lang/System" "arraycopy" 5 ≤ 11 := by decide +kernel
theorem sum_cv (G : GG) (st : List Value) : ((st.map (cv G)).map fun v => v.category).sum = (st.map fun v => v.category).sum := by
  rw [List.map_map]
  congr 1
  exact List.map_congr_left fun v _ => cv_cat
theorem i32_ge0 {z : Int32} (hz : ¬ z < 0) : z.toInt = (z.toNatClampNeg : Int) := by
  have h1 : (0 : Int) ≤ z.toInt := by
    have := Int32.not_lt.mp hz
    simpa using Int32.le_iff_toInt_le.mp this
  show z.toInt = ((z.toInt.toNat : Nat) : Int)
  omega
section AWN
variable {G : GG} {d k T0 s0 : Nat} {p : Program} {e : Env} {R : Room} {s : State} {m : MethodId} {args : Array Value} {below : List Frame} {meth : Method} {c : Code} {Q : State → Prop}
variable {pc : Nat} {lv : AL} {st : List Value} {h : AH} {w : W3}
theorem CTX.nw (C : CTX G d k T0 p e R s m args meth c) {w : Cond} (i : Nat) (hi : ([.static arraycopyName, .native arraycopyName, .initialized "java/lang/System", .initialized "java/lang/System", .initialized "java/lang/System", .initialized "java/lang/System", .static Lib.Math.max.name, .static Lib.Math.min.name, .initialized "java/lang/Math", .code Lib.Math.max.name Lib.Math.max.code 2 (some .int), .code Lib.Math.min.name Lib.Math.min.code 2 (some .int), .instanceMethod objectInit, .code objectInit ⟨#[0xb1]⟩ 1 none] : List Cond)[i]? = some w) : w.before args s = true :=
  C.ts w (List.mem_filter.mpr (nat_in w (List.mem_of_getElem? hi)))
theorem CTX.room (C : CTX G (d + 1) k T0 p e R s m args meth c) : 1 ≤ R.frames ∧ 30 ≤ R.locals := ⟨Nat.le_trans (Nat.le_add_left _ _) C.2.2.2.2.2.2.2.2.2.1, by have := C.2.2.2.2.2.2.2.2.2.2.1; omega⟩
theorem aw_objInit (C : CTX G (d + 1) k T0 p e R s m args meth c) {i a z : Nat} (hd : decode (mB k) pc = .ok (.invokespecial i, 3)) (hz : tb z (.methodLink (mY k).cls i objectInit) = true) (hr : (st.map fun v => v.category).sum ≤ 8) (kk : AW G k T0 s0 p e R s m args below meth c Q (pc + 3) lv st h w) : AW G k T0 s0 p e R s m args below meth c Q pc lv (.ref a :: st) h w := by
  intro H locs ls cells slots e1 e2 hl hn hR hS
  refine W.objInit C.x C.b C.own (C.wd hz rfl) (C.nw 11 rfl) (C.nw 12 rfl) (g := F0 m pc ls (.ref (gB G + a) :: st.map (cv G))) rfl (by rw [C.ml, ← hn]; exact hl.1) rfl hd C.room.1 (by
    show 2 * 0 + _ + 12 ≤ R.locals
    rw [sum_cv]
    have := C.room.2
    omega) ?_
  exact kk H locs ls cells slots e1 e2 hl hn hR hS
theorem aw_max (C : CTX G (d + 1) k T0 p e R s m args meth c) {i z : Nat} {x y : Int32} (hd : decode (mB k) pc = .ok (.invokestatic i, 3)) (hz : tb z (.methodLink (mY k).cls i Lib.Math.max.name) = true) (hr : (st.map fun v => v.category).sum ≤ 8) (hrc : w.2.1 ≤ T0 + R.cells) (hrs : w.2.2 ≤ s0 + R.slots) (kk : AW G k T0 s0 p e R s m args below meth c Q (pc + 3) lv (.int (if x < y then y else x) :: st) h w) : AW G k T0 s0 p e R s m args below meth c Q pc lv (.int y :: .int x :: st) h w := by
  intro H locs ls cells slots e1 e2 hl hn hR hS
  exact va_mmax C.x C.b (by rw [C.ml, ← hn]; exact hl.1.symm) C.own (C.wd hz rfl) (C.nw 6 rfl) (C.nw 8 rfl) (C.nw 9 rfl) C.room.1 (by rw [sum_cv]; have := C.room.2; omega) (by omega) (by omega) hd (kk H locs ls cells slots e1 e2 hl hn hR hS)
theorem aw_min (C : CTX G (d + 1) k T0 p e R s m args meth c) {i z : Nat} {x y : Int32} (hd : decode (mB k) pc = .ok (.invokestatic i, 3)) (hz : tb z (.methodLink (mY k).cls i Lib.Math.min.name) = true) (hr : (st.map fun v => v.category).sum ≤ 8) (hrc : w.2.1 ≤ T0 + R.cells) (hrs : w.2.2 ≤ s0 + R.slots) (kk : AW G k T0 s0 p e R s m args below meth c Q (pc + 3) lv (.int (if y < x then y else x) :: st) h w) : AW G k T0 s0 p e R s m args below meth c Q pc lv (.int y :: .int x :: st) h w := by
  intro H locs ls cells slots e1 e2 hl hn hR hS
  exact va_mmin C.x C.b (by rw [C.ml, ← hn]; exact hl.1.symm) C.own (C.wd hz rfl) (C.nw 7 rfl) (C.nw 8 rfl) (C.nw 10 rfl) C.room.1 (by rw [sum_cv]; have := C.room.2; omega) (by omega) (by omega) hd (kk H locs ls cells slots e1 e2 hl hn hR hS)
theorem aw_copy (C : CTX G (d + 1) k T0 p e R s m args meth c) {i a b n0 n1 z sp dp n : Nat} {f g : Nat → Int32} (hd : decode (mB k) pc = .ok (.invokestatic i, 3)) (hz : tb z (.methodLink (mY k).cls i arraycopyName) = true) (hr : (st.map fun v => v.category).sum ≤ 8) (hb : h b = .inl (0, n0, .inl f)) (ha : h a = .inl (0, n1, .inl g)) (h4 : sp + n ≤ n0) (h5 : dp + n ≤ n1) (hs : n0 < 100000) (hs1 : n1 < 100000) (kk : AW G k T0 s0 p e R s m args below meth c Q (pc + 3) lv st (upA h a (.inl (0, n1, .inl (va_cpy f g sp dp n)))) w) : AW G k T0 s0 p e R s m args below meth c Q pc lv (.int (nI n) :: .int (nI dp) :: .ref a :: .int (nI sp) :: .ref b :: st) h w := by
  intro H locs ls cells slots e1 e2 hl hn hR hS
  have la : a < w.1 := hR.live (by rw [ha]; intro q; cases q)
  have lb : b < w.1 := hR.live (by rw [hb]; intro q; cases q)
  refine va_copyi C.x C.b (by rw [C.ml, ← hn]; exact hl.1.symm) C.own (C.wd hz rfl) (C.nw 1 rfl) (C.nw 0 rfl) (C.nw 2 rfl) C.inv.1 hR.1 WS_D hS b a 0 0 (f := f) (g := g) ((WS_get lb).trans (by rw [hb]; rfl)) ((WS_get la).trans (by rw [ha]; rfl)) rfl rfl rfl (sp := nI sp) (dp := nI dp) (n := nI n) (nI_pos (by omega)) (nI_pos (by omega)) (nI_pos (by omega)) (by rw [nI_clamp (by omega), nI_clamp (by omega)]; exact h4) (by rw [nI_clamp (by omega), nI_clamp (by omega)]; exact h5) (fun _ _ => rfl) C.room.1 (by rw [sum_cv]; have := C.room.2; have := nfw_ok; omega) hd (fun H1 locs1 hP1 hD1 hS1 => ?_)
  rw [nI_clamp (by omega), nI_clamp (by omega), nI_clamp (by omega)] at hP1
  exact kk H1 locs1 ls cells slots e1 e2 hl hn (hR.upd la hP1) hS1
/-- a copy out of one of the arrays outside -/
theorem aw_copy_x (C : CTX G (d + 1) k T0 p e R s m args meth c) {i a x n1 z sp dp n : Nat} {g : Nat → Int32} (hd : decode (mB k) pc = .ok (.invokestatic i, 3)) (hz : tb z (.methodLink (mY k).cls i arraycopyName) = true) (hr : (st.map fun v => v.category).sum ≤ 8) (hx : x < 7) (ha : h a = .inl (0, n1, .inl g)) (h4 : sp + n ≤ xlen (gL G) x) (h5 : dp + n ≤ n1) (hs : sp + n < 100000) (hs1 : n1 < 100000) (kk : AW G k T0 s0 p e R s m args below meth c Q (pc + 3) lv st (upA h a (.inl (0, n1, .inl (va_cpy (xval (gS G) x) g sp dp n)))) w) : AW G k T0 s0 p e R s m args below meth c Q pc lv (.int (nI n) :: .int (nI dp) :: .ref a :: .int (nI sp) :: .retAddr x :: st) h w := by
  intro H locs ls cells slots e1 e2 hl hn hR hS
  have la : a < w.1 := hR.live (by rw [ha]; intro q; cases q)
  have hg : (WS G h w.1)[a]? = some (gB G + a, .inl (gT G 0, n1, .inl g)) := (WS_get la).trans (by rw [ha]; rfl)
  have c1 : (nI sp).toNatClampNeg = sp := nI_clamp (by omega)
  have c2 : (nI dp).toNatClampNeg = dp := nI_clamp (by omega)
  have c3 : (nI n).toNatClampNeg = n := nI_clamp (by omega)
  intro T9 hT9 X9
  obtain ⟨cell, k1, ⟨k2, q0, k3, cm0, k4⟩, k5, k6, -, k7, k8⟩ := (C.inv.2.2.1 x hx).kept hS.2.1
  have hc1 : H[gB G + a]? = some (vp_cell (gT G 0) (n1, .inl g)) := hR.1 a _ hg
  obtain ⟨-, q1, k9, cm1, k10⟩ := (C.inv.1.2 0 _ rfl).1 n1 (fun j => .int (g j))
  obtain ⟨vm', X', step⟩ := X9.arraycopy C.x C.own (C.wd hz rfl) (C.nw 1 rfl) (C.nw 0 rfl) (C.nw 2 rfl) (src := gX G x) (dst := gB G + a) (cs := cell) (cd := vp_cell (gT G 0) (n1, .inl g)) (srcPos := nI sp) (destPos := nI dp) (n := nI n) (by rw [hT9]; exact k1) (by rw [hT9]; exact hc1)
    k2 (fun _ h => by cases h) k5 (fun h => by cases h) k3 k9 k4 k10 (by simp [refKind, tyF]) (nI_pos (by omega)) (nI_pos (by omega)) (nI_pos (by omega))
    (by rw [i32_ge0 (nI_pos (by omega)), i32_ge0 (nI_pos (by omega)), c1, c3]; omega)
    (by rw [i32_ge0 (nI_pos (by omega)), i32_ge0 (nI_pos (by omega)), c2, c3]; show ¬ _ > ((arrV (gT G 0) n1 (fun j => .int (g j))).slots.size : Int); rw [arrV_size]; omega)
    (fun vm₁ _ j hj => by
      have e9 : cell.slots.getD ((nI sp).toNatClampNeg + j) .null = .int (xval (gS G) x ((nI sp).toNatClampNeg + j)) := by
        rw [Array.getD_eq_getD_getElem?, k7 _ (by omega)]
        rfl
      refine ⟨?_, ?_⟩
      · rw [e9]
        rfl
      · rw [e9]
        exact trivial)
    (g := F0 m pc ls (.int (nI n) :: .int (nI dp) :: .ref (gB G + a) :: .int (nI sp) :: .ref (gX G x) :: st.map (cv G))) rfl (by show ls.size = c.maxLocals; rw [C.ml, ← hn]; exact hl.1) (rest := st.map (cv G)) rfl (by rw [C.b]; exact hd) C.room.1 (by show 2 * 0 + _ + _ ≤ _; rw [sum_cv]; have := C.room.2; have := nfw_ok; omega)
  have e1' : copied cell (vp_cell (gT G 0) (n1, .inl g)) (nI sp) (nI dp) (nI n) = vp_cell (gT G 0) (n1, .inl (va_cpy (xval (gS G) x) g sp dp n)) := by
    have := va_copiedX (fun z => Value.int z) cell (gT G 0) (n1 := n1) (dp := dp) (n := n) (xval (gS G) x) g k7 h4
    show (arrV (gT G 0) n1 (fun j => Value.int (g j))).storeRun (nI dp).toNatClampNeg (cell.stretch (nI sp).toNatClampNeg (nI n).toNatClampNeg) = _
    rw [c1, c2, c3, this]
    rfl
  rw [e1'] at X' step
  have hlt : gB G + a < H.size := (Array.getElem?_eq_some_iff.mp hc1).1
  have oq : ∀ q : Nat, q ≠ gB G + a → (H.setIfInBounds (gB G + a) (vp_cell (gT G 0) (n1, .inl (va_cpy (xval (gS G) x) g sp dp n))))[q]? = H[q]? := fun q hq => by simp [Array.getElem?_setIfInBounds, Ne.symm hq]
  have hP9 := hR.1.set WS_D hg (e := .inl (gT G 0, n1, .inl (va_cpy (xval (gS G) x) g sp dp n))) (show (H.setIfInBounds (gB G + a) _)[gB G + a]? = some _ by simp [Array.getElem?_setIfInBounds, hlt]) oq
  obtain ⟨t, a1, b1⟩ := kk _ _ ls cells slots e1 e2 hl hn (hR.upd la hP9) ⟨by simp; exact hS.1, fun q g1 g2 => by
      rw [oq q (fun e => g2 (by rw [e]; exact Nat.le_add_right _ _))]
      exact hS.2.1 q g1 g2, fun q hq => by
      rcases List.mem_append.mp hq with h | h
      · exact hS.2.2 q h
      · obtain ⟨z, -, hz⟩ := List.mem_map.mp h
        rw [← hz]
        exact Nat.le_add_right _ _⟩ _ (by rw [← hT9]; rfl) X'
  exact ⟨t, step t a1, b1⟩
end AWN
/-! ===== contracts ===== -/
def headW (k : Nat) : Cond := if mH k = [] then .code (mY k) (mB k) (mL k) (mR k) else .codeWith (mY k) (mB k) (mL k) (mR k) (mH k)
def wsM (k : Nat) : List Cond := headW k :: ALLW
theorem mw {k : Nat} (hk : k + 1 < nMeth) : headW k ∈ ALLW ∧ Cond.initialized (mY k).cls ∈ ALLW ∧
    ((mz k).2.2.2.2 = 0 → Cond.static (mY k) ∈ ALLW) ∧ ((mz k).2.2.2.2 ≠ 0 → Cond.instanceMethod (mY k) ∈ ALLW) ∧ ((mz k).2.2.2.2 = 1 ∨ (mz k).2.2.2.2 = 2 → Cond.selects (mY k).cls (mY k) (mY k) ∈ ALLW) ∧ ((mz k).2.2.2.2 = 3 → (mY k).name = "<init>") ∧
    plainName (mY k).cls = true ∧ ((mY k).cls ≠ "java/lang/invoke/MethodHandle" ∧ (mY k).cls ≠ "java/lang/invoke/VarHandle") ∧ ((parseMethodDescriptor (mY k).desc).map (fun d => d.parameters.length) = some (if (mz k).2.2.2.2 = 0 then mN k else mN k - 1)) ∧ mL k ≤ 21 := by
  have h := okW k hk
  unfold chkW at h
  generalize hz : mz k = z at h ⊢
  obtain ⟨zc, za, zs, zi, kd⟩ := z
  simp only [Bool.and_eq_true, decide_eq_true_eq] at h
  obtain ⟨⟨⟨⟨⟨⟨⟨⟨h1, h2⟩, h3⟩, h4⟩, h5⟩, h6⟩, h7⟩, h8⟩, h9⟩ := h
  refine ⟨?_, tb_in h2 rfl, fun e => ?_, fun e => ?_, fun e => ?_, fun e => ?_, h6, h7, h8, h9⟩
  · unfold headW
    by_cases hm : mH k = []
    · rw [if_pos hm] at h1 ⊢
      exact tb_in h1 rfl
    · rw [if_neg hm] at h1 ⊢
      exact tb_in h1 rfl
  · have e : kd = 0 := e
    rw [if_pos e] at h3
    exact tb_in h3 rfl
  · have e : ¬ kd = 0 := e
    rw [if_neg e] at h3
    exact tb_in h3 rfl
  · have e : kd = 1 ∨ kd = 2 := e
    by_cases e1 : kd = 1
    · rw [if_pos e1] at h4
      exact tb_in h4 rfl
    · have e2 : kd = 2 := by omega
      rw [if_neg e1, if_pos e2] at h4
      exact List.mem_filter.mpr ⟨List.mem_append_left _ (by simpa using h4), rfl⟩
  · have e : kd = 3 := e
    rw [if_pos e] at h5
    simpa using h5
theorem wsM_good {k : Nat} (hk : k + 1 < nMeth) : GoodIn ALLW (wsM k) := by
  intro w hw
  rcases List.mem_cons.mp hw with h | h
  · rw [h]; exact ALLW_good _ (mw hk).1
  · exact ALLW_good _ h
def rmM (d : Nat) (w : W3) (F : AF) : Room := { frames := d, cells := F.2.2.2.1 - w.2.1, slots := F.2.2.2.2 - w.2.2, locals := 40 * d }
/-- a call's start -/
def Pr (G : GG) (h : AH) (w : W3) (U : State) : Prop := Rep G h w.1 U.heap ∧ Inv G U ∧ U.heap.size ≤ gB G + w.2.1 ∧ gB G ≤ U.heap.size ∧ (gl G).stackTraces = false
def Qr (G : GG) (F : AF) : Array Value → State → Outcome → State → Prop := fun _ st o t => ∃ v : Option Value, F.1 = .inl v ∧ o = .returned (v.map (cv G)) ∧ Rep G F.2.1 F.2.2.1 t.heap ∧ va_F (gA G) st t
def Qx (G : GG) (F : AF) : String → State → State → Prop := fun E st t => ∃ j : Nat, F.1 = .inr j ∧ j < 3 ∧ E = excN j ∧ Rep G F.2.1 F.2.2.1 t.heap ∧ va_F (gA G) st t
def CM (G : GG) (d k : Nat) (args : List Value) (h : AH) (w : W3) (F : AF) : Prop :=
  w.2.1 ≤ F.2.2.2.1 ∧ w.2.2 ≤ F.2.2.2.2 ∧ vx_Met (gl G) (mY k) (wsM k) (rmM d w F) (va_Pc (args.map (cv G)) (Pr G h w)) (Qr G F) (Qx G F) (F.2.2.2.1 - w.2.1) (F.2.2.2.2 - w.2.2) (gA G)
/-- a call of the method k at depth d comes to something with K -/
def Cl (G : GG) (d k : Nat) (args : List Value) (h : AH) (w : W3) (K : AO → AH → W3 → Prop) : Prop := ∃ F : AF, K F.1 F.2.1 F.2.2 ∧ CM G d k args h w F
theorem Pr.blind {G : GG} {args : List Value} {h : AH} {w : W3} : FrameBlind (va_Pc (args.map (cv G)) (Pr G h w)) := by
  intro a U g mk q
  obtain ⟨q0, q1, q2, q3, q4, q5⟩ := q
  exact ⟨q0, q1, q2.moved (State.WarmedH.refl U) (fun _ _ _ => rfl), q3, q4, q5⟩
section AWC
variable {G : GG} {d k T0 s0 : Nat} {p : Program} {e : Env} {R : Room} {s : State} {m : MethodId} {args : Array Value} {below : List Frame} {meth : Method} {c : Code} {Q : State → Prop}
variable {pc : Nat} {lv : AL} {st : List Value} {h : AH} {w : W3}
/-- the frame, with an exception of the class E thrown over it -/
def AWX (G : GG) (k T0 s0 : Nat) (p : Program) (e : Env) (R : Room) (s : State) (m : MethodId) (args : Array Value) (below : List Frame) (meth : Method) (c : Code) (Q : State → Prop) (pc : Nat) (lv : AL) (st : List Value) (h : AH) (w : W3) (j : Nat) : Prop := j < 3 ∧
  ∀ (H : Heap) (locs : List Loc) (ls : Array Slot) (cells slots : Nat) (q : Addr) (ce : Cell), T0 + cells = w.2.1 → s0 + slots = w.2.2 → LV G lv ls → lv.length = mL k → Rep G h w.1 H → va_S (gA G) s.heap H locs → H[q]? = some ce → ce.vm = .none → s.vm.findClass (excN j) = some ce.cls → vx_W p (gl G) e R s m args below meth c H locs cells slots Q (F0 m pc ls (st.map (cv G))) q
theorem aw_back (C : CTX G (d + 1) k T0 p e R s m args meth c) {a : List Value} {F : AF} (hm : w.2.1 ≤ F.2.2.2.1) (hm2 : w.2.2 ≤ F.2.2.2.2) {H : Heap} {locs : List Loc} {ls : Array Slot} {cells slots : Nat} {stk : List Value}
    (hr : vx_Run p (gl G) e R s m args below meth c H locs cells slots (F.2.2.2.1 - w.2.1) (F.2.2.2.2 - w.2.2) (F0 m pc ls stk) (st.map (cv G)) (Qr G F a.toArray) (Qx G F) (gA G)) (e1 : T0 + cells = w.2.1) (e2 : s0 + slots = w.2.2) (hl : LV G lv ls) (hn : lv.length = mL k) (hS : va_S (gA G) s.heap H locs)
    (kr : ∀ v : Option Value, F.1 = .inl v → AW G k T0 s0 p e R s m args below meth c Q (pc + 3) lv (v.toList ++ st) F.2.1 F.2.2) (kx : ∀ j : Nat, F.1 = .inr j → j < 3 → AWX G k T0 s0 p e R s m args below meth c Q pc lv st F.2.1 F.2.2 j) : W p (gl G) e R s m args below meth c H locs cells slots Q (F0 m pc ls stk) := by
  intro T hT X
  have keep : ∀ (st₀ t T' : State) (L : List Loc), st₀.heap = H → T'.heap = t.heap → (∀ q ∈ L, gA G q.base) → va_F (gA G) st₀ t → va_S (gA G) s.heap T'.heap (locs ++ L) := by
    intro st₀ t T' L h0 e3 hL hF
    refine ⟨Nat.le_trans hS.1 (by rw [e3, ← h0]; exact hF.1), fun q g1 g2 => ?_, fun q hq => ?_⟩
    · rw [e3, hF.2 q (by rw [h0]; exact Nat.lt_of_lt_of_le g1 hS.1) g2, h0]
      exact hS.2.1 q g1 g2
    · rcases List.mem_append.mp hq with h | h
      · exact hS.2.2 q h
      · exact hL q h
  rcases hr T hT X with ⟨v, st₀, t, T', L, h0, X', hL, e3, e4, ⟨v', hv, ho, hRp, hF⟩, stp⟩ | ⟨q, st₀, t, T', L, E, ce, h0, X', hL, e3, e4, ⟨j, hv, hj, hE, hRp, hF⟩, hce, hcv, hcl, stp⟩
  · cases ho
    obtain ⟨t2, a1, b1⟩ := kr v' hv T'.heap (locs ++ L) ls (cells + (F.2.2.2.1 - w.2.1)) (slots + (F.2.2.2.2 - w.2.2)) (by omega) (by omega) hl hn (by rw [e3]; exact hRp) (keep st₀ t T' L h0 e3 hL hF) T' rfl X'
    refine ⟨t2, stp t2 ?_, b1⟩
    have e9 : (v'.toList ++ st).map (cv G) = (v'.map (cv G)).toList ++ st.map (cv G) := by cases v' <;> simp
    rw [e9] at a1
    exact a1
  · subst hE
    obtain ⟨t2, a1, b1⟩ := (kx j hv hj).2 T'.heap (locs ++ L) ls (cells + (F.2.2.2.1 - w.2.1)) (slots + (F.2.2.2.2 - w.2.2)) q ce (by omega) (by omega) hl hn (by rw [e3]; exact hRp) (keep st₀ t T' L h0 e3 hL hF) (by rw [e3]; exact hce) hcv hcl T' rfl X'
    exact ⟨t2, stp.trans a1, b1⟩
theorem pr_of (C : CTX G (d + 1) k T0 p e R s m args meth c) {H : Heap} {locs : List Loc} (hR : Rep G h w.1 H) (hS : va_S (gA G) s.heap H locs) (hsz : H.size ≤ gB G + w.2.1) (as : List Value) : ∀ U : State, U.heap = H → s.WarmedH U.vm → va_Pc (as.map (cv G)) (Pr G h w) (as.map (cv G)).toArray U := by
  intro U hU hW
  refine ⟨rfl, by rw [hU]; exact hR, C.inv.moved hW (fun q g1 g2 => by rw [hU]; exact hS.2.1 q g1 g2), by rw [hU]; exact hsz, by rw [hU]; exact Nat.le_trans C.2.2.2.2.2.2.2.1 hS.1, C.2.2.2.2.2.2.2.2.1⟩
theorem aw_callV (C : CTX G (d + 1) k T0 p e R s m args meth c) {i x z b : Nat} {as : List Value} {ci n : Nat} {T : u_T} {fs : List Value} {F : AF} (hd : decode (mB k) pc = .ok (.invokevirtual i, 3)) (hx : x + 1 < nMeth) (hkd : (mz x).2.2.2.2 = 1 ∨ (mz x).2.2.2.2 = 2) (hh : mH x = []) (hz : tb z (.methodLink (mY k).cls i (mY x)) = true) (hc : clsL[ci]? = some ((mY x).cls, T, n)) (he : h b = .inr (ci, fs)) (hn9 : as.length + 1 = mN x) (hr : (st.map fun v => v.category).sum ≤ 8) (hM : CM G d x (.ref b :: as) h w F) (hrc : F.2.2.2.1 ≤ T0 + R.cells) (hrs : F.2.2.2.2 ≤ s0 + R.slots)
    (kr : ∀ v : Option Value, F.1 = .inl v → AW G k T0 s0 p e R s m args below meth c Q (pc + 3) lv (v.toList ++ st) F.2.1 F.2.2) (kx : ∀ j : Nat, F.1 = .inr j → j < 3 → AWX G k T0 s0 p e R s m args below meth c Q pc lv st F.2.1 F.2.2 j) : AW G k T0 s0 p e R s m args below meth c Q pc lv (as.reverse ++ .ref b :: st) h w := by
  intro H locs ls cells slots e1 e2 hl hn hR hS
  have hci : ci < 6 := (List.getElem?_eq_some_iff.mp hc).1
  have hb : b < w.1 := hR.live (by rw [he]; intro q; cases q; omega)
  obtain ⟨w1, w2, w3, w4, w5, w6, w7, w8, w9, w10⟩ := mw hx
  have hnz : (mz x).2.2.2.2 ≠ 0 := by omega
  intro T9 hT9 X9
  have hsz : H.size ≤ gB G + w.2.1 := by
    have := X9.heapSize
    rw [hT9] at this
    have := C.2.2.2.2.2.2.1
    omega
  have hcw : CallW R s args (mY k).cls (mY x).cls i (mY x) (mB x) (mL x) (mR x) (wsM x) (rmM d w F) (F.2.2.2.1 - w.2.1) (F.2.2.2.2 - w.2.2) as.length := by
    refine ⟨callB_of as.length C.ts (wsM_good hx) (ws' := ALLW) (by unfold wsM headW; rw [if_pos hh]) rfl rfl (C.ts _ w2) (C.wd hz rfl) ⟨w8.1, w8.2, ?_⟩ ⟨C.2.2.2.2.2.2.2.2.2.1, ?_⟩, C.ts _ (w4 hnz), C.ts _ (w5 hkd)⟩
    · rw [w9, if_neg hnz, ← hn9]; rfl
    · have := C.2.2.2.2.2.2.2.2.2.2.1
      show 8 + (mL x + 11) + 40 * d ≤ R.locals
      omega
  have hrun := vx_runV C.1 hM.2.2 hcw (b := gB G + b) (As := as.map (cv G)) (H := H) (locs := locs) (cells := cells) (slots := slots) (e := e) (below := below) (meth := meth) (rest := st.map (cv G)) ⟨Pr.blind, va_recv C.inv.1 hR.1 hc ((WS_get hb).trans (by rw [he]; rfl)), pr_of C hR hS hsz (.ref b :: as)⟩ (g := F0 m pc ls ((as.reverse ++ .ref b :: st).map (cv G))) rfl (by simp) (hl.1.trans hn) (by simp [cv]) (lv_room (by rw [sum_cv]; exact hr)) hd (by have := hM.1; have := hM.2.1; omega)
  exact aw_back (a := (.ref b :: as).map (cv G)) C hM.1 hM.2.1 hrun e1 e2 hl hn hS kr kx T9 hT9 X9
theorem aw_callS (C : CTX G (d + 1) k T0 p e R s m args meth c) {i x z : Nat} {as : List Value} {F : AF} (hd : decode (mB k) pc = .ok (.invokestatic i, 3)) (hx : x + 1 < nMeth) (hkd : (mz x).2.2.2.2 = 0) (hz : tb z (.methodLink (mY k).cls i (mY x)) = true) (hn9 : as.length = mN x) (hr : (st.map fun v => v.category).sum ≤ 8) (hM : CM G d x as h w F) (hrc : F.2.2.2.1 ≤ T0 + R.cells) (hrs : F.2.2.2.2 ≤ s0 + R.slots)
    (kr : ∀ v : Option Value, F.1 = .inl v → AW G k T0 s0 p e R s m args below meth c Q (pc + 3) lv (v.toList ++ st) F.2.1 F.2.2) (kx : ∀ j : Nat, F.1 = .inr j → j < 3 → AWX G k T0 s0 p e R s m args below meth c Q pc lv st F.2.1 F.2.2 j) : AW G k T0 s0 p e R s m args below meth c Q pc lv (as.reverse ++ st) h w := by
  intro H locs ls cells slots e1 e2 hl hn hR hS
  obtain ⟨w1, w2, w3, w4, w5, w6, w7, w8, w9, w10⟩ := mw hx
  intro T9 hT9 X9
  have hsz : H.size ≤ gB G + w.2.1 := by
    have := X9.heapSize
    rw [hT9] at this
    have := C.2.2.2.2.2.2.1
    omega
  have hd9 : (parseMethodDescriptor (mY x).desc).map (fun d => d.parameters.length) = some as.length := by rw [w9, if_pos hkd, ← hn9]
  have hrm : (rmM d w F).frames + 1 ≤ R.frames ∧ 8 + (mL x + 11) + (rmM d w F).locals ≤ R.locals := ⟨C.2.2.2.2.2.2.2.2.2.1, by
      have := C.2.2.2.2.2.2.2.2.2.2.1
      show 8 + (mL x + 11) + 40 * d ≤ R.locals
      omega⟩
  by_cases hh : mH x = []
  · have hcw : CallB R s args (mY k).cls i (mY x) (mB x) (mL x) (mR x) (wsM x) (rmM d w F) (F.2.2.2.1 - w.2.1) (F.2.2.2.2 - w.2.2) as.length ∧ (Cond.static (mY x)).before args s = true :=
      ⟨callB_of as.length C.ts (wsM_good hx) (ws' := ALLW) (by unfold wsM headW; rw [if_pos hh]) rfl rfl (C.ts _ w2) (C.wd hz rfl) ⟨w8.1, w8.2, hd9⟩ hrm, C.ts _ (w3 hkd)⟩
    have hrun := vx_runS C.1 hM.2.2 hcw (As := as.map (cv G)) (H := H) (locs := locs) (cells := cells) (slots := slots) (e := e) (below := below) (meth := meth) (rest := st.map (cv G)) ⟨Pr.blind, pr_of C hR hS hsz as⟩ (g := F0 m pc ls ((as.reverse ++ st).map (cv G))) rfl (by simp) (hl.1.trans hn) (by simp) (lv_room (by rw [sum_cv]; exact hr)) hd (by have := hM.1; have := hM.2.1; omega)
    exact aw_back (a := as.map (cv G)) C hM.1 hM.2.1 hrun e1 e2 hl hn hS kr kx T9 hT9 X9
  · have hcw : vx_CSW R s args (mY k).cls i (mY x) (mB x) (mL x) (mR x) (mH x) (wsM x) (rmM d w F) (F.2.2.2.1 - w.2.1) (F.2.2.2.2 - w.2.2) as.length := by
      refine vx_cwSW as.length C.ts ?_ (ws' := ALLW) (by unfold wsM headW; rw [if_neg hh]) rfl rfl ⟨w8.1, w8.2, hd9⟩ hrm
      refine goodIn_app ?_ (wsM_good hx)
      intro w hw
      refine ALLW_good _ ?_
      simp only [List.mem_cons, List.not_mem_nil, or_false] at hw
      rcases hw with rfl | rfl | rfl
      · exact tb_in hz rfl
      · exact w3 hkd
      · exact w2
    have hrun := vx_runSX C.1 hM.2.2 hcw (As := as.map (cv G)) (H := H) (locs := locs) (cells := cells) (slots := slots) (e := e) (below := below) (meth := meth) (rest := st.map (cv G)) ⟨Pr.blind, pr_of C hR hS hsz as⟩ (g := F0 m pc ls ((as.reverse ++ st).map (cv G))) rfl (by simp) (hl.1.trans hn) (by simp) (lv_room (by rw [sum_cv]; exact hr)) hd (by have := hM.1; have := hM.2.1; omega)
    exact aw_back (a := as.map (cv G)) C hM.1 hM.2.1 hrun e1 e2 hl hn hS kr kx T9 hT9 X9
theorem aw_callI (C : CTX G (d + 1) k T0 p e R s m args meth c) {i x z b : Nat} {as : List Value} {F : AF} {y : Nat} (hd : decode (mB k) pc = .ok (.invokespecial i, 3)) (hx : x + 1 < nMeth) (hkd : (mz x).2.2.2.2 = 3) (hh : mH x = []) (hrt : mR x = none) (hz : (if y = 0 then tb z (.methodLink (mY k).cls i (mY x)) = true else tb z (.methodLinkNest (mY k).cls i (mY x) "FlashLevels") = true ∧ z ∈ nestT)) (hn9 : as.length + 1 = mN x) (hr : (st.map fun v => v.category).sum ≤ 8) (hM : CM G d x (.ref b :: as) h w F) (hrc : F.2.2.2.1 ≤ T0 + R.cells) (hrs : F.2.2.2.2 ≤ s0 + R.slots)
    (kr : ∀ v : Option Value, F.1 = .inl v → AW G k T0 s0 p e R s m args below meth c Q (pc + 3) lv (v.toList ++ st) F.2.1 F.2.2) (kx : ∀ j : Nat, F.1 = .inr j → j < 3 → AWX G k T0 s0 p e R s m args below meth c Q pc lv st F.2.1 F.2.2 j) : AW G k T0 s0 p e R s m args below meth c Q pc lv (as.reverse ++ .ref b :: st) h w := by
  intro H locs ls cells slots e1 e2 hl hn hR hS
  obtain ⟨w1, w2, w3, w4, w5, w6, w7, w8, w9, w10⟩ := mw hx
  have hnz : (mz x).2.2.2.2 ≠ 0 := by omega
  intro T9 hT9 X9
  have hsz : H.size ≤ gB G + w.2.1 := by
    have := X9.heapSize
    rw [hT9] at this
    have := C.2.2.2.2.2.2.1
    omega
  have hd9 : (parseMethodDescriptor (mY x).desc).map (fun d => d.parameters.length) = some as.length := by rw [w9, if_neg hnz, ← hn9]; rfl
  have hrm : (rmM d w F).frames + 1 ≤ R.frames ∧ 8 + (mL x + 11) + (rmM d w F).locals ≤ R.locals := ⟨C.2.2.2.2.2.2.2.2.2.1, by
      have := C.2.2.2.2.2.2.2.2.2.2.1
      show 8 + (mL x + 11) + 40 * d ≤ R.locals
      omega⟩
  have hws : wsM x = Cond.code (mY x) (mB x) (mL x) none :: ALLW := by unfold wsM headW; rw [if_pos hh, hrt]
  by_cases hy : y = 0
  · rw [if_pos hy] at hz
    have hcw : CallB R s args (mY k).cls i (mY x) (mB x) (mL x) none (wsM x) (rmM d w F) (F.2.2.2.1 - w.2.1) (F.2.2.2.2 - w.2.2) as.length ∧ (mY x).name = "<init>" ∧ (Cond.instanceMethod (mY x)).before args s = true :=
      cwI as.length C.ts (wsM_good hx) hws rfl rfl (C.ts _ w2) (C.wd hz rfl) (C.ts _ (w4 hnz)) (w6 hkd) ⟨w8.1, w8.2, hd9⟩ hrm
    have hrun := vx_runI C.1 hM.2.2 hcw (b := gB G + b) (As := as.map (cv G)) (H := H) (locs := locs) (cells := cells) (slots := slots) (e := e) (below := below) (meth := meth) (rest := st.map (cv G)) ⟨Pr.blind, pr_of C hR hS hsz (.ref b :: as)⟩ (g := F0 m pc ls ((as.reverse ++ .ref b :: st).map (cv G))) rfl (by simp) (hl.1.trans hn) (by simp [cv]) (lv_room (by rw [sum_cv]; exact hr)) hd (by have := hM.1; have := hM.2.1; omega)
    exact aw_back (a := (.ref b :: as).map (cv G)) C hM.1 hM.2.1 hrun e1 e2 hl hn hS kr kx T9 hT9 X9
  · rw [if_neg hy] at hz
    have hcw : va_CN R s args (mY k).cls i (mY x) "FlashLevels" (mB x) (mL x) none (wsM x) (rmM d w F) (F.2.2.2.1 - w.2.1) (F.2.2.2.2 - w.2.2) as.length ∧ (mY x).name = "<init>" ∧ (Cond.instanceMethod (mY x)).before args s = true :=
      ⟨va_cnB as.length C.ts (wsM_good hx) hws rfl rfl (C.inv.2.2.2.2.2.2.1 z hz.2 _ (by simpa [tb] using hz.1)) (C.ts _ w2) ⟨w8.1, w8.2, hd9⟩ hrm, w6 hkd, C.ts _ (w4 hnz)⟩
    have hrun := vx_runIN C.1 hM.2.2 hcw (b := gB G + b) (As := as.map (cv G)) (H := H) (locs := locs) (cells := cells) (slots := slots) (e := e) (below := below) (meth := meth) (rest := st.map (cv G)) ⟨Pr.blind, pr_of C hR hS hsz (.ref b :: as)⟩ (g := F0 m pc ls ((as.reverse ++ .ref b :: st).map (cv G))) rfl (by simp) (hl.1.trans hn) (by simp [cv]) (lv_room (by rw [sum_cv]; exact hr)) hd (by have := hM.1; have := hM.2.1; omega)
    exact aw_back (a := (.ref b :: as).map (cv G)) C hM.1 hM.2.1 hrun e1 e2 hl hn hS kr kx T9 hT9 X9
end AWC
