/-! ===== ends, wp, the condition generator ===== -/
def ctN (ct : Nat) : Nat := bif Nat.beq ct 13 then 0 else bif Nat.beq ct 15 then 1 else 2
def fndH : List (Nat × Nat × Nat × Nat) → Nat → Nat → Option Nat
  | [], _, _ => none
  | q :: t, pc, j => bif (Nat.ble q.1 pc && Nat.ble (pc + 1) q.2.1) then (bif Nat.beq (ctN q.2.2.2) j then some q.2.2.1 else fndH t pc j) else fndH t pc j
set_option maxRecDepth 100000 in
theorem hnd_all : (List.range nMeth).all (fun k => decide (mH k = [])) = true := by decide +kernel
/-- no method of this claim has a handler -/
theorem hnd_ok {k : Nat} (hk : k < nMeth) : mH k = [] := by
  have h := List.all_eq_true.mp hnd_all k (List.mem_range.mpr hk)
  exact of_decide_eq_true h
def isDecl (w : Cond) : Bool := match w with
  | .declares _ => true
  | _ => false
set_option maxRecDepth 100000 in
theorem exT_ok : ∀ q ∈ exT, (q.2.2 < 3 ∧ Bundle.fit (excN q.2.2) = true) ∧ (∀ w ∈ vx_atS q.1 q.2.1 (excN q.2.2) exNs, (w ∈ lw_tbl ∧ goodWord w = true) ∨ w = .castable (excN q.2.2) (excN q.2.2) ∨ (isDecl w = true ∧ w ∈ lw_tbl)) ∧ (vx_atS q.1 q.2.1 (excN q.2.2) exNs).all vx_ot = true := by decide +kernel
set_option maxRecDepth 100000 in
theorem exini_in : ∀ j, j < 3 → Cond.initialized (excN j) ∈ lw_tbl ∧ goodWord (Cond.initialized (excN j)) = true := by decide +kernel
section AWE
variable {G : GG} {d k T0 s0 : Nat} {p : Program} {e : Env} {R : Room} {s : State} {m : MethodId} {args : Array Value} {below : List Frame} {meth : Method} {c : Code} {F : AF}
variable {pc : Nat} {lv : AL} {st : List Value} {h : AH} {w : W3}
abbrev QF (G : GG) (F : AF) (below : List Frame) (args : Array Value) (s : State) (R : Room) : State → Prop := vx_MQ below (Qr G F) (Qx G F) args s R.cells R.slots (gA G)
theorem aw_iret (C : CTX G d k T0 p e R s m args meth c) {x : Int32} (hd : decode (mB k) pc = .ok (.ireturn, 1)) (hr : mR k = some .int) (hF : F = (.inl (some (.int x)), h, w)) (hc : w.2.1 ≤ T0 + R.cells) (hs : w.2.2 ≤ s0 + R.slots) : AW G k T0 s0 p e R s m args below meth c (QF G F below args s R) pc lv [.int x] h w := by
  intro H locs ls cells slots e1 e2 hl hn hR hS
  refine W.widen (k := R.cells) (n := R.slots) (by omega) (by omega) (vx_ret ?_)
  exact W.iret C.x C.b (C.2.2.1.trans hr) (fun t ht hW => ⟨some (.int x), by rw [hF], rfl, by rw [hF, ht]; exact hR, hS.F ht⟩) hS.2.2 hd C.2.1
theorem aw_lret (C : CTX G d k T0 p e R s m args meth c) {x : Int64} (hd : decode (mB k) pc = .ok (.lreturn, 1)) (hr : mR k = some .long) (hF : F = (.inl (some (.long x)), h, w)) (hc : w.2.1 ≤ T0 + R.cells) (hs : w.2.2 ≤ s0 + R.slots) : AW G k T0 s0 p e R s m args below meth c (QF G F below args s R) pc lv [.long x] h w := by
  intro H locs ls cells slots e1 e2 hl hn hR hS
  refine W.widen (k := R.cells) (n := R.slots) (by omega) (by omega) (vx_ret ?_)
  exact W.lret C.x C.b (C.2.2.1.trans hr) (fun t ht hW => ⟨some (.long x), by rw [hF], rfl, by rw [hF, ht]; exact hR, hS.F ht⟩) hS.2.2 hd C.2.1
theorem aw_dret (C : CTX G d k T0 p e R s m args meth c) {x : UInt64} (hd : decode (mB k) pc = .ok (.dreturn, 1)) (hr : mR k = some .double) (hF : F = (.inl (some (.double x)), h, w)) (hc : w.2.1 ≤ T0 + R.cells) (hs : w.2.2 ≤ s0 + R.slots) : AW G k T0 s0 p e R s m args below meth c (QF G F below args s R) pc lv [.double x] h w := by
  intro H locs ls cells slots e1 e2 hl hn hR hS
  refine W.widen (k := R.cells) (n := R.slots) (by omega) (by omega) (vx_ret ?_)
  exact W.dret C.x C.b (C.2.2.1.trans hr) (fun t ht hW => ⟨some (.double x), by rw [hF], rfl, by rw [hF, ht]; exact hR, hS.F ht⟩) hS.2.2 hd C.2.1
theorem aw_zret (C : CTX G d k T0 p e R s m args meth c) {x : Int32} (hd : decode (mB k) pc = .ok (.ireturn, 1)) (hr : mR k = some .boolean) (hx : x = 0 ∨ x = 1) (hF : F = (.inl (some (.int x)), h, w)) (hc : w.2.1 ≤ T0 + R.cells) (hs : w.2.2 ≤ s0 + R.slots) : AW G k T0 s0 p e R s m args below meth c (QF G F below args s R) pc lv [.int x] h w := by
  intro H locs ls cells slots e1 e2 hl hn hR hS
  refine W.widen (k := R.cells) (n := R.slots) (by omega) (by omega) (vx_ret ?_)
  exact W.zret C.x C.b (C.2.2.1.trans hr) (by rcases hx with rfl | rfl <;> decide) (fun t ht hW => ⟨some (.int x), by rw [hF], rfl, by rw [hF, ht]; exact hR, hS.F ht⟩) hS.2.2 hd C.2.1
theorem aw_vret (C : CTX G d k T0 p e R s m args meth c) (hd : decode (mB k) pc = .ok (.return_, 1)) (hr : mR k = none) (hF : F = (.inl none, h, w)) (hc : w.2.1 ≤ T0 + R.cells) (hs : w.2.2 ≤ s0 + R.slots) : AW G k T0 s0 p e R s m args below meth c (QF G F below args s R) pc lv [] h w := by
  intro H locs ls cells slots e1 e2 hl hn hR hS
  refine W.widen (k := R.cells) (n := R.slots) (by omega) (by omega) (vx_ret ?_)
  exact W.vret C.x C.b (C.2.2.1.trans hr) (fun t ht hW => ⟨none, by rw [hF], rfl, by rw [hF, ht]; exact hR, hS.F ht⟩) hS.2.2 hd C.2.1
theorem Rep.kept {H H1 : Heap} {n : Nat} (hR : Rep G h n H) (hk : ∀ q : Nat, q < H.size → H1[q]? = H[q]?) : Rep G h n H1 := ⟨hR.1.kept fun j q hj => hk q.1 (hR.1 j q hj).lt, hR.2⟩
theorem aw_throw (C : CTX G d k T0 p e R s m args meth c) {ik is ic j z : Nat} (hd6 : 6 ≤ d) (hj : j < 3) (hz : tb z (.classLink (mY k).cls ik (excN j)) = true) (hex : ((mY k).cls, ic, j) ∈ exT) (hst : ∃ q ∈ strT, q.1 = (mY k).cls ∧ q.2.1 = is) (hh : mH k = [])
    (d0 : decode (mB k) pc = .ok (.new ik, 3)) (d3 : decode (mB k) (pc + 3) = .ok (.dup, 1)) (d4 : decode (mB k) (pc + 4) = .ok (.ldc is, 2)) (d6 : decode (mB k) (pc + 6) = .ok (.invokespecial ic, 3)) (d9 : decode (mB k) (pc + 9) = .ok (.athrow, 1)) (hr : (st.map fun v => v.category).sum ≤ 8)
    (hF : F = (.inr j, h, (w.1, w.2.1 + 1, w.2.2 + 6))) (hc : w.2.1 + 1 ≤ T0 + R.cells) (hs : w.2.2 + 6 ≤ s0 + R.slots) : AW G k T0 s0 p e R s m args below meth c (QF G F below args s R) pc lv st h w := by
  intro H locs ls cells slots e1 e2 hl hn hR hS
  obtain ⟨q, hq, hq1, hq2⟩ := hst
  obtain ⟨sa, hsa⟩ := C.inv.2.2.2.2.2.1 q hq
  rw [hq1, hq2] at hsa
  obtain ⟨⟨_, x1⟩, x2, x3⟩ := exT_ok _ hex
  obtain ⟨i1, i2⟩ := exini_in j hj
  have hfr := C.2.2.2.2.2.2.2.2.2.1
  have hlo := C.2.2.2.2.2.2.2.2.2.2.1
  have hout : ∀ x ∈ c.exceptionTable.toList, covers x (pc + 9) = false := by
    rw [C.2.2.2.2.1, hh]
    intro x hx
    cases hx
  refine vx_throwS (A := gA G) (names := exNs) C.x C.b C.2.2.2.2.2.2.2.2.1 C.own x1 (by decide +kernel) (C.wd hz rfl) (C.ts _ (List.mem_filter.mpr ⟨i1, i2⟩)) hsa ?_ ?_ C.inv.2.2.2.1 C.inv.2.2.2.2.1 hS (by rw [C.ml, ← hn]; exact hl.1) d0 d3 d4 d6 d9 hout (by show 2 + 3 < R.frames; omega) (by rw [sum_cv]; show _ + (13 * (2 + 1) + 43) ≤ _; omega) (by omega) (by omega) C.2.1 ?_ hS.2.2 (by omega) (by omega)
  · intro w hw
    rcases x2 w hw with ⟨y1, y2⟩ | y | ⟨y1, y2⟩
    · exact C.ts _ (List.mem_filter.mpr ⟨y1, y2⟩)
    · rw [y]
      exact va_Nw.use rfl (C.inv.2.2.2.2.2.2.2.1 j hj)
    · cases w <;> first | exact va_Nw.use rfl (C.inv.2.2.2.2.2.2.2.2.2.2.2 _ y2) | cases y1
  · intro w hw
    simp only [List.mem_cons] at hw
    rcases hw with rfl | rfl | hw
    · rfl
    · rfl
    · exact List.all_eq_true.mp x3 w hw
  · intro t _ hz1 hk1
    refine ⟨j, by rw [hF], hj, rfl, by rw [hF]; exact hR.kept hk1, Nat.le_trans hS.1 hz1, fun q g1 g2 => ?_⟩
    rw [hk1 q (Nat.lt_of_lt_of_le g1 hS.1)]
    exact hS.2.1 q g1 g2
theorem aw_throwW (C : CTX G d k T0 p e R s m args meth c) {ik is ic j z : Nat} (hd6 : 6 ≤ d) (hj : j < 3) (hz : tb z (.classLink (mY k).cls ik (excN j)) = true) (hex : ((mY k).cls, ic, j) ∈ exT) (hst : ∃ q ∈ strT, q.1 = (mY k).cls ∧ q.2.1 = is) (hh : mH k = [])
    (d0 : decode (mB k) pc = .ok (.new ik, 3)) (d3 : decode (mB k) (pc + 3) = .ok (.dup, 1)) (d4 : decode (mB k) (pc + 4) = .ok (.ldc_w is, 3)) (d7 : decode (mB k) (pc + 7) = .ok (.invokespecial ic, 3)) (d10 : decode (mB k) (pc + 10) = .ok (.athrow, 1)) (hr : (st.map fun v => v.category).sum ≤ 8)
    (hF : F = (.inr j, h, (w.1, w.2.1 + 1, w.2.2 + 6))) (hc : w.2.1 + 1 ≤ T0 + R.cells) (hs : w.2.2 + 6 ≤ s0 + R.slots) : AW G k T0 s0 p e R s m args below meth c (QF G F below args s R) pc lv st h w := by
  intro H locs ls cells slots e1 e2 hl hn hR hS
  obtain ⟨q, hq, hq1, hq2⟩ := hst
  obtain ⟨sa, hsa⟩ := C.inv.2.2.2.2.2.1 q hq
  rw [hq1, hq2] at hsa
  obtain ⟨⟨_, x1⟩, x2, x3⟩ := exT_ok _ hex
  obtain ⟨i1, i2⟩ := exini_in j hj
  have hfr := C.2.2.2.2.2.2.2.2.2.1
  have hlo := C.2.2.2.2.2.2.2.2.2.2.1
  have hout : ∀ x ∈ c.exceptionTable.toList, covers x (pc + 10) = false := by
    rw [C.2.2.2.2.1, hh]
    intro x hx
    cases hx
  refine vx_throwSW (A := gA G) (names := exNs) C.x C.b C.2.2.2.2.2.2.2.2.1 C.own x1 (by decide +kernel) (C.wd hz rfl) (C.ts _ (List.mem_filter.mpr ⟨i1, i2⟩)) hsa ?_ ?_ C.inv.2.2.2.1 C.inv.2.2.2.2.1 hS (by rw [C.ml, ← hn]; exact hl.1) d0 d3 d4 d7 d10 hout (by show 2 + 3 < R.frames; omega) (by rw [sum_cv]; show _ + (13 * (2 + 1) + 43) ≤ _; omega) (by omega) (by omega) C.2.1 ?_ hS.2.2 (by omega) (by omega)
  · intro w hw
    rcases x2 w hw with ⟨y1, y2⟩ | y | ⟨y1, y2⟩
    · exact C.ts _ (List.mem_filter.mpr ⟨y1, y2⟩)
    · rw [y]
      exact va_Nw.use rfl (C.inv.2.2.2.2.2.2.2.1 j hj)
    · cases w <;> first | exact va_Nw.use rfl (C.inv.2.2.2.2.2.2.2.2.2.2.2 _ y2) | cases y1
  · intro w hw
    simp only [List.mem_cons] at hw
    rcases hw with rfl | rfl | hw
    · rfl
    · rfl
    · exact List.all_eq_true.mp x3 w hw
  · intro t _ hz1 hk1
    refine ⟨j, by rw [hF], hj, rfl, by rw [hF]; exact hR.kept hk1, Nat.le_trans hS.1 hz1, fun q g1 g2 => ?_⟩
    rw [hk1 q (Nat.lt_of_lt_of_le g1 hS.1)]
    exact hS.2.1 q g1 g2
theorem aw_out (C : CTX G d k T0 p e R s m args meth c) {j : Nat} (hj : j < 3) (hh : mH k = []) (hF : F = (.inr j, h, w)) (hc : w.2.1 ≤ T0 + R.cells) (hs : w.2.2 ≤ s0 + R.slots) : AWX G k T0 s0 p e R s m args below meth c (QF G F below args s R) pc lv st h w j := by
  refine ⟨hj, ?_⟩
  intro H locs ls cells slots q ce e1 e2 hl hn hR hS hce hcv hcl
  refine vx_out (fun x hx => ?_) C.2.1 hce hcv hcl (fun t ht _ => ⟨j, by rw [hF], hj, rfl, by rw [hF, ht]; exact hR, hS.F ht⟩) hS.2.2 (by omega) (by omega)
  rw [C.2.2.2.2.1, hh] at hx
  cases hx
theorem fndH_spec : ∀ (l : List (Nat × Nat × Nat × Nat)) (pc j t : Nat), fndH l pc j = some t → ∃ pre q suf, l = pre ++ q :: suf ∧ (∀ x ∈ pre, ¬ (x.1 ≤ pc ∧ pc < x.2.1) ∨ ctN x.2.2.2 ≠ j) ∧ (q.1 ≤ pc ∧ pc < q.2.1) ∧ ctN q.2.2.2 = j ∧ q.2.2.1 = t
  | [], pc, j, t, h => by cases h
  | q :: l, pc, j, t, h => by
    unfold fndH at h
    cases hb : (Nat.ble q.1 pc && Nat.ble (pc + 1) q.2.1) with
    | false =>
      rw [hb] at h
      obtain ⟨pre, q', suf, h1, h2, h3⟩ := fndH_spec l pc j t h
      refine ⟨q :: pre, q', suf, by rw [h1]; rfl, fun x hx => ?_, h3⟩
      rcases List.mem_cons.mp hx with rfl | hx
      · refine Or.inl fun ⟨a, b⟩ => ?_
        rw [Nat.ble_eq_true_of_le a, Nat.ble_eq_true_of_le b] at hb
        cases hb
      · exact h2 x hx
    | true =>
      rw [hb] at h
      simp only [Bool.and_eq_true] at hb
      have a := Nat.le_of_ble_eq_true hb.1
      have b := Nat.le_of_ble_eq_true hb.2
      cases hc : Nat.beq (ctN q.2.2.2) j with
      | true =>
        rw [hc] at h
        exact ⟨[], q, l, rfl, fun x hx => absurd hx List.not_mem_nil, ⟨a, b⟩, Nat.eq_of_beq_eq_true hc, Option.some.inj h⟩
      | false =>
        rw [hc] at h
        obtain ⟨pre, q', suf, h1, h2, h3⟩ := fndH_spec l pc j t h
        refine ⟨q :: pre, q', suf, by rw [h1]; rfl, fun x hx => ?_, h3⟩
        rcases List.mem_cons.mp hx with rfl | hx
        · exact Or.inr fun z => by rw [z, Nat.beq_refl] at hc; cases hc
        · exact h2 x hx
theorem aw_catch (C : CTX G d k T0 p e R s m args meth c) {j t len i : Nat} {Q : State → Prop} (hf : fndH (mH k) pc j = some t) (hj : j < 3) (hd : decode (mB k) t = .ok (.astore i, len) ∧ len = 2 ∨ ∃ f : Fin 4, decode (mB k) t = .ok (.astore_n f, len) ∧ len = 1 ∧ (f : Nat) = i) (hi : i < mL k) (kk : AW G k T0 s0 p e R s m args below meth c Q (t + len) (st1 lv i none) [] h w) : AWX G k T0 s0 p e R s m args below meth c Q pc lv st h w j := by
  rw [hnd_ok C.2.2.2.2.2.2.2.2.2.2.2] at hf
  cases hf
end AWE
/-- from here the method comes to F -/
def Rn (G : GG) (d k T0 s0 : Nat) (pc : Nat) (lv : AL) (st : List Value) (h : AH) (w : W3) (F : AF) : Prop :=
  w.2.1 ≤ F.2.2.2.1 ∧ w.2.2 ≤ F.2.2.2.2 ∧ ∀ (p : Program) (e : Env) (R : Room) (s : State) (m : MethodId) (args : Array Value) (below : List Frame) (meth : Method) (c : Code), CTX G d k T0 p e R s m args meth c → T0 + R.cells = F.2.2.2.1 → s0 + R.slots = F.2.2.2.2 → AW G k T0 s0 p e R s m args below meth c (QF G F below args s R) pc lv st h w
/-- .. to something with K -/
def wp (G : GG) (d k T0 s0 : Nat) (K : AO → AH → W3 → Prop) (pc : Nat) (lv : AL) (st : List Value) (h : AH) (w : W3) : Prop := ∃ F : AF, K F.1 F.2.1 F.2.2 ∧ Rn G d k T0 s0 pc lv st h w F
theorem wp.less {G : GG} {d k T0 s0 : Nat} {K : AO → AH → W3 → Prop} {pc : Nat} {lv lv' : AL} {st : List Value} {h : AH} {w : W3} (hw : wp G d k T0 s0 K pc lv' st h w) (hl : lv'.length = lv.length) (hs : ∀ (i : Nat) (v : Value), lv'[i]? = some (some v) → lv[i]? = some (some v)) : wp G d k T0 s0 K pc lv st h w := by
  obtain ⟨F, hK, h1, h2, hr⟩ := hw
  refine ⟨F, hK, h1, h2, fun p e R s m args below meth c C g1 g2 H locs ls cells slots e1 e2 hl9 hn hR hS => ?_⟩
  exact hr p e R s m args below meth c C g1 g2 H locs ls cells slots e1 e2 (hl9.less hl hs) (hl.trans hn) hR hS
def lay : List Value → AL
  | [] => []
  | v :: t => bif c2 (some v) then some v :: none :: lay t else some v :: lay t
def entL (n : Nat) (args : List Value) : AL := lay args ++ List.replicate (n - (lay args).length) none
theorem c2_iff {v : Value} : c2 (some v) = true ↔ v.category = 2 := by cases v <;> simp [c2, Value.category]
theorem lay_len (G : GG) : ∀ args : List Value, (lg_sl (args.map (cv G))).length = (lay args).length
  | [] => rfl
  | v :: t => by
    have ih := lay_len G t
    unfold lg_sl at ih ⊢
    by_cases hc : v.category = 2
    · simp [lay, c2_iff.mpr hc, cv_cat, hc, ih]
    · have hb : c2 (some v) = false := by cases hq : c2 (some v) with | false => rfl | true => exact absurd (c2_iff.mp hq) hc
      simp [lay, hb, cv_cat, hc, ih]
theorem lay_in (G : GG) (n : Nat) : ∀ (args : List Value) (i : Nat) (q : Nat × Value), q ∈ asc G i (lay args ++ List.replicate n none) → q ∈ lv_args i (args.map (cv G))
  | [], i, q, h => by
    exfalso
    obtain ⟨j, x⟩ := q
    obtain ⟨k, v, h1, -⟩ := (asc_mem _ i j x).mp h
    simp [lay, List.getElem?_replicate] at h1
  | v :: t, i, q, h => by
    by_cases hc : v.category = 2
    · rw [lay, c2_iff.mpr hc] at h
      simp only [cond_true, List.cons_append, asc, List.mem_cons] at h
      rw [List.map_cons, lv_args, List.mem_cons, cv_cat, if_pos hc]
      rcases h with h | h
      · exact Or.inl h
      · exact Or.inr (lay_in G n t (i + 2) q h)
    · have hb : c2 (some v) = false := by cases hq : c2 (some v) with | false => rfl | true => exact absurd (c2_iff.mp hq) hc
      rw [lay, hb] at h
      simp only [cond_false, List.cons_append, asc, List.mem_cons] at h
      rw [List.map_cons, lv_args, List.mem_cons, cv_cat, if_neg hc]
      rcases h with h | h
      · exact Or.inl h
      · exact Or.inr (lay_in G n t (i + 1) q h)
set_option maxHeartbeats 1000000 in
/-- a contract, from the walk of the body -/
theorem Cl.of {G : GG} {d k : Nat} {args : List Value} {h : AH} {w : W3} {K : AO → AH → W3 → Prop} (hk : k + 1 < nMeth) (hlen : Nat.ble (lay args).length (mL k) = true) (hw : wp G d k w.2.1 w.2.2 K 0 (entL (mL k) args) [] h w) : Cl G d k args h w K := by
  obtain ⟨F, hK, h1, h2, hr⟩ := hw
  refine ⟨F, hK, h1, h2, ?_⟩
  obtain ⟨w1, w2, w3, w4, w5, w6, w7, w8, w9, w10⟩ := mw hk
  have hle := Nat.le_of_ble_eq_true hlen
  have body : ∀ p e s m a below meth c s₁, BodyLoose p (gl G) (mY k) (headSpec (wsM k) (rmM d w F)) (mB k) (mL k) (mR k) e s m a below meth c s₁ → c.maxLocals = mL k → c.exceptionTable.toList = tableOf (mH k) → va_Pc (args.map (cv G)) (Pr G h w) a s →
      W p (gl G) e (headSpec (wsM k) (rmM d w F)).room s m a below meth c s.heap [] 0 0 (vx_MQ below (Qr G F) (Qx G F) a s (F.2.2.2.1 - w.2.1) (F.2.2.2.2 - w.2.2) (gA G)) (entryFrame m a (mL k)) := by
    intro p e s m a below meth c s₁ B hml htab hv
    obtain ⟨rfl, hR, hI, hsz, hge, hst⟩ := hv
    have hts : ∀ w ∈ ALLW, w.before (args.map (cv G)).toArray s = true := fun w hw => atoms_spec (ws := wsM k) B.pre w (List.mem_cons_of_mem _ hw)
    have C : CTX G d k w.2.1 p e (rmM d w F) s m (args.map (cv G)).toArray meth c := ⟨⟨B.exec, B.bytes, hml, findClass_of_methodNamed B.named, hts⟩, B.notSynchronized, B.returns, (name_of_methodNamed B.named B.method).1, htab, hI, hsz, hge, hst, Nat.le_refl _, Nat.le_refl _, Nat.lt_of_succ_lt hk⟩
    have h9 := hr p e (rmM d w F) s m (args.map (cv G)).toArray below meth c C (by show w.2.1 + (F.2.2.2.1 - w.2.1) = _; omega) (by show w.2.2 + (F.2.2.2.2 - w.2.2) = _; omega)
    rw [lg_entry_eq]
    have hl := lv_entry (args.map (cv G)) (n := mL k) (by rw [lay_len]; exact hle)
    have hlen9 : (entL (mL k) args).length = mL k := by
      unfold entL
      rw [List.length_append, List.length_replicate]
      omega
    refine h9 s.heap [] _ 0 0 (by omega) (by omega) ⟨?_, hl.2.1, fun q hq => hl.2.2 q (lay_in G _ args 0 q hq)⟩ hlen9 hR va_S.rf
    rw [hlen9]
    exact hl.1
  by_cases hh : mH k = []
  · refine vx_ofW (cc := mB k) (maxL := mL k) (ret := mR k) (ws' := ALLW) w7 (by unfold wsM headW; rw [if_pos hh]) ?_
    intro p e s m a below meth c s₁ B hml ht hv
    refine body p e s m a below meth c s₁ B hml ?_ hv
    rw [hh]
    cases hx : c.exceptionTable.toList with
    | nil => rfl
    | cons x l => exact absurd (ht x (by rw [hx]; exact List.mem_cons_self)) id
  · refine vx_ofWH (cc := mB k) (maxL := mL k) (ret := mR k) (hh := mH k) (ws' := ALLW) w7 (by unfold wsM headW; rw [if_neg hh]) ?_
    intro p e s m a below meth c s₁ B hml hv
    refine body p e s m a below meth c s₁ B hml ?_ hv
    have hc : (Cond.codeWith (mY k) (mB k) (mL k) (mR k) (mH k)).before a s = true := by
      have := atoms_spec (ws := wsM k) B.pre (headW k) List.mem_cons_self
      unfold headW at this
      rw [if_neg hh] at this
      exact this
    exact vx_table (x := mY k) B hc
