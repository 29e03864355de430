/-! ===== AW's rules for the heap ===== -/
set_option maxRecDepth 100000 in
theorem cl_in0 : ∀ w ∈ u_ws RX0 TX0 2, w ∈ lw_tbl ∧ goodWord w = true := by decide +kernel
set_option maxRecDepth 100000 in
theorem cl_in1 : ∀ w ∈ u_ws RX1 TX1 3, w ∈ lw_tbl ∧ goodWord w = true := by decide +kernel
set_option maxRecDepth 100000 in
theorem cl_in2 : ∀ w ∈ u_ws RX2 TX2 8, w ∈ lw_tbl ∧ goodWord w = true := by decide +kernel
set_option maxRecDepth 100000 in
theorem cl_in3 : ∀ w ∈ u_ws RX3 TX3 8, w ∈ lw_tbl ∧ goodWord w = true := by decide +kernel
set_option maxRecDepth 100000 in
theorem cl_in4 : ∀ w ∈ u_ws RX4 TX4 4, w ∈ lw_tbl ∧ goodWord w = true := by decide +kernel
set_option maxRecDepth 100000 in
theorem cl_in5 : ∀ w ∈ u_ws RX4 TX4 4, w ∈ lw_tbl ∧ goodWord w = true := by decide +kernel
theorem cl_in {ci n : Nat} {Cn : String} {T : u_T} (h : clsL[ci]? = some (Cn, T, n)) : ∀ w ∈ u_ws Cn T n, w ∈ ALLW := by
  match ci, h with
  | 0, h => cases h; exact fun w hw => List.mem_filter.mpr (cl_in0 w hw)
  | 1, h => cases h; exact fun w hw => List.mem_filter.mpr (cl_in1 w hw)
  | 2, h => cases h; exact fun w hw => List.mem_filter.mpr (cl_in2 w hw)
  | 3, h => cases h; exact fun w hw => List.mem_filter.mpr (cl_in3 w hw)
  | 4, h => cases h; exact fun w hw => List.mem_filter.mpr (cl_in4 w hw)
  | 5, h => cases h; exact fun w hw => List.mem_filter.mpr (cl_in5 w hw)
  | n + 6, h => simp [clsL] at h
theorem cl_ty {ci n : Nat} {Cn : String} {T : u_T} (h : clsL[ci]? = some (Cn, T, n)) : (∀ k, k < n → parseFieldDescriptor (T k).2.2.1 = some (tyC ci k)) ∧ ∀ a, a < n → ∀ b, b < n → a ≠ b → (T a).2.1 ≠ (T b).2.1 := by
  match ci, h with
  | 0, h => cases h; exact ⟨tyX0_ok, nmX0⟩
  | 1, h => cases h; exact ⟨tyX1_ok, nmX1⟩
  | 2, h => cases h; exact ⟨tyX2_ok, nmX2⟩
  | 3, h => cases h; exact ⟨tyX3_ok, nmX3⟩
  | 4, h => cases h; exact ⟨tyX4_ok, nmX4⟩
  | 5, h => cases h; exact ⟨tyX4_ok, nmX4⟩
  | n + 6, h => simp [clsL] at h
theorem narrow_ref (ty : FieldType) (a : Nat) : narrow ty (.ref a) = .ref a := by cases ty <;> rfl
theorem narrow_null (ty : FieldType) : narrow ty .null = .null := by cases ty <;> rfl
/-- a value fits a field, by the letter that the code table has for the field's kind -/
def fitK (v x : Value) : Bool := match v, x with
  | .int _, .int _ => true
  | .long _, .long _ => true
  | .null, .ref _ => true
  | _, _ => false
theorem fitK_ok {G : GG} {v x : Value} {ty : FieldType} (h1 : kindK v ty = true) (h2 : fitK v x = true) : narrow ty (cv G x) = cv G x ∧ fits ty (cv G x) = true := by
  cases v <;> cases ty <;> simp [kindK] at h1 <;> cases x <;> simp [fitK] at h2 <;> exact ⟨rfl, rfl⟩
/-- what a new object's fields hold -/
def dflV (ty : FieldType) : Value := match ty with
  | .int => .int 0
  | .long => .long 0
  | _ => .null
def dfl (ci n : Nat) : List Value := (List.range n).map (fun j => dflV (tyC ci j))
section AWH
variable {G : GG} {d k T0 s0 : Nat} {p : Program} {e : Env} {R : Room} {s : State} {m : MethodId} {args : Array Value} {below : List Frame} {meth : Method} {c : Code} {Q : State → Prop}
variable {pc : Nat} {lv : AL} {st : List Value} {h : AH} {w : W3}
theorem Rep.live {H : Heap} {n a : Nat} (hR : Rep G h n H) (ha : h a ≠ .inr (99, [])) : a < n := by
  rcases Nat.lt_or_ge a n with q | q
  · exact q
  · exact absurd (hR.2 a q) ha
theorem Rep.upd {H H1 : Heap} {n a : Nat} {x : AC} (hR : Rep G h n H) (ha : a < n) (hP : va_P (gD G) clsL ((WS G h n).set a (gB G + a, cca G x)) H1) : Rep G (upA h a x) n H1 := by
  rw [WS_set] at hP
  exact ⟨hP, fun j hj => by simp [upA, show j ≠ a by omega, hR.2 j hj]⟩
theorem aw_getfield (C : CTX G d k T0 p e R s m args meth c) {i ci y z a n : Nat} {fs : List Value} {v : Value} {Cn : String} {T : u_T} (hd : decode (mB k) pc = .ok (.getfield i, 3)) (hc : clsL[ci]? = some (Cn, T, n)) (hy : y < n) (hT : (T y).1 = Cn) (hz : tb z (.fieldLink (mY k).cls i Cn (T y).2.1 (T y).2.2.1) = true) (he : h a = .inr (ci, fs)) (hv : fs[y]? = some v) (kk : AW G k T0 s0 p e R s m args below meth c Q (pc + 3) lv (v :: st) h w) : AW G k T0 s0 p e R s m args below meth c Q pc lv (.ref a :: st) h w := by
  intro H locs ls cells slots e1 e2 hl hn hR hS
  have hci : ci < 6 := (List.getElem?_eq_some_iff.mp hc).1
  have ha : a < w.1 := hR.live (by rw [he]; intro q; cases q; omega)
  exact va_get C.x C.b C.ts (cl_in hc) C.own C.inv.1 hR.1 a (fs := fs.map (cv G)) (v := cv G v) ((WS_get ha).trans (by rw [he]; rfl)) hc y hy (C.wd hz rfl) (fun x hx => by rw [hT] at hx; exact hx) (by rw [List.getElem?_map, hv]; rfl) hd (kk H locs ls cells slots e1 e2 hl hn hR hS)
theorem aw_putfield (C : CTX G d k T0 p e R s m args meth c) {i ci y z a n : Nat} {fs : List Value} {v x : Value} {Cn : String} {T : u_T} (hd : decode (mB k) pc = .ok (.putfield i, 3)) (hc : clsL[ci]? = some (Cn, T, n)) (hy : y < n) (hT : (T y).1 = Cn) (hz : tb z (.fieldLink (mY k).cls i Cn (T y).2.1 (T y).2.2.1) = true) (hk : kindK v (tyC ci y) = true) (hx : fitK v x = true) (hfin : (T y).2.2.2 = false ∨ ((T y).2.2.2 = true ∧ (mY k).name = "<init>" ∧ Cn = (mY k).cls)) (he : h a = .inr (ci, fs)) (hyl : y < fs.length) (kk : AW G k T0 s0 p e R s m args below meth c Q (pc + 3) lv st (upA h a (.inr (ci, fs.set y x))) w) : AW G k T0 s0 p e R s m args below meth c Q pc lv (x :: .ref a :: st) h w := by
  intro H locs ls cells slots e1 e2 hl hn hR hS
  have hci : ci < 6 := (List.getElem?_eq_some_iff.mp hc).1
  have ha : a < w.1 := hR.live (by rw [he]; intro q; cases q; omega)
  obtain ⟨f1, f2⟩ := fitK_ok (G := G) hk hx
  obtain ⟨t1, t2⟩ := cl_ty hc
  have hset : (gB G + a, (Sum.inr (ci, (fs.map (cv G)).set y (cv G x)) : va_E)) = (gB G + a, cca G (.inr (ci, fs.set y x))) := by
    simp [cca, List.map_set]
  have he' : (WS G h w.1)[a]? = some (gB G + a, .inr (ci, fs.map (cv G))) := (WS_get ha).trans (by rw [he]; rfl)
  rcases hfin with hf | ⟨hf, hi, ho⟩
  · exact va_put C.x C.b C.ts (cl_in hc) (tyC ci) t1 t2 C.own C.inv.1 hR.1 WS_D hS a he' hc y hy (C.wd hz rfl) (fun x hx => by rw [hT] at hx; exact hx) hf (t1 y hy) f1 f2 (by simpa using hyl) hd
      (fun H1 locs1 hP1 hD1 hS1 => kk H1 locs1 ls cells slots e1 e2 hl hn (hR.upd ha (by rw [← hset]; exact hP1)) hS1)
  · exact va_putF C.x C.b C.ts (cl_in hc) (tyC ci) t1 t2 C.own C.inv.1 hR.1 WS_D hS a he' hc y hy (C.wd hz rfl) (fun x hx => by rw [hT] at hx; exact hx) hf (C.2.2.2.1.trans hi) (hT.trans ho) (t1 y hy) f1 f2 (by simpa using hyl) hd
      (fun H1 locs1 hP1 hD1 hS1 => kk H1 locs1 ls cells slots e1 e2 hl hn (hR.upd ha (by rw [← hset]; exact hP1)) hS1)
theorem aw_getstatic (C : CTX G d k T0 p e R s m args meth c) {i x z : Nat} (hd : decode (mB k) pc = .ok (.getstatic i, 3)) (hx : x < 6) (hz : tb z (.fieldLink (mY k).cls i "FlashLevels" (xnm x) "[I") = true) (kk : AW G k T0 s0 p e R s m args below meth c Q (pc + 3) lv (.retAddr x :: st) h w) : AW G k T0 s0 p e R s m args below meth c Q pc lv st h w := by
  intro H locs ls cells slots e1 e2 hl hn hR hS
  exact va_gets C.x C.b (C.inv.2.1 x hx) hS C.own (C.wd hz rfl) (fun _ q => q) hd (kk H locs ls cells slots e1 e2 hl hn hR hS)
theorem aw_getstaticN (C : CTX G d k T0 p e R s m args meth c) {i x z : Nat} (hd : decode (mB k) pc = .ok (.getstatic i, 3)) (hx : x < 6) (hz : tb z (.fieldLinkNest (mY k).cls i "FlashLevels" (xnm x) "[I" "FlashLevels") = true) (hn2 : z ∈ nestT) (kk : AW G k T0 s0 p e R s m args below meth c Q (pc + 3) lv (.retAddr x :: st) h w) : AW G k T0 s0 p e R s m args below meth c Q pc lv st h w := by
  intro H locs ls cells slots e1 e2 hl hn hR hS
  have h1 : tables_1[z]? = some (.fieldLinkNest (mY k).cls i "FlashLevels" (xnm x) "[I" "FlashLevels") := by simpa [tb] using hz
  exact va_getsN C.x C.b (C.inv.2.1 x hx) hS C.own (va_Nw.use rfl (C.inv.2.2.2.2.2.2.1 z hn2 _ h1)) (fun _ q => q) hd (kk H locs ls cells slots e1 e2 hl hn hR hS)
theorem aw_iaload (C : CTX G d k T0 p e R s m args meth c) {a n : Nat} {f : Nat → Int32} {i : Int32} (hd : decode (mB k) pc = .ok (.iaload, 1)) (he : h a = .inl (0, n, .inl f)) (hi : vp_in i n) (kk : AW G k T0 s0 p e R s m args below meth c Q (pc + 1) lv (.int (f i.toNatClampNeg) :: st) h w) : AW G k T0 s0 p e R s m args below meth c Q pc lv (.int i :: .ref a :: st) h w := by
  intro H locs ls cells slots e1 e2 hl hn hR hS
  have ha : a < w.1 := hR.live (by rw [he]; intro q; cases q)
  exact va_iald C.x C.b C.inv.1 hR.1 a 0 ((WS_get ha).trans (by rw [he]; rfl)) rfl hi hd (kk H locs ls cells slots e1 e2 hl hn hR hS)
theorem aw_iaload_x (C : CTX G d k T0 p e R s m args meth c) {a : Nat} {i : Int32} (hd : decode (mB k) pc = .ok (.iaload, 1)) (ha : a < 7) (hi : vp_in i (xlen (gL G) a)) (kk : AW G k T0 s0 p e R s m args below meth c Q (pc + 1) lv (.int (xval (gS G) a i.toNatClampNeg) :: st) h w) : AW G k T0 s0 p e R s m args below meth c Q pc lv (.int i :: .retAddr a :: st) h w := by
  intro H locs ls cells slots e1 e2 hl hn hR hS
  exact va_ti C.x C.b (C.inv.2.2.1 a ha) hS hi rfl hd (kk H locs ls cells slots e1 e2 hl hn hR hS)
theorem aw_alen_x (C : CTX G d k T0 p e R s m args meth c) {a : Nat} (hd : decode (mB k) pc = .ok (.arraylength, 1)) (ha : a < 7) (kk : AW G k T0 s0 p e R s m args below meth c Q (pc + 1) lv (.int (Int32.ofNat (xlen (gL G) a)) :: st) h w) : AW G k T0 s0 p e R s m args below meth c Q pc lv (.retAddr a :: st) h w := by
  intro H locs ls cells slots e1 e2 hl hn hR hS
  exact va_tlen C.x C.b (C.inv.2.2.1 a ha) hS rfl hd (kk H locs ls cells slots e1 e2 hl hn hR hS)
theorem aw_iastore (C : CTX G d k T0 p e R s m args meth c) {a n : Nat} {f : Nat → Int32} {i x : Int32} (hd : decode (mB k) pc = .ok (.iastore, 1)) (he : h a = .inl (0, n, .inl f)) (hi : vp_in i n) (kk : AW G k T0 s0 p e R s m args below meth c Q (pc + 1) lv st (upA h a (.inl (0, n, .inl (upd f i.toNatClampNeg x)))) w) : AW G k T0 s0 p e R s m args below meth c Q pc lv (.int x :: .int i :: .ref a :: st) h w := by
  intro H locs ls cells slots e1 e2 hl hn hR hS
  have ha : a < w.1 := hR.live (by rw [he]; intro q; cases q)
  exact va_iast C.x C.b C.inv.1 hR.1 WS_D hS a 0 ((WS_get ha).trans (by rw [he]; rfl)) rfl hi hd (fun H1 locs1 hP1 hD1 hS1 => kk H1 locs1 ls cells slots e1 e2 hl hn (hR.upd ha hP1) hS1)
/-- the class of the things that an array of references holds -/
def elC : Nat → Nat := fun tk => match tk with
  | 2 => 3
  | _ => 2
theorem aw_aaload (C : CTX G d k T0 p e R s m args meth c) {a n tk r : Nat} {f : Nat → Option Nat} {i : Int32} (hd : decode (mB k) pc = .ok (.aaload, 1)) (htk : tk = 2 ∨ tk = 3) (he : h a = .inl (tk, n, .inr (.inr (.inr (.inr f))))) (hi : vp_in i n) (hr : f i.toNatClampNeg = some r) (kk : AW G k T0 s0 p e R s m args below meth c Q (pc + 1) lv (.ref r :: st) h w) : AW G k T0 s0 p e R s m args below meth c Q pc lv (.int i :: .ref a :: st) h w := by
  intro H locs ls cells slots e1 e2 hl hn hR hS
  have ha : a < w.1 := hR.live (by rw [he]; intro q; cases q)
  have hg : (WS G h w.1)[a]? = some (gB G + a, .inl (gT G tk, n, .inr (.inr (.inr (.inr fun j => (f j).map (gB G + ·)))))) := (WS_get ha).trans (by rw [he]; rfl)
  have kk' := kk H locs ls cells slots e1 e2 hl hn hR hS
  have hv : va_rf ((fun j => (f j).map (gB G + ·)) i.toNatClampNeg) = cv G (.ref r) := by
    show va_rf ((f i.toNatClampNeg).map (gB G + ·)) = _
    rw [hr]; rfl
  rcases htk with rfl | rfl
  · exact va_aldq C.x C.b C.inv.1 hR.1 a 2 hg (C := "FlashLevels$Page") rfl hi hd (by rw [hv]; exact kk')
  · exact va_aldq C.x C.b C.inv.1 hR.1 a 3 hg (C := "FlashLevels$Memory") rfl hi hd (by rw [hv]; exact kk')
theorem aw_aastore (C : CTX G d k T0 p e R s m args meth c) {a n tk r : Nat} {f : Nat → Option Nat} {vs : List Value} {i : Int32} (hd : decode (mB k) pc = .ok (.aastore, 1)) (htk : tk = 2 ∨ tk = 3) (he : h a = .inl (tk, n, .inr (.inr (.inr (.inr f))))) (hi : vp_in i n) (hr : h r = .inr (elC tk, vs)) (kk : AW G k T0 s0 p e R s m args below meth c Q (pc + 1) lv st (upA h a (.inl (tk, n, .inr (.inr (.inr (.inr (va_up f i.toNatClampNeg (some r)))))))) w) : AW G k T0 s0 p e R s m args below meth c Q pc lv (.ref r :: .int i :: .ref a :: st) h w := by
  intro H locs ls cells slots e1 e2 hl hn hR hS
  have ha : a < w.1 := hR.live (by rw [he]; intro q; cases q)
  have hr1 : r < w.1 := hR.live (by rw [hr]; intro q; rcases htk with rfl | rfl <;> cases q)
  have hg : (WS G h w.1)[a]? = some (gB G + a, .inl (gT G tk, n, .inr (.inr (.inr (.inr fun j => (f j).map (gB G + ·)))))) := (WS_get ha).trans (by rw [he]; rfl)
  have hgr : (WS G h w.1)[r]? = some (gB G + r, .inr (elC tk, vs.map (cv G))) := (WS_get hr1).trans (by rw [hr]; rfl)
  have hset : ∀ (H1 : Heap), va_P (gD G) clsL ((WS G h w.1).set a (gB G + a, .inl (gT G tk, n, .inr (.inr (.inr (.inr (va_up (fun j => (f j).map (gB G + ·)) i.toNatClampNeg (some (gB G + r))))))))) H1 → Rep G (upA h a (.inl (tk, n, .inr (.inr (.inr (.inr (va_up f i.toNatClampNeg (some r)))))))) w.1 H1 := by
    intro H1 hP1
    refine hR.upd ha ?_
    have e9 : (va_up (fun j => (f j).map (gB G + ·)) i.toNatClampNeg (some (gB G + r))) = fun j => (va_up f i.toNatClampNeg (some r) j).map (gB G + ·) := by
      funext j
      by_cases hj : j = i.toNatClampNeg <;> simp [va_up, hj]
    rw [e9] at hP1
    exact hP1
  rcases htk with rfl | rfl
  · exact va_astq C.x C.b C.inv.1 hR.1 WS_D hS a 2 r 3 (r := (RX3, TX3, 8)) hg rfl hgr rfl hi hd (fun H1 locs1 hP1 hD1 hS1 => kk H1 locs1 ls cells slots e1 e2 hl hn (hset H1 hP1) hS1)
  · exact va_astq C.x C.b C.inv.1 hR.1 WS_D hS a 3 r 2 (r := (RX2, TX2, 8)) hg rfl hgr rfl hi hd (fun H1 locs1 hP1 hD1 hS1 => kk H1 locs1 ls cells slots e1 e2 hl hn (hset H1 hP1) hS1)
/-- a new cell's address, where every cell that was made is a live one -/
theorem new_at {H1 : Heap} {n q : Nat} {x : va_E} {T : State} {locs : List Loc} {cells slots : Nat} (hsz : s.heap.size ≤ gB G + T0) (hT : T.heap = H1) (X : Stand p (gl G) e R s m args below meth c T locs cells slots) (ec : T0 + cells = n + 1) (hP : va_P (gD G) clsL (WS G h n ++ [(q, x)]) H1) (hD : va_D (gA G) (WS G h n ++ [(q, x)])) : q = gB G + n := by
  have h1 : (WS G h n ++ [(q, x)])[n]? = some (q, x) := by rw [List.getElem?_append_right (by rw [WS_len]; omega), WS_len, Nat.sub_self]; rfl
  have h2 : q < H1.size := (hP n _ h1).lt
  have h3 : H1.size ≤ s.heap.size + cells := by rw [← hT]; exact X.heapSize
  have h4 : gB G ≤ q := hD.2 n _ h1
  rcases Nat.lt_or_ge q (gB G + n) with h5 | h5
  · exfalso
    have hj : q - gB G < n := by omega
    have h6 : (WS G h n ++ [(q, x)])[q - gB G]? = some (gB G + (q - gB G), cca G (h (q - gB G))) := by
      rw [List.getElem?_append_left (by rw [WS_len]; exact hj), WS_get hj]
    have h7 := hD.1 _ _ _ _ h6 h1 (by show gB G + (q - gB G) = q; omega)
    omega
  · omega
theorem Rep.push {H1 : Heap} {n : Nat} {x : AC} {H : Heap} (hR : Rep G h n H) (hP : va_P (gD G) clsL (WS G h n ++ [(gB G + n, cca G x)]) H1) : Rep G (upA h n x) (n + 1) H1 := by
  rw [WS_push] at hP
  exact ⟨hP, fun j hj => by simp [upA, show j ≠ n by omega, hR.2 j (by omega)]⟩
theorem dfl_ok {ci n : Nat} {Cn : String} {T : u_T} (hc : clsL[ci]? = some (Cn, T, n)) : ∀ j, j < n → defaultValue (tyC ci j) = vp_V ((dfl ci n).map (cv G)) j := by
  intro j hj
  have h1 : ∀ ci j : Nat, defaultValue (tyC ci j) = cv G (dflV (tyC ci j)) := by
    intro ci j
    match ci with
    | 0 => match j with | 0 => rfl | j + 1 => rfl
    | 1 => match j with | 0 => rfl | 1 => rfl | j + 2 => rfl
    | 2 => match j with | 0 => rfl | 1 => rfl | 2 => rfl | 3 => rfl | 4 => rfl | 5 => rfl | 6 => rfl | j + 7 => rfl
    | 3 => match j with | 0 => rfl | 1 => rfl | 2 => rfl | 3 => rfl | 4 => rfl | 5 => rfl | 6 => rfl | j + 7 => rfl
    | 4 => match j with | 0 => rfl | 1 => rfl | 2 => rfl | j + 3 => rfl
    | n + 5 => match j with | 0 => rfl | 1 => rfl | 2 => rfl | j + 3 => rfl
  simp [vp_V, dfl, hj, h1]
def insW (ci : Nat) : Nat := match ci with
  | 0 => 2
  | 1 => 3
  | 2 => 8
  | 3 => 8
  | 4 => 4
  | _ => 4
set_option maxRecDepth 100000 in
theorem ins_in : ∀ q ∈ clsL, (Cond.instantiable q.1 q.2.2 ∈ lw_tbl ∧ goodWord (Cond.instantiable q.1 q.2.2) = true) ∧ (Cond.initialized q.1 ∈ lw_tbl ∧ goodWord (Cond.initialized q.1) = true) := by decide +kernel
theorem aw_new (C : CTX G d k T0 p e R s m args meth c) {i ci z n : Nat} {Cn : String} {T : u_T} (hd : decode (mB k) pc = .ok (.new i, 3)) (hc : clsL[ci]? = some (Cn, T, n)) (hz : tb z (.classLink (mY k).cls i Cn) = true) (hw : w.2.1 = w.1) (hrc : w.2.1 + 1 ≤ T0 + R.cells) (hrs : w.2.2 + n ≤ s0 + R.slots) (kk : AW G k T0 s0 p e R s m args below meth c Q (pc + 3) lv (.ref w.1 :: st) (upA h w.1 (.inr (ci, dfl ci n))) (w.1 + 1, w.2.1 + 1, w.2.2 + n)) : AW G k T0 s0 p e R s m args below meth c Q pc lv st h w := by
  intro H locs ls cells slots e1 e2 hl hn hR hS
  obtain ⟨i1, i2⟩ := ins_in _ (List.mem_of_getElem? hc)
  refine va_new C.x C.b C.ts (cl_in hc) (tyC ci) (cl_ty hc).1 C.own (C.wd hz rfl) (C.ts _ (List.mem_filter.mpr i1)) (C.ts _ (List.mem_filter.mpr i2)) C.inv.1 hR.1 WS_D hS (fun q hq => Nat.le_trans C.2.2.2.2.2.2.2.1 hq) hc (fs := (dfl ci n).map (cv G)) (dfl_ok hc) (by omega) (by omega) hd (fun q H1 hP1 hD1 hS1 => ?_)
  intro T9 hT9 X9
  have hq : q = gB G + w.1 := new_at (h := h) C.2.2.2.2.2.2.1 hT9 X9 (by omega) hP1 hD1
  subst hq
  exact kk H1 locs ls (cells + 1) (slots + n) (by show T0 + (cells + 1) = w.2.1 + 1; omega) (by show s0 + (slots + n) = w.2.2 + n; omega) hl hn (hR.push hP1) hS1 T9 hT9 X9
set_option maxRecDepth 100000 in
theorem arrW_in : (Cond.arrayClass .int ∈ lw_tbl) ∧ True := ⟨by decide +kernel, trivial⟩
theorem newa_cls {tk : Nat} {cA : ClassId} (hI : va_K (gD G) clsL (tysL G) s) (htk : tk < 2) (hK : va_K (gD G) clsL (tysL G ++ [(cA, tyF tk)]) s) : cA = gT G tk := by
  have h1 := (hK.2 4 (cA, tyF tk) rfl).2
  have h2 := (hI.2 tk _ (tysL_get G (by omega))).2
  match tk, htk, h1, h2 with
  | 0, _, h1, h2 => exact Option.some.inj (h1.symm.trans h2)
  | 1, _, h1, h2 => exact Option.some.inj (h1.symm.trans h2)
theorem aw_newint (C : CTX G d k T0 p e R s m args meth c) {n : Nat} (hd : decode (mB k) pc = .ok (.newarray .int, 2)) (hn9 : n < 100000) (hw : w.2.1 = w.1) (hrc : w.2.1 + 1 ≤ T0 + R.cells) (hrs : w.2.2 + n ≤ s0 + R.slots) (kk : AW G k T0 s0 p e R s m args below meth c Q (pc + 2) lv (.ref w.1 :: st) (upA h w.1 (.inl (0, n, .inl fun _ => 0))) (w.1 + 1, w.2.1 + 1, w.2.2 + n)) : AW G k T0 s0 p e R s m args below meth c Q pc lv (.int (nI n) :: st) h w := by
  intro H locs ls cells slots e1 e2 hl hn hR hS
  refine va_newa C.x C.b (atype := .int) (C.ts _ (List.mem_filter.mpr ⟨arrW_in.1, rfl⟩)) rfl C.inv.1 hR.1 WS_D hS (fun q hq => Nat.le_trans C.2.2.2.2.2.2.2.1 hq) (a0 := (n, .inl fun _ => 0)) (N' := n) (fun _ => rfl) (nI_pos (by omega)) (nI_clamp (by omega)) (by show n * 4 ≤ _; omega) (by omega) (by omega) hd (fun q cA H1 hK1 hP1 hD1 hS1 => ?_)
  have hcA : cA = gT G 0 := newa_cls C.inv.1 (tk := 0) (by omega) hK1
  subst hcA
  intro T9 hT9 X9
  have hq : q = gB G + w.1 := new_at (h := h) C.2.2.2.2.2.2.1 hT9 X9 (by omega) hP1 hD1
  subst hq
  exact kk H1 locs ls (cells + 1) (slots + n) (by show T0 + (cells + 1) = w.2.1 + 1; omega) (by show s0 + (slots + n) = w.2.2 + n; omega) hl hn (hR.push hP1) hS1 T9 hT9 X9
theorem newq_cls {tk : Nat} {cA : ClassId} {E : String} (hI : va_K (gD G) clsL (tysL G) s) (htk : tk < 4) (hE : tyF tk = .object E) (hK : va_K (gD G) clsL (tysL G ++ [(cA, .object E)]) s) : cA = gT G tk := by
  have h1 := (hK.2 4 (cA, .object E) rfl).2
  have h2 := (hI.2 tk _ (tysL_get G htk)).2
  rw [hE] at h2
  obtain ⟨_, _, _, _, _, q1⟩ := h1
  obtain ⟨_, _, _, _, _, q2⟩ := h2
  exact Option.some.inj (q1.symm.trans q2)
theorem aw_newref (C : CTX G d k T0 p e R s m args meth c) {i n tk z : Nat} {E : String} (hd : decode (mB k) pc = .ok (.anewarray i, 3)) (htk : tk < 4) (hE : tyF tk = .object E) (ho : E = RX3 ∨ E = RX2) (hz : tb z (.classLink (mY k).cls i E) = true) (hn9 : n < 100000) (hw : w.2.1 = w.1) (hrc : w.2.1 + 1 ≤ T0 + R.cells) (hrs : w.2.2 + n ≤ s0 + R.slots) (kk : AW G k T0 s0 p e R s m args below meth c Q (pc + 3) lv (.ref w.1 :: st) (upA h w.1 (.inl (tk, n, .inr (.inr (.inr (.inr fun _ => none)))))) (w.1 + 1, w.2.1 + 1, w.2.2 + n)) : AW G k T0 s0 p e R s m args below meth c Q pc lv (.int (nI n) :: st) h w := by
  intro H locs ls cells slots e1 e2 hl hn hR hS
  have hAO : va_AO E s := by
    rcases ho with rfl | rfl
    · exact C.inv.2.2.2.2.2.2.2.2.2.1
    · exact C.inv.2.2.2.2.2.2.2.2.2.2.1
  refine va_newq C.x C.b C.own (C.wd hz rfl) hAO C.inv.1 hR.1 WS_D hS (fun q hq => Nat.le_trans C.2.2.2.2.2.2.2.1 hq) (N' := n) (nI_pos (by omega)) (nI_clamp (by omega)) (by omega) (by omega) (by omega) hd (fun q cA H1 hK1 hP1 hD1 hS1 => ?_)
  have hcA : cA = gT G tk := newq_cls C.inv.1 htk hE hK1
  subst hcA
  intro T9 hT9 X9
  have hq : q = gB G + w.1 := new_at (h := h) C.2.2.2.2.2.2.1 hT9 X9 (by omega) hP1 hD1
  subst hq
  exact kk H1 locs ls (cells + 1) (slots + n) (by show T0 + (cells + 1) = w.2.1 + 1; omega) (by show s0 + (slots + n) = w.2.2 + n; omega) hl hn (hR.push hP1) hS1 T9 hT9 X9
end AWH
