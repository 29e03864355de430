/-! ===== the law's entry: what the tables and the Statement's start give ===== -/
abbrev GV : List Cond := flatC (Jvm.Cond.and given_1 narrow_1)
def stT (k : Nat) : Term := .static "FlashLevels" (xnm k) "[I"
def stW (k : Nat) : List Cond := .arrayOf (stT k) .int :: .eq (.length (stT k)) (.int (Int32.ofNat (xlen 0 k))) :: (List.range (xlen 0 k)).map (fun j => .eq (.elem (stT k) (.int (Int32.ofNat j))) (.int ((xls k).getD j 0)))
set_option maxRecDepth 100000 in
theorem stW_in : ∀ k, k < 6 → ∀ w ∈ stW k, w ∈ GV := by decide +kernel
set_option maxRecDepth 100000 in
theorem lays_in : ∀ k, k < 6 → Cond.laysStatic "FlashLevels" (xnm k) "[I" ∈ lw_tbl := by decide +kernel
set_option maxRecDepth 100000 in
theorem str_tb : ∀ q ∈ strT, Cond.stringRef q.1 q.2.1 q.2.2 ∈ lw_tbl := by decide +kernel
set_option maxRecDepth 100000 in
theorem str_ex : ∀ q ∈ strT, Cond.exactly (.string q.1 q.2.1) "java/lang/String" ∈ GV := by decide +kernel
set_option maxRecDepth 100000 in
theorem cast_in : ∀ i, i < 3 → Cond.castable (excN i) (excN i) ∈ lw_tbl := by decide +kernel
theorem ws_arr {s : State} {args : Array Value} {ty : FieldType} (hty : ty = .int ∨ ty = .byte) (h : (Cond.arrayClass ty).before args s = true) : ∃ c, ArrOfT s c ty ∧ va_RA s c ty := by
  obtain ⟨c, k, comp, h1, h2, h3⟩ := Cond.arrayClass_spec h
  refine ⟨c, fun N z => ⟨(fun k h => by cases h), k, h2, comp, h3⟩, ?_⟩
  rcases hty with rfl | rfl
  · exact h1
  · exact h1
theorem ws_arO {s : State} {args : Array Value} {C : String} (h : (Cond.arrayOver (.object C)).before args s = true) : ∃ c, ArrOfT s c (.object C) ∧ va_RA s c (.object C) := by
  obtain ⟨comp, c, k, h1, -, h3, h4, h5⟩ := Cond.arrayOver_spec h
  exact ⟨c, fun N z => ⟨(fun k h => by cases h), k, h3, comp, h4⟩, k, comp, h3, h4, h1, h5⟩
set_option maxRecDepth 100000 in
theorem wsE_in : ∀ w ∈ ([.instantiable RX0 2, .instantiable RX1 3, .instantiable RX2 8, .instantiable RX3 8, .instantiable RX4 4, .arrayClass .int, .arrayClass .byte, .arrayOver (.object RX3), .arrayOver (.object RX2), .initialized "FlashLevels", .laysStatic Bundle.tN "UNASSIGNED_STACK" Bundle.steD, .laysStatic Bundle.tN "SUPPRESSED_SENTINEL" Bundle.listD, .initialized Bundle.tN] : List Cond), w ∈ lw_tbl := by decide +kernel
set_option maxRecDepth 100000 in
theorem wsG_in : ∀ w ∈ ([.isRef (.static Bundle.tN "UNASSIGNED_STACK" Bundle.steD), .isRef (.static Bundle.tN "SUPPRESSED_SENTINEL" Bundle.listD)] : List Cond), w ∈ GV := by decide +kernel
theorem ws_K {s : State} {args : Array Value} (hts : ∀ w ∈ lw_tbl, w.before args s = true) : ∃ (dC : Nat → ClassId) (dI : Nat → Nat → Nat) (gt : Nat → ClassId), ∀ G : GG, gD G = (dC, dI) → gT G = gt → va_K (gD G) clsL (tysL G) s := by
  obtain ⟨c0, i0, h0⟩ := u_known (C := RX0) (T := TX0) (N := 2) (n := 2) hts (fun w h => (cl_in0 w h).1) (hts _ (wsE_in _ (by simp)))
  obtain ⟨c1, i1, h1⟩ := u_known (C := RX1) (T := TX1) (N := 3) (n := 3) hts (fun w h => (cl_in1 w h).1) (hts _ (wsE_in _ (by simp)))
  obtain ⟨c2, i2, h2⟩ := u_known (C := RX2) (T := TX2) (N := 8) (n := 8) hts (fun w h => (cl_in2 w h).1) (hts _ (wsE_in _ (by simp)))
  obtain ⟨c3, i3, h3⟩ := u_known (C := RX3) (T := TX3) (N := 8) (n := 8) hts (fun w h => (cl_in3 w h).1) (hts _ (wsE_in _ (by simp)))
  obtain ⟨c4, i4, h4⟩ := u_known (C := RX4) (T := TX4) (N := 4) (n := 4) hts (fun w h => (cl_in4 w h).1) (hts _ (wsE_in _ (by simp)))
  obtain ⟨c5, i5, h5⟩ := u_known (C := RX4) (T := TX4) (N := 4) (n := 4) hts (fun w h => (cl_in4 w h).1) (hts _ (wsE_in _ (by simp)))
  obtain ⟨a0, x0⟩ := ws_arr (ty := .int) (Or.inl rfl) (hts _ (wsE_in _ (by simp)))
  obtain ⟨a1, x1⟩ := ws_arr (ty := .byte) (Or.inr rfl) (hts _ (wsE_in _ (by simp)))
  obtain ⟨a2, x2⟩ := ws_arO (C := RX3) (hts _ (wsE_in _ (by simp)))
  obtain ⟨a3, x3⟩ := ws_arO (C := RX2) (hts _ (wsE_in _ (by simp)))
  refine ⟨fun k => match k with | 0 => c0 | 1 => c1 | 2 => c2 | 3 => c3 | 4 => c4 | _ => c5, fun k => match k with | 0 => i0 | 1 => i1 | 2 => i2 | 3 => i3 | 4 => i4 | _ => i5, fun k => match k with | 0 => a0 | 1 => a1 | 2 => a2 | _ => a3, fun G hD hT => ?_⟩
  rw [hD]
  refine ⟨fun c q hq => ?_, fun k q hk => ?_⟩
  · match c, hq with
    | 0, hq => cases hq; exact h0
    | 1, hq => cases hq; exact h1
    | 2, hq => cases hq; exact h2
    | 3, hq => cases hq; exact h3
    | 4, hq => cases hq; exact h4
    | 5, hq => cases hq; exact h5
    | c + 6, hq => simp [clsL] at hq
  · unfold tysL at hk
    rw [hT] at hk
    match k, hk with
    | 0, hk => cases hk; exact x0
    | 1, hk => cases hk; exact x1
    | 2, hk => cases hk; exact x2
    | 3, hk => cases hk; exact x3
    | k + 4, hk => simp at hk
theorem st_T {s : State} {args : Array Value} (hs : ∀ w ∈ GV, w.before args s = true) {A : Nat → Prop} (hA : ∀ a : Nat, a < s.heap.size → ¬ A a) {k : Nat} (hk : k < 6) (L : Nat) (xs : Nat → Int32) : ∃ t : Nat, (stT k).eval args s none [] s = some (.ref t) ∧ va_T .int t (xlen L k) (fun j => .int (xval xs k j)) A s s.heap := by
  have e : xlen L k = xlen 0 k := (match k, hk with
    | 0, _ => rfl
    | 1, _ => rfl
    | 2, _ => rfl
    | 3, _ => rfl
    | 4, _ => rfl
    | 5, _ => rfl
    | k + 6, h => absurd h (by omega))
  have e2 : xlen 0 k < 2 ^ 31 := (match k, hk with
    | 0, _ => by decide
    | 1, _ => by decide
    | 2, _ => by decide
    | 3, _ => by decide
    | 4, _ => by decide
    | 5, _ => by decide
    | k + 6, h => absurd h (by omega))
  have hb : Nat.ble 6 k = false := by
    cases hq : Nat.ble 6 k with
    | false => rfl
    | true => exact absurd (Nat.le_of_ble_eq_true hq) (by omega)
  rw [e]
  refine va_Tof e2 (hs _ (stW_in k hk _ List.mem_cons_self)) (va_eqt (hs _ (stW_in k hk _ (List.mem_cons_of_mem _ List.mem_cons_self)))) (fun j hj => ?_) hA
  have h := va_eqt (hs _ (stW_in k hk _ (List.mem_cons_of_mem _ (List.mem_cons_of_mem _ (List.mem_map.mpr ⟨j, List.mem_range.mpr hj, rfl⟩)))))
  rw [h]
  unfold xval
  rw [hb]
  rfl
theorem ws_inv {s : State} {b L : Nat} {xs : Nat → Int32} (l : Launch) (hts : ∀ w ∈ lw_tbl, w.before #[Value.ref b] s = true) (hX : va_X b L xs s s.heap) (hbl : b < s.heap.size) (hgv : (Jvm.Cond.and given_1 narrow_1).before #[Value.ref b] s = true) : ∃ G : GG, gl G = l ∧ gB G = s.heap.size ∧ gL G = L ∧ gX G 6 = b ∧ Inv G s := by
  have hs : ∀ w ∈ GV, w.before #[Value.ref b] s = true := flat_of_before _ hgv
  obtain ⟨dC, dI, gt, hK⟩ := ws_K hts
  have hA : ∀ a : Nat, a < s.heap.size → ¬ (fun q => s.heap.size ≤ q) a := fun a h => Nat.not_le.mpr h
  have hst : ∀ k, ∃ t, k < 6 → (stT k).eval #[Value.ref b] s none [] s = some (.ref t) ∧ va_T .int t (xlen L k) (fun j => .int (xval xs k j)) (fun q => s.heap.size ≤ q) s s.heap := by
    intro k
    by_cases hk : k < 6
    · obtain ⟨t, h⟩ := st_T hs hA hk L xs
      exact ⟨t, fun _ => h⟩
    · exact ⟨0, fun h => absurd h hk⟩
  obtain ⟨gx, g6, gk⟩ : ∃ gx : Nat → Nat, gx 6 = b ∧ ∀ k, k < 6 → (stT k).eval #[Value.ref b] s none [] s = some (.ref (gx k)) ∧ va_T .int (gx k) (xlen L k) (fun j => .int (xval xs k j)) (fun q => s.heap.size ≤ q) s s.heap := by
    refine ⟨fun k => if k < 6 then Classical.choose (hst k) else b, if_neg (by omega), fun k hk => ?_⟩
    simp only [if_pos hk]
    exact Classical.choose_spec (hst k) hk
  refine ⟨(l, s.heap.size, (dC, dI), gt, gx, L, xs), rfl, rfl, rfl, g6, hK _ rfl rfl, fun k hk => ?_, fun k hk => ?_, ?_, ?_, fun q hq => ?_, fun z hz w hw => ?_, fun i hi => ?_, fun _ _ _ _ _ => trivial, ?_, ?_, fun x hx => ?_⟩
  · exact va_Zref (hts _ (lays_in k hk)) (hts _ (wsE_in _ (by simp))) (gk k hk).1 hA
  · by_cases h6 : k < 6
    · exact (gk k h6).2
    · obtain rfl : k = 6 := by omega
      show va_T .int (gx 6) L (fun j => .int (xs j)) (fun q => s.heap.size ≤ q) s s.heap
      rw [g6]
      obtain ⟨scr, x1, x2, x3, x4, x5⟩ := hX
      exact ⟨scr, x1, x2, x3, Nat.le_of_eq x4.symm, by rw [x4], x5, hA b hbl⟩
  · exact vx_Zqof (hts _ (wsE_in _ (by simp))) (hts _ (wsE_in _ (by simp))) (hs _ (wsG_in _ (by simp))) hA
  · exact vx_Zqof (hts _ (wsE_in _ (by simp))) (hts _ (wsE_in _ (by simp))) (hs _ (wsG_in _ (by simp))) hA
  · obtain ⟨a, c, cell, k, h1, -⟩ := Cond.exactly_spec (hs _ (str_ex q hq))
    exact ⟨a, vk_R.of (hts _ (str_tb q hq)) h1⟩
  · refine va_Nw.of ?_ (hts w (List.mem_append_right _ (List.mem_of_getElem? hw)))
    have h1 := List.all_eq_true.mp nestT_ok z hz
    rw [hw] at h1
    cases w <;> first | rfl | cases h1
  · exact va_Nw.of rfl (hts _ (cast_in i hi))
  · exact va_AO.of (hts _ (wsE_in _ (by simp)))
  · exact va_AO.of (hts _ (wsE_in _ (by simp)))
  · exact va_Nw.of rfl (hts _ hx)
theorem stand_less {p : Program} {l : Launch} {e : Env} {R R' : Room} {s : State} {m : MethodId} {args : Array Value} {below : List Frame} {meth : Method} {c : Code} {T : State} {locs : List Loc} {cells slots : Nat} (X : Stand p l e R s m args below meth c T locs cells slots) (hf : R'.frames ≤ R.frames) (hl : R'.locals ≤ R.locals) (hc : R'.cells ≤ R.cells) (hs : R'.slots ≤ R.slots) : Stand p l e R' s m args below meth c T locs cells slots := by
  refine ⟨X.admits, X.cas, X.clock, X.frames, ?_, X.hears, X.method, X.code, X.here, X.tail, X.warmed, X.limits, X.bytes, X.same⟩
  have h := X.room
  simp only [State.hasRoom, Bool.and_eq_true, decide_eq_true_eq] at h ⊢
  obtain ⟨⟨⟨⟨h1, h2, h3, h4, h5, h6⟩, h7⟩, h8⟩, h9⟩ := h
  exact ⟨⟨⟨⟨by omega, by omega, by omega, by omega, by omega, h6⟩, by omega⟩, by omega⟩, h9⟩
