/-! ===== an abstract machine over the bytecode: heaps are functions from numbers to cells, locals and stacks lists of values; 'AW' ties it to the machine ===== -/
abbrev AC : Type := (Nat × vp_A) ⊕ (Nat × List Value)
abbrev AH : Type := Nat → AC
abbrev AL : Type := List (Option Value)
/-- live cells, cells made in all, slots made in all -/
abbrev W3 : Type := Nat × Nat × Nat
/-- how a call ends: with a value, or with the exception excN j -/
abbrev AO : Type := Option Value ⊕ Nat
abbrev AF : Type := AO × AH × W3
/-- a run's constants: launch, first own address, class numbers and slots, classes of arrays, addresses of the arrays outside, the script -/
abbrev GG : Type := Launch × Nat × va_G × (Nat → ClassId) × (Nat → Nat) × Nat × (Nat → Int32)
abbrev gl (G : GG) : Launch := G.1
abbrev gB (G : GG) : Nat := G.2.1
abbrev gD (G : GG) : va_G := G.2.2.1
abbrev gT (G : GG) : Nat → ClassId := G.2.2.2.1
abbrev gX (G : GG) : Nat → Nat := G.2.2.2.2.1
abbrev gL (G : GG) : Nat := G.2.2.2.2.2.1
abbrev gS (G : GG) : Nat → Int32 := G.2.2.2.2.2.2
def gA (G : GG) : Nat → Prop := fun q => gB G ≤ q
def tyF : Nat → FieldType := fun k => match k with
  | 0 => .int
  | 1 => .byte
  | 2 => .object "FlashLevels$Page"
  | _ => .object "FlashLevels$Memory"
def tysL (G : GG) : List (ClassId × FieldType) := [(gT G 0, tyF 0), (gT G 1, tyF 1), (gT G 2, tyF 2), (gT G 3, tyF 3)]
theorem tysL_get (G : GG) {k : Nat} (h : k < 4) : (tysL G)[k]? = some (gT G k, tyF k) := by
  match k, h with
  | 0, _ => rfl
  | 1, _ => rfl
  | 2, _ => rfl
  | 3, _ => rfl
  | k + 4, h => exact absurd h (by omega)
def xlen (L : Nat) : Nat → Nat := fun k => match k with
  | 0 => 6
  | 1 => 6
  | 2 => 9
  | 3 => 3
  | 4 => 4
  | 5 => 4
  | _ => L
def xls : Nat → List Int32 := fun k => match k with
  | 0 => [10, 4, 2, 3, 5, 1]
  | 1 => [60, 50, 8, 30, 100, 10]
  | 2 => [0, 0, 0, -10, -20, -30, -20, -40, -60]
  | 3 => [100, 200, 300]
  | 4 => [3, 1, 0, 2]
  | _ => [2, 1, 3, 0]
def xval (xs : Nat → Int32) (k j : Nat) : Int32 := bif Nat.ble 6 k then xs j else (xls k).getD j 0
def cv (G : GG) : Value → Value := fun v => match v with
  | .ref k => .ref (gB G + k)
  | .retAddr k => .ref (gX G k)
  | v => v
abbrev crT : Type := (Nat → Int32) ⊕ (Nat → Int64) ⊕ (Nat → UInt32) ⊕ (Nat → UInt64) ⊕ (Nat → Option Nat)
def crr (G : GG) (x : crT) : crT := match x with
  | .inr (.inr (.inr (.inr f))) => .inr (.inr (.inr (.inr fun i => (f i).map (gB G + ·))))
  | y => y
def cca (G : GG) : AC → va_E := fun x => match x with
  | .inl (tk, n, a) => .inl (gT G tk, n, crr G a)
  | .inr (ci, fs) => .inr (ci, fs.map (cv G))
def WS (G : GG) (h : AH) (n : Nat) : va_W := (List.range n).map (fun k => (gB G + k, cca G (h k)))
theorem WS_get {G : GG} {h : AH} {n k : Nat} (hk : k < n) : (WS G h n)[k]? = some (gB G + k, cca G (h k)) := by
  simp [WS, hk]
theorem WS_len {G : GG} {h : AH} {n : Nat} : (WS G h n).length = n := by simp [WS]
theorem WS_some {G : GG} {h : AH} {n k : Nat} {q : Nat × va_E} (hq : (WS G h n)[k]? = some q) : k < n ∧ q = (gB G + k, cca G (h k)) := by
  have h1 := (List.getElem?_eq_some_iff.mp hq).1
  rw [WS_len] at h1
  rw [WS_get h1] at hq
  exact ⟨h1, (Option.some.inj hq).symm⟩
theorem WS_D {G : GG} {h : AH} {n : Nat} : va_D (gA G) (WS G h n) := by
  refine ⟨fun i j p q hi hj e => ?_, fun k q hk => ?_⟩
  · have a := (WS_some hi).2
    have b := (WS_some hj).2
    rw [a, b] at e
    have e : gB G + i = gB G + j := e
    omega
  · rw [(WS_some hk).2]
    exact Nat.le_add_right _ _
def upA (h : AH) (k : Nat) (e : AC) : AH := fun j => if j = k then e else h j
theorem upA_eq {h : AH} {k : Nat} {e : AC} : upA h k e k = e := by simp [upA]
theorem upA_ne {h : AH} {k j : Nat} {e x : AC} (hj : j ≠ k) (hx : h j = x) : upA h k e j = x := by simp [upA, hj, hx]
theorem WS_set {G : GG} {h : AH} {n k : Nat} {e : AC} : (WS G h n).set k (gB G + k, cca G e) = WS G (upA h k e) n := by
  refine List.ext_getElem? fun j => ?_
  by_cases hj : j < n
  · rw [WS_get hj]
    by_cases hjk : j = k
    · subst hjk
      rw [List.getElem?_set_self (by rw [WS_len]; exact hj), upA_eq]
    · rw [List.getElem?_set_ne (fun q => hjk q.symm), WS_get hj]
      simp [upA, hjk]
  · rw [List.getElem?_eq_none (by rw [List.length_set, WS_len]; omega), List.getElem?_eq_none (by rw [WS_len]; omega)]
theorem WS_push {G : GG} {h : AH} {n : Nat} {e : AC} : WS G h n ++ [(gB G + n, cca G e)] = WS G (upA h n e) (n + 1) := by
  refine List.ext_getElem? fun j => ?_
  by_cases hj : j < n
  · rw [List.getElem?_append_left (by rw [WS_len]; exact hj), WS_get hj, WS_get (by omega)]
    simp [upA, Nat.ne_of_lt hj]
  · rw [List.getElem?_append_right (by rw [WS_len]; omega), WS_len]
    by_cases hn : j = n
    · subst hn
      rw [WS_get (by omega), Nat.sub_self, upA_eq]
      rfl
    · rw [List.getElem?_eq_none (by show 1 ≤ _; omega), List.getElem?_eq_none (by rw [WS_len]; omega)]
/-- the heap holds the cells below n; behind them the abstract heap is dead -/
def Rep (G : GG) (h : AH) (n : Nat) (H : Heap) : Prop := va_P (gD G) clsL (WS G h n) H ∧ ∀ k, n ≤ k → h k = .inr (99, [])
-- locals
def asc (G : GG) : Nat → AL → List (Nat × Value)
  | _, [] => []
  | i, none :: t => asc G (i + 1) t
  | i, some v :: t => (i, cv G v) :: asc G (i + 1) t
theorem asc_mem {G : GG} : ∀ (lv : AL) (i j : Nat) (w : Value), (j, w) ∈ asc G i lv ↔ ∃ k v, lv[k]? = some (some v) ∧ j = i + k ∧ w = cv G v
  | [], i, j, w => by simp [asc]
  | none :: t, i, j, w => by
    rw [asc, asc_mem t (i + 1) j w]
    refine ⟨fun ⟨k, v, h1, h2, h3⟩ => ⟨k + 1, v, by simpa using h1, by omega, h3⟩, fun ⟨k, v, h1, h2, h3⟩ => ?_⟩
    match k, h1 with
    | 0, h1 => simp at h1
    | k + 1, h1 => exact ⟨k, v, by simpa using h1, by omega, h3⟩
  | some u :: t, i, j, w => by
    rw [asc, List.mem_cons, asc_mem t (i + 1) j w]
    refine ⟨fun q => ?_, fun ⟨k, v, h1, h2, h3⟩ => ?_⟩
    · rcases q with q | ⟨k, v, h1, h2, h3⟩
      · cases q
        exact ⟨0, u, rfl, rfl, rfl⟩
      · exact ⟨k + 1, v, by simpa using h1, by omega, h3⟩
    · match k, h1 with
      | 0, h1 =>
        simp at h1
        subst h1
        exact Or.inl (by rw [h2, h3]; rfl)
      | k + 1, h1 => exact Or.inr ⟨k, v, by simpa using h1, by omega, h3⟩
def LV (G : GG) (lv : AL) (ls : Array Slot) : Prop := lv_has ls lv.length (asc G 0 lv)
theorem LV.at {G : GG} {lv : AL} {ls : Array Slot} (h : LV G lv ls) {i : Nat} {v : Value} (hi : lv[i]? = some (some v)) : ls[i]? = some (.val (cv G v)) :=
  h.2.2 (i, cv G v) ((asc_mem lv 0 i _).mpr ⟨i, v, hi, by omega, rfl⟩)
def c2 (a : Option Value) : Bool := match a with
  | some (.long _) => true
  | some (.double _) => true
  | _ => false
def st1 : AL → Nat → Option Value → AL
  | [], _, _ => []
  | _ :: t, 0, v => v :: t
  | a :: t, i + 1, v => (bif Nat.beq i 0 && c2 a then none else a) :: st1 t i v
def st2 : AL → Nat → Option Value → AL
  | [], _, _ => []
  | [a], _, _ => [none]
  | _ :: _ :: t, 0, v => v :: none :: t
  | a :: b :: t, i + 1, v => (bif Nat.beq i 0 && c2 a then none else a) :: st2 (b :: t) i v
theorem st1_len : ∀ (lv : AL) (i : Nat) (v : Option Value), (st1 lv i v).length = lv.length
  | [], _, _ => rfl
  | _ :: t, 0, v => rfl
  | a :: t, i + 1, v => by simp [st1, st1_len t i v]
theorem st2_len : ∀ (lv : AL) (i : Nat) (v : Option Value), (st2 lv i v).length = lv.length
  | [], _, _ => rfl
  | [a], _, _ => by simp [st2]
  | _ :: _ :: t, 0, v => rfl
  | a :: b :: t, i + 1, v => by simp [st2, st2_len (b :: t) i v]
theorem c2_cat {v : Value} (h : c2 (some v) = false) : ¬ v.category = 2 := by cases v <;> simp_all [c2, Value.category]
theorem cv_cat {G : GG} {v : Value} : (cv G v).category = v.category := by cases v <;> rfl
theorem st1_get : ∀ (lv : AL) (i k : Nat) (v : Option Value) (w : Value), (st1 lv i v)[k]? = some (some w) → (k = i ∧ v = some w) ∨ (k ≠ i ∧ lv[k]? = some (some w) ∧ ¬ (k + 1 = i ∧ w.category = 2))
  | [], _, _, _, _, h => by simp [st1] at h
  | a :: t, 0, 0, v, w, h => Or.inl ⟨rfl, by simpa [st1] using h⟩
  | a :: t, 0, k + 1, v, w, h => Or.inr ⟨by omega, by simpa [st1] using h, by omega⟩
  | a :: t, i + 1, 0, v, w, h => by
    refine Or.inr ⟨by omega, ?_⟩
    cases hb : (Nat.beq i 0 && c2 a) with
    | true => simp [st1, hb] at h
    | false =>
      simp [st1, hb] at h
      subst h
      refine ⟨by simp, fun ⟨q1, q2⟩ => ?_⟩
      have hi : i = 0 := by omega
      subst hi
      have hb : c2 (some w) = false := by simpa using hb
      exact c2_cat hb q2
  | a :: t, i + 1, k + 1, v, w, h => by
    have h1 : (st1 t i v)[k]? = some (some w) := by simpa [st1] using h
    rcases st1_get t i k v w h1 with ⟨q1, q2⟩ | ⟨q1, q2, q3⟩
    · exact Or.inl ⟨by omega, q2⟩
    · exact Or.inr ⟨by omega, by simpa using q2, fun ⟨z1, z2⟩ => q3 ⟨by omega, z2⟩⟩
theorem st2_get : ∀ (lv : AL) (i k : Nat) (v : Option Value) (w : Value), (st2 lv i v)[k]? = some (some w) → (k = i ∧ v = some w) ∨ (k ≠ i ∧ k ≠ i + 1 ∧ lv[k]? = some (some w) ∧ ¬ (k + 1 = i ∧ w.category = 2))
  | [], _, _, _, _, h => by simp [st2] at h
  | [a], i, k, v, w, h => by
    simp only [st2] at h
    match k, h with
    | 0, h => simp at h
    | k + 1, h => simp at h
  | a :: b :: t, 0, 0, v, w, h => Or.inl ⟨rfl, by simpa [st2] using h⟩
  | a :: b :: t, 0, 1, v, w, h => by simp [st2] at h
  | a :: b :: t, 0, k + 2, v, w, h => Or.inr ⟨by omega, by omega, by simpa [st2] using h, by omega⟩
  | a :: b :: t, i + 1, 0, v, w, h => by
    refine Or.inr ⟨by omega, by omega, ?_⟩
    cases hb : (Nat.beq i 0 && c2 a) with
    | true => simp [st2, hb] at h
    | false =>
      simp [st2, hb] at h
      subst h
      refine ⟨by simp, fun ⟨q1, q2⟩ => ?_⟩
      have hi : i = 0 := by omega
      subst hi
      have hb : c2 (some w) = false := by simpa using hb
      exact c2_cat hb q2
  | a :: b :: t, i + 1, k + 1, v, w, h => by
    have h1 : (st2 (b :: t) i v)[k]? = some (some w) := by simpa [st2] using h
    rcases st2_get (b :: t) i k v w h1 with ⟨q1, q2⟩ | ⟨q1, q2, q3, q4⟩
    · exact Or.inl ⟨by omega, q2⟩
    · exact Or.inr ⟨by omega, by omega, by simpa using q3, fun ⟨z1, z2⟩ => q4 ⟨by omega, z2⟩⟩
/-- behind a store of one slot, from what the kit says of it -/
theorem LV.st1 {G : GG} {lv : AL} {ls' : Array Slot} {i : Nat} {v : Option Value} {w : Value} (h : lv_has ls' lv.length ((i, w) :: (asc G 0 lv).filter (fun q => !(q.1 == i) && !(q.1 + 1 == i && q.2.category == 2)))) (hv : v = none ∨ ∃ u, v = some u ∧ w = cv G u) : LV G (st1 lv i v) ls' := by
  refine ⟨by rw [st1_len]; exact h.1, h.2.1, fun q hq => h.2.2 q ?_⟩
  obtain ⟨j, x⟩ := q
  obtain ⟨k, u, h1, h2, h3⟩ := (asc_mem _ 0 j x).mp hq
  have hk : j = k := by omega
  subst hk
  rcases st1_get _ _ _ _ _ h1 with ⟨q1, q2⟩ | ⟨q1, q2, q3⟩
  · rcases hv with hv | ⟨u', hv, hw⟩
    · rw [hv] at q2; cases q2
    · rw [hv] at q2
      cases q2
      rw [q1, h3, hw]
      exact List.mem_cons_self
  · refine List.mem_cons_of_mem _ (List.mem_filter.mpr ⟨(asc_mem _ 0 j x).mpr ⟨j, u, q2, by omega, h3⟩, ?_⟩)
    have e1 : (j == i) = false := by simpa using q1
    have e2 : (j + 1 == i && x.category == 2) = false := by
      rw [h3, cv_cat]
      cases hb : (j + 1 == i && u.category == 2) with
      | false => rfl
      | true =>
        simp only [Bool.and_eq_true, beq_iff_eq] at hb
        exact absurd hb q3
    show (!(j == i) && !(j + 1 == i && x.category == 2)) = true
    rw [e1, e2]
    rfl
theorem LV.st2 {G : GG} {lv : AL} {ls' : Array Slot} {i : Nat} {u : Value} (h : lv_has ls' lv.length ((i, cv G u) :: (asc G 0 lv).filter (fun q => !(q.1 == i) && (!(q.1 == i + 1) && !(q.1 + 1 == i && q.2.category == 2))))) : LV G (st2 lv i (some u)) ls' := by
  refine ⟨by rw [st2_len]; exact h.1, h.2.1, fun q hq => h.2.2 q ?_⟩
  obtain ⟨j, x⟩ := q
  obtain ⟨k, u', h1, h2, h3⟩ := (asc_mem _ 0 j x).mp hq
  have hk : j = k := by omega
  subst hk
  rcases st2_get _ _ _ _ _ h1 with ⟨q1, q2⟩ | ⟨q1, q1', q2, q3⟩
  · cases q2
    rw [q1, h3]
    exact List.mem_cons_self
  · refine List.mem_cons_of_mem _ (List.mem_filter.mpr ⟨(asc_mem _ 0 j x).mpr ⟨j, u', q2, by omega, h3⟩, ?_⟩)
    have e1 : (j == i) = false := by simpa using q1
    have e1' : (j == i + 1) = false := by simpa using q1'
    have e2 : (j + 1 == i && x.category == 2) = false := by
      rw [h3, cv_cat]
      cases hb : (j + 1 == i && u'.category == 2) with
      | false => rfl
      | true =>
        simp only [Bool.and_eq_true, beq_iff_eq] at hb
        exact absurd hb q3
    show (!(j == i) && (!(j == i + 1) && !(j + 1 == i && x.category == 2))) = true
    rw [e1, e1', e2]
    rfl
/-- fewer known locals -/
theorem LV.less {G : GG} {lv lv' : AL} {ls : Array Slot} (h : LV G lv ls) (hl : lv'.length = lv.length) (hs : ∀ (k : Nat) (v : Value), lv'[k]? = some (some v) → lv[k]? = some (some v)) : LV G lv' ls := by
  refine ⟨by rw [hl]; exact h.1, h.2.1, fun q hq => ?_⟩
  obtain ⟨j, x⟩ := q
  obtain ⟨k, u, h1, h2, h3⟩ := (asc_mem _ 0 j x).mp hq
  exact h.2.2 _ ((asc_mem _ 0 j x).mpr ⟨k, u, hs k u h1, h2, h3⟩)
