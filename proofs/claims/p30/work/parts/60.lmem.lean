/-! ===== the law: its memory, eleven arrays at the numbers 154 to 164: the numbers z and the count of saved states k ===== -/
def slc (z : ZZ) (o n : Nat) : ZZ := fun i => if i < n then z (o + i) else 0
def nZ (z : ZZ) (k : Int32) : ZZ := fun i => if i = 0 then z 7 else if i = 1 then z 6 else if i < 4 then z (26 + i) else if i = 4 then z 8 else if i = 5 then k else if i = 6 then z 27 else if i < 13 then z (i - 7) else 0
def lwC (z : ZZ) (k : Int32) : Nat → AC := fun o => match o with
  | 0 => .inl (0, 13, .inl (nZ z k))
  | 1 => .inl (0, 64, .inl (slc z 86 64))
  | 2 => .inl (0, 64, .inl (slc z 150 64))
  | 3 => .inl (0, 8, .inl (slc z 30 8))
  | 4 => .inl (0, 8, .inl (slc z 38 8))
  | 5 => .inl (0, 8, .inl (slc z 46 8))
  | 6 => .inl (0, 8, .inl (slc z 54 8))
  | 7 => .inl (0, 8, .inl (slc z 62 8))
  | 8 => .inl (0, 8, .inl (slc z 70 8))
  | 9 => .inl (0, 8, .inl (slc z 78 8))
  | _ => .inl (0, 18, .inl (slc z 9 18))
def setL (h : AH) (z : ZZ) (k : Int32) : AH := fun a => bif Nat.ble 154 a && Nat.ble a 164 then lwC z k (a - 154) else h a
theorem setL_out {h : AH} {z : ZZ} {k : Int32} {a : Nat} (ha : a < 154) : setL h z k a = h a := by
  unfold setL
  cases hb : (Nat.ble 154 a && Nat.ble a 164) with
  | false => rfl
  | true =>
    simp only [Bool.and_eq_true] at hb
    exact absurd (Nat.le_of_ble_eq_true hb.1) (by omega)
theorem setL_out2 {h : AH} {z : ZZ} {k : Int32} {a : Nat} (ha : 165 ≤ a) : setL h z k a = h a := by
  unfold setL
  cases hb : (Nat.ble 154 a && Nat.ble a 164) with
  | false => rfl
  | true =>
    simp only [Bool.and_eq_true] at hb
    exact absurd (Nat.le_of_ble_eq_true hb.2) (by omega)
theorem setL_in {h h' : AH} {z : ZZ} {k : Int32} {a : Nat} (ha : 154 ≤ a) (ha2 : a ≤ 164) : setL h z k a = setL h' z k a := by
  unfold setL
  rw [Nat.ble_eq_true_of_le ha, Nat.ble_eq_true_of_le ha2]
  rfl
/-- a heap that has the law's arrays is one of this form -/
theorem setL_of {h h1 : AH} {z : ZZ} {k : Int32} (hh : ∀ a, 154 ≤ a → h a = setL h1 z k a) : h = setL h z k := by
  funext a
  by_cases h1 : a < 154
  · rw [setL_out h1]
  · by_cases h2 : 165 ≤ a
    · rw [setL_out2 h2]
    · rw [hh a (by omega)]
      exact setL_in (by omega) (by omega)
theorem setL_up {h : AH} {z z' : ZZ} {k k' : Int32} {o : Nat} {e : AC} (ho : o < 11) (he : lwC z' k' o = e) (hx : ∀ j, j < 11 → j ≠ o → lwC z' k' j = lwC z k j) : upA (setL h z k) (154 + o) e = setL h z' k' := by
  funext a
  by_cases ha : a = 154 + o
  · subst ha
    rw [upA_eq, setL, Nat.ble_eq_true_of_le (by omega), Nat.ble_eq_true_of_le (by omega : 154 + o ≤ 164), Nat.add_sub_cancel_left, he]
    rfl
  · simp only [upA, if_neg ha, setL]
    cases hb : (Nat.ble 154 a && Nat.ble a 164) with
    | false => simp only [cond_false]
    | true =>
      simp only [Bool.and_eq_true] at hb
      have h1 := Nat.le_of_ble_eq_true hb.1
      have h2 := Nat.le_of_ble_eq_true hb.2
      simp only [cond_true]
      rw [hx (a - 154) (by omega) (by omega)]
theorem elv {P : Nat → Prop} (h0 : P 0) (h1 : P 1) (h2 : P 2) (h3 : P 3) (h4 : P 4) (h5 : P 5) (h6 : P 6) (h7 : P 7) (h8 : P 8) (h9 : P 9) (h10 : P 10) : ∀ j, j < 11 → P j := by
  intro j hj
  match j, hj with
  | 0, _ => exact h0
  | 1, _ => exact h1
  | 2, _ => exact h2
  | 3, _ => exact h3
  | 4, _ => exact h4
  | 5, _ => exact h5
  | 6, _ => exact h6
  | 7, _ => exact h7
  | 8, _ => exact h8
  | 9, _ => exact h9
  | 10, _ => exact h10
  | j + 11, h => exact absurd h (by omega)
theorem slc_in {z : ZZ} {o n i : Nat} (h : i < n) : slc z o n i = z (o + i) := if_pos h
theorem slc_upd {z : ZZ} {o n i : Nat} {v : Int32} (h : i < n) : slc (upd z (o + i) v) o n = upd (slc z o n) i v := by
  funext j
  unfold slc
  by_cases hj : j = i
  · subst hj
    rw [if_pos h, upd_eq, upd_eq]
  · rw [upd_ne hj]
    by_cases h2 : j < n
    · rw [if_pos h2, if_pos h2, upd_ne (by omega)]
    · rw [if_neg h2, if_neg h2]
theorem slc_out {z : ZZ} {o n j : Nat} {v : Int32} (h : j < o ∨ o + n ≤ j) : slc (upd z j v) o n = slc z o n := by
  funext i
  unfold slc
  by_cases h2 : i < n
  · rw [if_pos h2, if_pos h2, upd_ne (by omega)]
  · rw [if_neg h2, if_neg h2]
/-- where the number i of n lies -/
def nIx (i : Nat) : Nat := if i = 0 then 7 else if i = 1 then 6 else if i < 4 then 26 + i else if i = 4 then 8 else if i = 6 then 27 else i - 7
theorem nZ_at {z : ZZ} {k : Int32} {i : Nat} (h5 : i ≠ 5) (hi : i < 13) : nZ z k i = z (nIx i) := by
  unfold nZ nIx
  by_cases h0 : i = 0
  · rw [if_pos h0, if_pos h0]
  · rw [if_neg h0, if_neg h0]
    by_cases h1 : i = 1
    · rw [if_pos h1, if_pos h1]
    · rw [if_neg h1, if_neg h1]
      by_cases h2 : i < 4
      · rw [if_pos h2, if_pos h2]
      · rw [if_neg h2, if_neg h2]
        by_cases h4 : i = 4
        · rw [if_pos h4, if_pos h4]
        · rw [if_neg h4, if_neg h4, if_neg h5]
          by_cases h6 : i = 6
          · rw [if_pos h6, if_pos h6]
          · rw [if_neg h6, if_neg h6, if_pos hi]
theorem nZ_13 {z : ZZ} {k : Int32} {i : Nat} (hi : 13 ≤ i) : nZ z k i = 0 := by
  unfold nZ
  rw [if_neg (by omega), if_neg (by omega), if_neg (by omega), if_neg (by omega), if_neg (by omega), if_neg (by omega), if_neg (by omega)]
theorem nZ_5 {z : ZZ} {k : Int32} : nZ z k 5 = k := rfl
theorem nIx_inj {i j : Nat} (hi : i < 13) (hj : j < 13) (h5 : i ≠ 5) (h6 : j ≠ 5) (h : nIx i = nIx j) : i = j := by
  have key : ∀ i, i < 13 → ∀ j, j < 13 → i ≠ 5 → j ≠ 5 → nIx i = nIx j → i = j := by decide
  exact key i hi j hj h5 h6 h
theorem nZ_upd {z : ZZ} {k : Int32} {i : Nat} {v : Int32} (h5 : i ≠ 5) (hi : i < 13) : nZ (upd z (nIx i) v) k = upd (nZ z k) i v := by
  funext j
  by_cases hj : j = i
  · subst hj
    rw [upd_eq, nZ_at h5 hi, upd_eq]
  · rw [upd_ne hj]
    by_cases j5 : j = 5
    · subst j5
      rfl
    · by_cases jh : j < 13
      · rw [nZ_at j5 jh, nZ_at j5 jh, upd_ne (fun q => hj (nIx_inj jh hi j5 h5 q))]
      · rw [nZ_13 (by omega), nZ_13 (by omega)]
theorem nZ_k {z : ZZ} {k x : Int32} : nZ z x = upd (nZ z k) 5 x := by
  funext j
  by_cases hj : j = 5
  · subst hj
    rw [upd_eq]
    rfl
  · rw [upd_ne hj]
    by_cases jh : j < 13
    · rw [nZ_at hj jh, nZ_at hj jh]
    · rw [nZ_13 (by omega), nZ_13 (by omega)]
theorem nIx_lo : ∀ i, i < 13 → nIx i < 9 ∨ 27 ≤ nIx i ∧ nIx i < 30 := by decide
theorem nZ_out {z : ZZ} {k : Int32} {j : Nat} {v : Int32} (h : 9 ≤ j ∧ j < 27 ∨ 30 ≤ j) : nZ (upd z j v) k = nZ z k := by
  funext i
  by_cases h5 : i = 5
  · subst h5
    rfl
  · by_cases hi : i < 13
    · have h1 := nIx_lo i hi
      rw [nZ_at h5 hi, nZ_at h5 hi, upd_ne (by omega)]
    · rw [nZ_13 (by omega), nZ_13 (by omega)]
theorem lwC_slc {z z' : ZZ} {k k' : Int32} (hn : nZ z' k' = nZ z k) (hs : ∀ o n, (o, n) ∈ ([(86, 64), (150, 64), (30, 8), (38, 8), (46, 8), (54, 8), (62, 8), (70, 8), (78, 8), (9, 18)] : List (Nat × Nat)) → slc z' o n = slc z o n) : True := trivial
theorem setL_n {h : AH} {z : ZZ} {k : Int32} {i : Nat} {v : Int32} (h5 : i ≠ 5) (hi : i < 13) : upA (setL h z k) 154 (.inl (0, 13, .inl (upd (nZ z k) i v))) = setL h (upd z (nIx i) v) k := by
  have h1 := nIx_lo i hi
  refine setL_up (o := 0) (by omega) ?_ (elv (fun q => absurd rfl q) (fun _ => ?_) (fun _ => ?_) (fun _ => ?_) (fun _ => ?_) (fun _ => ?_) (fun _ => ?_) (fun _ => ?_) (fun _ => ?_) (fun _ => ?_) (fun _ => ?_))
  · show (Sum.inl (0, 13, .inl (nZ (upd z (nIx i) v) k)) : AC) = _
    rw [nZ_upd h5 hi]
  · show (Sum.inl (0, 64, .inl (slc (upd z (nIx i) v) 86 64)) : AC) = .inl (0, 64, .inl (slc z 86 64))
    rw [slc_out (by omega)]
  · show (Sum.inl (0, 64, .inl (slc (upd z (nIx i) v) 150 64)) : AC) = .inl (0, 64, .inl (slc z 150 64))
    rw [slc_out (by omega)]
  · show (Sum.inl (0, 8, .inl (slc (upd z (nIx i) v) 30 8)) : AC) = .inl (0, 8, .inl (slc z 30 8))
    rw [slc_out (by omega)]
  · show (Sum.inl (0, 8, .inl (slc (upd z (nIx i) v) 38 8)) : AC) = .inl (0, 8, .inl (slc z 38 8))
    rw [slc_out (by omega)]
  · show (Sum.inl (0, 8, .inl (slc (upd z (nIx i) v) 46 8)) : AC) = .inl (0, 8, .inl (slc z 46 8))
    rw [slc_out (by omega)]
  · show (Sum.inl (0, 8, .inl (slc (upd z (nIx i) v) 54 8)) : AC) = .inl (0, 8, .inl (slc z 54 8))
    rw [slc_out (by omega)]
  · show (Sum.inl (0, 8, .inl (slc (upd z (nIx i) v) 62 8)) : AC) = .inl (0, 8, .inl (slc z 62 8))
    rw [slc_out (by omega)]
  · show (Sum.inl (0, 8, .inl (slc (upd z (nIx i) v) 70 8)) : AC) = .inl (0, 8, .inl (slc z 70 8))
    rw [slc_out (by omega)]
  · show (Sum.inl (0, 8, .inl (slc (upd z (nIx i) v) 78 8)) : AC) = .inl (0, 8, .inl (slc z 78 8))
    rw [slc_out (by omega)]
  · show (Sum.inl (0, 18, .inl (slc (upd z (nIx i) v) 9 18)) : AC) = .inl (0, 18, .inl (slc z 9 18))
    rw [slc_out (by omega)]
theorem setL_k {h : AH} {z : ZZ} {k v : Int32} : upA (setL h z k) 154 (.inl (0, 13, .inl (upd (nZ z k) 5 v))) = setL h z v := by
  refine setL_up (o := 0) (by omega) ?_ (elv (fun q => absurd rfl q) (fun _ => rfl) (fun _ => rfl) (fun _ => rfl) (fun _ => rfl) (fun _ => rfl) (fun _ => rfl) (fun _ => rfl) (fun _ => rfl) (fun _ => rfl) (fun _ => rfl))
  show (Sum.inl (0, 13, .inl (nZ z v)) : AC) = _
  rw [nZ_k (k := k)]
theorem setL_a {h : AH} {z : ZZ} {k : Int32} {i : Nat} {v : Int32} (hi : i < 64) : upA (setL h z k) 155 (.inl (0, 64, .inl (upd (slc z 86 64) i v))) = setL h (upd z (86 + i) v) k := by
  refine setL_up (o := 1) (by omega) ?_ (elv (fun _ => ?_) (fun q => absurd rfl q) (fun _ => ?_) (fun _ => ?_) (fun _ => ?_) (fun _ => ?_) (fun _ => ?_) (fun _ => ?_) (fun _ => ?_) (fun _ => ?_) (fun _ => ?_))
  · show (Sum.inl (0, 64, .inl (slc (upd z (86 + i) v) 86 64)) : AC) = _
    rw [slc_upd hi]
  · show (Sum.inl (0, 13, .inl (nZ (upd z (86 + i) v) k)) : AC) = .inl (0, 13, .inl (nZ z k))
    rw [nZ_out (by omega)]
  · show (Sum.inl (0, 64, .inl (slc (upd z (86 + i) v) 150 64)) : AC) = .inl (0, 64, .inl (slc z 150 64))
    rw [slc_out (by omega)]
  · show (Sum.inl (0, 8, .inl (slc (upd z (86 + i) v) 30 8)) : AC) = .inl (0, 8, .inl (slc z 30 8))
    rw [slc_out (by omega)]
  · show (Sum.inl (0, 8, .inl (slc (upd z (86 + i) v) 38 8)) : AC) = .inl (0, 8, .inl (slc z 38 8))
    rw [slc_out (by omega)]
  · show (Sum.inl (0, 8, .inl (slc (upd z (86 + i) v) 46 8)) : AC) = .inl (0, 8, .inl (slc z 46 8))
    rw [slc_out (by omega)]
  · show (Sum.inl (0, 8, .inl (slc (upd z (86 + i) v) 54 8)) : AC) = .inl (0, 8, .inl (slc z 54 8))
    rw [slc_out (by omega)]
  · show (Sum.inl (0, 8, .inl (slc (upd z (86 + i) v) 62 8)) : AC) = .inl (0, 8, .inl (slc z 62 8))
    rw [slc_out (by omega)]
  · show (Sum.inl (0, 8, .inl (slc (upd z (86 + i) v) 70 8)) : AC) = .inl (0, 8, .inl (slc z 70 8))
    rw [slc_out (by omega)]
  · show (Sum.inl (0, 8, .inl (slc (upd z (86 + i) v) 78 8)) : AC) = .inl (0, 8, .inl (slc z 78 8))
    rw [slc_out (by omega)]
  · show (Sum.inl (0, 18, .inl (slc (upd z (86 + i) v) 9 18)) : AC) = .inl (0, 18, .inl (slc z 9 18))
    rw [slc_out (by omega)]
theorem setL_b {h : AH} {z : ZZ} {k : Int32} {i : Nat} {v : Int32} (hi : i < 64) : upA (setL h z k) 156 (.inl (0, 64, .inl (upd (slc z 150 64) i v))) = setL h (upd z (150 + i) v) k := by
  refine setL_up (o := 2) (by omega) ?_ (elv (fun _ => ?_) (fun _ => ?_) (fun q => absurd rfl q) (fun _ => ?_) (fun _ => ?_) (fun _ => ?_) (fun _ => ?_) (fun _ => ?_) (fun _ => ?_) (fun _ => ?_) (fun _ => ?_))
  · show (Sum.inl (0, 64, .inl (slc (upd z (150 + i) v) 150 64)) : AC) = _
    rw [slc_upd hi]
  · show (Sum.inl (0, 13, .inl (nZ (upd z (150 + i) v) k)) : AC) = .inl (0, 13, .inl (nZ z k))
    rw [nZ_out (by omega)]
  · show (Sum.inl (0, 64, .inl (slc (upd z (150 + i) v) 86 64)) : AC) = .inl (0, 64, .inl (slc z 86 64))
    rw [slc_out (by omega)]
  · show (Sum.inl (0, 8, .inl (slc (upd z (150 + i) v) 30 8)) : AC) = .inl (0, 8, .inl (slc z 30 8))
    rw [slc_out (by omega)]
  · show (Sum.inl (0, 8, .inl (slc (upd z (150 + i) v) 38 8)) : AC) = .inl (0, 8, .inl (slc z 38 8))
    rw [slc_out (by omega)]
  · show (Sum.inl (0, 8, .inl (slc (upd z (150 + i) v) 46 8)) : AC) = .inl (0, 8, .inl (slc z 46 8))
    rw [slc_out (by omega)]
  · show (Sum.inl (0, 8, .inl (slc (upd z (150 + i) v) 54 8)) : AC) = .inl (0, 8, .inl (slc z 54 8))
    rw [slc_out (by omega)]
  · show (Sum.inl (0, 8, .inl (slc (upd z (150 + i) v) 62 8)) : AC) = .inl (0, 8, .inl (slc z 62 8))
    rw [slc_out (by omega)]
  · show (Sum.inl (0, 8, .inl (slc (upd z (150 + i) v) 70 8)) : AC) = .inl (0, 8, .inl (slc z 70 8))
    rw [slc_out (by omega)]
  · show (Sum.inl (0, 8, .inl (slc (upd z (150 + i) v) 78 8)) : AC) = .inl (0, 8, .inl (slc z 78 8))
    rw [slc_out (by omega)]
  · show (Sum.inl (0, 18, .inl (slc (upd z (150 + i) v) 9 18)) : AC) = .inl (0, 18, .inl (slc z 9 18))
    rw [slc_out (by omega)]
theorem setL_st {h : AH} {z : ZZ} {k : Int32} {i : Nat} {v : Int32} (hi : i < 8) : upA (setL h z k) 157 (.inl (0, 8, .inl (upd (slc z 30 8) i v))) = setL h (upd z (30 + i) v) k := by
  refine setL_up (o := 3) (by omega) ?_ (elv (fun _ => ?_) (fun _ => ?_) (fun _ => ?_) (fun q => absurd rfl q) (fun _ => ?_) (fun _ => ?_) (fun _ => ?_) (fun _ => ?_) (fun _ => ?_) (fun _ => ?_) (fun _ => ?_))
  · show (Sum.inl (0, 8, .inl (slc (upd z (30 + i) v) 30 8)) : AC) = _
    rw [slc_upd hi]
  · show (Sum.inl (0, 13, .inl (nZ (upd z (30 + i) v) k)) : AC) = .inl (0, 13, .inl (nZ z k))
    rw [nZ_out (by omega)]
  · show (Sum.inl (0, 64, .inl (slc (upd z (30 + i) v) 86 64)) : AC) = .inl (0, 64, .inl (slc z 86 64))
    rw [slc_out (by omega)]
  · show (Sum.inl (0, 64, .inl (slc (upd z (30 + i) v) 150 64)) : AC) = .inl (0, 64, .inl (slc z 150 64))
    rw [slc_out (by omega)]
  · show (Sum.inl (0, 8, .inl (slc (upd z (30 + i) v) 38 8)) : AC) = .inl (0, 8, .inl (slc z 38 8))
    rw [slc_out (by omega)]
  · show (Sum.inl (0, 8, .inl (slc (upd z (30 + i) v) 46 8)) : AC) = .inl (0, 8, .inl (slc z 46 8))
    rw [slc_out (by omega)]
  · show (Sum.inl (0, 8, .inl (slc (upd z (30 + i) v) 54 8)) : AC) = .inl (0, 8, .inl (slc z 54 8))
    rw [slc_out (by omega)]
  · show (Sum.inl (0, 8, .inl (slc (upd z (30 + i) v) 62 8)) : AC) = .inl (0, 8, .inl (slc z 62 8))
    rw [slc_out (by omega)]
  · show (Sum.inl (0, 8, .inl (slc (upd z (30 + i) v) 70 8)) : AC) = .inl (0, 8, .inl (slc z 70 8))
    rw [slc_out (by omega)]
  · show (Sum.inl (0, 8, .inl (slc (upd z (30 + i) v) 78 8)) : AC) = .inl (0, 8, .inl (slc z 78 8))
    rw [slc_out (by omega)]
  · show (Sum.inl (0, 18, .inl (slc (upd z (30 + i) v) 9 18)) : AC) = .inl (0, 18, .inl (slc z 9 18))
    rw [slc_out (by omega)]
theorem setL_si {h : AH} {z : ZZ} {k : Int32} {i : Nat} {v : Int32} (hi : i < 8) : upA (setL h z k) 158 (.inl (0, 8, .inl (upd (slc z 38 8) i v))) = setL h (upd z (38 + i) v) k := by
  refine setL_up (o := 4) (by omega) ?_ (elv (fun _ => ?_) (fun _ => ?_) (fun _ => ?_) (fun _ => ?_) (fun q => absurd rfl q) (fun _ => ?_) (fun _ => ?_) (fun _ => ?_) (fun _ => ?_) (fun _ => ?_) (fun _ => ?_))
  · show (Sum.inl (0, 8, .inl (slc (upd z (38 + i) v) 38 8)) : AC) = _
    rw [slc_upd hi]
  · show (Sum.inl (0, 13, .inl (nZ (upd z (38 + i) v) k)) : AC) = .inl (0, 13, .inl (nZ z k))
    rw [nZ_out (by omega)]
  · show (Sum.inl (0, 64, .inl (slc (upd z (38 + i) v) 86 64)) : AC) = .inl (0, 64, .inl (slc z 86 64))
    rw [slc_out (by omega)]
  · show (Sum.inl (0, 64, .inl (slc (upd z (38 + i) v) 150 64)) : AC) = .inl (0, 64, .inl (slc z 150 64))
    rw [slc_out (by omega)]
  · show (Sum.inl (0, 8, .inl (slc (upd z (38 + i) v) 30 8)) : AC) = .inl (0, 8, .inl (slc z 30 8))
    rw [slc_out (by omega)]
  · show (Sum.inl (0, 8, .inl (slc (upd z (38 + i) v) 46 8)) : AC) = .inl (0, 8, .inl (slc z 46 8))
    rw [slc_out (by omega)]
  · show (Sum.inl (0, 8, .inl (slc (upd z (38 + i) v) 54 8)) : AC) = .inl (0, 8, .inl (slc z 54 8))
    rw [slc_out (by omega)]
  · show (Sum.inl (0, 8, .inl (slc (upd z (38 + i) v) 62 8)) : AC) = .inl (0, 8, .inl (slc z 62 8))
    rw [slc_out (by omega)]
  · show (Sum.inl (0, 8, .inl (slc (upd z (38 + i) v) 70 8)) : AC) = .inl (0, 8, .inl (slc z 70 8))
    rw [slc_out (by omega)]
  · show (Sum.inl (0, 8, .inl (slc (upd z (38 + i) v) 78 8)) : AC) = .inl (0, 8, .inl (slc z 78 8))
    rw [slc_out (by omega)]
  · show (Sum.inl (0, 18, .inl (slc (upd z (38 + i) v) 9 18)) : AC) = .inl (0, 18, .inl (slc z 9 18))
    rw [slc_out (by omega)]
theorem setL_fa {h : AH} {z : ZZ} {k : Int32} {i : Nat} {v : Int32} (hi : i < 8) : upA (setL h z k) 159 (.inl (0, 8, .inl (upd (slc z 46 8) i v))) = setL h (upd z (46 + i) v) k := by
  refine setL_up (o := 5) (by omega) ?_ (elv (fun _ => ?_) (fun _ => ?_) (fun _ => ?_) (fun _ => ?_) (fun _ => ?_) (fun q => absurd rfl q) (fun _ => ?_) (fun _ => ?_) (fun _ => ?_) (fun _ => ?_) (fun _ => ?_))
  · show (Sum.inl (0, 8, .inl (slc (upd z (46 + i) v) 46 8)) : AC) = _
    rw [slc_upd hi]
  · show (Sum.inl (0, 13, .inl (nZ (upd z (46 + i) v) k)) : AC) = .inl (0, 13, .inl (nZ z k))
    rw [nZ_out (by omega)]
  · show (Sum.inl (0, 64, .inl (slc (upd z (46 + i) v) 86 64)) : AC) = .inl (0, 64, .inl (slc z 86 64))
    rw [slc_out (by omega)]
  · show (Sum.inl (0, 64, .inl (slc (upd z (46 + i) v) 150 64)) : AC) = .inl (0, 64, .inl (slc z 150 64))
    rw [slc_out (by omega)]
  · show (Sum.inl (0, 8, .inl (slc (upd z (46 + i) v) 30 8)) : AC) = .inl (0, 8, .inl (slc z 30 8))
    rw [slc_out (by omega)]
  · show (Sum.inl (0, 8, .inl (slc (upd z (46 + i) v) 38 8)) : AC) = .inl (0, 8, .inl (slc z 38 8))
    rw [slc_out (by omega)]
  · show (Sum.inl (0, 8, .inl (slc (upd z (46 + i) v) 54 8)) : AC) = .inl (0, 8, .inl (slc z 54 8))
    rw [slc_out (by omega)]
  · show (Sum.inl (0, 8, .inl (slc (upd z (46 + i) v) 62 8)) : AC) = .inl (0, 8, .inl (slc z 62 8))
    rw [slc_out (by omega)]
  · show (Sum.inl (0, 8, .inl (slc (upd z (46 + i) v) 70 8)) : AC) = .inl (0, 8, .inl (slc z 70 8))
    rw [slc_out (by omega)]
  · show (Sum.inl (0, 8, .inl (slc (upd z (46 + i) v) 78 8)) : AC) = .inl (0, 8, .inl (slc z 78 8))
    rw [slc_out (by omega)]
  · show (Sum.inl (0, 18, .inl (slc (upd z (46 + i) v) 9 18)) : AC) = .inl (0, 18, .inl (slc z 9 18))
    rw [slc_out (by omega)]
theorem setL_rd {h : AH} {z : ZZ} {k : Int32} {i : Nat} {v : Int32} (hi : i < 8) : upA (setL h z k) 160 (.inl (0, 8, .inl (upd (slc z 54 8) i v))) = setL h (upd z (54 + i) v) k := by
  refine setL_up (o := 6) (by omega) ?_ (elv (fun _ => ?_) (fun _ => ?_) (fun _ => ?_) (fun _ => ?_) (fun _ => ?_) (fun _ => ?_) (fun q => absurd rfl q) (fun _ => ?_) (fun _ => ?_) (fun _ => ?_) (fun _ => ?_))
  · show (Sum.inl (0, 8, .inl (slc (upd z (54 + i) v) 54 8)) : AC) = _
    rw [slc_upd hi]
  · show (Sum.inl (0, 13, .inl (nZ (upd z (54 + i) v) k)) : AC) = .inl (0, 13, .inl (nZ z k))
    rw [nZ_out (by omega)]
  · show (Sum.inl (0, 64, .inl (slc (upd z (54 + i) v) 86 64)) : AC) = .inl (0, 64, .inl (slc z 86 64))
    rw [slc_out (by omega)]
  · show (Sum.inl (0, 64, .inl (slc (upd z (54 + i) v) 150 64)) : AC) = .inl (0, 64, .inl (slc z 150 64))
    rw [slc_out (by omega)]
  · show (Sum.inl (0, 8, .inl (slc (upd z (54 + i) v) 30 8)) : AC) = .inl (0, 8, .inl (slc z 30 8))
    rw [slc_out (by omega)]
  · show (Sum.inl (0, 8, .inl (slc (upd z (54 + i) v) 38 8)) : AC) = .inl (0, 8, .inl (slc z 38 8))
    rw [slc_out (by omega)]
  · show (Sum.inl (0, 8, .inl (slc (upd z (54 + i) v) 46 8)) : AC) = .inl (0, 8, .inl (slc z 46 8))
    rw [slc_out (by omega)]
  · show (Sum.inl (0, 8, .inl (slc (upd z (54 + i) v) 62 8)) : AC) = .inl (0, 8, .inl (slc z 62 8))
    rw [slc_out (by omega)]
  · show (Sum.inl (0, 8, .inl (slc (upd z (54 + i) v) 70 8)) : AC) = .inl (0, 8, .inl (slc z 70 8))
    rw [slc_out (by omega)]
  · show (Sum.inl (0, 8, .inl (slc (upd z (54 + i) v) 78 8)) : AC) = .inl (0, 8, .inl (slc z 78 8))
    rw [slc_out (by omega)]
  · show (Sum.inl (0, 18, .inl (slc (upd z (54 + i) v) 9 18)) : AC) = .inl (0, 18, .inl (slc z 9 18))
    rw [slc_out (by omega)]
theorem setL_fl {h : AH} {z : ZZ} {k : Int32} {i : Nat} {v : Int32} (hi : i < 8) : upA (setL h z k) 161 (.inl (0, 8, .inl (upd (slc z 62 8) i v))) = setL h (upd z (62 + i) v) k := by
  refine setL_up (o := 7) (by omega) ?_ (elv (fun _ => ?_) (fun _ => ?_) (fun _ => ?_) (fun _ => ?_) (fun _ => ?_) (fun _ => ?_) (fun _ => ?_) (fun q => absurd rfl q) (fun _ => ?_) (fun _ => ?_) (fun _ => ?_))
  · show (Sum.inl (0, 8, .inl (slc (upd z (62 + i) v) 62 8)) : AC) = _
    rw [slc_upd hi]
  · show (Sum.inl (0, 13, .inl (nZ (upd z (62 + i) v) k)) : AC) = .inl (0, 13, .inl (nZ z k))
    rw [nZ_out (by omega)]
  · show (Sum.inl (0, 64, .inl (slc (upd z (62 + i) v) 86 64)) : AC) = .inl (0, 64, .inl (slc z 86 64))
    rw [slc_out (by omega)]
  · show (Sum.inl (0, 64, .inl (slc (upd z (62 + i) v) 150 64)) : AC) = .inl (0, 64, .inl (slc z 150 64))
    rw [slc_out (by omega)]
  · show (Sum.inl (0, 8, .inl (slc (upd z (62 + i) v) 30 8)) : AC) = .inl (0, 8, .inl (slc z 30 8))
    rw [slc_out (by omega)]
  · show (Sum.inl (0, 8, .inl (slc (upd z (62 + i) v) 38 8)) : AC) = .inl (0, 8, .inl (slc z 38 8))
    rw [slc_out (by omega)]
  · show (Sum.inl (0, 8, .inl (slc (upd z (62 + i) v) 46 8)) : AC) = .inl (0, 8, .inl (slc z 46 8))
    rw [slc_out (by omega)]
  · show (Sum.inl (0, 8, .inl (slc (upd z (62 + i) v) 54 8)) : AC) = .inl (0, 8, .inl (slc z 54 8))
    rw [slc_out (by omega)]
  · show (Sum.inl (0, 8, .inl (slc (upd z (62 + i) v) 70 8)) : AC) = .inl (0, 8, .inl (slc z 70 8))
    rw [slc_out (by omega)]
  · show (Sum.inl (0, 8, .inl (slc (upd z (62 + i) v) 78 8)) : AC) = .inl (0, 8, .inl (slc z 78 8))
    rw [slc_out (by omega)]
  · show (Sum.inl (0, 18, .inl (slc (upd z (62 + i) v) 9 18)) : AC) = .inl (0, 18, .inl (slc z 9 18))
    rw [slc_out (by omega)]
theorem setL_fe {h : AH} {z : ZZ} {k : Int32} {i : Nat} {v : Int32} (hi : i < 8) : upA (setL h z k) 162 (.inl (0, 8, .inl (upd (slc z 70 8) i v))) = setL h (upd z (70 + i) v) k := by
  refine setL_up (o := 8) (by omega) ?_ (elv (fun _ => ?_) (fun _ => ?_) (fun _ => ?_) (fun _ => ?_) (fun _ => ?_) (fun _ => ?_) (fun _ => ?_) (fun _ => ?_) (fun q => absurd rfl q) (fun _ => ?_) (fun _ => ?_))
  · show (Sum.inl (0, 8, .inl (slc (upd z (70 + i) v) 70 8)) : AC) = _
    rw [slc_upd hi]
  · show (Sum.inl (0, 13, .inl (nZ (upd z (70 + i) v) k)) : AC) = .inl (0, 13, .inl (nZ z k))
    rw [nZ_out (by omega)]
  · show (Sum.inl (0, 64, .inl (slc (upd z (70 + i) v) 86 64)) : AC) = .inl (0, 64, .inl (slc z 86 64))
    rw [slc_out (by omega)]
  · show (Sum.inl (0, 64, .inl (slc (upd z (70 + i) v) 150 64)) : AC) = .inl (0, 64, .inl (slc z 150 64))
    rw [slc_out (by omega)]
  · show (Sum.inl (0, 8, .inl (slc (upd z (70 + i) v) 30 8)) : AC) = .inl (0, 8, .inl (slc z 30 8))
    rw [slc_out (by omega)]
  · show (Sum.inl (0, 8, .inl (slc (upd z (70 + i) v) 38 8)) : AC) = .inl (0, 8, .inl (slc z 38 8))
    rw [slc_out (by omega)]
  · show (Sum.inl (0, 8, .inl (slc (upd z (70 + i) v) 46 8)) : AC) = .inl (0, 8, .inl (slc z 46 8))
    rw [slc_out (by omega)]
  · show (Sum.inl (0, 8, .inl (slc (upd z (70 + i) v) 54 8)) : AC) = .inl (0, 8, .inl (slc z 54 8))
    rw [slc_out (by omega)]
  · show (Sum.inl (0, 8, .inl (slc (upd z (70 + i) v) 62 8)) : AC) = .inl (0, 8, .inl (slc z 62 8))
    rw [slc_out (by omega)]
  · show (Sum.inl (0, 8, .inl (slc (upd z (70 + i) v) 78 8)) : AC) = .inl (0, 8, .inl (slc z 78 8))
    rw [slc_out (by omega)]
  · show (Sum.inl (0, 18, .inl (slc (upd z (70 + i) v) 9 18)) : AC) = .inl (0, 18, .inl (slc z 9 18))
    rw [slc_out (by omega)]
theorem setL_da {h : AH} {z : ZZ} {k : Int32} {i : Nat} {v : Int32} (hi : i < 8) : upA (setL h z k) 163 (.inl (0, 8, .inl (upd (slc z 78 8) i v))) = setL h (upd z (78 + i) v) k := by
  refine setL_up (o := 9) (by omega) ?_ (elv (fun _ => ?_) (fun _ => ?_) (fun _ => ?_) (fun _ => ?_) (fun _ => ?_) (fun _ => ?_) (fun _ => ?_) (fun _ => ?_) (fun _ => ?_) (fun q => absurd rfl q) (fun _ => ?_))
  · show (Sum.inl (0, 8, .inl (slc (upd z (78 + i) v) 78 8)) : AC) = _
    rw [slc_upd hi]
  · show (Sum.inl (0, 13, .inl (nZ (upd z (78 + i) v) k)) : AC) = .inl (0, 13, .inl (nZ z k))
    rw [nZ_out (by omega)]
  · show (Sum.inl (0, 64, .inl (slc (upd z (78 + i) v) 86 64)) : AC) = .inl (0, 64, .inl (slc z 86 64))
    rw [slc_out (by omega)]
  · show (Sum.inl (0, 64, .inl (slc (upd z (78 + i) v) 150 64)) : AC) = .inl (0, 64, .inl (slc z 150 64))
    rw [slc_out (by omega)]
  · show (Sum.inl (0, 8, .inl (slc (upd z (78 + i) v) 30 8)) : AC) = .inl (0, 8, .inl (slc z 30 8))
    rw [slc_out (by omega)]
  · show (Sum.inl (0, 8, .inl (slc (upd z (78 + i) v) 38 8)) : AC) = .inl (0, 8, .inl (slc z 38 8))
    rw [slc_out (by omega)]
  · show (Sum.inl (0, 8, .inl (slc (upd z (78 + i) v) 46 8)) : AC) = .inl (0, 8, .inl (slc z 46 8))
    rw [slc_out (by omega)]
  · show (Sum.inl (0, 8, .inl (slc (upd z (78 + i) v) 54 8)) : AC) = .inl (0, 8, .inl (slc z 54 8))
    rw [slc_out (by omega)]
  · show (Sum.inl (0, 8, .inl (slc (upd z (78 + i) v) 62 8)) : AC) = .inl (0, 8, .inl (slc z 62 8))
    rw [slc_out (by omega)]
  · show (Sum.inl (0, 8, .inl (slc (upd z (78 + i) v) 70 8)) : AC) = .inl (0, 8, .inl (slc z 70 8))
    rw [slc_out (by omega)]
  · show (Sum.inl (0, 18, .inl (slc (upd z (78 + i) v) 9 18)) : AC) = .inl (0, 18, .inl (slc z 9 18))
    rw [slc_out (by omega)]
theorem setL_ma {h : AH} {z : ZZ} {k : Int32} {i : Nat} {v : Int32} (hi : i < 18) : upA (setL h z k) 164 (.inl (0, 18, .inl (upd (slc z 9 18) i v))) = setL h (upd z (9 + i) v) k := by
  refine setL_up (o := 10) (by omega) ?_ (elv (fun _ => ?_) (fun _ => ?_) (fun _ => ?_) (fun _ => ?_) (fun _ => ?_) (fun _ => ?_) (fun _ => ?_) (fun _ => ?_) (fun _ => ?_) (fun _ => ?_) (fun q => absurd rfl q))
  · show (Sum.inl (0, 18, .inl (slc (upd z (9 + i) v) 9 18)) : AC) = _
    rw [slc_upd hi]
  · show (Sum.inl (0, 13, .inl (nZ (upd z (9 + i) v) k)) : AC) = .inl (0, 13, .inl (nZ z k))
    rw [nZ_out (by omega)]
  · show (Sum.inl (0, 64, .inl (slc (upd z (9 + i) v) 86 64)) : AC) = .inl (0, 64, .inl (slc z 86 64))
    rw [slc_out (by omega)]
  · show (Sum.inl (0, 64, .inl (slc (upd z (9 + i) v) 150 64)) : AC) = .inl (0, 64, .inl (slc z 150 64))
    rw [slc_out (by omega)]
  · show (Sum.inl (0, 8, .inl (slc (upd z (9 + i) v) 30 8)) : AC) = .inl (0, 8, .inl (slc z 30 8))
    rw [slc_out (by omega)]
  · show (Sum.inl (0, 8, .inl (slc (upd z (9 + i) v) 38 8)) : AC) = .inl (0, 8, .inl (slc z 38 8))
    rw [slc_out (by omega)]
  · show (Sum.inl (0, 8, .inl (slc (upd z (9 + i) v) 46 8)) : AC) = .inl (0, 8, .inl (slc z 46 8))
    rw [slc_out (by omega)]
  · show (Sum.inl (0, 8, .inl (slc (upd z (9 + i) v) 54 8)) : AC) = .inl (0, 8, .inl (slc z 54 8))
    rw [slc_out (by omega)]
  · show (Sum.inl (0, 8, .inl (slc (upd z (9 + i) v) 62 8)) : AC) = .inl (0, 8, .inl (slc z 62 8))
    rw [slc_out (by omega)]
  · show (Sum.inl (0, 8, .inl (slc (upd z (9 + i) v) 70 8)) : AC) = .inl (0, 8, .inl (slc z 70 8))
    rw [slc_out (by omega)]
  · show (Sum.inl (0, 8, .inl (slc (upd z (9 + i) v) 78 8)) : AC) = .inl (0, 8, .inl (slc z 78 8))
    rw [slc_out (by omega)]
theorem nZ_0 {z : ZZ} {k : Int32} : nZ z k 0 = z 7 := rfl
theorem setL_n0 {h : AH} {z : ZZ} {k v : Int32} : upA (setL h z k) 154 (.inl (0, 13, .inl (upd (nZ z k) 0 v))) = setL h (upd z 7 v) k := setL_n (i := 0) (by omega) (by omega)
theorem nZ_1 {z : ZZ} {k : Int32} : nZ z k 1 = z 6 := rfl
theorem setL_n1 {h : AH} {z : ZZ} {k v : Int32} : upA (setL h z k) 154 (.inl (0, 13, .inl (upd (nZ z k) 1 v))) = setL h (upd z 6 v) k := setL_n (i := 1) (by omega) (by omega)
theorem nZ_2 {z : ZZ} {k : Int32} : nZ z k 2 = z 28 := rfl
theorem setL_n2 {h : AH} {z : ZZ} {k v : Int32} : upA (setL h z k) 154 (.inl (0, 13, .inl (upd (nZ z k) 2 v))) = setL h (upd z 28 v) k := setL_n (i := 2) (by omega) (by omega)
theorem nZ_3 {z : ZZ} {k : Int32} : nZ z k 3 = z 29 := rfl
theorem setL_n3 {h : AH} {z : ZZ} {k v : Int32} : upA (setL h z k) 154 (.inl (0, 13, .inl (upd (nZ z k) 3 v))) = setL h (upd z 29 v) k := setL_n (i := 3) (by omega) (by omega)
theorem nZ_4 {z : ZZ} {k : Int32} : nZ z k 4 = z 8 := rfl
theorem setL_n4 {h : AH} {z : ZZ} {k v : Int32} : upA (setL h z k) 154 (.inl (0, 13, .inl (upd (nZ z k) 4 v))) = setL h (upd z 8 v) k := setL_n (i := 4) (by omega) (by omega)
theorem nZ_6 {z : ZZ} {k : Int32} : nZ z k 6 = z 27 := rfl
theorem setL_n6 {h : AH} {z : ZZ} {k v : Int32} : upA (setL h z k) 154 (.inl (0, 13, .inl (upd (nZ z k) 6 v))) = setL h (upd z 27 v) k := setL_n (i := 6) (by omega) (by omega)
theorem nZ_7 {z : ZZ} {k : Int32} : nZ z k 7 = z 0 := rfl
theorem setL_n7 {h : AH} {z : ZZ} {k v : Int32} : upA (setL h z k) 154 (.inl (0, 13, .inl (upd (nZ z k) 7 v))) = setL h (upd z 0 v) k := setL_n (i := 7) (by omega) (by omega)
theorem nZ_8 {z : ZZ} {k : Int32} : nZ z k 8 = z 1 := rfl
theorem setL_n8 {h : AH} {z : ZZ} {k v : Int32} : upA (setL h z k) 154 (.inl (0, 13, .inl (upd (nZ z k) 8 v))) = setL h (upd z 1 v) k := setL_n (i := 8) (by omega) (by omega)
theorem nZ_9 {z : ZZ} {k : Int32} : nZ z k 9 = z 2 := rfl
theorem setL_n9 {h : AH} {z : ZZ} {k v : Int32} : upA (setL h z k) 154 (.inl (0, 13, .inl (upd (nZ z k) 9 v))) = setL h (upd z 2 v) k := setL_n (i := 9) (by omega) (by omega)
theorem nZ_10 {z : ZZ} {k : Int32} : nZ z k 10 = z 3 := rfl
theorem setL_n10 {h : AH} {z : ZZ} {k v : Int32} : upA (setL h z k) 154 (.inl (0, 13, .inl (upd (nZ z k) 10 v))) = setL h (upd z 3 v) k := setL_n (i := 10) (by omega) (by omega)
theorem nZ_11 {z : ZZ} {k : Int32} : nZ z k 11 = z 4 := rfl
theorem setL_n11 {h : AH} {z : ZZ} {k v : Int32} : upA (setL h z k) 154 (.inl (0, 13, .inl (upd (nZ z k) 11 v))) = setL h (upd z 4 v) k := setL_n (i := 11) (by omega) (by omega)
theorem nZ_12 {z : ZZ} {k : Int32} : nZ z k 12 = z 5 := rfl
theorem setL_n12 {h : AH} {z : ZZ} {k v : Int32} : upA (setL h z k) 154 (.inl (0, 13, .inl (upd (nZ z k) 12 v))) = setL h (upd z 5 v) k := setL_n (i := 12) (by omega) (by omega)
theorem nZ_w {z : ZZ} {k : Int32} {b : Nat} (hb : b < 2) : nZ z k (2 + b) = z (28 + b) := by
  match b, hb with
  | 0, _ => rfl
  | 1, _ => rfl
  | b + 2, h => exact absurd h (by omega)
theorem nZ_s {z : ZZ} {k : Int32} {j : Nat} (hj : j < 6) : nZ z k (7 + j) = z j := by
  match j, hj with
  | 0, _ => rfl
  | 1, _ => rfl
  | 2, _ => rfl
  | 3, _ => rfl
  | 4, _ => rfl
  | 5, _ => rfl
  | j + 6, h => exact absurd h (by omega)
theorem setL_w {h : AH} {z : ZZ} {k v : Int32} {b : Nat} (hb : b < 2) : upA (setL h z k) 154 (.inl (0, 13, .inl (upd (nZ z k) (2 + b) v))) = setL h (upd z (28 + b) v) k := by
  match b, hb with
  | 0, _ => exact setL_n2
  | 1, _ => exact setL_n3
  | b + 2, h => exact absurd h (by omega)
theorem setL_s {h : AH} {z : ZZ} {k v : Int32} {j : Nat} (hj : j < 6) : upA (setL h z k) 154 (.inl (0, 13, .inl (upd (nZ z k) (7 + j) v))) = setL h (upd z j v) k := by
  match j, hj with
  | 0, _ => exact setL_n7
  | 1, _ => exact setL_n8
  | 2, _ => exact setL_n9
  | 3, _ => exact setL_n10
  | 4, _ => exact setL_n11
  | 5, _ => exact setL_n12
  | j + 6, h => exact absurd h (by omega)
