/-! ===== the class's reading of texts, in numbers ===== -/
def acN (c : Int32) : Int32 := if c = nI 59 then nI 0 else -nI 1
def nxN (a : Nat) (c : Int32) : Int32 :=
  if a = 0 then (if c = nI 101 then nI 4 else if c = nI 104 then nI 5 else if c = nI 114 then nI 3 else if c = nI 119 then nI 1 else -nI 1)
  else if a = 1 then (if inW c (nI 48) (nI 55) then nI 2 else -nI 1)
  else if a = 2 then (if c = nI 61 then nI 10 else -nI 1)
  else if a = 3 then (if inW c (nI 48) (nI 55) then nI 9 else -nI 1)
  else if a = 4 then (if inW c (nI 48) (nI 49) then nI 9 else -nI 1)
  else if a = 5 then (if c = nI 49 then nI 6 else if inW c (nI 50) (nI 57) then nI 7 else -nI 1)
  else if a = 6 then (if c = nI 48 then nI 8 else if inW c (nI 49) (nI 57) then nI 9 else acN c)
  else if a = 7 then (if inW c (nI 48) (nI 57) then nI 9 else acN c)
  else if a = 8 then (if c = nI 48 then nI 9 else acN c)
  else if a = 9 then acN c
  else if dgO c = -nI 1 then -nI 1 else if a < 17 then nI (a + 1) else nI 9
/-- what the class awaits where the model's state is s -/
def aw (s : PS) : Nat :=
  if s.1 = 0 then 0 else if s.1 = 1 then (if s.2.1.1 = nI 119 then 1 else if s.2.1.1 = nI 114 then 3 else 4)
  else if s.1 = 2 then 2
  else if s.1 = 11 then (if s.2.1.2.1 = nI 0 then 5 else if s.2.1.2.1 = nI 1 then 6 else if s.2.1.2.1 < nI 10 then 7 else if s.2.1.2.1 = nI 10 then 8 else 9)
  else if s.1 = 12 then 9 else s.1 + 7
theorem aw_lt {s : PS} (h : s.1 ≤ 12) : aw s < 18 := by
  unfold aw
  (repeat' split) <;> omega
theorem dg59 : dgO (nI 59) = -nI 1 := by decide
theorem in_dig {c : Int32} {a b : Nat} (hb : b < 1000) (hab : a ≤ b) : inW c (nI a) (nI b) ↔ ∃ p, a ≤ p ∧ p ≤ b ∧ c = nI p := by
  refine ⟨fun h => dig_nI hb hab h.1 h.2, fun ⟨p, h1, h2, e⟩ => ?_⟩
  subst e
  refine ⟨?_, ?_⟩
  · rw [nI_ltI (by omega) (by omega)]; omega
  · rw [nI_ltI (by omega) (by omega)]; omega
theorem nI_ne {a b : Nat} (ha : a < 2 ^ 31) (hb : b < 2 ^ 31) (h : a ≠ b) : nI a ≠ nI b := fun e => h ((nI_eq ha hb).mp e)
theorem nI_neg1 {a : Nat} (ha : a < 2 ^ 31) : nI a ≠ -nI 1 := by
  intro e
  have h1 := nI_pos ha
  rw [e] at h1
  exact h1 (by decide)
/-- digits or none: what the model asks of the next digit of hours -/
theorem hr_dig {k : Nat} {c : Int32} (hk : k ≤ 100) : (inW c (nI 48) (nI 57) ∧ inW (nI 10 * nI k + c - nI 48) (nI 1) (nI 100)) ↔ ∃ p, p ≤ 9 ∧ c = nI (48 + p) ∧ 1 ≤ 10 * k + p ∧ 10 * k + p ≤ 100 := by
  rw [in_dig (by omega) (by omega)]
  refine ⟨fun ⟨⟨q, h1, h2, e⟩, h3⟩ => ?_, fun ⟨p, h1, e, h2, h3⟩ => ?_⟩
  · subst e
    rw [pk_mul, nI_add, pk_sub (by omega), in_dig (by omega) (by omega)] at h3
    obtain ⟨r, h4, h5, e⟩ := h3
    rw [nI_eq (by omega) (by omega)] at e
    exact ⟨q - 48, by omega, by congr 1; omega, by omega, by omega⟩
  · subst e
    refine ⟨⟨48 + p, by omega, by omega, rfl⟩, ?_⟩
    rw [pk_mul, nI_add, pk_sub (by omega), in_dig (by omega) (by omega)]
    exact ⟨10 * k + (48 + p) - 48, by omega, by omega, rfl⟩
def awO : Option PS → Int32
  | none => -nI 1
  | some s => nI (aw s)
theorem tk_0 {m : CMD} {dn : List CMD} {c : Int32} : tkR (0, m, dn) c = if c = nI 119 ∨ c = nI 114 ∨ c = nI 101 ∨ c = nI 104 then some ((if c = nI 104 then 11 else 1), (c, nI 0, nI 0), dn) else none := by
  unfold tkR
  dsimp only
  rw [if_neg (show ¬ (c = nI 59 ∧ isE (0, m, dn)) from fun q => q.2.elim (fun e => by cases e) (fun e => by cases e.1)), if_pos rfl]
theorem tk_1 {m : CMD} {dn : List CMD} {c : Int32} : tkR (1, m, dn) c = if inW c (nI 48) (if m.1 = nI 101 then nI 49 else nI 55) then some ((if m.1 = nI 119 then 2 else 12), (m.1, c - nI 48, m.2.2), dn) else none := by
  unfold tkR
  dsimp only
  rw [if_neg (show ¬ (c = nI 59 ∧ isE (1, m, dn)) from fun q => q.2.elim (fun e => by cases e) (fun e => by cases e.1)), if_neg (show ¬ (1 = 0) by omega), if_pos rfl]
theorem tk_2 {m : CMD} {dn : List CMD} {c : Int32} : tkR (2, m, dn) c = if c = nI 61 then some (3, m, dn) else none := by
  unfold tkR
  dsimp only
  rw [if_neg (show ¬ (c = nI 59 ∧ isE (2, m, dn)) from fun q => q.2.elim (fun e => by cases e) (fun e => by cases e.1)), if_neg (show ¬ (2 = 0) by omega), if_neg (show ¬ (2 = 1) by omega), if_pos rfl]
theorem tk_11 {m : CMD} {dn : List CMD} {c : Int32} : tkR (11, m, dn) c = if c = nI 59 ∧ 0 < m.2.1 then some (0, m, dn ++ [m]) else if inW c (nI 48) (nI 57) ∧ inW (nI 10 * m.2.1 + c - nI 48) (nI 1) (nI 100) then some (11, (m.1, nI 10 * m.2.1 + c - nI 48, m.2.2), dn) else none := by
  unfold tkR
  dsimp only
  by_cases h : c = nI 59 ∧ 0 < m.2.1
  · rw [if_pos (show c = nI 59 ∧ isE (11, m, dn) from ⟨h.1, Or.inr ⟨rfl, h.2⟩⟩), if_pos h]
  · rw [if_neg (show ¬ (c = nI 59 ∧ isE (11, m, dn)) from fun q => q.2.elim (fun e => by cases e) (fun e => h ⟨q.1, e.2⟩)), if_neg h, if_neg (show ¬ (11 = 0) by omega), if_neg (show ¬ (11 = 1) by omega), if_neg (show ¬ (11 = 2) by omega), if_pos rfl]
theorem tk_12 {m : CMD} {dn : List CMD} {c : Int32} : tkR (12, m, dn) c = if c = nI 59 then some (0, m, dn ++ [m]) else none := by
  unfold tkR
  dsimp only
  by_cases h : c = nI 59
  · rw [if_pos (show c = nI 59 ∧ isE (12, m, dn) from ⟨h, Or.inl rfl⟩), if_pos h]
  · rw [if_neg (show ¬ (c = nI 59 ∧ isE (12, m, dn)) from fun q => h q.1), if_neg h, if_neg (show ¬ (12 = 0) by omega), if_neg (show ¬ (12 = 1) by omega), if_neg (show ¬ (12 = 2) by omega), if_neg (show ¬ (12 = 11) by omega), if_pos rfl]
theorem tk_h {D : Nat} {m : CMD} {dn : List CMD} {c : Int32} (h3 : 3 ≤ D) (h10 : D ≤ 10) : tkR (D, m, dn) c = if dgO c = -nI 1 then none else some ((if D = 10 then 12 else D + 1), (m.1, m.2.1, m.2.2 <<< (nI 4 &&& 31) ||| dgO c), dn) := by
  unfold tkR
  dsimp only
  rw [if_neg (show ¬ (c = nI 59 ∧ isE (D, m, dn)) from fun q => q.2.elim (fun e => by have e : D = 12 := e; omega) (fun e => by have e : D = 11 := e.1; omega)), if_neg (show ¬ (D = 0) by omega), if_neg (show ¬ (D = 1) by omega), if_neg (show ¬ (D = 2) by omega), if_neg (show ¬ (D = 11) by omega), if_neg (show ¬ (D = 12) by omega)]
theorem aw_11 {k : Nat} {wd : Int32} {dn : List CMD} (hk : k ≤ 100) : aw (11, (nI 104, nI k, wd), dn) = if k = 0 then 5 else if k = 1 then 6 else if k < 10 then 7 else if k = 10 then 8 else 9 := by
  show (if nI k = nI 0 then 5 else if nI k = nI 1 then 6 else if nI k < nI 10 then 7 else if nI k = nI 10 then 8 else 9) = _
  simp only [nI_eq (show k < 2 ^ 31 by omega) (show 0 < 2 ^ 31 by omega), nI_eq (show k < 2 ^ 31 by omega) (show 1 < 2 ^ 31 by omega), nI_eq (show k < 2 ^ 31 by omega) (show 10 < 2 ^ 31 by omega), nI_ltI (show k < 2 ^ 31 by omega) (show 10 < 2 ^ 31 by omega)]
theorem no_in {c : Int32} {a b : Nat} (hd : ¬ ∃ p, p ≤ 9 ∧ c = nI (48 + p)) (ha : 48 ≤ a) (hb : b ≤ 57) (hab : a ≤ b) : ¬ inW c (nI a) (nI b) := fun q => by
  obtain ⟨r, h6, h7, e3⟩ := (in_dig (by omega) hab).mp q
  exact hd ⟨r - 48, by omega, by rw [e3]; congr 1; omega⟩
theorem nx_11 {k : Nat} {wd c : Int32} {dn : List CMD} (hk : k ≤ 100) : nxN (aw (11, (nI 104, nI k, wd), dn)) c = awO (tkR (11, (nI 104, nI k, wd), dn) c) := by
  rw [tk_11]
  dsimp only
  have hE : (0 : Int32) < nI k ↔ 0 < k := by rw [← nI_0, nI_ltI (by omega) (by omega)]
  have hx : aw (11, (nI 104, nI k, wd), dn) = if k = 0 then 5 else if k = 1 then 6 else if k < 10 then 7 else if k = 10 then 8 else 9 := aw_11 hk
  have ha : (k = 0 ∧ aw (11, (nI 104, nI k, wd), dn) = 5) ∨ (k = 1 ∧ aw (11, (nI 104, nI k, wd), dn) = 6) ∨ ((2 ≤ k ∧ k < 10) ∧ aw (11, (nI 104, nI k, wd), dn) = 7) ∨ (k = 10 ∧ aw (11, (nI 104, nI k, wd), dn) = 8) ∨ (10 < k ∧ aw (11, (nI 104, nI k, wd), dn) = 9) := by
    rw [hx]
    by_cases k0 : k = 0
    · exact Or.inl ⟨k0, if_pos k0⟩
    · rw [if_neg k0]
      by_cases k1 : k = 1
      · exact Or.inr (Or.inl ⟨k1, if_pos k1⟩)
      · rw [if_neg k1]
        by_cases k2 : k < 10
        · exact Or.inr (Or.inr (Or.inl ⟨⟨by omega, k2⟩, if_pos k2⟩))
        · rw [if_neg k2]
          by_cases k3 : k = 10
          · exact Or.inr (Or.inr (Or.inr (Or.inl ⟨k3, if_pos k3⟩)))
          · exact Or.inr (Or.inr (Or.inr (Or.inr ⟨by omega, if_neg k3⟩)))
  clear hx
  by_cases hd : ∃ p, p ≤ 9 ∧ c = nI (48 + p)
  · obtain ⟨p, hp, e⟩ := hd
    have hin : ∀ a b, b < 1000 → a ≤ b → (inW c (nI a) (nI b) ↔ a ≤ 48 + p ∧ 48 + p ≤ b) := fun a b hb hab => by
      rw [in_dig hb hab]
      refine ⟨fun ⟨q, h3, h4, e3⟩ => ?_, fun q => ⟨48 + p, q.1, q.2, e⟩⟩
      rw [e, nI_eq (by omega) (by omega)] at e3
      omega
    have hce : ∀ a, a < 1000 → (c = nI a ↔ 48 + p = a) := fun a ha => by rw [e, nI_eq (by omega) (by omega)]
    have h59 : ¬ (c = nI 59 ∧ 0 < nI k) := fun q => by have := (hce 59 (by omega)).mp q.1; omega
    have hac : acN c = -nI 1 := if_neg fun q => by have := (hce 59 (by omega)).mp q; omega
    rw [if_neg h59]
    by_cases hr : 1 ≤ 10 * k + p ∧ 10 * k + p ≤ 100
    · have e9 : nI 10 * nI k + c - nI 48 = nI (10 * k + p) := by
        rw [e, pk_mul, nI_add, pk_sub (by omega)]
        congr 1
        omega
      rw [if_pos ((hr_dig hk).mpr ⟨p, hp, e, hr.1, hr.2⟩), e9]
      show _ = nI (aw (11, (nI 104, nI (10 * k + p), wd), dn))
      rw [aw_11 hr.2]
      rcases ha with ⟨k0, ha⟩ | ⟨k0, ha⟩ | ⟨k0, ha⟩ | ⟨k0, ha⟩ | ⟨k0, ha⟩
      · rw [ha]
        show (if c = nI 49 then nI 6 else if inW c (nI 50) (nI 57) then nI 7 else -nI 1) = _
        by_cases p1 : p = 1
        · rw [if_pos ((hce 49 (by omega)).mpr (by omega)), if_neg (show ¬ 10 * k + p = 0 by omega), if_pos (show 10 * k + p = 1 by omega)]
        · rw [if_neg (fun q => p1 (by have := (hce 49 (by omega)).mp q; omega)), if_pos ((hin 50 57 (by omega) (by omega)).mpr (by omega)), if_neg (show ¬ 10 * k + p = 0 by omega), if_neg (show ¬ 10 * k + p = 1 by omega), if_pos (show 10 * k + p < 10 by omega)]
      · rw [ha]
        show (if c = nI 48 then nI 8 else if inW c (nI 49) (nI 57) then nI 9 else acN c) = _
        by_cases p0 : p = 0
        · rw [if_pos ((hce 48 (by omega)).mpr (by omega)), if_neg (show ¬ 10 * k + p = 0 by omega), if_neg (show ¬ 10 * k + p = 1 by omega), if_neg (show ¬ 10 * k + p < 10 by omega), if_pos (show 10 * k + p = 10 by omega)]
        · rw [if_neg (fun q => p0 (by have := (hce 48 (by omega)).mp q; omega)), if_pos ((hin 49 57 (by omega) (by omega)).mpr (by omega)), if_neg (show ¬ 10 * k + p = 0 by omega), if_neg (show ¬ 10 * k + p = 1 by omega), if_neg (show ¬ 10 * k + p < 10 by omega), if_neg (show ¬ 10 * k + p = 10 by omega)]
      · rw [ha]
        show (if inW c (nI 48) (nI 57) then nI 9 else acN c) = _
        rw [if_pos ((hin 48 57 (by omega) (by omega)).mpr (by omega)), if_neg (show ¬ 10 * k + p = 0 by omega), if_neg (show ¬ 10 * k + p = 1 by omega), if_neg (show ¬ 10 * k + p < 10 by omega), if_neg (show ¬ 10 * k + p = 10 by omega)]
      · rw [ha]
        show (if c = nI 48 then nI 9 else acN c) = _
        rw [if_pos ((hce 48 (by omega)).mpr (by omega)), if_neg (show ¬ 10 * k + p = 0 by omega), if_neg (show ¬ 10 * k + p = 1 by omega), if_neg (show ¬ 10 * k + p < 10 by omega), if_neg (show ¬ 10 * k + p = 10 by omega)]
      · omega
    · rw [if_neg (show ¬ (inW c (nI 48) (nI 57) ∧ inW (nI 10 * nI k + c - nI 48) (nI 1) (nI 100)) from fun q => by
        obtain ⟨p', h3, e3, h4, h5⟩ := (hr_dig hk).mp q
        rw [e, nI_eq (by omega) (by omega)] at e3
        have : p' = p := by omega
        subst this
        exact hr ⟨h4, h5⟩)]
      show _ = -nI 1
      rcases ha with ⟨k0, ha⟩ | ⟨k0, ha⟩ | ⟨k0, ha⟩ | ⟨k0, ha⟩ | ⟨k0, ha⟩
      · rw [ha]
        show (if c = nI 49 then nI 6 else if inW c (nI 50) (nI 57) then nI 7 else -nI 1) = _
        rw [if_neg (fun q => by have := (hce 49 (by omega)).mp q; omega), if_neg (fun q => by have := (hin 50 57 (by omega) (by omega)).mp q; omega)]
      · omega
      · omega
      · rw [ha]
        show (if c = nI 48 then nI 9 else acN c) = _
        rw [if_neg (fun q => by have := (hce 48 (by omega)).mp q; omega), hac]
      · rw [ha]
        exact hac
  · have hnc : ∀ a, 48 ≤ a → a ≤ 57 → ¬ c = nI a := fun a h3 h4 q => hd ⟨a - 48, by omega, by rw [q]; congr 1; omega⟩
    have hP : ¬ (inW c (nI 48) (nI 57) ∧ inW (nI 10 * nI k + c - nI 48) (nI 1) (nI 100)) := fun q => no_in hd (by omega) (by omega) (by omega) q.1
    have hx : nxN (aw (11, (nI 104, nI k, wd), dn)) c = if 0 < k then acN c else -nI 1 := by
      rcases ha with ⟨k0, ha⟩ | ⟨k0, ha⟩ | ⟨k0, ha⟩ | ⟨k0, ha⟩ | ⟨k0, ha⟩
      · rw [ha, if_neg (show ¬ 0 < k by omega)]
        show (if c = nI 49 then nI 6 else if inW c (nI 50) (nI 57) then nI 7 else -nI 1) = _
        rw [if_neg (hnc 49 (by omega) (by omega)), if_neg (no_in hd (by omega) (by omega) (by omega))]
      · rw [ha, if_pos (show 0 < k by omega)]
        show (if c = nI 48 then nI 8 else if inW c (nI 49) (nI 57) then nI 9 else acN c) = _
        rw [if_neg (hnc 48 (by omega) (by omega)), if_neg (no_in hd (by omega) (by omega) (by omega))]
      · rw [ha, if_pos (show 0 < k by omega)]
        show (if inW c (nI 48) (nI 57) then nI 9 else acN c) = _
        rw [if_neg (no_in hd (by omega) (by omega) (by omega))]
      · rw [ha, if_pos (show 0 < k by omega)]
        show (if c = nI 48 then nI 9 else acN c) = _
        rw [if_neg (hnc 48 (by omega) (by omega))]
      · rw [ha, if_pos (show 0 < k by omega)]
        rfl
    rw [hx, if_neg hP]
    by_cases hk0 : 0 < k
    · rw [if_pos hk0]
      unfold acN
      by_cases h59 : c = nI 59
      · rw [if_pos h59, if_pos ⟨h59, hE.mpr hk0⟩]
        rfl
      · rw [if_neg h59, if_neg (fun q => h59 q.1)]
        rfl
    · rw [if_neg hk0, if_neg (fun q => hk0 (hE.mp q.2))]
      rfl
theorem nx_ok {s : PS} {c : Int32} (hs : IPs s) : nxN (aw s) c = awO (tkR s c) := by
  obtain ⟨D, ⟨lt, nm, wd⟩, dn⟩ := s
  obtain ⟨i1, i2, i3, i4, i5, i6⟩ := hs
  dsimp only at i1 i2 i3 i4 i5 i6
  by_cases h0 : D = 0
  · subst h0
    rw [tk_0]
    show (if c = nI 101 then nI 4 else if c = nI 104 then nI 5 else if c = nI 114 then nI 3 else if c = nI 119 then nI 1 else -nI 1) = _
    by_cases c1 : c = nI 101
    · subst c1; rfl
    · rw [if_neg c1]
      by_cases c2 : c = nI 104
      · subst c2; rfl
      · rw [if_neg c2]
        by_cases c3 : c = nI 114
        · subst c3; rfl
        · rw [if_neg c3]
          by_cases c4 : c = nI 119
          · subst c4; rfl
          · rw [if_neg c4, if_neg (fun q => q.elim c4 fun q => q.elim c3 fun q => q.elim c1 c2)]
            rfl
  by_cases h1 : D = 1
  · subst h1
    rw [tk_1]
    dsimp only
    rcases i2 rfl with e | e | e
    · subst e
      rw [if_neg (show ¬ nI 119 = nI 101 by decide), if_pos (show nI 119 = nI 119 from rfl)]
      show (if inW c (nI 48) (nI 55) then nI 2 else -nI 1) = _
      split <;> rfl
    · subst e
      rw [if_neg (show ¬ nI 114 = nI 101 by decide), if_neg (show ¬ nI 114 = nI 119 by decide)]
      show (if inW c (nI 48) (nI 55) then nI 9 else -nI 1) = _
      split <;> rfl
    · subst e
      rw [if_pos (show nI 101 = nI 101 from rfl), if_neg (show ¬ nI 101 = nI 119 by decide)]
      show (if inW c (nI 48) (nI 49) then nI 9 else -nI 1) = _
      split <;> rfl
  by_cases h2 : D = 2
  · subst h2
    rw [tk_2]
    show (if c = nI 61 then nI 10 else -nI 1) = _
    split <;> rfl
  by_cases h11 : D = 11
  · subst h11
    obtain ⟨e, k, hk, e2⟩ := i4 rfl
    subst e e2
    exact nx_11 hk
  by_cases h12 : D = 12
  · subst h12
    rw [tk_12]
    show acN c = _
    unfold acN
    split <;> rfl
  · have ha : aw (D, (lt, nm, wd), dn) = D + 7 := by
      unfold aw
      dsimp only
      rw [if_neg h0, if_neg h1, if_neg h2, if_neg h11, if_neg h12]
    rw [ha, tk_h (by omega) (by omega)]
    unfold nxN
    rw [if_neg (show ¬ D + 7 = 0 by omega), if_neg (show ¬ D + 7 = 1 by omega), if_neg (show ¬ D + 7 = 2 by omega), if_neg (show ¬ D + 7 = 3 by omega), if_neg (show ¬ D + 7 = 4 by omega), if_neg (show ¬ D + 7 = 5 by omega), if_neg (show ¬ D + 7 = 6 by omega), if_neg (show ¬ D + 7 = 7 by omega), if_neg (show ¬ D + 7 = 8 by omega), if_neg (show ¬ D + 7 = 9 by omega)]
    by_cases hg : dgO c = -nI 1
    · rw [if_pos hg, if_pos hg]
      rfl
    · rw [if_neg hg, if_neg hg]
      by_cases h10 : D = 10
      · subst h10
        rw [if_neg (show ¬ 10 + 7 < 17 by omega), if_pos rfl]
        rfl
      · rw [if_pos (show D + 7 < 17 by omega), if_neg h10]
        show nI (D + 7 + 1) = nI (aw (D + 1, _, dn))
        congr 1
        unfold aw
        dsimp only
        rw [if_neg (by omega), if_neg (by omega), if_neg (by omega), if_neg (by omega), if_neg (by omega)]
