/-! ===== the model: a row of commands carried out ===== -/
def okC (c : CMD) : Prop := (c.1 = nI 119 ∧ ∃ p, p < 8 ∧ c.2.1 = nI p) ∨ (c.1 = nI 114 ∧ ∃ p, p < 8 ∧ c.2.1 = nI p) ∨ (c.1 = nI 101 ∧ ∃ p, p < 2 ∧ c.2.1 = nI p) ∨ (c.1 = nI 104 ∧ ∃ p, 1 ≤ p ∧ p ≤ 100 ∧ c.2.1 = nI p)
def canC (z : ZZ) (c : CMD) : Bool := if c.1 = nI 119 then decide (z (30 + ixN c.2.1) = 0) else if c.1 = nI 114 then decide (z (30 + ixN c.2.1) = nI 1) else if c.1 = nI 101 then decide (z (28 + ixN c.2.1) < nI 100) else true
def doC (z : ZZ) (c : CMD) : ZZ := if c.1 = nI 119 then writesZ z (ixN c.2.1) c.2.2 else if c.1 = nI 114 then readsZ z (ixN c.2.1) else if c.1 = nI 101 then erasesZ z (ixN c.2.1) else passZ z (ixN c.2.1)
def lsC (z : ZZ) (c : CMD) : Bool := if c.1 = nI 114 then decide (readsR z (ixN c.2.1) = -nI 1) else false
def runL (z : ZZ) : List CMD → ZZ × Nat
  | [] => (z, 0)
  | c :: t => if canC z c = true then (if lsC z c = true then (doC z c, 1) else ((runL (doC z c) t).1, (runL (doC z c) t).2 + 1)) else (z, 0)
def aRun (A : AS) : Ans := match prsS ps0 A.2.2 with
  | none => no A 1
  | some s => if isE s then (0, nI (runL A.1 (s.2.2 ++ [s.2.1])).2, ((runL A.1 (s.2.2 ++ [s.2.1])).1, pushL A.2.1 A.1, [])) else no A 1
def IPs (s : PS) : Prop := (∀ c, c ∈ s.2.2 → okC c) ∧ (s.1 = 1 → s.2.1.1 = nI 119 ∨ s.2.1.1 = nI 114 ∨ s.2.1.1 = nI 101) ∧ (2 ≤ s.1 ∧ s.1 ≤ 10 → s.2.1.1 = nI 119 ∧ ∃ p, p < 8 ∧ s.2.1.2.1 = nI p) ∧ (s.1 = 11 → s.2.1.1 = nI 104 ∧ ∃ p, p ≤ 100 ∧ s.2.1.2.1 = nI p) ∧ (s.1 = 12 → okC s.2.1) ∧ s.1 ≤ 12
theorem ip_ended {s : PS} (h : IPs s) (he : isE s) : okC s.2.1 := by
  rcases he with e | ⟨e, e2⟩
  · exact h.2.2.2.2.1 e
  · obtain ⟨h1, p, hp, h2⟩ := h.2.2.2.1 e
    refine Or.inr (Or.inr (Or.inr ⟨h1, p, ?_, hp, h2⟩))
    rw [h2, ← nI_0, nI_ltI (by omega) (by omega)] at e2
    omega
theorem dig_nI {c : Int32} {a b : Nat} (hb : b < 1000) (hab : a ≤ b) (h1 : ¬ c < nI a) (h2 : ¬ nI b < c) : ∃ p, a ≤ p ∧ p ≤ b ∧ c = nI p := by
  obtain ⟨p, hp, e⟩ := rg_bd (N := b) (by omega) (fun q => h1 (Int32.lt_of_lt_of_le q ((nI_leI (by omega) (by omega)).mpr (Nat.zero_le _)))) h2
  refine ⟨p, ?_, hp, e⟩
  rw [e, nI_ltI (by omega) (by omega)] at h1
  omega
theorem tk_ip {s s' : PS} {c : Int32} (h : tkR s c = some s') (hs : IPs s) : IPs s' := by
  have hs0 := hs
  obtain ⟨D, ⟨lt, nm, wd⟩, dn⟩ := s
  obtain ⟨i1, i2, i3, i4, i5, i6⟩ := hs
  unfold tkR at h
  dsimp only at h i1 i2 i3 i4 i5 i6
  by_cases h59 : c = nI 59 ∧ isE (D, (lt, nm, wd), dn)
  · rw [if_pos h59] at h
    cases h
    refine ⟨fun c hc => ?_, fun q => (by cases q), fun q => absurd q.1 (by simp), fun q => (by cases q), fun q => (by cases q), Nat.zero_le _⟩
    rcases List.mem_append.mp hc with q | q
    · exact i1 c q
    · have : c = (lt, nm, wd) := by simpa using q
      subst this
      exact ip_ended hs0 h59.2
  · rw [if_neg h59] at h
    by_cases h0 : D = 0
    · rw [if_pos h0] at h
      split at h
      · next hq =>
        cases h
        by_cases hh : c = nI 104
        · rw [if_pos hh]
          exact ⟨i1, fun q => (by cases q), fun q => absurd q.2 (by simp), fun _ => ⟨hh, 0, by omega, rfl⟩, fun q => (by cases q), by simp⟩
        · rw [if_neg hh]
          exact ⟨i1, fun _ => by rcases hq with q | q | q | q; (· exact Or.inl q); (· exact Or.inr (Or.inl q)); (· exact Or.inr (Or.inr q)); exact absurd q hh, fun q => absurd q.1 (by simp), fun q => (by cases q), fun q => (by cases q), by simp⟩
      · cases h
    rw [if_neg h0] at h
    by_cases h1 : D = 1
    · rw [if_pos h1] at h
      by_cases hq : inW c (nI 48) (if lt = nI 101 then nI 49 else nI 55)
      · rw [if_pos hq] at h
        cases h
        by_cases hw : lt = nI 119
        · rw [if_pos hw]
          rw [if_neg (by rw [hw]; decide)] at hq
          obtain ⟨p, hp1, hp2, e⟩ := dig_nI (by omega) (by omega) hq.1 hq.2
          exact ⟨i1, fun q => (by cases q), fun _ => ⟨hw, p - 48, by omega, by rw [e, pk_sub hp1]⟩, fun q => (by cases q), fun q => (by cases q), by simp⟩
        · rw [if_neg hw]
          refine ⟨i1, fun q => (by cases q), fun q => absurd q.2 (by simp), fun q => (by cases q), fun _ => ?_, by simp⟩
          rcases i2 h1 with q | q | q
          · exact absurd q hw
          · rw [if_neg (by rw [q]; decide)] at hq
            obtain ⟨p, hp1, hp2, e⟩ := dig_nI (by omega) (by omega) hq.1 hq.2
            exact Or.inr (Or.inl ⟨q, p - 48, by omega, by rw [e, pk_sub hp1]⟩)
          · rw [if_pos q] at hq
            obtain ⟨p, hp1, hp2, e⟩ := dig_nI (by omega) (by omega) hq.1 hq.2
            exact Or.inr (Or.inr (Or.inl ⟨q, p - 48, by omega, by rw [e, pk_sub hp1]⟩))
      · rw [if_neg hq] at h
        cases h
    rw [if_neg h1] at h
    by_cases h2 : D = 2
    · rw [if_pos h2] at h
      split at h
      · cases h
        exact ⟨i1, fun q => (by cases q), fun _ => i3 (by omega), fun q => (by cases q), fun q => (by cases q), by simp⟩
      · cases h
    rw [if_neg h2] at h
    by_cases h11 : D = 11
    · rw [if_pos h11] at h
      split at h
      · next hq =>
        cases h
        obtain ⟨e1, p, hp, e2⟩ := i4 h11
        obtain ⟨q, hq1, hq2, e⟩ := dig_nI (by omega) (by omega) hq.2.1 hq.2.2
        exact ⟨i1, fun q => (by cases q), fun q => absurd q.2 (by simp), fun _ => ⟨e1, q, hq2, e⟩, fun q => (by cases q), by simp⟩
      · cases h
    rw [if_neg h11] at h
    by_cases h12 : D = 12
    · rw [if_pos h12] at h
      cases h
    rw [if_neg h12] at h
    split at h
    · cases h
    · cases h
      obtain ⟨e1, p, hp, e2⟩ := i3 (by omega)
      by_cases h10 : D = 10
      · rw [if_pos h10]
        exact ⟨i1, fun q => (by cases q), fun q => absurd q.2 (by simp), fun q => (by cases q), fun _ => Or.inl ⟨e1, p, hp, e2⟩, by simp⟩
      · rw [if_neg h10]
        exact ⟨i1, fun q => absurd q (by show ¬ D + 1 = 1; omega), fun _ => ⟨e1, p, hp, e2⟩, fun q => absurd q (by show ¬ D + 1 = 11; omega), fun q => absurd q (by show ¬ D + 1 = 12; omega), by show D + 1 ≤ 12; omega⟩
theorem prs_ip : ∀ {t : List Int32} {s s' : PS}, prsS s t = some s' → IPs s → IPs s'
  | [], _, _, h, hs => by cases h; exact hs
  | c :: t, s, s', h, hs => by
    rw [prsS] at h
    cases hk : tkR s c with
    | none => rw [hk] at h; cases h
    | some s1 => rw [hk] at h; exact prs_ip h (tk_ip hk hs)
theorem ip0 : IPs ps0 := ⟨fun c hc => (by cases hc), fun q => (by cases q), fun q => absurd q.1 (by simp [ps0]), fun q => (by cases q), fun q => (by cases q), Nat.zero_le _⟩
