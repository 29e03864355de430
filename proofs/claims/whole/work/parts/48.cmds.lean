/-! ===== the commands of a text, one by one ===== -/
/-- the number whose digits come first -/
def numR : List Int32 → Int32 → Int32
  | [], a => a
  | c :: t, a => if inW c (nI 48) (nI 57) then numR t (nI 10 * a + c - nI 48) else a
/-- the word of the first n hexadecimal digits -/
def wdN : List Int32 → Int32 → Nat → Int32
  | _, x, 0 => x
  | [], x, n + 1 => wdN [] (x <<< (nI 4 &&& 31) ||| (dgO (-nI 1) &&& nI 15)) n
  | c :: t, x, n + 1 => wdN t (x <<< (nI 4 &&& 31) ||| (dgO c &&& nI 15)) n
theorem numR_no {c : Int32} {t : List Int32} {a : Int32} (h : ¬ inW c (nI 48) (nI 57)) : numR (c :: t) a = a := if_neg h
theorem n59 : ¬ inW (nI 59) (nI 48) (nI 57) := by decide
/-- a step either ends the command or keeps those that have ended -/
theorem tk_dn {s s' : PS} {c : Int32} (hs : IPs s) (h : tkR s c = some s') : (s'.1 = 0 ∧ c = nI 59 ∧ isE s ∧ s'.2.2 = s.2.2 ++ [s.2.1]) ∨ (s'.1 ≠ 0 ∧ c ≠ nI 59 ∧ s'.2.2 = s.2.2) := by
  obtain ⟨D, m, dn⟩ := s
  have h6 := hs.2.2.2.2.2
  dsimp only at h6
  have hc59 : ∀ a b, b < 59 → a ≤ b → inW c (nI a) (nI b) → c ≠ nI 59 := fun a b hb hab q e => by
    subst e
    obtain ⟨p, h1, h2, h3⟩ := (in_dig (by omega) hab).mp q
    rw [nI_eq (by omega) (by omega)] at h3
    omega
  by_cases h0 : D = 0
  · subst h0
    rw [tk_0] at h
    split at h
    · next q =>
      cases h
      refine Or.inr ⟨?_, fun e => ?_, rfl⟩
      · dsimp only
        split <;> omega
      · subst e
        exact absurd q (by decide)
    · cases h
  by_cases h1 : D = 1
  · subst h1
    rw [tk_1] at h
    by_cases q : inW c (nI 48) (if m.1 = nI 101 then nI 49 else nI 55)
    · rw [if_pos q] at h
      cases h
      refine Or.inr ⟨?_, ?_, rfl⟩
      · dsimp only
        split <;> omega
      · by_cases h9 : m.1 = nI 101
        · rw [if_pos h9] at q
          exact hc59 48 49 (by omega) (by omega) q
        · rw [if_neg h9] at q
          exact hc59 48 55 (by omega) (by omega) q
    · rw [if_neg q] at h
      cases h
  by_cases h2 : D = 2
  · subst h2
    rw [tk_2] at h
    split at h
    · next q =>
      cases h
      exact Or.inr ⟨by simp, by rw [q]; decide, rfl⟩
    · cases h
  by_cases h11 : D = 11
  · subst h11
    rw [tk_11] at h
    split at h
    · next q =>
      cases h
      exact Or.inl ⟨rfl, q.1, Or.inr ⟨rfl, q.2⟩, rfl⟩
    · split at h
      · next q =>
        cases h
        exact Or.inr ⟨by simp, hc59 48 57 (by omega) (by omega) q.1, rfl⟩
      · cases h
  by_cases h12 : D = 12
  · subst h12
    rw [tk_12] at h
    split at h
    · next q =>
      cases h
      exact Or.inl ⟨rfl, q, Or.inl rfl, rfl⟩
    · cases h
  · rw [tk_h (by omega) (by omega)] at h
    split at h
    · cases h
    · next q =>
      cases h
      refine Or.inr ⟨?_, fun e => q (by rw [e]; exact dg59), rfl⟩
      dsimp only
      split <;> omega
theorem prs_pre : ∀ {t : List Int32} {s s' : PS}, IPs s → prsS s t = some s' → ∃ tl, s'.2.2 = s.2.2 ++ tl
  | [], s, s', _, h => by cases h; exact ⟨[], (List.append_nil _).symm⟩
  | c :: t, s, s', hs, h => by
    rw [prsS] at h
    cases hk : tkR s c with
    | none => rw [hk] at h; cases h
    | some s1 =>
      rw [hk] at h
      obtain ⟨tl, e⟩ := prs_pre (tk_ip hk hs) h
      rcases tk_dn hs hk with ⟨_, _, _, e2⟩ | ⟨_, _, e2⟩
      · exact ⟨[s.2.1] ++ tl, by rw [e, e2, List.append_assoc]⟩
      · exact ⟨tl, by rw [e, e2]⟩
/-- the command under way, once it has ended -/
theorem prs_fin : ∀ {t : List Int32} {s s' : PS}, IPs s → prsS s t = some s' → isE s' → isE s → (t = [] ∨ ∃ u, t = nI 59 :: u) → (s'.2.2 ++ [s'.2.1])[s.2.2.length]? = some s.2.1
  | [], s, s', _, h, _, _, _ => by cases h; simp
  | c :: t, s, s', hs, h, he, he2, hu => by
    obtain ⟨u, eu⟩ : ∃ u, c :: t = nI 59 :: u := by
      rcases hu with q | q
      · cases q
      · exact q
    cases eu
    rw [prsS] at h
    cases hk : tkR s (nI 59) with
    | none => rw [hk] at h; cases h
    | some s1 =>
      rw [hk] at h
      obtain ⟨tl, e⟩ := prs_pre (tk_ip hk hs) h
      rcases tk_dn hs hk with ⟨_, _, _, e2⟩ | ⟨_, e2, _⟩
      · rw [e, e2]
        simp
      · exact absurd rfl e2
/-- from a number of hours on -/
theorem cmd_h : ∀ {t : List Int32} {m : CMD} {dn : List CMD} {s' : PS}, IPs (11, m, dn) → prsS (11, m, dn) t = some s' → isE s' → (s'.2.2 ++ [s'.2.1])[dn.length]? = some (m.1, numR t m.2.1, m.2.2)
  | [], m, dn, s', hs, h, he => by
    cases h
    simp [numR]
  | c :: t, m, dn, s', hs, h, he => by
    have h0 := h
    rw [prsS] at h
    rw [tk_11] at h
    by_cases q : c = nI 59 ∧ 0 < m.2.1
    · rw [q.1] at h0
      rw [q.1, numR_no n59]
      exact prs_fin hs h0 he (Or.inr ⟨rfl, q.2⟩) (Or.inr ⟨t, rfl⟩)
    · rw [if_neg q] at h
      by_cases q2 : inW c (nI 48) (nI 57) ∧ inW (nI 10 * m.2.1 + c - nI 48) (nI 1) (nI 100)
      · rw [if_pos q2] at h
        have hs2 : IPs (11, (m.1, nI 10 * m.2.1 + c - nI 48, m.2.2), dn) := tk_ip (s := (11, m, dn)) (c := c) (by rw [tk_11, if_neg q, if_pos q2]) hs
        have := cmd_h hs2 h he
        rw [numR, if_pos q2.1]
        exact this
      · rw [if_neg q2] at h
        cases h
/-- behind the last character of a command -/
theorem cmd_12 {t : List Int32} {m : CMD} {dn : List CMD} {s' : PS} {a : Int32} (hs : IPs (12, m, dn)) (h : prsS (12, m, dn) t = some s') (he : isE s') : (s'.2.2 ++ [s'.2.1])[dn.length]? = some m ∧ numR t a = a := by
  cases t with
  | nil => cases h; exact ⟨by simp, rfl⟩
  | cons c t =>
    have h0 := h
    rw [prsS] at h
    rw [tk_12] at h
    by_cases q : c = nI 59
    · subst q
      exact ⟨prs_fin hs h0 he (Or.inl rfl) (Or.inr ⟨t, rfl⟩), numR_no n59⟩
    · rw [if_neg q] at h
      cases h
theorem dg15 {c : Int32} (h : ¬ dgO c = -nI 1) : dgO c &&& nI 15 = dgO c := by
  unfold dgO at h ⊢
  have key : ∀ k, k ≤ 15 → nI k &&& nI 15 = nI k := fun k hk => by
    apply tn_inj
    rw [tn_and, tn_nI (by omega), tn_nI (by omega), and15, Nat.mod_eq_of_lt (by omega)]
  by_cases h1 : inW c (nI 48) (nI 57)
  · rw [if_pos h1]
    obtain ⟨p, h2, h3, e⟩ := (in_dig (by omega) (by omega)).mp h1
    rw [e, pk_sub h2]
    exact key _ (by omega)
  · rw [if_neg h1] at h ⊢
    by_cases h4 : inW c (nI 97) (nI 102)
    · rw [if_pos h4]
      obtain ⟨p, h2, h3, e⟩ := (in_dig (by omega) (by omega)).mp h4
      rw [e, pk_sub h2, nI_add]
      exact key _ (by omega)
    · rw [if_neg h4] at h
      exact absurd rfl h
/-- from the first hexadecimal digit on -/
theorem cmd_x : ∀ (n : Nat) {D : Nat} {t : List Int32} {m : CMD} {dn : List CMD} {s' : PS}, D + n = 11 → 3 ≤ D → D ≤ 10 → IPs (D, m, dn) → prsS (D, m, dn) t = some s' → isE s' → (s'.2.2 ++ [s'.2.1])[dn.length]? = some (m.1, m.2.1, wdN t m.2.2 n)
  | 0, D, t, m, dn, s', hD, h3, h10, _, _, _ => by omega
  | n + 1, D, [], m, dn, s', hD, h3, h10, hs, h, he => by
    cases h
    rcases he with e | e
    · have e : D = 12 := e; omega
    · have e : D = 11 := e.1; omega
  | n + 1, D, c :: t, m, dn, s', hD, h3, h10, hs, h, he => by
    rw [prsS] at h
    have hk := tk_h (m := m) (dn := dn) (c := c) h3 h10
    by_cases q : dgO c = -nI 1
    · rw [if_pos q] at hk
      rw [hk] at h
      cases h
    · rw [if_neg q] at hk
      rw [hk] at h
      have hs2 := tk_ip hk hs
      rw [wdN, dg15 q]
      by_cases q10 : D = 10
      · rw [if_pos q10] at h hs2
        obtain rfl : n = 0 := by omega
        exact (cmd_12 (a := 0) hs2 h he).1
      · rw [if_neg q10] at h hs2
        have := cmd_x n (D := D + 1) (by omega) (by omega) (by omega) hs2 h he
        exact this
/-- the command that begins here -/
theorem cmd_of {c : Int32} {t : List Int32} {m : CMD} {dn : List CMD} {s' : PS} (hs : IPs (0, m, dn)) (h : prsS (0, m, dn) (c :: t) = some s') (he : isE s') : ∃ cmd, (s'.2.2 ++ [s'.2.1])[dn.length]? = some cmd ∧ cmd.1 = c ∧ cmd.2.1 = numR t (nI 0) ∧ (c = nI 119 → cmd.2.2 = wdN (t.drop 2) (nI 0) 8) := by
  rw [prsS] at h
  have hk := tk_0 (m := m) (dn := dn) (c := c)
  by_cases q : c = nI 119 ∨ c = nI 114 ∨ c = nI 101 ∨ c = nI 104
  · rw [if_pos q] at hk
    rw [hk] at h
    have hs1 := tk_ip hk hs
    dsimp only at h
    by_cases q104 : c = nI 104
    · rw [if_pos q104] at h hs1
      exact ⟨_, cmd_h hs1 h he, rfl, rfl, fun e => by rw [q104] at e; exact absurd e (by decide)⟩
    · rw [if_neg q104] at h hs1
      cases t with
      | nil =>
        cases h
        rcases he with e | e
        · cases e
        · cases e.1
      | cons d t =>
        rw [prsS] at h
        have hk1 := tk_1 (m := (c, nI 0, nI 0)) (dn := dn) (c := d)
        dsimp only at hk1
        by_cases q1 : inW d (nI 48) (if c = nI 101 then nI 49 else nI 55)
        · rw [if_pos q1] at hk1
          rw [hk1] at h
          have hs2 := tk_ip hk1 hs1
          dsimp only at h
          have hd : inW d (nI 48) (nI 57) := by
            rw [in_dig (by omega) (by omega)]
            by_cases h9 : c = nI 101
            · rw [if_pos h9, in_dig (by omega) (by omega)] at q1
              obtain ⟨p, h1, h2, e⟩ := q1
              exact ⟨p, h1, by omega, e⟩
            · rw [if_neg h9, in_dig (by omega) (by omega)] at q1
              obtain ⟨p, h1, h2, e⟩ := q1
              exact ⟨p, h1, by omega, e⟩
          have hn : nI 10 * nI 0 + d - nI 48 = d - nI 48 := by rw [nI_0, Int32.mul_zero, Int32.zero_add]
          by_cases q119 : c = nI 119
          · rw [if_pos q119] at h hs2
            cases t with
            | nil =>
              cases h
              rcases he with e | e
              · cases e
              · cases e.1
            | cons x t =>
              rw [prsS] at h
              have hk2 := tk_2 (m := (c, d - nI 48, nI 0)) (dn := dn) (c := x)
              by_cases q2 : x = nI 61
              · rw [if_pos q2] at hk2
                rw [hk2] at h
                have hs3 := tk_ip hk2 hs2
                refine ⟨_, cmd_x 8 (by omega) (by omega) (by omega) hs3 h he, rfl, ?_, fun _ => rfl⟩
                rw [numR, if_pos hd, hn, numR_no (by rw [q2]; decide)]
              · rw [if_neg q2] at hk2
                rw [hk2] at h
                cases h
          · rw [if_neg q119] at h hs2
            obtain ⟨g1, g2⟩ := cmd_12 (a := d - nI 48) hs2 h he
            refine ⟨_, g1, rfl, ?_, fun e => absurd e q119⟩
            rw [numR, if_pos hd, hn, g2]
        · rw [if_neg q1] at hk1
          rw [hk1] at h
          cases h
  · rw [if_neg q] at hk
    rw [hk] at h
    cases h
/-- all commands of a whole row are fit -/
theorem cmds_ok {T : List Int32} {s : PS} (h : prsS ps0 T = some s) (he : isE s) : ∀ c, c ∈ s.2.2 ++ [s.2.1] → okC c := fun c hc => by
  have hI := prs_ip h ip0
  rcases List.mem_append.mp hc with q | q
  · exact hI.1 c q
  · have e : c = s.2.1 := by simpa using q
    rw [e]
    exact ip_ended hI he
theorem prs_app : ∀ {t u : List Int32} {s : PS}, prsS s (t ++ u) = (match prsS s t with | none => none | some s' => prsS s' u)
  | [], u, s => rfl
  | c :: t, u, s => by
    rw [List.cons_append, prsS, prsS]
    cases tkR s c with
    | none => rfl
    | some s1 => exact prs_app
