/-! ===== the law: what the calls keep ===== -/
section L2
variable {n : Nat} {A : AS}
theorem ia_no {k : Nat} (h : IA n A) : IA (n + 21) (no A k).2.2 := h.mono (by omega)
theorem ia_ok {v : Int32} (h : IA n A) : IA (n + 21) (ok A v).2.2 := h.mono (by omega)
theorem ia_write {x y : Int32} (h : IA n A) : IA (n + 21) (aWrite A x y).2.2 := by
  unfold aWrite
  by_cases hx : rg x 8
  · obtain ⟨p, hp, e⟩ := inN_of (n := 8) (by omega) hx.1 hx.2
    subst e
    rw [if_pos hx, ixN_nI (by omega)]
    split
    · exact h.push (by omega) ((ivz_writes h.1 hp).mono (by omega))
    · exact ia_no h
  · rw [if_neg hx]
    exact ia_no h
theorem ia_read {x : Int32} (h : IA n A) : IA (n + 21) (aRead A x).2.2 := by
  unfold aRead
  by_cases hx : rg x 8
  · obtain ⟨p, hp, e⟩ := inN_of (n := 8) (by omega) hx.1 hx.2
    subst e
    rw [if_pos hx, ixN_nI (by omega)]
    split
    · exact h.push (by omega) ((ivz_reads h.1 hp).mono (by omega))
    · exact ia_no h
  · rw [if_neg hx]
    exact ia_no h
theorem ia_erase {x : Int32} (h : IA n A) : IA (n + 21) (aErase A x).2.2 := by
  unfold aErase
  by_cases hx : rg x 2
  · obtain ⟨p, hp, e⟩ := inN_of (n := 2) (by omega) hx.1 hx.2
    subst e
    rw [if_pos hx, ixN_nI (by omega)]
    by_cases hw : A.1 (28 + p) < nI 100
    · rw [if_pos hw]
      exact h.push (by omega) ((ivz_erases h.1 hp hw).mono (by omega))
    · rw [if_neg hw]
      exact ia_no h
  · rw [if_neg hx]
    exact ia_no h
theorem ia_copy {x y : Int32} (h : IA n A) : IA (n + 21) (aCopy A x y).2.2 := by
  unfold aCopy
  by_cases hx : rg x 8 ∧ rg y 8
  · obtain ⟨p, hp, e⟩ := inN_of (n := 8) (by omega) hx.1.1 hx.1.2
    obtain ⟨q, hq, e2⟩ := inN_of (n := 8) (by omega) hx.2.1 hx.2.2
    subst e e2
    rw [if_pos hx, ixN_nI (by omega), ixN_nI (by omega)]
    split
    · refine h.push (m := n + 21) (by omega) ?_
      unfold copyZ
      split
      · exact (ivz_reads h.1 hp).mono (by omega)
      · exact (ivz_writes (ivz_reads h.1 hp) hq).mono (by omega)
    · exact ia_no h
  · rw [if_neg hx]
    exact ia_no h
theorem ia_pass {x : Int32} (h : IA n A) : IA (n + 21) (aPass A x).2.2 := by
  unfold aPass
  split
  · exact h.push (by omega) ((ivz_pass h.1 _).mono (by omega))
  · exact ia_no h
theorem ia_addMatch {x y v : Int32} (h : IA n A) : IA (n + 21) (aAdd A x y v).2.2 := by
  unfold aAdd
  by_cases hx : offOK x ∧ offOK y ∧ offOK v
  · rw [if_pos hx]
    by_cases h6 : A.1 8 = nI 6
    · rw [if_pos h6]
      exact ia_no h
    · rw [if_neg h6]
      exact h.push (by omega) ((ivz_add h.1 hx.1 hx.2.1 hx.2.2 h6).mono (by omega))
  · rw [if_neg hx]
    exact ia_no h
theorem ia_removeMatch {x : Int32} (h : IA n A) : IA (n + 21) (aRem A x).2.2 := by
  unfold aRem
  have hM6 := h.1.2.1.2.2
  by_cases hx : rg x (mN' A.1)
  · obtain ⟨p, hp, e⟩ := inN_of (n := mN' A.1) (by omega) hx.1 hx.2
    subst e
    rw [if_pos hx, ixN_nI (by omega)]
    by_cases h1 : mN' A.1 = 1
    · rw [if_pos h1]
      exact ia_no h
    · rw [if_neg h1]
      exact h.push (by omega) ((ivz_rem h.1 hp h1).mono (by omega))
  · rw [if_neg hx]
    exact ia_no h
theorem ia_set {x y : Int32} (h : IA n A) : IA (n + 21) (aSet A x y).2.2 := by
  unfold aSet
  by_cases hx : rg x 6
  · obtain ⟨p, hp, e⟩ := inN_of (n := 6) (by omega) hx.1 hx.2
    subst e
    rw [if_pos hx, ixN_nI (by omega)]
    by_cases hy : ¬ y < nI 0 ∧ ¬ nI ([60, 50, 8, 30, 100, 10].getD p 0) < y
    · rw [if_pos hy]
      exact h.push (by omega) ((ivz_set h.1 hp hy.1 hy.2).mono (by omega))
    · rw [if_neg hy]
      exact ia_no h
  · rw [if_neg hx]
    exact ia_no h
theorem ia_append {x : Int32} (h : IA n A) : IA (n + 21) (aApp A x).2.2 := by
  unfold aApp
  by_cases hx : ¬ x < nI 33 ∧ ¬ nI 126 < x
  · rw [if_pos hx]
    by_cases h6 : A.2.2.length = 60
    · rw [if_pos h6]
      exact ia_no h
    · rw [if_neg h6]
      obtain ⟨h1, h2, h3, h4, h5⟩ := h
      refine ⟨h1.mono (by omega), fun r hr => (h2 r hr).mono (by omega), h3, ?_, fun c hc => ?_⟩
      · show (A.2.2 ++ [x]).length ≤ 60
        rw [List.length_append]
        show A.2.2.length + 1 ≤ 60
        omega
      · rcases List.mem_append.mp hc with q | q
        · exact h5 c q
        · have e : c = x := by simpa using q
          rw [e]
          exact hx
  · rw [if_neg hx]
    exact ia_no h
theorem ia_text {z : ZZ} {L : List ZZ} (h : IA n (z, L, A.2.2)) : IA n (z, L, []) := ⟨h.1, h.2.1, h.2.2.1, Nat.zero_le _, fun c hc => (by cases hc)⟩
theorem ivz_runL : ∀ (cs : List CMD) {n : Nat} {z : ZZ}, (∀ c, c ∈ cs → okC c) → Ivz n z → Ivz (n + cs.length) (runL z cs).1
  | [], n, z, _, h => h
  | c :: t, n, z, hok, h => by
    rw [runL]
    by_cases hc : canC z c = true
    · rw [if_pos hc]
      have h1 := ivz_do h (hok c List.mem_cons_self) hc
      split
      · exact h1.mono (by simp)
      · have h2 := ivz_runL t (fun c hc => hok c (List.mem_cons_of_mem _ hc)) h1
        rw [List.length_cons, show n + (t.length + 1) = n + 1 + t.length by omega]
        exact h2
    · rw [if_neg hc]
      exact h.mono (by omega)
theorem prs_wt : ∀ {t : List Int32} {s s' : PS}, prsS s t = some s' → 3 * s'.2.2.length + pw s' ≤ 3 * s.2.2.length + pw s + t.length
  | [], s, s', h => by cases h; simp
  | c :: t, s, s', h => by
    rw [prsS] at h
    cases hk : tkR s c with
    | none => rw [hk] at h; cases h
    | some s1 =>
      rw [hk] at h
      have h1 := tk_wt hk
      have h2 := prs_wt h
      rw [List.length_cons]
      omega
theorem ia_run (h : IA n A) : IA (n + 21) (aRun A).2.2 := by
  unfold aRun
  cases hp : prsS ps0 A.2.2 with
  | none => exact ia_no h
  | some s =>
    dsimp only
    by_cases he : isE s
    · rw [if_pos he]
      have hw := prs_wt hp
      have h0 : 3 * ps0.2.2.length + pw ps0 = 0 := rfl
      have h60 := h.2.2.2.1
      have hl : (s.2.2 ++ [s.2.1]).length ≤ 21 := by
        rw [List.length_append]
        show s.2.2.length + 1 ≤ 21
        omega
      have h1 := ivz_runL (s.2.2 ++ [s.2.1]) (cmds_ok hp he) h.1
      exact ia_text (A := A) (h.push (m := n + 21) (by omega) (h1.mono (by omega)))
    · rw [if_neg he]
      exact ia_no h
theorem ia_undo (h : IA n A) : IA (n + 21) (aUndo A).2.2 := by
  unfold aUndo
  cases hx : A.2.1.getLast? with
  | none => exact ia_no h
  | some r =>
    have hm : r ∈ A.2.1 := List.mem_of_getLast? hx
    refine ⟨ivz_same ((h.2.1 r hm).mono (by omega)) (fun k hk => if_pos hk), fun q hq => (h.2.1 q ((List.dropLast_sublist _).subset hq)).mono (by omega), ?_, h.2.2.2.1, h.2.2.2.2⟩
    show A.2.1.dropLast.length ≤ 6
    rw [List.length_dropLast]
    have := h.2.2.1
    omega
theorem ia_clear (h : IA n A) : IA (n + 21) (aClear A).2.2 := ia_text (A := A) (h.mono (by omega))
theorem ia_page {x y : Int32} (h : IA n A) : IA (n + 21) (aPage A x y).2.2 := by
  unfold aPage
  (repeat' split) <;> first | exact ia_no h | exact ia_ok h
theorem ia_data {x : Int32} (h : IA n A) : IA (n + 21) (aData A x).2.2 := by
  unfold aData
  (repeat' split) <;> first | exact ia_no h | exact ia_ok h
theorem ia_cell {x y v : Int32} (h : IA n A) : IA (n + 21) (aCell A x y v).2.2 := by
  unfold aCell
  (repeat' split) <;> first | exact ia_no h | exact ia_ok h
theorem ia_match {x y : Int32} (h : IA n A) : IA (n + 21) (aMatch A x y).2.2 := by
  unfold aMatch
  (repeat' split) <;> first | exact ia_no h | exact ia_ok h
theorem ia_count {x : Int32} (h : IA n A) : IA (n + 21) (aCount A x).2.2 := by
  unfold aCount
  (repeat' split) <;> first | exact ia_no h | exact ia_ok h
theorem ia_setting {x : Int32} (h : IA n A) : IA (n + 21) (aSetting A x).2.2 := by
  unfold aSetting
  (repeat' split) <;> first | exact ia_no h | exact ia_ok h
theorem ia_wrong {x y : Int32} (h : IA n A) : IA (n + 21) (aWrong A x y).2.2 := by
  unfold aWrong
  (repeat' split) <;> first | exact ia_no h | exact ia_ok h
theorem ia_ifRead {x y : Int32} (h : IA n A) : IA (n + 21) (aIfRead A x y).2.2 := by
  unfold aIfRead
  (repeat' split) <;> first | exact ia_no h | exact ia_ok h
theorem ia_life {x : Int32} (h : IA n A) : IA (n + 21) (aLife A x).2.2 := by
  unfold aLife
  (repeat' split) <;> first | exact ia_no h | exact ia_ok h
theorem ia_bestShift {x y : Int32} (h : IA n A) : IA (n + 21) (aShift A x y).2.2 := by
  unfold aShift
  (repeat' split) <;> first | exact ia_no h | exact ia_ok h
theorem ia_lostIn {x : Int32} (h : IA n A) : IA (n + 21) (aLost A x).2.2 := by
  unfold aLost
  (repeat' split) <;> first | exact ia_no h | exact ia_ok h
end L2
