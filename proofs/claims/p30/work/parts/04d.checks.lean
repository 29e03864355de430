/-! ===== the code tables are right: the method 67 ===== -/
set_option maxRecDepth 100000 in
theorem okL_67_0 : chkC 67 ((cdT 67).getD 0 []) = true := by decide +kernel
set_option maxRecDepth 100000 in
theorem okL_67_1 : chkC 67 ((cdT 67).getD 1 []) = true := by decide +kernel
set_option maxRecDepth 100000 in
theorem okL_67_2 : chkC 67 ((cdT 67).getD 2 []) = true := by decide +kernel
set_option maxRecDepth 100000 in
theorem okL_67_3 : chkC 67 ((cdT 67).getD 3 []) = true := by decide +kernel
set_option maxRecDepth 100000 in
theorem okL_67_4 : chkC 67 ((cdT 67).getD 4 []) = true := by decide +kernel
set_option maxRecDepth 100000 in
theorem okL_67_5 : chkC 67 ((cdT 67).getD 5 []) = true := by decide +kernel
set_option maxRecDepth 100000 in
theorem okL_67_6 : chkC 67 ((cdT 67).getD 6 []) = true := by decide +kernel
set_option maxRecDepth 100000 in
theorem okL_67_7 : chkC 67 ((cdT 67).getD 7 []) = true := by decide +kernel
theorem okM_67 : chkM 67 = true := by
  have hl : (cdT 67).length = 8 := by decide +kernel
  refine List.all_eq_true.mpr fun ch hch => ?_
  obtain ⟨j, hj⟩ := List.getElem?_of_mem hch
  have hlt : j < 8 := by rw [← hl]; exact (List.getElem?_eq_some_iff.mp hj).1
  have key : chkC 67 ((cdT 67).getD j []) = true := by
    match j, hlt with
    | 0, _ => exact okL_67_0
    | 1, _ => exact okL_67_1
    | 2, _ => exact okL_67_2
    | 3, _ => exact okL_67_3
    | 4, _ => exact okL_67_4
    | 5, _ => exact okL_67_5
    | 6, _ => exact okL_67_6
    | 7, _ => exact okL_67_7
    | j + 8, h => exact absurd h (by omega)
  rw [List.getD_eq_getElem?_getD, hj] at key
  exact key
theorem okG_0 : ∀ i, i < 16 → chkM (0 + i) = true := fun i hi => match i, hi with
  | 0, _ => okM_0
  | 1, _ => okM_1
  | 2, _ => okM_2
  | 3, _ => okM_3
  | 4, _ => okM_4
  | 5, _ => okM_5
  | 6, _ => okM_6
  | 7, _ => okM_7
  | 8, _ => okM_8
  | 9, _ => okM_9
  | 10, _ => okM_10
  | 11, _ => okM_11
  | 12, _ => okM_12
  | 13, _ => okM_13
  | 14, _ => okM_14
  | 15, _ => okM_15
  | i + 16, h => absurd h (by omega)
theorem okV_0 : ∀ i, i < 16 → chkW (0 + i) = true := fun i hi => match i, hi with
  | 0, _ => okW_0
  | 1, _ => okW_1
  | 2, _ => okW_2
  | 3, _ => okW_3
  | 4, _ => okW_4
  | 5, _ => okW_5
  | 6, _ => okW_6
  | 7, _ => okW_7
  | 8, _ => okW_8
  | 9, _ => okW_9
  | 10, _ => okW_10
  | 11, _ => okW_11
  | 12, _ => okW_12
  | 13, _ => okW_13
  | 14, _ => okW_14
  | 15, _ => okW_15
  | i + 16, h => absurd h (by omega)
theorem okG_1 : ∀ i, i < 16 → chkM (16 + i) = true := fun i hi => match i, hi with
  | 0, _ => okM_16
  | 1, _ => okM_17
  | 2, _ => okM_18
  | 3, _ => okM_19
  | 4, _ => okM_20
  | 5, _ => okM_21
  | 6, _ => okM_22
  | 7, _ => okM_23
  | 8, _ => okM_24
  | 9, _ => okM_25
  | 10, _ => okM_26
  | 11, _ => okM_27
  | 12, _ => okM_28
  | 13, _ => okM_29
  | 14, _ => okM_30
  | 15, _ => okM_31
  | i + 16, h => absurd h (by omega)
theorem okV_1 : ∀ i, i < 16 → chkW (16 + i) = true := fun i hi => match i, hi with
  | 0, _ => okW_16
  | 1, _ => okW_17
  | 2, _ => okW_18
  | 3, _ => okW_19
  | 4, _ => okW_20
  | 5, _ => okW_21
  | 6, _ => okW_22
  | 7, _ => okW_23
  | 8, _ => okW_24
  | 9, _ => okW_25
  | 10, _ => okW_26
  | 11, _ => okW_27
  | 12, _ => okW_28
  | 13, _ => okW_29
  | 14, _ => okW_30
  | 15, _ => okW_31
  | i + 16, h => absurd h (by omega)
theorem okG_2 : ∀ i, i < 16 → chkM (32 + i) = true := fun i hi => match i, hi with
  | 0, _ => okM_32
  | 1, _ => okM_33
  | 2, _ => okM_34
  | 3, _ => okM_35
  | 4, _ => okM_36
  | 5, _ => okM_37
  | 6, _ => okM_38
  | 7, _ => okM_39
  | 8, _ => okM_40
  | 9, _ => okM_41
  | 10, _ => okM_42
  | 11, _ => okM_43
  | 12, _ => okM_44
  | 13, _ => okM_45
  | 14, _ => okM_46
  | 15, _ => okM_47
  | i + 16, h => absurd h (by omega)
theorem okV_2 : ∀ i, i < 16 → chkW (32 + i) = true := fun i hi => match i, hi with
  | 0, _ => okW_32
  | 1, _ => okW_33
  | 2, _ => okW_34
  | 3, _ => okW_35
  | 4, _ => okW_36
  | 5, _ => okW_37
  | 6, _ => okW_38
  | 7, _ => okW_39
  | 8, _ => okW_40
  | 9, _ => okW_41
  | 10, _ => okW_42
  | 11, _ => okW_43
  | 12, _ => okW_44
  | 13, _ => okW_45
  | 14, _ => okW_46
  | 15, _ => okW_47
  | i + 16, h => absurd h (by omega)
theorem okG_3 : ∀ i, i < 16 → chkM (48 + i) = true := fun i hi => match i, hi with
  | 0, _ => okM_48
  | 1, _ => okM_49
  | 2, _ => okM_50
  | 3, _ => okM_51
  | 4, _ => okM_52
  | 5, _ => okM_53
  | 6, _ => okM_54
  | 7, _ => okM_55
  | 8, _ => okM_56
  | 9, _ => okM_57
  | 10, _ => okM_58
  | 11, _ => okM_59
  | 12, _ => okM_60
  | 13, _ => okM_61
  | 14, _ => okM_62
  | 15, _ => okM_63
  | i + 16, h => absurd h (by omega)
theorem okV_3 : ∀ i, i < 16 → chkW (48 + i) = true := fun i hi => match i, hi with
  | 0, _ => okW_48
  | 1, _ => okW_49
  | 2, _ => okW_50
  | 3, _ => okW_51
  | 4, _ => okW_52
  | 5, _ => okW_53
  | 6, _ => okW_54
  | 7, _ => okW_55
  | 8, _ => okW_56
  | 9, _ => okW_57
  | 10, _ => okW_58
  | 11, _ => okW_59
  | 12, _ => okW_60
  | 13, _ => okW_61
  | 14, _ => okW_62
  | 15, _ => okW_63
  | i + 16, h => absurd h (by omega)
theorem okG_4 : ∀ i, i < 4 → chkM (64 + i) = true := fun i hi => match i, hi with
  | 0, _ => okM_64
  | 1, _ => okM_65
  | 2, _ => okM_66
  | 3, _ => okM_67
  | i + 4, h => absurd h (by omega)
theorem okV_4 : ∀ i, i < 3 → chkW (64 + i) = true := fun i hi => match i, hi with
  | 0, _ => okW_64
  | 1, _ => okW_65
  | 2, _ => okW_66
  | i + 3, h => absurd h (by omega)
theorem okM (k : Nat) (h : k < 68) : chkM k = true := by
  have hj : k / 16 = 0 ∨ k / 16 = 1 ∨ k / 16 = 2 ∨ k / 16 = 3 ∨ k / 16 = 4 := by omega
  rcases hj with hj | hj | hj | hj | hj
  · have e := okG_0 (k - 0) (by omega); rw [show 0 + (k - 0) = k by omega] at e; exact e
  · have e := okG_1 (k - 16) (by omega); rw [show 16 + (k - 16) = k by omega] at e; exact e
  · have e := okG_2 (k - 32) (by omega); rw [show 32 + (k - 32) = k by omega] at e; exact e
  · have e := okG_3 (k - 48) (by omega); rw [show 48 + (k - 48) = k by omega] at e; exact e
  · have e := okG_4 (k - 64) (by omega); rw [show 64 + (k - 64) = k by omega] at e; exact e
theorem okW9 (k : Nat) (h : k < 67) : chkW k = true := by
  have hj : k / 16 = 0 ∨ k / 16 = 1 ∨ k / 16 = 2 ∨ k / 16 = 3 ∨ k / 16 = 4 := by omega
  rcases hj with hj | hj | hj | hj | hj
  · have e := okV_0 (k - 0) (by omega); rw [show 0 + (k - 0) = k by omega] at e; exact e
  · have e := okV_1 (k - 16) (by omega); rw [show 16 + (k - 16) = k by omega] at e; exact e
  · have e := okV_2 (k - 32) (by omega); rw [show 32 + (k - 32) = k by omega] at e; exact e
  · have e := okV_3 (k - 48) (by omega); rw [show 48 + (k - 48) = k by omega] at e; exact e
  · have e := okV_4 (k - 64) (by omega); rw [show 64 + (k - 64) = k by omega] at e; exact e
theorem okW (k : Nat) (h : k + 1 < nMeth) : chkW k = true := okW9 k (Nat.lt_of_succ_lt_succ h)
theorem lk_mem : ∀ (l : List (Nat × CE)) (pc : Nat) (e : CE), lk l pc = some e → (pc, e) ∈ l
  | [], _, _, h => by cases h
  | q :: t, pc, e, h => by
    unfold lk at h
    cases hq : Nat.beq q.1 pc with
    | true =>
      rw [hq] at h
      have h1 : q.1 = pc := Nat.eq_of_beq_eq_true hq
      have h2 : q.2 = e := Option.some.inj h
      rw [← h1, ← h2]
      exact List.mem_cons_self
    | false =>
      rw [hq] at h
      exact List.mem_cons_of_mem _ (lk_mem t pc e h)
theorem ce_ok {k pc : Nat} {e : CE} (hk : k < nMeth) (h : ce k pc = some e) : decode (mB k) pc = .ok (e.1, e.2.1) ∧ lkd k pc e = true ∧ lenB e.1 e.2.1 = true := by
  have h1 := lk_mem _ _ _ h
  have h2 : (cdT k).getD (pc / 32) [] ∈ cdT k := by
    rw [List.getD_eq_getElem?_getD] at h1 ⊢
    cases hq : (cdT k)[pc / 32]? with
    | none => rw [hq] at h1; cases h1
    | some l => exact List.mem_of_getElem? hq
  have h3 := List.all_eq_true.mp (List.all_eq_true.mp (okM k hk) _ h2) _ h1
  simp only [Bool.and_eq_true, decide_eq_true_eq] at h3
  exact ⟨h3.1.1, h3.1.2, h3.2⟩
