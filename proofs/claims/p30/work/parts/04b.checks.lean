/-! ===== the code tables are right: the method 65 ===== -/
set_option maxRecDepth 100000 in
theorem okL_65_0 : chkC 65 ((cdT 65).getD 0 []) = true := by decide +kernel
set_option maxRecDepth 100000 in
theorem okL_65_1 : chkC 65 ((cdT 65).getD 1 []) = true := by decide +kernel
set_option maxRecDepth 100000 in
theorem okL_65_2 : chkC 65 ((cdT 65).getD 2 []) = true := by decide +kernel
set_option maxRecDepth 100000 in
theorem okL_65_3 : chkC 65 ((cdT 65).getD 3 []) = true := by decide +kernel
set_option maxRecDepth 100000 in
theorem okL_65_4 : chkC 65 ((cdT 65).getD 4 []) = true := by decide +kernel
set_option maxRecDepth 100000 in
theorem okL_65_5 : chkC 65 ((cdT 65).getD 5 []) = true := by decide +kernel
set_option maxRecDepth 100000 in
theorem okL_65_6 : chkC 65 ((cdT 65).getD 6 []) = true := by decide +kernel
set_option maxRecDepth 100000 in
theorem okL_65_7 : chkC 65 ((cdT 65).getD 7 []) = true := by decide +kernel
set_option maxRecDepth 100000 in
theorem okL_65_8 : chkC 65 ((cdT 65).getD 8 []) = true := by decide +kernel
set_option maxRecDepth 100000 in
theorem okL_65_9 : chkC 65 ((cdT 65).getD 9 []) = true := by decide +kernel
set_option maxRecDepth 100000 in
theorem okL_65_10 : chkC 65 ((cdT 65).getD 10 []) = true := by decide +kernel
set_option maxRecDepth 100000 in
theorem okL_65_11 : chkC 65 ((cdT 65).getD 11 []) = true := by decide +kernel
set_option maxRecDepth 100000 in
theorem okL_65_12 : chkC 65 ((cdT 65).getD 12 []) = true := by decide +kernel
set_option maxRecDepth 100000 in
theorem okL_65_13 : chkC 65 ((cdT 65).getD 13 []) = true := by decide +kernel
set_option maxRecDepth 100000 in
theorem okL_65_14 : chkC 65 ((cdT 65).getD 14 []) = true := by decide +kernel
set_option maxRecDepth 100000 in
theorem okL_65_15 : chkC 65 ((cdT 65).getD 15 []) = true := by decide +kernel
set_option maxRecDepth 100000 in
theorem okL_65_16 : chkC 65 ((cdT 65).getD 16 []) = true := by decide +kernel
set_option maxRecDepth 100000 in
theorem okL_65_17 : chkC 65 ((cdT 65).getD 17 []) = true := by decide +kernel
set_option maxRecDepth 100000 in
theorem okL_65_18 : chkC 65 ((cdT 65).getD 18 []) = true := by decide +kernel
set_option maxRecDepth 100000 in
theorem okL_65_19 : chkC 65 ((cdT 65).getD 19 []) = true := by decide +kernel
set_option maxRecDepth 100000 in
theorem okL_65_20 : chkC 65 ((cdT 65).getD 20 []) = true := by decide +kernel
set_option maxRecDepth 100000 in
theorem okL_65_21 : chkC 65 ((cdT 65).getD 21 []) = true := by decide +kernel
set_option maxRecDepth 100000 in
theorem okL_65_22 : chkC 65 ((cdT 65).getD 22 []) = true := by decide +kernel
set_option maxRecDepth 100000 in
theorem okL_65_23 : chkC 65 ((cdT 65).getD 23 []) = true := by decide +kernel
set_option maxRecDepth 100000 in
theorem okL_65_24 : chkC 65 ((cdT 65).getD 24 []) = true := by decide +kernel
set_option maxRecDepth 100000 in
theorem okL_65_25 : chkC 65 ((cdT 65).getD 25 []) = true := by decide +kernel
set_option maxRecDepth 100000 in
theorem okL_65_26 : chkC 65 ((cdT 65).getD 26 []) = true := by decide +kernel
set_option maxRecDepth 100000 in
theorem okL_65_27 : chkC 65 ((cdT 65).getD 27 []) = true := by decide +kernel
set_option maxRecDepth 100000 in
theorem okL_65_28 : chkC 65 ((cdT 65).getD 28 []) = true := by decide +kernel
set_option maxRecDepth 100000 in
theorem okL_65_29 : chkC 65 ((cdT 65).getD 29 []) = true := by decide +kernel
set_option maxRecDepth 100000 in
theorem okL_65_30 : chkC 65 ((cdT 65).getD 30 []) = true := by decide +kernel
set_option maxRecDepth 100000 in
theorem okL_65_31 : chkC 65 ((cdT 65).getD 31 []) = true := by decide +kernel
theorem okM_65 : chkM 65 = true := by
  have hl : (cdT 65).length = 32 := by decide +kernel
  refine List.all_eq_true.mpr fun ch hch => ?_
  obtain ⟨j, hj⟩ := List.getElem?_of_mem hch
  have hlt : j < 32 := by rw [← hl]; exact (List.getElem?_eq_some_iff.mp hj).1
  have key : chkC 65 ((cdT 65).getD j []) = true := by
    match j, hlt with
    | 0, _ => exact okL_65_0
    | 1, _ => exact okL_65_1
    | 2, _ => exact okL_65_2
    | 3, _ => exact okL_65_3
    | 4, _ => exact okL_65_4
    | 5, _ => exact okL_65_5
    | 6, _ => exact okL_65_6
    | 7, _ => exact okL_65_7
    | 8, _ => exact okL_65_8
    | 9, _ => exact okL_65_9
    | 10, _ => exact okL_65_10
    | 11, _ => exact okL_65_11
    | 12, _ => exact okL_65_12
    | 13, _ => exact okL_65_13
    | 14, _ => exact okL_65_14
    | 15, _ => exact okL_65_15
    | 16, _ => exact okL_65_16
    | 17, _ => exact okL_65_17
    | 18, _ => exact okL_65_18
    | 19, _ => exact okL_65_19
    | 20, _ => exact okL_65_20
    | 21, _ => exact okL_65_21
    | 22, _ => exact okL_65_22
    | 23, _ => exact okL_65_23
    | 24, _ => exact okL_65_24
    | 25, _ => exact okL_65_25
    | 26, _ => exact okL_65_26
    | 27, _ => exact okL_65_27
    | 28, _ => exact okL_65_28
    | 29, _ => exact okL_65_29
    | 30, _ => exact okL_65_30
    | 31, _ => exact okL_65_31
    | j + 32, h => exact absurd h (by omega)
  rw [List.getD_eq_getElem?_getD, hj] at key
  exact key
set_option maxRecDepth 100000 in
theorem okW_65 : chkW 65 = true := by
  have hz : mz 65 = (170, 169, 0, 0, 0) := rfl
  have h0 : mH 65 = [] := rfl
  have h1 : tb 170 (.code (mY 65) (mB 65) (mL 65) (mR 65)) = true := decide_eq_true rfl
  unfold chkW
  rw [hz]
  dsimp only
  rw [if_pos h0, h1]
  decide +kernel
