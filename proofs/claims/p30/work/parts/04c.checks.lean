/-! ===== the code tables are right: the method 66 ===== -/
set_option maxRecDepth 100000 in
theorem okL_66_0 : chkC 66 ((cdT 66).getD 0 []) = true := by decide +kernel
set_option maxRecDepth 100000 in
theorem okL_66_1 : chkC 66 ((cdT 66).getD 1 []) = true := by decide +kernel
set_option maxRecDepth 100000 in
theorem okL_66_2 : chkC 66 ((cdT 66).getD 2 []) = true := by decide +kernel
set_option maxRecDepth 100000 in
theorem okL_66_3 : chkC 66 ((cdT 66).getD 3 []) = true := by decide +kernel
set_option maxRecDepth 100000 in
theorem okL_66_4 : chkC 66 ((cdT 66).getD 4 []) = true := by decide +kernel
set_option maxRecDepth 100000 in
theorem okL_66_5 : chkC 66 ((cdT 66).getD 5 []) = true := by decide +kernel
set_option maxRecDepth 100000 in
theorem okL_66_6 : chkC 66 ((cdT 66).getD 6 []) = true := by decide +kernel
set_option maxRecDepth 100000 in
theorem okL_66_7 : chkC 66 ((cdT 66).getD 7 []) = true := by decide +kernel
set_option maxRecDepth 100000 in
theorem okL_66_8 : chkC 66 ((cdT 66).getD 8 []) = true := by decide +kernel
set_option maxRecDepth 100000 in
theorem okL_66_9 : chkC 66 ((cdT 66).getD 9 []) = true := by decide +kernel
set_option maxRecDepth 100000 in
theorem okL_66_10 : chkC 66 ((cdT 66).getD 10 []) = true := by decide +kernel
set_option maxRecDepth 100000 in
theorem okL_66_11 : chkC 66 ((cdT 66).getD 11 []) = true := by decide +kernel
set_option maxRecDepth 100000 in
theorem okL_66_12 : chkC 66 ((cdT 66).getD 12 []) = true := by decide +kernel
set_option maxRecDepth 100000 in
theorem okL_66_13 : chkC 66 ((cdT 66).getD 13 []) = true := by decide +kernel
theorem okM_66 : chkM 66 = true := by
  have hl : (cdT 66).length = 14 := by decide +kernel
  refine List.all_eq_true.mpr fun ch hch => ?_
  obtain ⟨j, hj⟩ := List.getElem?_of_mem hch
  have hlt : j < 14 := by rw [← hl]; exact (List.getElem?_eq_some_iff.mp hj).1
  have key : chkC 66 ((cdT 66).getD j []) = true := by
    match j, hlt with
    | 0, _ => exact okL_66_0
    | 1, _ => exact okL_66_1
    | 2, _ => exact okL_66_2
    | 3, _ => exact okL_66_3
    | 4, _ => exact okL_66_4
    | 5, _ => exact okL_66_5
    | 6, _ => exact okL_66_6
    | 7, _ => exact okL_66_7
    | 8, _ => exact okL_66_8
    | 9, _ => exact okL_66_9
    | 10, _ => exact okL_66_10
    | 11, _ => exact okL_66_11
    | 12, _ => exact okL_66_12
    | 13, _ => exact okL_66_13
    | j + 14, h => exact absurd h (by omega)
  rw [List.getD_eq_getElem?_getD, hj] at key
  exact key
set_option maxRecDepth 100000 in
theorem okW_66 : chkW 66 = true := by
  have hz : mz 66 = (490, 489, 0, 0, 0) := rfl
  have h0 : mH 66 = [] := rfl
  have h1 : tb 490 (.code (mY 66) (mB 66) (mL 66) (mR 66)) = true := decide_eq_true rfl
  unfold chkW
  rw [hz]
  dsimp only
  rw [if_pos h0, h1]
  decide +kernel
