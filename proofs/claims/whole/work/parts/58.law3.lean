/-! ===== the law: its cases ===== -/
theorem setM_out {h : AH} {u : MS} {a : Nat} (ha : a < 154 ∨ 160 ≤ a) : setM h u a = h a := by
  unfold setM
  have : (Nat.ble 154 a && Nat.ble a 159) = false := by
    cases hb : (Nat.ble 154 a && Nat.ble a 159) with
    | false => rfl
    | true =>
      simp only [Bool.and_eq_true] at hb
      have h1 := Nat.le_of_ble_eq_true hb.1
      have h2 := Nat.le_of_ble_eq_true hb.2
      omega
  rw [this]
  rfl
theorem setM_in {h : AH} {u : MS} {a : Nat} (h1 : 154 ≤ a) (h2 : a < 160) : setM h u a = mdC u (a - 154) := by
  unfold setM
  rw [Nat.ble_eq_true_of_le h1, Nat.ble_eq_true_of_le (show a ≤ 159 by omega)]
  simp only [Bool.and_self, cond_true]
theorem setM_setM {h : AH} {u v : MS} : setM (setM h u) v = setM h v := by
  funext a
  by_cases ha : 154 ≤ a ∧ a < 160
  · rw [setM_in ha.1 ha.2, setM_in ha.1 ha.2]
  · rw [setM_out (by omega), setM_out (by omega), setM_out (by omega)]
theorem setM_keep {h h' : AH} {u : MS} (hu : setM h u = h) (hf : ∀ a, 154 ≤ a → a ≠ 160 → h' a = h a) : setM h' u = h' := by
  funext a
  by_cases ha : 154 ≤ a ∧ a < 160
  · rw [setM_in ha.1 ha.2, hf a ha.1 (by omega), ← congrFun hu a, setM_in ha.1 ha.2]
  · rw [setM_out (by omega)]
theorem lg_self {x : Int64} : lg_cmp x x = 0 := by
  unfold lg_cmp
  simp
theorem and31I (x : Int32) : ∃ a, a < 32 ∧ x &&& nI 31 = nI a := by
  have h : tn (x &&& nI 31) < 32 := by
    rw [tn_and, tn_nI (by omega)]
    exact Nat.lt_of_le_of_lt Nat.and_le_right (by omega)
  exact ⟨_, h, (tn_inj (tn_nI (Nat.lt_trans h (by omega)))).symm⟩
/-- what stands between two calls -/
def LX (A : AS) (h : AH) : Prop := CS A h ∧ (∃ u, RM u A ∧ setM h u = h) ∧ OA h
section L3
variable {G : GG} {d n T0 s0 : Nat} {A : AS} {h0 h : AH} {w : W3} {K : AO → AH → W3 → Prop}
theorem MK_of {r : Ans} (hk : ∀ u' h', RM u' r.2.2 → setM h' u' = h' → u'.2.2.2.2.2.2.2.1 = nI r.1 → (∀ a, (a < 154 ∨ 160 ≤ a) → h' a = h a) → K (.inl (some (.int r.2.1))) h' w) : MK h w K r := fun u' hR' ht' => hk u' (setM h u') hR' setM_setM ht' (fun a ha => setM_out ha)
theorem n_use {u : MS} {k : Nat} {a : List Value} (hu : setM h u = h) (hx : Cl G d k a (setM h u) w K) : Cl G d k a h w K := by
  rw [hu] at hx
  exact hx
theorem n_thrown {u : MS} (hu : setM h u = h) (hK : K (.inl (some (.int u.2.2.2.2.2.2.2.1))) h w) : Cl G d kX5_thrown [.ref 154] h w K := n_use hu (m_thrown (by rw [hu]; exact hK))
theorem lc_write {i : Nat} (hX : LX A h) (hI : Ivz n A.1) (hi : i + 3 < gL G) (hL : gL G ≤ 2048) (hgo : ∀ h' w', LX (aWrite A (gS G (i + 1)) (gS G (i + 2))).2.2 h' → (w' = w ∨ w' = XW w) → wp G (d + 10) kL_law T0 s0 K 1606 [some (.retAddr 6), some (.ref 0), some (.ref 154), some (.ref 160), some (.int (nI i)), none, none, none, none] [] h' w') : wp G (d + 10) kL_law T0 s0 K 160 [some (.retAddr 6), some (.ref 0), some (.ref 154), some (.ref 160), some (.int (nI i)), none, none, none, none] [] h w := by
  have hE : okA A (aWrite A (gS G (i + 1)) (gS G (i + 2))) := ok_write
  obtain ⟨hA, ⟨u, hR, hu⟩, hO⟩ := hX
  have hm : ∀ {h1 w1} {K1 : AO → AH → W3 → Prop}, MK h1 w1 K1 (aWrite A (gS G (i + 1)) (gS G (i + 2))) → Cl G (d + 9) kX5_write [.ref 154, .int (gS G (i + 1)), .int (gS G (i + 2))] (setM h1 u) w1 K1 := fun hk => m_write hR hI hk
  have hl : ∀ {K1 : AO → AH → W3 → Prop}, LK h w K1 (aWrite A (gS G (i + 1)) (gS G (i + 2))) → Cl G (d + 9) kL_write [.ref 0, .int (gS G (i + 1)), .int (gS G (i + 2)), .ref 160] h w K1 := fun hk => l_write hA hI hO hk
  generalize aWrite A (gS G (i + 1)) (gS G (i + 2)) = r at *
  obtain ⟨hE1, hE2⟩ := hE
  refine wp_vc [1606] 95 rfl fun W' C hW hC => ?_
  conv => whnf
  repeat' (first
    | (refine ⟨i + 1, ix_add ix_nI ix_nI, ⟨by decide, (show i + 1 < gL G by omega), (show gL G < 100000 by omega)⟩, ?_⟩; conv => whnf)
    | (refine ⟨i + 2, ix_add ix_nI ix_nI, ⟨by decide, (show i + 2 < gL G by omega), (show gL G < 100000 by omega)⟩, ?_⟩; conv => whnf)
    | (refine cl_use hC (hl fun h1 w1 hA1 hU1 hO1 hF1 hw1 => ?_); have hu1 := setM_keep hu hF1; conv => whnf)
    | (refine ⟨_, _, (congrFun hu1 154).symm, ⟨_, rfl, rfl⟩, ?_⟩; conv => whnf)
    | (refine cl_use hC (n_use hu1 (hm (MK_of fun u2 h2 hR2 hu2 ht2 hF2 => ?_))); conv => whnf)
    | (refine ⟨_, _, (congrFun hu2 154).symm, ⟨_, rfl, rfl⟩, ?_⟩; conv => whnf)
    | (refine cl_use hC (n_thrown hu2 ?_); rw [ht2]; conv => whnf)
    | (obtain ⟨f9, e9, v9⟩ := hU1 (by assumption); refine ⟨_, _, (hF2 160 (by omega)).trans e9, _, ix_nI, ⟨by omega, by decide⟩, ?_⟩; rw [v9]; conv => whnf)
    | (refine And.intro (fun _ => ?_) (fun hcc => absurd lg_self hcc); conv => whnf)
    | (refine ⟨_, rfl, ?_⟩; conv => whnf)
    | (refine ⟨_, _, rfl, ⟨_, rfl, rfl⟩, ?_⟩; conv => whnf)
    | (refine ⟨_, _, rfl, ?_⟩
       with_reducible apply ix_ex
       · repeat (first | with_reducible exact ix_nI | assumption | with_reducible apply ix_add | with_reducible apply ix_mul | (with_reducible apply ix_sub) | (with_reducible apply ix_upd) | (with_reducible apply ix_div) | omega)
       (refine ⟨⟨by omega, by decide⟩, ?_⟩; conv => whnf))
    | (with_reducible apply br_le
       · repeat (first | with_reducible exact ix_nI | assumption | with_reducible apply ix_add | with_reducible apply ix_mul | (with_reducible apply ix_sub) | (with_reducible apply ix_upd) | (with_reducible apply ix_div) | omega)
       · repeat (first | with_reducible exact ix_nI | assumption | with_reducible apply ix_add | with_reducible apply ix_mul | (with_reducible apply ix_sub) | (with_reducible apply ix_upd) | (with_reducible apply ix_div) | omega)
       · omega
       · omega
       all_goals (intro hc; first | omega | (conv => whnf)))
    | (with_reducible apply br_lt
       · repeat (first | with_reducible exact ix_nI | assumption | with_reducible apply ix_add | with_reducible apply ix_mul | (with_reducible apply ix_sub) | (with_reducible apply ix_upd) | (with_reducible apply ix_div) | omega)
       · repeat (first | with_reducible exact ix_nI | assumption | with_reducible apply ix_add | with_reducible apply ix_mul | (with_reducible apply ix_sub) | (with_reducible apply ix_upd) | (with_reducible apply ix_div) | omega)
       · omega
       · omega
       all_goals (intro hc; first | omega | (conv => whnf)))
    | (with_reducible apply br_eq
       · repeat (first | with_reducible exact ix_nI | assumption | with_reducible apply ix_add | with_reducible apply ix_mul | (with_reducible apply ix_sub) | (with_reducible apply ix_upd) | (with_reducible apply ix_div) | omega)
       · repeat (first | with_reducible exact ix_nI | assumption | with_reducible apply ix_add | with_reducible apply ix_mul | (with_reducible apply ix_sub) | (with_reducible apply ix_upd) | (with_reducible apply ix_div) | omega)
       · omega
       · omega
       all_goals (intro hc; first | omega | (conv => whnf)))
    | (with_reducible apply br_ne
       · repeat (first | with_reducible exact ix_nI | assumption | with_reducible apply ix_add | with_reducible apply ix_mul | (with_reducible apply ix_sub) | (with_reducible apply ix_upd) | (with_reducible apply ix_div) | omega)
       · repeat (first | with_reducible exact ix_nI | assumption | with_reducible apply ix_add | with_reducible apply ix_mul | (with_reducible apply ix_sub) | (with_reducible apply ix_upd) | (with_reducible apply ix_div) | omega)
       · omega
       · omega
       all_goals (intro hc; first | omega | (conv => whnf)))
    | (with_reducible apply br_eq0
       · repeat (first | with_reducible exact ix_nI | assumption | with_reducible apply ix_add | with_reducible apply ix_mul | (with_reducible apply ix_sub) | (with_reducible apply ix_upd) | (with_reducible apply ix_div) | omega)
       · omega
       all_goals (intro hc; first | omega | (conv => whnf)))
    | (with_reducible apply br_ne0
       · repeat (first | with_reducible exact ix_nI | assumption | with_reducible apply ix_add | with_reducible apply ix_mul | (with_reducible apply ix_sub) | (with_reducible apply ix_upd) | (with_reducible apply ix_div) | omega)
       · omega
       all_goals (intro hc; first | omega | (conv => whnf)))
    | (with_reducible apply br_le0
       · repeat (first | with_reducible exact ix_nI | assumption | with_reducible apply ix_add | with_reducible apply ix_mul | (with_reducible apply ix_sub) | (with_reducible apply ix_upd) | (with_reducible apply ix_div) | omega)
       · omega
       all_goals (intro hc; first | omega | (conv => whnf)))
    | (with_reducible apply br_gt0
       · repeat (first | with_reducible exact ix_nI | assumption | with_reducible apply ix_add | with_reducible apply ix_mul | (with_reducible apply ix_sub) | (with_reducible apply ix_upd) | (with_reducible apply ix_div) | omega)
       · omega
       all_goals (intro hc; first | omega | (conv => whnf)))
    | (with_reducible apply br_lt0
       · repeat (first | with_reducible exact ix_nI | assumption | with_reducible apply ix_add | with_reducible apply ix_mul | (with_reducible apply ix_sub) | (with_reducible apply ix_upd) | (with_reducible apply ix_div) | omega)
       · omega
       conv => whnf)
    | (with_reducible apply br_ge0
       · repeat (first | with_reducible exact ix_nI | assumption | with_reducible apply ix_add | with_reducible apply ix_mul | (with_reducible apply ix_sub) | (with_reducible apply ix_upd) | (with_reducible apply ix_div) | omega)
       · omega
       conv => whnf)
    | (with_reducible apply br_tab
       · repeat (first | with_reducible exact ix_nI | assumption | with_reducible apply ix_add | with_reducible apply ix_mul | (with_reducible apply ix_sub) | (with_reducible apply ix_upd) | (with_reducible apply ix_div) | omega)
       · omega
       all_goals (intro hc; (try dsimp only at hc); first | omega | (conv => whnf)))
    | (refine And.intro (fun hc => ?_) (fun hc => ?_) <;> conv => whnf)
    | (refine And.intro (by decide) ?_; conv => whnf)
    | fail)
  all_goals
    refine wp_use hW ?_
    have hO2 : OA h2 := by
      obtain ⟨f9, e9⟩ := hO1
      exact ⟨f9, (hF2 160 (by omega)).trans e9⟩
    exact (hgo h2 w1 ⟨hA1.moved fun a ha => hF2 a (Or.inl ha), ⟨u2, hR2, hu2⟩, hO2⟩ hw1).le (by repeat' (first | exact trivial | refine And.intro rfl ?_))
theorem lc_read {i : Nat} (hX : LX A h) (hI : Ivz n A.1) (hi : i + 3 < gL G) (hL : gL G ≤ 2048) (hgo : ∀ h' w', LX (aRead A (gS G (i + 1))).2.2 h' → (w' = w ∨ w' = XW w) → wp G (d + 10) kL_law T0 s0 K 1606 [some (.retAddr 6), some (.ref 0), some (.ref 154), some (.ref 160), some (.int (nI i)), none, none, none, none] [] h' w') : wp G (d + 10) kL_law T0 s0 K 228 [some (.retAddr 6), some (.ref 0), some (.ref 154), some (.ref 160), some (.int (nI i)), none, none, none, none] [] h w := by
  have hE : okA A (aRead A (gS G (i + 1))) := ok_read
  obtain ⟨hA, ⟨u, hR, hu⟩, hO⟩ := hX
  have hm : ∀ {h1 w1} {K1 : AO → AH → W3 → Prop}, MK h1 w1 K1 (aRead A (gS G (i + 1))) → Cl G (d + 9) kX5_read [.ref 154, .int (gS G (i + 1))] (setM h1 u) w1 K1 := fun hk => m_read hR hI hk
  have hl : ∀ {K1 : AO → AH → W3 → Prop}, LK h w K1 (aRead A (gS G (i + 1))) → Cl G (d + 9) kL_read [.ref 0, .int (gS G (i + 1)), .ref 160] h w K1 := fun hk => l_read hA hI hO hk
  generalize aRead A (gS G (i + 1)) = r at *
  obtain ⟨hE1, hE2⟩ := hE
  refine wp_vc [1606] 95 rfl fun W' C hW hC => ?_
  conv => whnf
  repeat' (first
    | (refine ⟨i + 1, ix_add ix_nI ix_nI, ⟨by decide, (show i + 1 < gL G by omega), (show gL G < 100000 by omega)⟩, ?_⟩; conv => whnf)
    | (refine cl_use hC (hl fun h1 w1 hA1 hU1 hO1 hF1 hw1 => ?_); have hu1 := setM_keep hu hF1; conv => whnf)
    | (refine ⟨_, _, (congrFun hu1 154).symm, ⟨_, rfl, rfl⟩, ?_⟩; conv => whnf)
    | (refine cl_use hC (n_use hu1 (hm (MK_of fun u2 h2 hR2 hu2 ht2 hF2 => ?_))); conv => whnf)
    | (refine ⟨_, _, (congrFun hu2 154).symm, ⟨_, rfl, rfl⟩, ?_⟩; conv => whnf)
    | (refine cl_use hC (n_thrown hu2 ?_); rw [ht2]; conv => whnf)
    | (obtain ⟨f9, e9, v9⟩ := hU1 (by assumption); refine ⟨_, _, (hF2 160 (by omega)).trans e9, _, ix_nI, ⟨by omega, by decide⟩, ?_⟩; rw [v9]; conv => whnf)
    | (refine And.intro (fun _ => ?_) (fun hcc => absurd lg_self hcc); conv => whnf)
    | (refine ⟨_, rfl, ?_⟩; conv => whnf)
    | (refine ⟨_, _, rfl, ⟨_, rfl, rfl⟩, ?_⟩; conv => whnf)
    | (refine ⟨_, _, rfl, ?_⟩
       with_reducible apply ix_ex
       · repeat (first | with_reducible exact ix_nI | assumption | with_reducible apply ix_add | with_reducible apply ix_mul | (with_reducible apply ix_sub) | (with_reducible apply ix_upd) | (with_reducible apply ix_div) | omega)
       (refine ⟨⟨by omega, by decide⟩, ?_⟩; conv => whnf))
    | (with_reducible apply br_le
       · repeat (first | with_reducible exact ix_nI | assumption | with_reducible apply ix_add | with_reducible apply ix_mul | (with_reducible apply ix_sub) | (with_reducible apply ix_upd) | (with_reducible apply ix_div) | omega)
       · repeat (first | with_reducible exact ix_nI | assumption | with_reducible apply ix_add | with_reducible apply ix_mul | (with_reducible apply ix_sub) | (with_reducible apply ix_upd) | (with_reducible apply ix_div) | omega)
       · omega
       · omega
       all_goals (intro hc; first | omega | (conv => whnf)))
    | (with_reducible apply br_lt
       · repeat (first | with_reducible exact ix_nI | assumption | with_reducible apply ix_add | with_reducible apply ix_mul | (with_reducible apply ix_sub) | (with_reducible apply ix_upd) | (with_reducible apply ix_div) | omega)
       · repeat (first | with_reducible exact ix_nI | assumption | with_reducible apply ix_add | with_reducible apply ix_mul | (with_reducible apply ix_sub) | (with_reducible apply ix_upd) | (with_reducible apply ix_div) | omega)
       · omega
       · omega
       all_goals (intro hc; first | omega | (conv => whnf)))
    | (with_reducible apply br_eq
       · repeat (first | with_reducible exact ix_nI | assumption | with_reducible apply ix_add | with_reducible apply ix_mul | (with_reducible apply ix_sub) | (with_reducible apply ix_upd) | (with_reducible apply ix_div) | omega)
       · repeat (first | with_reducible exact ix_nI | assumption | with_reducible apply ix_add | with_reducible apply ix_mul | (with_reducible apply ix_sub) | (with_reducible apply ix_upd) | (with_reducible apply ix_div) | omega)
       · omega
       · omega
       all_goals (intro hc; first | omega | (conv => whnf)))
    | (with_reducible apply br_ne
       · repeat (first | with_reducible exact ix_nI | assumption | with_reducible apply ix_add | with_reducible apply ix_mul | (with_reducible apply ix_sub) | (with_reducible apply ix_upd) | (with_reducible apply ix_div) | omega)
       · repeat (first | with_reducible exact ix_nI | assumption | with_reducible apply ix_add | with_reducible apply ix_mul | (with_reducible apply ix_sub) | (with_reducible apply ix_upd) | (with_reducible apply ix_div) | omega)
       · omega
       · omega
       all_goals (intro hc; first | omega | (conv => whnf)))
    | (with_reducible apply br_eq0
       · repeat (first | with_reducible exact ix_nI | assumption | with_reducible apply ix_add | with_reducible apply ix_mul | (with_reducible apply ix_sub) | (with_reducible apply ix_upd) | (with_reducible apply ix_div) | omega)
       · omega
       all_goals (intro hc; first | omega | (conv => whnf)))
    | (with_reducible apply br_ne0
       · repeat (first | with_reducible exact ix_nI | assumption | with_reducible apply ix_add | with_reducible apply ix_mul | (with_reducible apply ix_sub) | (with_reducible apply ix_upd) | (with_reducible apply ix_div) | omega)
       · omega
       all_goals (intro hc; first | omega | (conv => whnf)))
    | (with_reducible apply br_le0
       · repeat (first | with_reducible exact ix_nI | assumption | with_reducible apply ix_add | with_reducible apply ix_mul | (with_reducible apply ix_sub) | (with_reducible apply ix_upd) | (with_reducible apply ix_div) | omega)
       · omega
       all_goals (intro hc; first | omega | (conv => whnf)))
    | (with_reducible apply br_gt0
       · repeat (first | with_reducible exact ix_nI | assumption | with_reducible apply ix_add | with_reducible apply ix_mul | (with_reducible apply ix_sub) | (with_reducible apply ix_upd) | (with_reducible apply ix_div) | omega)
       · omega
       all_goals (intro hc; first | omega | (conv => whnf)))
    | (with_reducible apply br_lt0
       · repeat (first | with_reducible exact ix_nI | assumption | with_reducible apply ix_add | with_reducible apply ix_mul | (with_reducible apply ix_sub) | (with_reducible apply ix_upd) | (with_reducible apply ix_div) | omega)
       · omega
       conv => whnf)
    | (with_reducible apply br_ge0
       · repeat (first | with_reducible exact ix_nI | assumption | with_reducible apply ix_add | with_reducible apply ix_mul | (with_reducible apply ix_sub) | (with_reducible apply ix_upd) | (with_reducible apply ix_div) | omega)
       · omega
       conv => whnf)
    | (with_reducible apply br_tab
       · repeat (first | with_reducible exact ix_nI | assumption | with_reducible apply ix_add | with_reducible apply ix_mul | (with_reducible apply ix_sub) | (with_reducible apply ix_upd) | (with_reducible apply ix_div) | omega)
       · omega
       all_goals (intro hc; (try dsimp only at hc); first | omega | (conv => whnf)))
    | (refine And.intro (fun hc => ?_) (fun hc => ?_) <;> conv => whnf)
    | (refine And.intro (by decide) ?_; conv => whnf)
    | fail)
  all_goals
    refine wp_use hW ?_
    have hO2 : OA h2 := by
      obtain ⟨f9, e9⟩ := hO1
      exact ⟨f9, (hF2 160 (by omega)).trans e9⟩
    exact (hgo h2 w1 ⟨hA1.moved fun a ha => hF2 a (Or.inl ha), ⟨u2, hR2, hu2⟩, hO2⟩ hw1).le (by repeat' (first | exact trivial | refine And.intro rfl ?_))
theorem lc_erase {i : Nat} (hX : LX A h) (hI : Ivz n A.1) (hi : i + 3 < gL G) (hL : gL G ≤ 2048) (hgo : ∀ h' w', LX (aErase A (gS G (i + 1))).2.2 h' → (w' = w ∨ w' = XW w) → wp G (d + 10) kL_law T0 s0 K 1606 [some (.retAddr 6), some (.ref 0), some (.ref 154), some (.ref 160), some (.int (nI i)), none, none, none, none] [] h' w') : wp G (d + 10) kL_law T0 s0 K 284 [some (.retAddr 6), some (.ref 0), some (.ref 154), some (.ref 160), some (.int (nI i)), none, none, none, none] [] h w := by
  have hE : okA A (aErase A (gS G (i + 1))) := ok_erase
  obtain ⟨hA, ⟨u, hR, hu⟩, hO⟩ := hX
  have hm : ∀ {h1 w1} {K1 : AO → AH → W3 → Prop}, MK h1 w1 K1 (aErase A (gS G (i + 1))) → Cl G (d + 9) kX5_erase [.ref 154, .int (gS G (i + 1))] (setM h1 u) w1 K1 := fun hk => m_erase hR hI hk
  have hl : ∀ {K1 : AO → AH → W3 → Prop}, LK h w K1 (aErase A (gS G (i + 1))) → Cl G (d + 9) kL_erase [.ref 0, .int (gS G (i + 1)), .ref 160] h w K1 := fun hk => l_erase hA hI hO hk
  generalize aErase A (gS G (i + 1)) = r at *
  obtain ⟨hE1, hE2⟩ := hE
  refine wp_vc [1606] 95 rfl fun W' C hW hC => ?_
  conv => whnf
  repeat' (first
    | (refine ⟨i + 1, ix_add ix_nI ix_nI, ⟨by decide, (show i + 1 < gL G by omega), (show gL G < 100000 by omega)⟩, ?_⟩; conv => whnf)
    | (refine cl_use hC (hl fun h1 w1 hA1 hU1 hO1 hF1 hw1 => ?_); have hu1 := setM_keep hu hF1; conv => whnf)
    | (refine ⟨_, _, (congrFun hu1 154).symm, ⟨_, rfl, rfl⟩, ?_⟩; conv => whnf)
    | (refine cl_use hC (n_use hu1 (hm (MK_of fun u2 h2 hR2 hu2 ht2 hF2 => ?_))); conv => whnf)
    | (refine ⟨_, _, (congrFun hu2 154).symm, ⟨_, rfl, rfl⟩, ?_⟩; conv => whnf)
    | (refine cl_use hC (n_thrown hu2 ?_); rw [ht2]; conv => whnf)
    | (obtain ⟨f9, e9, v9⟩ := hU1 (by assumption); refine ⟨_, _, (hF2 160 (by omega)).trans e9, _, ix_nI, ⟨by omega, by decide⟩, ?_⟩; rw [v9]; conv => whnf)
    | (refine And.intro (fun _ => ?_) (fun hcc => absurd lg_self hcc); conv => whnf)
    | (refine ⟨_, rfl, ?_⟩; conv => whnf)
    | (refine ⟨_, _, rfl, ⟨_, rfl, rfl⟩, ?_⟩; conv => whnf)
    | (refine ⟨_, _, rfl, ?_⟩
       with_reducible apply ix_ex
       · repeat (first | with_reducible exact ix_nI | assumption | with_reducible apply ix_add | with_reducible apply ix_mul | (with_reducible apply ix_sub) | (with_reducible apply ix_upd) | (with_reducible apply ix_div) | omega)
       (refine ⟨⟨by omega, by decide⟩, ?_⟩; conv => whnf))
    | (with_reducible apply br_le
       · repeat (first | with_reducible exact ix_nI | assumption | with_reducible apply ix_add | with_reducible apply ix_mul | (with_reducible apply ix_sub) | (with_reducible apply ix_upd) | (with_reducible apply ix_div) | omega)
       · repeat (first | with_reducible exact ix_nI | assumption | with_reducible apply ix_add | with_reducible apply ix_mul | (with_reducible apply ix_sub) | (with_reducible apply ix_upd) | (with_reducible apply ix_div) | omega)
       · omega
       · omega
       all_goals (intro hc; first | omega | (conv => whnf)))
    | (with_reducible apply br_lt
       · repeat (first | with_reducible exact ix_nI | assumption | with_reducible apply ix_add | with_reducible apply ix_mul | (with_reducible apply ix_sub) | (with_reducible apply ix_upd) | (with_reducible apply ix_div) | omega)
       · repeat (first | with_reducible exact ix_nI | assumption | with_reducible apply ix_add | with_reducible apply ix_mul | (with_reducible apply ix_sub) | (with_reducible apply ix_upd) | (with_reducible apply ix_div) | omega)
       · omega
       · omega
       all_goals (intro hc; first | omega | (conv => whnf)))
    | (with_reducible apply br_eq
       · repeat (first | with_reducible exact ix_nI | assumption | with_reducible apply ix_add | with_reducible apply ix_mul | (with_reducible apply ix_sub) | (with_reducible apply ix_upd) | (with_reducible apply ix_div) | omega)
       · repeat (first | with_reducible exact ix_nI | assumption | with_reducible apply ix_add | with_reducible apply ix_mul | (with_reducible apply ix_sub) | (with_reducible apply ix_upd) | (with_reducible apply ix_div) | omega)
       · omega
       · omega
       all_goals (intro hc; first | omega | (conv => whnf)))
    | (with_reducible apply br_ne
       · repeat (first | with_reducible exact ix_nI | assumption | with_reducible apply ix_add | with_reducible apply ix_mul | (with_reducible apply ix_sub) | (with_reducible apply ix_upd) | (with_reducible apply ix_div) | omega)
       · repeat (first | with_reducible exact ix_nI | assumption | with_reducible apply ix_add | with_reducible apply ix_mul | (with_reducible apply ix_sub) | (with_reducible apply ix_upd) | (with_reducible apply ix_div) | omega)
       · omega
       · omega
       all_goals (intro hc; first | omega | (conv => whnf)))
    | (with_reducible apply br_eq0
       · repeat (first | with_reducible exact ix_nI | assumption | with_reducible apply ix_add | with_reducible apply ix_mul | (with_reducible apply ix_sub) | (with_reducible apply ix_upd) | (with_reducible apply ix_div) | omega)
       · omega
       all_goals (intro hc; first | omega | (conv => whnf)))
    | (with_reducible apply br_ne0
       · repeat (first | with_reducible exact ix_nI | assumption | with_reducible apply ix_add | with_reducible apply ix_mul | (with_reducible apply ix_sub) | (with_reducible apply ix_upd) | (with_reducible apply ix_div) | omega)
       · omega
       all_goals (intro hc; first | omega | (conv => whnf)))
    | (with_reducible apply br_le0
       · repeat (first | with_reducible exact ix_nI | assumption | with_reducible apply ix_add | with_reducible apply ix_mul | (with_reducible apply ix_sub) | (with_reducible apply ix_upd) | (with_reducible apply ix_div) | omega)
       · omega
       all_goals (intro hc; first | omega | (conv => whnf)))
    | (with_reducible apply br_gt0
       · repeat (first | with_reducible exact ix_nI | assumption | with_reducible apply ix_add | with_reducible apply ix_mul | (with_reducible apply ix_sub) | (with_reducible apply ix_upd) | (with_reducible apply ix_div) | omega)
       · omega
       all_goals (intro hc; first | omega | (conv => whnf)))
    | (with_reducible apply br_lt0
       · repeat (first | with_reducible exact ix_nI | assumption | with_reducible apply ix_add | with_reducible apply ix_mul | (with_reducible apply ix_sub) | (with_reducible apply ix_upd) | (with_reducible apply ix_div) | omega)
       · omega
       conv => whnf)
    | (with_reducible apply br_ge0
       · repeat (first | with_reducible exact ix_nI | assumption | with_reducible apply ix_add | with_reducible apply ix_mul | (with_reducible apply ix_sub) | (with_reducible apply ix_upd) | (with_reducible apply ix_div) | omega)
       · omega
       conv => whnf)
    | (with_reducible apply br_tab
       · repeat (first | with_reducible exact ix_nI | assumption | with_reducible apply ix_add | with_reducible apply ix_mul | (with_reducible apply ix_sub) | (with_reducible apply ix_upd) | (with_reducible apply ix_div) | omega)
       · omega
       all_goals (intro hc; (try dsimp only at hc); first | omega | (conv => whnf)))
    | (refine And.intro (fun hc => ?_) (fun hc => ?_) <;> conv => whnf)
    | (refine And.intro (by decide) ?_; conv => whnf)
    | fail)
  all_goals
    refine wp_use hW ?_
    have hO2 : OA h2 := by
      obtain ⟨f9, e9⟩ := hO1
      exact ⟨f9, (hF2 160 (by omega)).trans e9⟩
    exact (hgo h2 w1 ⟨hA1.moved fun a ha => hF2 a (Or.inl ha), ⟨u2, hR2, hu2⟩, hO2⟩ hw1).le (by repeat' (first | exact trivial | refine And.intro rfl ?_))
theorem lc_copy {i : Nat} (hX : LX A h) (hI : Ivz n A.1) (hi : i + 3 < gL G) (hL : gL G ≤ 2048) (hgo : ∀ h' w', LX (aCopy A (gS G (i + 1)) (gS G (i + 2))).2.2 h' → (w' = w ∨ w' = XW w) → wp G (d + 10) kL_law T0 s0 K 1606 [some (.retAddr 6), some (.ref 0), some (.ref 154), some (.ref 160), some (.int (nI i)), none, none, none, none] [] h' w') : wp G (d + 10) kL_law T0 s0 K 340 [some (.retAddr 6), some (.ref 0), some (.ref 154), some (.ref 160), some (.int (nI i)), none, none, none, none] [] h w := by
  have hE : okA A (aCopy A (gS G (i + 1)) (gS G (i + 2))) := ok_copy
  obtain ⟨hA, ⟨u, hR, hu⟩, hO⟩ := hX
  have hm : ∀ {h1 w1} {K1 : AO → AH → W3 → Prop}, MK h1 w1 K1 (aCopy A (gS G (i + 1)) (gS G (i + 2))) → Cl G (d + 9) kX5_copy [.ref 154, .int (gS G (i + 1)), .int (gS G (i + 2))] (setM h1 u) w1 K1 := fun hk => m_copy hR hI (fun p hp => ivz_reads hI hp) hk
  have hl : ∀ {K1 : AO → AH → W3 → Prop}, LK h w K1 (aCopy A (gS G (i + 1)) (gS G (i + 2))) → Cl G (d + 9) kL_copy [.ref 0, .int (gS G (i + 1)), .int (gS G (i + 2)), .ref 160] h w K1 := fun hk => l_copy hA hI hO hk
  generalize aCopy A (gS G (i + 1)) (gS G (i + 2)) = r at *
  obtain ⟨hE1, hE2⟩ := hE
  refine wp_vc [1606] 95 rfl fun W' C hW hC => ?_
  conv => whnf
  repeat' (first
    | (refine ⟨i + 1, ix_add ix_nI ix_nI, ⟨by decide, (show i + 1 < gL G by omega), (show gL G < 100000 by omega)⟩, ?_⟩; conv => whnf)
    | (refine ⟨i + 2, ix_add ix_nI ix_nI, ⟨by decide, (show i + 2 < gL G by omega), (show gL G < 100000 by omega)⟩, ?_⟩; conv => whnf)
    | (refine cl_use hC (hl fun h1 w1 hA1 hU1 hO1 hF1 hw1 => ?_); have hu1 := setM_keep hu hF1; conv => whnf)
    | (refine ⟨_, _, (congrFun hu1 154).symm, ⟨_, rfl, rfl⟩, ?_⟩; conv => whnf)
    | (refine cl_use hC (n_use hu1 (hm (MK_of fun u2 h2 hR2 hu2 ht2 hF2 => ?_))); conv => whnf)
    | (refine ⟨_, _, (congrFun hu2 154).symm, ⟨_, rfl, rfl⟩, ?_⟩; conv => whnf)
    | (refine cl_use hC (n_thrown hu2 ?_); rw [ht2]; conv => whnf)
    | (obtain ⟨f9, e9, v9⟩ := hU1 (by assumption); refine ⟨_, _, (hF2 160 (by omega)).trans e9, _, ix_nI, ⟨by omega, by decide⟩, ?_⟩; rw [v9]; conv => whnf)
    | (refine And.intro (fun _ => ?_) (fun hcc => absurd lg_self hcc); conv => whnf)
    | (refine ⟨_, rfl, ?_⟩; conv => whnf)
    | (refine ⟨_, _, rfl, ⟨_, rfl, rfl⟩, ?_⟩; conv => whnf)
    | (refine ⟨_, _, rfl, ?_⟩
       with_reducible apply ix_ex
       · repeat (first | with_reducible exact ix_nI | assumption | with_reducible apply ix_add | with_reducible apply ix_mul | (with_reducible apply ix_sub) | (with_reducible apply ix_upd) | (with_reducible apply ix_div) | omega)
       (refine ⟨⟨by omega, by decide⟩, ?_⟩; conv => whnf))
    | (with_reducible apply br_le
       · repeat (first | with_reducible exact ix_nI | assumption | with_reducible apply ix_add | with_reducible apply ix_mul | (with_reducible apply ix_sub) | (with_reducible apply ix_upd) | (with_reducible apply ix_div) | omega)
       · repeat (first | with_reducible exact ix_nI | assumption | with_reducible apply ix_add | with_reducible apply ix_mul | (with_reducible apply ix_sub) | (with_reducible apply ix_upd) | (with_reducible apply ix_div) | omega)
       · omega
       · omega
       all_goals (intro hc; first | omega | (conv => whnf)))
    | (with_reducible apply br_lt
       · repeat (first | with_reducible exact ix_nI | assumption | with_reducible apply ix_add | with_reducible apply ix_mul | (with_reducible apply ix_sub) | (with_reducible apply ix_upd) | (with_reducible apply ix_div) | omega)
       · repeat (first | with_reducible exact ix_nI | assumption | with_reducible apply ix_add | with_reducible apply ix_mul | (with_reducible apply ix_sub) | (with_reducible apply ix_upd) | (with_reducible apply ix_div) | omega)
       · omega
       · omega
       all_goals (intro hc; first | omega | (conv => whnf)))
    | (with_reducible apply br_eq
       · repeat (first | with_reducible exact ix_nI | assumption | with_reducible apply ix_add | with_reducible apply ix_mul | (with_reducible apply ix_sub) | (with_reducible apply ix_upd) | (with_reducible apply ix_div) | omega)
       · repeat (first | with_reducible exact ix_nI | assumption | with_reducible apply ix_add | with_reducible apply ix_mul | (with_reducible apply ix_sub) | (with_reducible apply ix_upd) | (with_reducible apply ix_div) | omega)
       · omega
       · omega
       all_goals (intro hc; first | omega | (conv => whnf)))
    | (with_reducible apply br_ne
       · repeat (first | with_reducible exact ix_nI | assumption | with_reducible apply ix_add | with_reducible apply ix_mul | (with_reducible apply ix_sub) | (with_reducible apply ix_upd) | (with_reducible apply ix_div) | omega)
       · repeat (first | with_reducible exact ix_nI | assumption | with_reducible apply ix_add | with_reducible apply ix_mul | (with_reducible apply ix_sub) | (with_reducible apply ix_upd) | (with_reducible apply ix_div) | omega)
       · omega
       · omega
       all_goals (intro hc; first | omega | (conv => whnf)))
    | (with_reducible apply br_eq0
       · repeat (first | with_reducible exact ix_nI | assumption | with_reducible apply ix_add | with_reducible apply ix_mul | (with_reducible apply ix_sub) | (with_reducible apply ix_upd) | (with_reducible apply ix_div) | omega)
       · omega
       all_goals (intro hc; first | omega | (conv => whnf)))
    | (with_reducible apply br_ne0
       · repeat (first | with_reducible exact ix_nI | assumption | with_reducible apply ix_add | with_reducible apply ix_mul | (with_reducible apply ix_sub) | (with_reducible apply ix_upd) | (with_reducible apply ix_div) | omega)
       · omega
       all_goals (intro hc; first | omega | (conv => whnf)))
    | (with_reducible apply br_le0
       · repeat (first | with_reducible exact ix_nI | assumption | with_reducible apply ix_add | with_reducible apply ix_mul | (with_reducible apply ix_sub) | (with_reducible apply ix_upd) | (with_reducible apply ix_div) | omega)
       · omega
       all_goals (intro hc; first | omega | (conv => whnf)))
    | (with_reducible apply br_gt0
       · repeat (first | with_reducible exact ix_nI | assumption | with_reducible apply ix_add | with_reducible apply ix_mul | (with_reducible apply ix_sub) | (with_reducible apply ix_upd) | (with_reducible apply ix_div) | omega)
       · omega
       all_goals (intro hc; first | omega | (conv => whnf)))
    | (with_reducible apply br_lt0
       · repeat (first | with_reducible exact ix_nI | assumption | with_reducible apply ix_add | with_reducible apply ix_mul | (with_reducible apply ix_sub) | (with_reducible apply ix_upd) | (with_reducible apply ix_div) | omega)
       · omega
       conv => whnf)
    | (with_reducible apply br_ge0
       · repeat (first | with_reducible exact ix_nI | assumption | with_reducible apply ix_add | with_reducible apply ix_mul | (with_reducible apply ix_sub) | (with_reducible apply ix_upd) | (with_reducible apply ix_div) | omega)
       · omega
       conv => whnf)
    | (with_reducible apply br_tab
       · repeat (first | with_reducible exact ix_nI | assumption | with_reducible apply ix_add | with_reducible apply ix_mul | (with_reducible apply ix_sub) | (with_reducible apply ix_upd) | (with_reducible apply ix_div) | omega)
       · omega
       all_goals (intro hc; (try dsimp only at hc); first | omega | (conv => whnf)))
    | (refine And.intro (fun hc => ?_) (fun hc => ?_) <;> conv => whnf)
    | (refine And.intro (by decide) ?_; conv => whnf)
    | fail)
  all_goals
    refine wp_use hW ?_
    have hO2 : OA h2 := by
      obtain ⟨f9, e9⟩ := hO1
      exact ⟨f9, (hF2 160 (by omega)).trans e9⟩
    exact (hgo h2 w1 ⟨hA1.moved fun a ha => hF2 a (Or.inl ha), ⟨u2, hR2, hu2⟩, hO2⟩ hw1).le (by repeat' (first | exact trivial | refine And.intro rfl ?_))
theorem lc_pass {i : Nat} (hX : LX A h) (hI : Ivz n A.1) (hi : i + 3 < gL G) (hL : gL G ≤ 2048) (hgo : ∀ h' w', LX (aPass A (gS G (i + 1))).2.2 h' → (w' = w ∨ w' = XW w) → wp G (d + 10) kL_law T0 s0 K 1606 [some (.retAddr 6), some (.ref 0), some (.ref 154), some (.ref 160), some (.int (nI i)), none, none, none, none] [] h' w') : wp G (d + 10) kL_law T0 s0 K 408 [some (.retAddr 6), some (.ref 0), some (.ref 154), some (.ref 160), some (.int (nI i)), none, none, none, none] [] h w := by
  have hE : okA A (aPass A (gS G (i + 1))) := ok_pass.A
  obtain ⟨hA, ⟨u, hR, hu⟩, hO⟩ := hX
  have hm : ∀ {h1 w1} {K1 : AO → AH → W3 → Prop}, MK h1 w1 K1 (aPass A (gS G (i + 1))) → Cl G (d + 9) kX5_pass [.ref 154, .int (gS G (i + 1))] (setM h1 u) w1 K1 := fun hk => m_pass hR hI hk
  have hl : ∀ {K1 : AO → AH → W3 → Prop}, LK h w K1 (aPass A (gS G (i + 1))) → Cl G (d + 9) kL_pass [.ref 0, .int (gS G (i + 1)), .ref 160] h w K1 := fun hk => l_pass hA hI hO hk
  generalize aPass A (gS G (i + 1)) = r at *
  obtain ⟨hE1, hE2⟩ := hE
  refine wp_vc [1606] 95 rfl fun W' C hW hC => ?_
  conv => whnf
  repeat' (first
    | (refine ⟨i + 1, ix_add ix_nI ix_nI, ⟨by decide, (show i + 1 < gL G by omega), (show gL G < 100000 by omega)⟩, ?_⟩; conv => whnf)
    | (refine cl_use hC (hl fun h1 w1 hA1 hU1 hO1 hF1 hw1 => ?_); have hu1 := setM_keep hu hF1; conv => whnf)
    | (refine ⟨_, _, (congrFun hu1 154).symm, ⟨_, rfl, rfl⟩, ?_⟩; conv => whnf)
    | (refine cl_use hC (n_use hu1 (hm (MK_of fun u2 h2 hR2 hu2 ht2 hF2 => ?_))); conv => whnf)
    | (refine ⟨_, _, (congrFun hu2 154).symm, ⟨_, rfl, rfl⟩, ?_⟩; conv => whnf)
    | (refine cl_use hC (n_thrown hu2 ?_); rw [ht2]; conv => whnf)
    | (obtain ⟨f9, e9, v9⟩ := hU1 (by assumption); refine ⟨_, _, (hF2 160 (by omega)).trans e9, _, ix_nI, ⟨by omega, by decide⟩, ?_⟩; rw [v9]; conv => whnf)
    | (refine And.intro (fun _ => ?_) (fun hcc => absurd lg_self hcc); conv => whnf)
    | (refine ⟨_, rfl, ?_⟩; conv => whnf)
    | (refine ⟨_, _, rfl, ⟨_, rfl, rfl⟩, ?_⟩; conv => whnf)
    | (refine ⟨_, _, rfl, ?_⟩
       with_reducible apply ix_ex
       · repeat (first | with_reducible exact ix_nI | assumption | with_reducible apply ix_add | with_reducible apply ix_mul | (with_reducible apply ix_sub) | (with_reducible apply ix_upd) | (with_reducible apply ix_div) | omega)
       (refine ⟨⟨by omega, by decide⟩, ?_⟩; conv => whnf))
    | (with_reducible apply br_le
       · repeat (first | with_reducible exact ix_nI | assumption | with_reducible apply ix_add | with_reducible apply ix_mul | (with_reducible apply ix_sub) | (with_reducible apply ix_upd) | (with_reducible apply ix_div) | omega)
       · repeat (first | with_reducible exact ix_nI | assumption | with_reducible apply ix_add | with_reducible apply ix_mul | (with_reducible apply ix_sub) | (with_reducible apply ix_upd) | (with_reducible apply ix_div) | omega)
       · omega
       · omega
       all_goals (intro hc; first | omega | (conv => whnf)))
    | (with_reducible apply br_lt
       · repeat (first | with_reducible exact ix_nI | assumption | with_reducible apply ix_add | with_reducible apply ix_mul | (with_reducible apply ix_sub) | (with_reducible apply ix_upd) | (with_reducible apply ix_div) | omega)
       · repeat (first | with_reducible exact ix_nI | assumption | with_reducible apply ix_add | with_reducible apply ix_mul | (with_reducible apply ix_sub) | (with_reducible apply ix_upd) | (with_reducible apply ix_div) | omega)
       · omega
       · omega
       all_goals (intro hc; first | omega | (conv => whnf)))
    | (with_reducible apply br_eq
       · repeat (first | with_reducible exact ix_nI | assumption | with_reducible apply ix_add | with_reducible apply ix_mul | (with_reducible apply ix_sub) | (with_reducible apply ix_upd) | (with_reducible apply ix_div) | omega)
       · repeat (first | with_reducible exact ix_nI | assumption | with_reducible apply ix_add | with_reducible apply ix_mul | (with_reducible apply ix_sub) | (with_reducible apply ix_upd) | (with_reducible apply ix_div) | omega)
       · omega
       · omega
       all_goals (intro hc; first | omega | (conv => whnf)))
    | (with_reducible apply br_ne
       · repeat (first | with_reducible exact ix_nI | assumption | with_reducible apply ix_add | with_reducible apply ix_mul | (with_reducible apply ix_sub) | (with_reducible apply ix_upd) | (with_reducible apply ix_div) | omega)
       · repeat (first | with_reducible exact ix_nI | assumption | with_reducible apply ix_add | with_reducible apply ix_mul | (with_reducible apply ix_sub) | (with_reducible apply ix_upd) | (with_reducible apply ix_div) | omega)
       · omega
       · omega
       all_goals (intro hc; first | omega | (conv => whnf)))
    | (with_reducible apply br_eq0
       · repeat (first | with_reducible exact ix_nI | assumption | with_reducible apply ix_add | with_reducible apply ix_mul | (with_reducible apply ix_sub) | (with_reducible apply ix_upd) | (with_reducible apply ix_div) | omega)
       · omega
       all_goals (intro hc; first | omega | (conv => whnf)))
    | (with_reducible apply br_ne0
       · repeat (first | with_reducible exact ix_nI | assumption | with_reducible apply ix_add | with_reducible apply ix_mul | (with_reducible apply ix_sub) | (with_reducible apply ix_upd) | (with_reducible apply ix_div) | omega)
       · omega
       all_goals (intro hc; first | omega | (conv => whnf)))
    | (with_reducible apply br_le0
       · repeat (first | with_reducible exact ix_nI | assumption | with_reducible apply ix_add | with_reducible apply ix_mul | (with_reducible apply ix_sub) | (with_reducible apply ix_upd) | (with_reducible apply ix_div) | omega)
       · omega
       all_goals (intro hc; first | omega | (conv => whnf)))
    | (with_reducible apply br_gt0
       · repeat (first | with_reducible exact ix_nI | assumption | with_reducible apply ix_add | with_reducible apply ix_mul | (with_reducible apply ix_sub) | (with_reducible apply ix_upd) | (with_reducible apply ix_div) | omega)
       · omega
       all_goals (intro hc; first | omega | (conv => whnf)))
    | (with_reducible apply br_lt0
       · repeat (first | with_reducible exact ix_nI | assumption | with_reducible apply ix_add | with_reducible apply ix_mul | (with_reducible apply ix_sub) | (with_reducible apply ix_upd) | (with_reducible apply ix_div) | omega)
       · omega
       conv => whnf)
    | (with_reducible apply br_ge0
       · repeat (first | with_reducible exact ix_nI | assumption | with_reducible apply ix_add | with_reducible apply ix_mul | (with_reducible apply ix_sub) | (with_reducible apply ix_upd) | (with_reducible apply ix_div) | omega)
       · omega
       conv => whnf)
    | (with_reducible apply br_tab
       · repeat (first | with_reducible exact ix_nI | assumption | with_reducible apply ix_add | with_reducible apply ix_mul | (with_reducible apply ix_sub) | (with_reducible apply ix_upd) | (with_reducible apply ix_div) | omega)
       · omega
       all_goals (intro hc; (try dsimp only at hc); first | omega | (conv => whnf)))
    | (refine And.intro (fun hc => ?_) (fun hc => ?_) <;> conv => whnf)
    | (refine And.intro (by decide) ?_; conv => whnf)
    | fail)
  all_goals
    refine wp_use hW ?_
    have hO2 : OA h2 := by
      obtain ⟨f9, e9⟩ := hO1
      exact ⟨f9, (hF2 160 (by omega)).trans e9⟩
    exact (hgo h2 w1 ⟨hA1.moved fun a ha => hF2 a (Or.inl ha), ⟨u2, hR2, hu2⟩, hO2⟩ hw1).le (by repeat' (first | exact trivial | refine And.intro rfl ?_))
theorem lc_addMatch {i : Nat} (hX : LX A h) (hI : Ivz n A.1) (hi : i + 3 < gL G) (hL : gL G ≤ 2048) (hgo : ∀ h' w', LX (aAdd A (gS G (i + 1)) (gS G (i + 2)) (gS G (i + 3))).2.2 h' → (w' = w ∨ w' = XW w) → wp G (d + 10) kL_law T0 s0 K 1606 [some (.retAddr 6), some (.ref 0), some (.ref 154), some (.ref 160), some (.int (nI i)), none, none, none, none] [] h' w') : wp G (d + 10) kL_law T0 s0 K 464 [some (.retAddr 6), some (.ref 0), some (.ref 154), some (.ref 160), some (.int (nI i)), none, none, none, none] [] h w := by
  have hE : okA A (aAdd A (gS G (i + 1)) (gS G (i + 2)) (gS G (i + 3))) := ok_addMatch
  obtain ⟨hA, ⟨u, hR, hu⟩, hO⟩ := hX
  have hm : ∀ {h1 w1} {K1 : AO → AH → W3 → Prop}, MK h1 w1 K1 (aAdd A (gS G (i + 1)) (gS G (i + 2)) (gS G (i + 3))) → Cl G (d + 9) kX5_addMatch [.ref 154, .int (gS G (i + 1)), .int (gS G (i + 2)), .int (gS G (i + 3))] (setM h1 u) w1 K1 := fun hk => m_addMatch hR hI hk
  have hl : ∀ {K1 : AO → AH → W3 → Prop}, LK h w K1 (aAdd A (gS G (i + 1)) (gS G (i + 2)) (gS G (i + 3))) → Cl G (d + 9) kL_addMatch [.ref 0, .int (gS G (i + 1)), .int (gS G (i + 2)), .int (gS G (i + 3)), .ref 160] h w K1 := fun hk => l_addMatch hA hI hO hk
  generalize aAdd A (gS G (i + 1)) (gS G (i + 2)) (gS G (i + 3)) = r at *
  obtain ⟨hE1, hE2⟩ := hE
  refine wp_vc [1606] 95 rfl fun W' C hW hC => ?_
  conv => whnf
  repeat' (first
    | (refine ⟨i + 1, ix_add ix_nI ix_nI, ⟨by decide, (show i + 1 < gL G by omega), (show gL G < 100000 by omega)⟩, ?_⟩; conv => whnf)
    | (refine ⟨i + 2, ix_add ix_nI ix_nI, ⟨by decide, (show i + 2 < gL G by omega), (show gL G < 100000 by omega)⟩, ?_⟩; conv => whnf)
    | (refine ⟨i + 3, ix_add ix_nI ix_nI, ⟨by decide, (show i + 3 < gL G by omega), (show gL G < 100000 by omega)⟩, ?_⟩; conv => whnf)
    | (refine cl_use hC (hl fun h1 w1 hA1 hU1 hO1 hF1 hw1 => ?_); have hu1 := setM_keep hu hF1; conv => whnf)
    | (refine ⟨_, _, (congrFun hu1 154).symm, ⟨_, rfl, rfl⟩, ?_⟩; conv => whnf)
    | (refine cl_use hC (n_use hu1 (hm (MK_of fun u2 h2 hR2 hu2 ht2 hF2 => ?_))); conv => whnf)
    | (refine ⟨_, _, (congrFun hu2 154).symm, ⟨_, rfl, rfl⟩, ?_⟩; conv => whnf)
    | (refine cl_use hC (n_thrown hu2 ?_); rw [ht2]; conv => whnf)
    | (obtain ⟨f9, e9, v9⟩ := hU1 (by assumption); refine ⟨_, _, (hF2 160 (by omega)).trans e9, _, ix_nI, ⟨by omega, by decide⟩, ?_⟩; rw [v9]; conv => whnf)
    | (refine And.intro (fun _ => ?_) (fun hcc => absurd lg_self hcc); conv => whnf)
    | (refine ⟨_, rfl, ?_⟩; conv => whnf)
    | (refine ⟨_, _, rfl, ⟨_, rfl, rfl⟩, ?_⟩; conv => whnf)
    | (refine ⟨_, _, rfl, ?_⟩
       with_reducible apply ix_ex
       · repeat (first | with_reducible exact ix_nI | assumption | with_reducible apply ix_add | with_reducible apply ix_mul | (with_reducible apply ix_sub) | (with_reducible apply ix_upd) | (with_reducible apply ix_div) | omega)
       (refine ⟨⟨by omega, by decide⟩, ?_⟩; conv => whnf))
    | (with_reducible apply br_le
       · repeat (first | with_reducible exact ix_nI | assumption | with_reducible apply ix_add | with_reducible apply ix_mul | (with_reducible apply ix_sub) | (with_reducible apply ix_upd) | (with_reducible apply ix_div) | omega)
       · repeat (first | with_reducible exact ix_nI | assumption | with_reducible apply ix_add | with_reducible apply ix_mul | (with_reducible apply ix_sub) | (with_reducible apply ix_upd) | (with_reducible apply ix_div) | omega)
       · omega
       · omega
       all_goals (intro hc; first | omega | (conv => whnf)))
    | (with_reducible apply br_lt
       · repeat (first | with_reducible exact ix_nI | assumption | with_reducible apply ix_add | with_reducible apply ix_mul | (with_reducible apply ix_sub) | (with_reducible apply ix_upd) | (with_reducible apply ix_div) | omega)
       · repeat (first | with_reducible exact ix_nI | assumption | with_reducible apply ix_add | with_reducible apply ix_mul | (with_reducible apply ix_sub) | (with_reducible apply ix_upd) | (with_reducible apply ix_div) | omega)
       · omega
       · omega
       all_goals (intro hc; first | omega | (conv => whnf)))
    | (with_reducible apply br_eq
       · repeat (first | with_reducible exact ix_nI | assumption | with_reducible apply ix_add | with_reducible apply ix_mul | (with_reducible apply ix_sub) | (with_reducible apply ix_upd) | (with_reducible apply ix_div) | omega)
       · repeat (first | with_reducible exact ix_nI | assumption | with_reducible apply ix_add | with_reducible apply ix_mul | (with_reducible apply ix_sub) | (with_reducible apply ix_upd) | (with_reducible apply ix_div) | omega)
       · omega
       · omega
       all_goals (intro hc; first | omega | (conv => whnf)))
    | (with_reducible apply br_ne
       · repeat (first | with_reducible exact ix_nI | assumption | with_reducible apply ix_add | with_reducible apply ix_mul | (with_reducible apply ix_sub) | (with_reducible apply ix_upd) | (with_reducible apply ix_div) | omega)
       · repeat (first | with_reducible exact ix_nI | assumption | with_reducible apply ix_add | with_reducible apply ix_mul | (with_reducible apply ix_sub) | (with_reducible apply ix_upd) | (with_reducible apply ix_div) | omega)
       · omega
       · omega
       all_goals (intro hc; first | omega | (conv => whnf)))
    | (with_reducible apply br_eq0
       · repeat (first | with_reducible exact ix_nI | assumption | with_reducible apply ix_add | with_reducible apply ix_mul | (with_reducible apply ix_sub) | (with_reducible apply ix_upd) | (with_reducible apply ix_div) | omega)
       · omega
       all_goals (intro hc; first | omega | (conv => whnf)))
    | (with_reducible apply br_ne0
       · repeat (first | with_reducible exact ix_nI | assumption | with_reducible apply ix_add | with_reducible apply ix_mul | (with_reducible apply ix_sub) | (with_reducible apply ix_upd) | (with_reducible apply ix_div) | omega)
       · omega
       all_goals (intro hc; first | omega | (conv => whnf)))
    | (with_reducible apply br_le0
       · repeat (first | with_reducible exact ix_nI | assumption | with_reducible apply ix_add | with_reducible apply ix_mul | (with_reducible apply ix_sub) | (with_reducible apply ix_upd) | (with_reducible apply ix_div) | omega)
       · omega
       all_goals (intro hc; first | omega | (conv => whnf)))
    | (with_reducible apply br_gt0
       · repeat (first | with_reducible exact ix_nI | assumption | with_reducible apply ix_add | with_reducible apply ix_mul | (with_reducible apply ix_sub) | (with_reducible apply ix_upd) | (with_reducible apply ix_div) | omega)
       · omega
       all_goals (intro hc; first | omega | (conv => whnf)))
    | (with_reducible apply br_lt0
       · repeat (first | with_reducible exact ix_nI | assumption | with_reducible apply ix_add | with_reducible apply ix_mul | (with_reducible apply ix_sub) | (with_reducible apply ix_upd) | (with_reducible apply ix_div) | omega)
       · omega
       conv => whnf)
    | (with_reducible apply br_ge0
       · repeat (first | with_reducible exact ix_nI | assumption | with_reducible apply ix_add | with_reducible apply ix_mul | (with_reducible apply ix_sub) | (with_reducible apply ix_upd) | (with_reducible apply ix_div) | omega)
       · omega
       conv => whnf)
    | (with_reducible apply br_tab
       · repeat (first | with_reducible exact ix_nI | assumption | with_reducible apply ix_add | with_reducible apply ix_mul | (with_reducible apply ix_sub) | (with_reducible apply ix_upd) | (with_reducible apply ix_div) | omega)
       · omega
       all_goals (intro hc; (try dsimp only at hc); first | omega | (conv => whnf)))
    | (refine And.intro (fun hc => ?_) (fun hc => ?_) <;> conv => whnf)
    | (refine And.intro (by decide) ?_; conv => whnf)
    | fail)
  all_goals
    refine wp_use hW ?_
    have hO2 : OA h2 := by
      obtain ⟨f9, e9⟩ := hO1
      exact ⟨f9, (hF2 160 (by omega)).trans e9⟩
    exact (hgo h2 w1 ⟨hA1.moved fun a ha => hF2 a (Or.inl ha), ⟨u2, hR2, hu2⟩, hO2⟩ hw1).le (by repeat' (first | exact trivial | refine And.intro rfl ?_))
theorem lc_removeMatch {i : Nat} (hX : LX A h) (hI : Ivz n A.1) (hi : i + 3 < gL G) (hL : gL G ≤ 2048) (hgo : ∀ h' w', LX (aRem A (gS G (i + 1))).2.2 h' → (w' = w ∨ w' = XW w) → wp G (d + 10) kL_law T0 s0 K 1606 [some (.retAddr 6), some (.ref 0), some (.ref 154), some (.ref 160), some (.int (nI i)), none, none, none, none] [] h' w') : wp G (d + 10) kL_law T0 s0 K 544 [some (.retAddr 6), some (.ref 0), some (.ref 154), some (.ref 160), some (.int (nI i)), none, none, none, none] [] h w := by
  have hE : okA A (aRem A (gS G (i + 1))) := ok_removeMatch
  obtain ⟨hA, ⟨u, hR, hu⟩, hO⟩ := hX
  have hm : ∀ {h1 w1} {K1 : AO → AH → W3 → Prop}, MK h1 w1 K1 (aRem A (gS G (i + 1))) → Cl G (d + 9) kX5_removeMatch [.ref 154, .int (gS G (i + 1))] (setM h1 u) w1 K1 := fun hk => m_removeMatch hR hI hk
  have hl : ∀ {K1 : AO → AH → W3 → Prop}, LK h w K1 (aRem A (gS G (i + 1))) → Cl G (d + 9) kL_removeMatch [.ref 0, .int (gS G (i + 1)), .ref 160] h w K1 := fun hk => l_removeMatch hA hI hO hk
  generalize aRem A (gS G (i + 1)) = r at *
  obtain ⟨hE1, hE2⟩ := hE
  refine wp_vc [1606] 95 rfl fun W' C hW hC => ?_
  conv => whnf
  repeat' (first
    | (refine ⟨i + 1, ix_add ix_nI ix_nI, ⟨by decide, (show i + 1 < gL G by omega), (show gL G < 100000 by omega)⟩, ?_⟩; conv => whnf)
    | (refine cl_use hC (hl fun h1 w1 hA1 hU1 hO1 hF1 hw1 => ?_); have hu1 := setM_keep hu hF1; conv => whnf)
    | (refine ⟨_, _, (congrFun hu1 154).symm, ⟨_, rfl, rfl⟩, ?_⟩; conv => whnf)
    | (refine cl_use hC (n_use hu1 (hm (MK_of fun u2 h2 hR2 hu2 ht2 hF2 => ?_))); conv => whnf)
    | (refine ⟨_, _, (congrFun hu2 154).symm, ⟨_, rfl, rfl⟩, ?_⟩; conv => whnf)
    | (refine cl_use hC (n_thrown hu2 ?_); rw [ht2]; conv => whnf)
    | (obtain ⟨f9, e9, v9⟩ := hU1 (by assumption); refine ⟨_, _, (hF2 160 (by omega)).trans e9, _, ix_nI, ⟨by omega, by decide⟩, ?_⟩; rw [v9]; conv => whnf)
    | (refine And.intro (fun _ => ?_) (fun hcc => absurd lg_self hcc); conv => whnf)
    | (refine ⟨_, rfl, ?_⟩; conv => whnf)
    | (refine ⟨_, _, rfl, ⟨_, rfl, rfl⟩, ?_⟩; conv => whnf)
    | (refine ⟨_, _, rfl, ?_⟩
       with_reducible apply ix_ex
       · repeat (first | with_reducible exact ix_nI | assumption | with_reducible apply ix_add | with_reducible apply ix_mul | (with_reducible apply ix_sub) | (with_reducible apply ix_upd) | (with_reducible apply ix_div) | omega)
       (refine ⟨⟨by omega, by decide⟩, ?_⟩; conv => whnf))
    | (with_reducible apply br_le
       · repeat (first | with_reducible exact ix_nI | assumption | with_reducible apply ix_add | with_reducible apply ix_mul | (with_reducible apply ix_sub) | (with_reducible apply ix_upd) | (with_reducible apply ix_div) | omega)
       · repeat (first | with_reducible exact ix_nI | assumption | with_reducible apply ix_add | with_reducible apply ix_mul | (with_reducible apply ix_sub) | (with_reducible apply ix_upd) | (with_reducible apply ix_div) | omega)
       · omega
       · omega
       all_goals (intro hc; first | omega | (conv => whnf)))
    | (with_reducible apply br_lt
       · repeat (first | with_reducible exact ix_nI | assumption | with_reducible apply ix_add | with_reducible apply ix_mul | (with_reducible apply ix_sub) | (with_reducible apply ix_upd) | (with_reducible apply ix_div) | omega)
       · repeat (first | with_reducible exact ix_nI | assumption | with_reducible apply ix_add | with_reducible apply ix_mul | (with_reducible apply ix_sub) | (with_reducible apply ix_upd) | (with_reducible apply ix_div) | omega)
       · omega
       · omega
       all_goals (intro hc; first | omega | (conv => whnf)))
    | (with_reducible apply br_eq
       · repeat (first | with_reducible exact ix_nI | assumption | with_reducible apply ix_add | with_reducible apply ix_mul | (with_reducible apply ix_sub) | (with_reducible apply ix_upd) | (with_reducible apply ix_div) | omega)
       · repeat (first | with_reducible exact ix_nI | assumption | with_reducible apply ix_add | with_reducible apply ix_mul | (with_reducible apply ix_sub) | (with_reducible apply ix_upd) | (with_reducible apply ix_div) | omega)
       · omega
       · omega
       all_goals (intro hc; first | omega | (conv => whnf)))
    | (with_reducible apply br_ne
       · repeat (first | with_reducible exact ix_nI | assumption | with_reducible apply ix_add | with_reducible apply ix_mul | (with_reducible apply ix_sub) | (with_reducible apply ix_upd) | (with_reducible apply ix_div) | omega)
       · repeat (first | with_reducible exact ix_nI | assumption | with_reducible apply ix_add | with_reducible apply ix_mul | (with_reducible apply ix_sub) | (with_reducible apply ix_upd) | (with_reducible apply ix_div) | omega)
       · omega
       · omega
       all_goals (intro hc; first | omega | (conv => whnf)))
    | (with_reducible apply br_eq0
       · repeat (first | with_reducible exact ix_nI | assumption | with_reducible apply ix_add | with_reducible apply ix_mul | (with_reducible apply ix_sub) | (with_reducible apply ix_upd) | (with_reducible apply ix_div) | omega)
       · omega
       all_goals (intro hc; first | omega | (conv => whnf)))
    | (with_reducible apply br_ne0
       · repeat (first | with_reducible exact ix_nI | assumption | with_reducible apply ix_add | with_reducible apply ix_mul | (with_reducible apply ix_sub) | (with_reducible apply ix_upd) | (with_reducible apply ix_div) | omega)
       · omega
       all_goals (intro hc; first | omega | (conv => whnf)))
    | (with_reducible apply br_le0
       · repeat (first | with_reducible exact ix_nI | assumption | with_reducible apply ix_add | with_reducible apply ix_mul | (with_reducible apply ix_sub) | (with_reducible apply ix_upd) | (with_reducible apply ix_div) | omega)
       · omega
       all_goals (intro hc; first | omega | (conv => whnf)))
    | (with_reducible apply br_gt0
       · repeat (first | with_reducible exact ix_nI | assumption | with_reducible apply ix_add | with_reducible apply ix_mul | (with_reducible apply ix_sub) | (with_reducible apply ix_upd) | (with_reducible apply ix_div) | omega)
       · omega
       all_goals (intro hc; first | omega | (conv => whnf)))
    | (with_reducible apply br_lt0
       · repeat (first | with_reducible exact ix_nI | assumption | with_reducible apply ix_add | with_reducible apply ix_mul | (with_reducible apply ix_sub) | (with_reducible apply ix_upd) | (with_reducible apply ix_div) | omega)
       · omega
       conv => whnf)
    | (with_reducible apply br_ge0
       · repeat (first | with_reducible exact ix_nI | assumption | with_reducible apply ix_add | with_reducible apply ix_mul | (with_reducible apply ix_sub) | (with_reducible apply ix_upd) | (with_reducible apply ix_div) | omega)
       · omega
       conv => whnf)
    | (with_reducible apply br_tab
       · repeat (first | with_reducible exact ix_nI | assumption | with_reducible apply ix_add | with_reducible apply ix_mul | (with_reducible apply ix_sub) | (with_reducible apply ix_upd) | (with_reducible apply ix_div) | omega)
       · omega
       all_goals (intro hc; (try dsimp only at hc); first | omega | (conv => whnf)))
    | (refine And.intro (fun hc => ?_) (fun hc => ?_) <;> conv => whnf)
    | (refine And.intro (by decide) ?_; conv => whnf)
    | fail)
  all_goals
    refine wp_use hW ?_
    have hO2 : OA h2 := by
      obtain ⟨f9, e9⟩ := hO1
      exact ⟨f9, (hF2 160 (by omega)).trans e9⟩
    exact (hgo h2 w1 ⟨hA1.moved fun a ha => hF2 a (Or.inl ha), ⟨u2, hR2, hu2⟩, hO2⟩ hw1).le (by repeat' (first | exact trivial | refine And.intro rfl ?_))
theorem lc_set {i : Nat} (hX : LX A h) (hI : Ivz n A.1) (hi : i + 3 < gL G) (hL : gL G ≤ 2048) (hgo : ∀ h' w', LX (aSet A (gS G (i + 1)) (gS G (i + 2))).2.2 h' → (w' = w ∨ w' = XW w) → wp G (d + 10) kL_law T0 s0 K 1606 [some (.retAddr 6), some (.ref 0), some (.ref 154), some (.ref 160), some (.int (nI i)), none, none, none, none] [] h' w') : wp G (d + 10) kL_law T0 s0 K 600 [some (.retAddr 6), some (.ref 0), some (.ref 154), some (.ref 160), some (.int (nI i)), none, none, none, none] [] h w := by
  have hE : okA A (aSet A (gS G (i + 1)) (gS G (i + 2))) := ok_set
  obtain ⟨hA, ⟨u, hR, hu⟩, hO⟩ := hX
  have hm : ∀ {h1 w1} {K1 : AO → AH → W3 → Prop}, MK h1 w1 K1 (aSet A (gS G (i + 1)) (gS G (i + 2))) → Cl G (d + 9) kX5_set [.ref 154, .int (gS G (i + 1)), .int (gS G (i + 2))] (setM h1 u) w1 K1 := fun hk => m_set hR hI hk
  have hl : ∀ {K1 : AO → AH → W3 → Prop}, LK h w K1 (aSet A (gS G (i + 1)) (gS G (i + 2))) → Cl G (d + 9) kL_set [.ref 0, .int (gS G (i + 1)), .int (gS G (i + 2)), .ref 160] h w K1 := fun hk => l_set hA hI hO hk
  generalize aSet A (gS G (i + 1)) (gS G (i + 2)) = r at *
  obtain ⟨hE1, hE2⟩ := hE
  refine wp_vc [1606] 95 rfl fun W' C hW hC => ?_
  conv => whnf
  repeat' (first
    | (refine ⟨i + 1, ix_add ix_nI ix_nI, ⟨by decide, (show i + 1 < gL G by omega), (show gL G < 100000 by omega)⟩, ?_⟩; conv => whnf)
    | (refine ⟨i + 2, ix_add ix_nI ix_nI, ⟨by decide, (show i + 2 < gL G by omega), (show gL G < 100000 by omega)⟩, ?_⟩; conv => whnf)
    | (refine cl_use hC (hl fun h1 w1 hA1 hU1 hO1 hF1 hw1 => ?_); have hu1 := setM_keep hu hF1; conv => whnf)
    | (refine ⟨_, _, (congrFun hu1 154).symm, ⟨_, rfl, rfl⟩, ?_⟩; conv => whnf)
    | (refine cl_use hC (n_use hu1 (hm (MK_of fun u2 h2 hR2 hu2 ht2 hF2 => ?_))); conv => whnf)
    | (refine ⟨_, _, (congrFun hu2 154).symm, ⟨_, rfl, rfl⟩, ?_⟩; conv => whnf)
    | (refine cl_use hC (n_thrown hu2 ?_); rw [ht2]; conv => whnf)
    | (obtain ⟨f9, e9, v9⟩ := hU1 (by assumption); refine ⟨_, _, (hF2 160 (by omega)).trans e9, _, ix_nI, ⟨by omega, by decide⟩, ?_⟩; rw [v9]; conv => whnf)
    | (refine And.intro (fun _ => ?_) (fun hcc => absurd lg_self hcc); conv => whnf)
    | (refine ⟨_, rfl, ?_⟩; conv => whnf)
    | (refine ⟨_, _, rfl, ⟨_, rfl, rfl⟩, ?_⟩; conv => whnf)
    | (refine ⟨_, _, rfl, ?_⟩
       with_reducible apply ix_ex
       · repeat (first | with_reducible exact ix_nI | assumption | with_reducible apply ix_add | with_reducible apply ix_mul | (with_reducible apply ix_sub) | (with_reducible apply ix_upd) | (with_reducible apply ix_div) | omega)
       (refine ⟨⟨by omega, by decide⟩, ?_⟩; conv => whnf))
    | (with_reducible apply br_le
       · repeat (first | with_reducible exact ix_nI | assumption | with_reducible apply ix_add | with_reducible apply ix_mul | (with_reducible apply ix_sub) | (with_reducible apply ix_upd) | (with_reducible apply ix_div) | omega)
       · repeat (first | with_reducible exact ix_nI | assumption | with_reducible apply ix_add | with_reducible apply ix_mul | (with_reducible apply ix_sub) | (with_reducible apply ix_upd) | (with_reducible apply ix_div) | omega)
       · omega
       · omega
       all_goals (intro hc; first | omega | (conv => whnf)))
    | (with_reducible apply br_lt
       · repeat (first | with_reducible exact ix_nI | assumption | with_reducible apply ix_add | with_reducible apply ix_mul | (with_reducible apply ix_sub) | (with_reducible apply ix_upd) | (with_reducible apply ix_div) | omega)
       · repeat (first | with_reducible exact ix_nI | assumption | with_reducible apply ix_add | with_reducible apply ix_mul | (with_reducible apply ix_sub) | (with_reducible apply ix_upd) | (with_reducible apply ix_div) | omega)
       · omega
       · omega
       all_goals (intro hc; first | omega | (conv => whnf)))
    | (with_reducible apply br_eq
       · repeat (first | with_reducible exact ix_nI | assumption | with_reducible apply ix_add | with_reducible apply ix_mul | (with_reducible apply ix_sub) | (with_reducible apply ix_upd) | (with_reducible apply ix_div) | omega)
       · repeat (first | with_reducible exact ix_nI | assumption | with_reducible apply ix_add | with_reducible apply ix_mul | (with_reducible apply ix_sub) | (with_reducible apply ix_upd) | (with_reducible apply ix_div) | omega)
       · omega
       · omega
       all_goals (intro hc; first | omega | (conv => whnf)))
    | (with_reducible apply br_ne
       · repeat (first | with_reducible exact ix_nI | assumption | with_reducible apply ix_add | with_reducible apply ix_mul | (with_reducible apply ix_sub) | (with_reducible apply ix_upd) | (with_reducible apply ix_div) | omega)
       · repeat (first | with_reducible exact ix_nI | assumption | with_reducible apply ix_add | with_reducible apply ix_mul | (with_reducible apply ix_sub) | (with_reducible apply ix_upd) | (with_reducible apply ix_div) | omega)
       · omega
       · omega
       all_goals (intro hc; first | omega | (conv => whnf)))
    | (with_reducible apply br_eq0
       · repeat (first | with_reducible exact ix_nI | assumption | with_reducible apply ix_add | with_reducible apply ix_mul | (with_reducible apply ix_sub) | (with_reducible apply ix_upd) | (with_reducible apply ix_div) | omega)
       · omega
       all_goals (intro hc; first | omega | (conv => whnf)))
    | (with_reducible apply br_ne0
       · repeat (first | with_reducible exact ix_nI | assumption | with_reducible apply ix_add | with_reducible apply ix_mul | (with_reducible apply ix_sub) | (with_reducible apply ix_upd) | (with_reducible apply ix_div) | omega)
       · omega
       all_goals (intro hc; first | omega | (conv => whnf)))
    | (with_reducible apply br_le0
       · repeat (first | with_reducible exact ix_nI | assumption | with_reducible apply ix_add | with_reducible apply ix_mul | (with_reducible apply ix_sub) | (with_reducible apply ix_upd) | (with_reducible apply ix_div) | omega)
       · omega
       all_goals (intro hc; first | omega | (conv => whnf)))
    | (with_reducible apply br_gt0
       · repeat (first | with_reducible exact ix_nI | assumption | with_reducible apply ix_add | with_reducible apply ix_mul | (with_reducible apply ix_sub) | (with_reducible apply ix_upd) | (with_reducible apply ix_div) | omega)
       · omega
       all_goals (intro hc; first | omega | (conv => whnf)))
    | (with_reducible apply br_lt0
       · repeat (first | with_reducible exact ix_nI | assumption | with_reducible apply ix_add | with_reducible apply ix_mul | (with_reducible apply ix_sub) | (with_reducible apply ix_upd) | (with_reducible apply ix_div) | omega)
       · omega
       conv => whnf)
    | (with_reducible apply br_ge0
       · repeat (first | with_reducible exact ix_nI | assumption | with_reducible apply ix_add | with_reducible apply ix_mul | (with_reducible apply ix_sub) | (with_reducible apply ix_upd) | (with_reducible apply ix_div) | omega)
       · omega
       conv => whnf)
    | (with_reducible apply br_tab
       · repeat (first | with_reducible exact ix_nI | assumption | with_reducible apply ix_add | with_reducible apply ix_mul | (with_reducible apply ix_sub) | (with_reducible apply ix_upd) | (with_reducible apply ix_div) | omega)
       · omega
       all_goals (intro hc; (try dsimp only at hc); first | omega | (conv => whnf)))
    | (refine And.intro (fun hc => ?_) (fun hc => ?_) <;> conv => whnf)
    | (refine And.intro (by decide) ?_; conv => whnf)
    | fail)
  all_goals
    refine wp_use hW ?_
    have hO2 : OA h2 := by
      obtain ⟨f9, e9⟩ := hO1
      exact ⟨f9, (hF2 160 (by omega)).trans e9⟩
    exact (hgo h2 w1 ⟨hA1.moved fun a ha => hF2 a (Or.inl ha), ⟨u2, hR2, hu2⟩, hO2⟩ hw1).le (by repeat' (first | exact trivial | refine And.intro rfl ?_))
theorem lc_append {i : Nat} (hX : LX A h) (hI : Ivz n A.1) (hi : i + 3 < gL G) (hL : gL G ≤ 2048) (hgo : ∀ h' w', LX (aApp A (gS G (i + 1))).2.2 h' → (w' = w ∨ w' = XW w) → wp G (d + 10) kL_law T0 s0 K 1606 [some (.retAddr 6), some (.ref 0), some (.ref 154), some (.ref 160), some (.int (nI i)), none, none, none, none] [] h' w') : wp G (d + 10) kL_law T0 s0 K 668 [some (.retAddr 6), some (.ref 0), some (.ref 154), some (.ref 160), some (.int (nI i)), none, none, none, none] [] h w := by
  have hE : okA A (aApp A (gS G (i + 1))) := ok_append
  obtain ⟨hA, ⟨u, hR, hu⟩, hO⟩ := hX
  have hm : ∀ {h1 w1} {K1 : AO → AH → W3 → Prop}, MK h1 w1 K1 (aApp A (gS G (i + 1))) → Cl G (d + 9) kX5_append [.ref 154, .int (gS G (i + 1))] (setM h1 u) w1 K1 := fun hk => m_append hR hI hk
  have hl : ∀ {K1 : AO → AH → W3 → Prop}, LK h w K1 (aApp A (gS G (i + 1))) → Cl G (d + 9) kL_append [.ref 0, .int (gS G (i + 1)), .ref 160] h w K1 := fun hk => l_append hA hI hO hk
  generalize aApp A (gS G (i + 1)) = r at *
  obtain ⟨hE1, hE2⟩ := hE
  refine wp_vc [1606] 95 rfl fun W' C hW hC => ?_
  conv => whnf
  repeat' (first
    | (refine ⟨i + 1, ix_add ix_nI ix_nI, ⟨by decide, (show i + 1 < gL G by omega), (show gL G < 100000 by omega)⟩, ?_⟩; conv => whnf)
    | (refine cl_use hC (hl fun h1 w1 hA1 hU1 hO1 hF1 hw1 => ?_); have hu1 := setM_keep hu hF1; conv => whnf)
    | (refine ⟨_, _, (congrFun hu1 154).symm, ⟨_, rfl, rfl⟩, ?_⟩; conv => whnf)
    | (refine cl_use hC (n_use hu1 (hm (MK_of fun u2 h2 hR2 hu2 ht2 hF2 => ?_))); conv => whnf)
    | (refine ⟨_, _, (congrFun hu2 154).symm, ⟨_, rfl, rfl⟩, ?_⟩; conv => whnf)
    | (refine cl_use hC (n_thrown hu2 ?_); rw [ht2]; conv => whnf)
    | (obtain ⟨f9, e9, v9⟩ := hU1 (by assumption); refine ⟨_, _, (hF2 160 (by omega)).trans e9, _, ix_nI, ⟨by omega, by decide⟩, ?_⟩; rw [v9]; conv => whnf)
    | (refine And.intro (fun _ => ?_) (fun hcc => absurd lg_self hcc); conv => whnf)
    | (refine ⟨_, rfl, ?_⟩; conv => whnf)
    | (refine ⟨_, _, rfl, ⟨_, rfl, rfl⟩, ?_⟩; conv => whnf)
    | (refine ⟨_, _, rfl, ?_⟩
       with_reducible apply ix_ex
       · repeat (first | with_reducible exact ix_nI | assumption | with_reducible apply ix_add | with_reducible apply ix_mul | (with_reducible apply ix_sub) | (with_reducible apply ix_upd) | (with_reducible apply ix_div) | omega)
       (refine ⟨⟨by omega, by decide⟩, ?_⟩; conv => whnf))
    | (with_reducible apply br_le
       · repeat (first | with_reducible exact ix_nI | assumption | with_reducible apply ix_add | with_reducible apply ix_mul | (with_reducible apply ix_sub) | (with_reducible apply ix_upd) | (with_reducible apply ix_div) | omega)
       · repeat (first | with_reducible exact ix_nI | assumption | with_reducible apply ix_add | with_reducible apply ix_mul | (with_reducible apply ix_sub) | (with_reducible apply ix_upd) | (with_reducible apply ix_div) | omega)
       · omega
       · omega
       all_goals (intro hc; first | omega | (conv => whnf)))
    | (with_reducible apply br_lt
       · repeat (first | with_reducible exact ix_nI | assumption | with_reducible apply ix_add | with_reducible apply ix_mul | (with_reducible apply ix_sub) | (with_reducible apply ix_upd) | (with_reducible apply ix_div) | omega)
       · repeat (first | with_reducible exact ix_nI | assumption | with_reducible apply ix_add | with_reducible apply ix_mul | (with_reducible apply ix_sub) | (with_reducible apply ix_upd) | (with_reducible apply ix_div) | omega)
       · omega
       · omega
       all_goals (intro hc; first | omega | (conv => whnf)))
    | (with_reducible apply br_eq
       · repeat (first | with_reducible exact ix_nI | assumption | with_reducible apply ix_add | with_reducible apply ix_mul | (with_reducible apply ix_sub) | (with_reducible apply ix_upd) | (with_reducible apply ix_div) | omega)
       · repeat (first | with_reducible exact ix_nI | assumption | with_reducible apply ix_add | with_reducible apply ix_mul | (with_reducible apply ix_sub) | (with_reducible apply ix_upd) | (with_reducible apply ix_div) | omega)
       · omega
       · omega
       all_goals (intro hc; first | omega | (conv => whnf)))
    | (with_reducible apply br_ne
       · repeat (first | with_reducible exact ix_nI | assumption | with_reducible apply ix_add | with_reducible apply ix_mul | (with_reducible apply ix_sub) | (with_reducible apply ix_upd) | (with_reducible apply ix_div) | omega)
       · repeat (first | with_reducible exact ix_nI | assumption | with_reducible apply ix_add | with_reducible apply ix_mul | (with_reducible apply ix_sub) | (with_reducible apply ix_upd) | (with_reducible apply ix_div) | omega)
       · omega
       · omega
       all_goals (intro hc; first | omega | (conv => whnf)))
    | (with_reducible apply br_eq0
       · repeat (first | with_reducible exact ix_nI | assumption | with_reducible apply ix_add | with_reducible apply ix_mul | (with_reducible apply ix_sub) | (with_reducible apply ix_upd) | (with_reducible apply ix_div) | omega)
       · omega
       all_goals (intro hc; first | omega | (conv => whnf)))
    | (with_reducible apply br_ne0
       · repeat (first | with_reducible exact ix_nI | assumption | with_reducible apply ix_add | with_reducible apply ix_mul | (with_reducible apply ix_sub) | (with_reducible apply ix_upd) | (with_reducible apply ix_div) | omega)
       · omega
       all_goals (intro hc; first | omega | (conv => whnf)))
    | (with_reducible apply br_le0
       · repeat (first | with_reducible exact ix_nI | assumption | with_reducible apply ix_add | with_reducible apply ix_mul | (with_reducible apply ix_sub) | (with_reducible apply ix_upd) | (with_reducible apply ix_div) | omega)
       · omega
       all_goals (intro hc; first | omega | (conv => whnf)))
    | (with_reducible apply br_gt0
       · repeat (first | with_reducible exact ix_nI | assumption | with_reducible apply ix_add | with_reducible apply ix_mul | (with_reducible apply ix_sub) | (with_reducible apply ix_upd) | (with_reducible apply ix_div) | omega)
       · omega
       all_goals (intro hc; first | omega | (conv => whnf)))
    | (with_reducible apply br_lt0
       · repeat (first | with_reducible exact ix_nI | assumption | with_reducible apply ix_add | with_reducible apply ix_mul | (with_reducible apply ix_sub) | (with_reducible apply ix_upd) | (with_reducible apply ix_div) | omega)
       · omega
       conv => whnf)
    | (with_reducible apply br_ge0
       · repeat (first | with_reducible exact ix_nI | assumption | with_reducible apply ix_add | with_reducible apply ix_mul | (with_reducible apply ix_sub) | (with_reducible apply ix_upd) | (with_reducible apply ix_div) | omega)
       · omega
       conv => whnf)
    | (with_reducible apply br_tab
       · repeat (first | with_reducible exact ix_nI | assumption | with_reducible apply ix_add | with_reducible apply ix_mul | (with_reducible apply ix_sub) | (with_reducible apply ix_upd) | (with_reducible apply ix_div) | omega)
       · omega
       all_goals (intro hc; (try dsimp only at hc); first | omega | (conv => whnf)))
    | (refine And.intro (fun hc => ?_) (fun hc => ?_) <;> conv => whnf)
    | (refine And.intro (by decide) ?_; conv => whnf)
    | fail)
  all_goals
    refine wp_use hW ?_
    have hO2 : OA h2 := by
      obtain ⟨f9, e9⟩ := hO1
      exact ⟨f9, (hF2 160 (by omega)).trans e9⟩
    exact (hgo h2 w1 ⟨hA1.moved fun a ha => hF2 a (Or.inl ha), ⟨u2, hR2, hu2⟩, hO2⟩ hw1).le (by repeat' (first | exact trivial | refine And.intro rfl ?_))
theorem lc_run {i : Nat} (hX : LX A h) (hI : Ivz n A.1) (hi : i + 3 < gL G) (hL : gL G ≤ 2048) (hgo : ∀ h' w', LX (aRun A).2.2 h' → (w' = w ∨ w' = XW w) → wp G (d + 10) kL_law T0 s0 K 1606 [some (.retAddr 6), some (.ref 0), some (.ref 154), some (.ref 160), some (.int (nI i)), none, none, none, none] [] h' w') : wp G (d + 10) kL_law T0 s0 K 750 [some (.retAddr 6), some (.ref 0), some (.ref 154), some (.ref 160), some (.int (nI i)), none, none, none, none] [] h w := by
  have hE : okA A (aRun A) := ok_run.A
  obtain ⟨hA, ⟨u, hR, hu⟩, hO⟩ := hX
  have hm : ∀ {h1 w1} {K1 : AO → AH → W3 → Prop}, MK h1 w1 K1 (aRun A) → Cl G (d + 9) kX5_run [.ref 154] (setM h1 u) w1 K1 := fun hk => m_run hR hI hk
  have hl : ∀ {K1 : AO → AH → W3 → Prop}, LK h w K1 (aRun A) → Cl G (d + 9) kL_run [.ref 0, .ref 160] h w K1 := fun hk => l_run hA hI hO hk
  generalize aRun A = r at *
  obtain ⟨hE1, hE2⟩ := hE
  refine wp_vc [1606] 95 rfl fun W' C hW hC => ?_
  conv => whnf
  repeat' (first
    | (refine cl_use hC (hl fun h1 w1 hA1 hU1 hO1 hF1 hw1 => ?_); have hu1 := setM_keep hu hF1; conv => whnf)
    | (refine ⟨_, _, (congrFun hu1 154).symm, ⟨_, rfl, rfl⟩, ?_⟩; conv => whnf)
    | (refine cl_use hC (n_use hu1 (hm (MK_of fun u2 h2 hR2 hu2 ht2 hF2 => ?_))); conv => whnf)
    | (refine ⟨_, _, (congrFun hu2 154).symm, ⟨_, rfl, rfl⟩, ?_⟩; conv => whnf)
    | (refine cl_use hC (n_thrown hu2 ?_); rw [ht2]; conv => whnf)
    | (obtain ⟨f9, e9, v9⟩ := hU1 (by assumption); refine ⟨_, _, (hF2 160 (by omega)).trans e9, _, ix_nI, ⟨by omega, by decide⟩, ?_⟩; rw [v9]; conv => whnf)
    | (refine And.intro (fun _ => ?_) (fun hcc => absurd lg_self hcc); conv => whnf)
    | (refine ⟨_, rfl, ?_⟩; conv => whnf)
    | (refine ⟨_, _, rfl, ⟨_, rfl, rfl⟩, ?_⟩; conv => whnf)
    | (refine ⟨_, _, rfl, ?_⟩
       with_reducible apply ix_ex
       · repeat (first | with_reducible exact ix_nI | assumption | with_reducible apply ix_add | with_reducible apply ix_mul | (with_reducible apply ix_sub) | (with_reducible apply ix_upd) | (with_reducible apply ix_div) | omega)
       (refine ⟨⟨by omega, by decide⟩, ?_⟩; conv => whnf))
    | (with_reducible apply br_le
       · repeat (first | with_reducible exact ix_nI | assumption | with_reducible apply ix_add | with_reducible apply ix_mul | (with_reducible apply ix_sub) | (with_reducible apply ix_upd) | (with_reducible apply ix_div) | omega)
       · repeat (first | with_reducible exact ix_nI | assumption | with_reducible apply ix_add | with_reducible apply ix_mul | (with_reducible apply ix_sub) | (with_reducible apply ix_upd) | (with_reducible apply ix_div) | omega)
       · omega
       · omega
       all_goals (intro hc; first | omega | (conv => whnf)))
    | (with_reducible apply br_lt
       · repeat (first | with_reducible exact ix_nI | assumption | with_reducible apply ix_add | with_reducible apply ix_mul | (with_reducible apply ix_sub) | (with_reducible apply ix_upd) | (with_reducible apply ix_div) | omega)
       · repeat (first | with_reducible exact ix_nI | assumption | with_reducible apply ix_add | with_reducible apply ix_mul | (with_reducible apply ix_sub) | (with_reducible apply ix_upd) | (with_reducible apply ix_div) | omega)
       · omega
       · omega
       all_goals (intro hc; first | omega | (conv => whnf)))
    | (with_reducible apply br_eq
       · repeat (first | with_reducible exact ix_nI | assumption | with_reducible apply ix_add | with_reducible apply ix_mul | (with_reducible apply ix_sub) | (with_reducible apply ix_upd) | (with_reducible apply ix_div) | omega)
       · repeat (first | with_reducible exact ix_nI | assumption | with_reducible apply ix_add | with_reducible apply ix_mul | (with_reducible apply ix_sub) | (with_reducible apply ix_upd) | (with_reducible apply ix_div) | omega)
       · omega
       · omega
       all_goals (intro hc; first | omega | (conv => whnf)))
    | (with_reducible apply br_ne
       · repeat (first | with_reducible exact ix_nI | assumption | with_reducible apply ix_add | with_reducible apply ix_mul | (with_reducible apply ix_sub) | (with_reducible apply ix_upd) | (with_reducible apply ix_div) | omega)
       · repeat (first | with_reducible exact ix_nI | assumption | with_reducible apply ix_add | with_reducible apply ix_mul | (with_reducible apply ix_sub) | (with_reducible apply ix_upd) | (with_reducible apply ix_div) | omega)
       · omega
       · omega
       all_goals (intro hc; first | omega | (conv => whnf)))
    | (with_reducible apply br_eq0
       · repeat (first | with_reducible exact ix_nI | assumption | with_reducible apply ix_add | with_reducible apply ix_mul | (with_reducible apply ix_sub) | (with_reducible apply ix_upd) | (with_reducible apply ix_div) | omega)
       · omega
       all_goals (intro hc; first | omega | (conv => whnf)))
    | (with_reducible apply br_ne0
       · repeat (first | with_reducible exact ix_nI | assumption | with_reducible apply ix_add | with_reducible apply ix_mul | (with_reducible apply ix_sub) | (with_reducible apply ix_upd) | (with_reducible apply ix_div) | omega)
       · omega
       all_goals (intro hc; first | omega | (conv => whnf)))
    | (with_reducible apply br_le0
       · repeat (first | with_reducible exact ix_nI | assumption | with_reducible apply ix_add | with_reducible apply ix_mul | (with_reducible apply ix_sub) | (with_reducible apply ix_upd) | (with_reducible apply ix_div) | omega)
       · omega
       all_goals (intro hc; first | omega | (conv => whnf)))
    | (with_reducible apply br_gt0
       · repeat (first | with_reducible exact ix_nI | assumption | with_reducible apply ix_add | with_reducible apply ix_mul | (with_reducible apply ix_sub) | (with_reducible apply ix_upd) | (with_reducible apply ix_div) | omega)
       · omega
       all_goals (intro hc; first | omega | (conv => whnf)))
    | (with_reducible apply br_lt0
       · repeat (first | with_reducible exact ix_nI | assumption | with_reducible apply ix_add | with_reducible apply ix_mul | (with_reducible apply ix_sub) | (with_reducible apply ix_upd) | (with_reducible apply ix_div) | omega)
       · omega
       conv => whnf)
    | (with_reducible apply br_ge0
       · repeat (first | with_reducible exact ix_nI | assumption | with_reducible apply ix_add | with_reducible apply ix_mul | (with_reducible apply ix_sub) | (with_reducible apply ix_upd) | (with_reducible apply ix_div) | omega)
       · omega
       conv => whnf)
    | (with_reducible apply br_tab
       · repeat (first | with_reducible exact ix_nI | assumption | with_reducible apply ix_add | with_reducible apply ix_mul | (with_reducible apply ix_sub) | (with_reducible apply ix_upd) | (with_reducible apply ix_div) | omega)
       · omega
       all_goals (intro hc; (try dsimp only at hc); first | omega | (conv => whnf)))
    | (refine And.intro (fun hc => ?_) (fun hc => ?_) <;> conv => whnf)
    | (refine And.intro (by decide) ?_; conv => whnf)
    | fail)
  all_goals
    refine wp_use hW ?_
    have hO2 : OA h2 := by
      obtain ⟨f9, e9⟩ := hO1
      exact ⟨f9, (hF2 160 (by omega)).trans e9⟩
    exact (hgo h2 w1 ⟨hA1.moved fun a ha => hF2 a (Or.inl ha), ⟨u2, hR2, hu2⟩, hO2⟩ hw1).le (by repeat' (first | exact trivial | refine And.intro rfl ?_))
theorem lc_undo {i : Nat} (hX : LX A h) (hI : Ivz n A.1) (hi : i + 3 < gL G) (hL : gL G ≤ 2048) (hgo : ∀ h' w', LX (aUndo A).2.2 h' → (w' = w ∨ w' = XW w) → wp G (d + 10) kL_law T0 s0 K 1606 [some (.retAddr 6), some (.ref 0), some (.ref 154), some (.ref 160), some (.int (nI i)), none, none, none, none] [] h' w') : wp G (d + 10) kL_law T0 s0 K 794 [some (.retAddr 6), some (.ref 0), some (.ref 154), some (.ref 160), some (.int (nI i)), none, none, none, none] [] h w := by
  have hE : okA A (aUndo A) := ok_undo.A
  obtain ⟨hA, ⟨u, hR, hu⟩, hO⟩ := hX
  have hm : ∀ {h1 w1} {K1 : AO → AH → W3 → Prop}, MK h1 w1 K1 (aUndo A) → Cl G (d + 9) kX5_undo [.ref 154] (setM h1 u) w1 K1 := fun hk => m_undo hR hk
  have hl : ∀ {K1 : AO → AH → W3 → Prop}, LK h w K1 (aUndo A) → Cl G (d + 9) kL_undo [.ref 0, .ref 160] h w K1 := fun hk => l_undo hA hI hO hk
  generalize aUndo A = r at *
  obtain ⟨hE1, hE2⟩ := hE
  refine wp_vc [1606] 95 rfl fun W' C hW hC => ?_
  conv => whnf
  repeat' (first
    | (refine cl_use hC (hl fun h1 w1 hA1 hU1 hO1 hF1 hw1 => ?_); have hu1 := setM_keep hu hF1; conv => whnf)
    | (refine ⟨_, _, (congrFun hu1 154).symm, ⟨_, rfl, rfl⟩, ?_⟩; conv => whnf)
    | (refine cl_use hC (n_use hu1 (hm (MK_of fun u2 h2 hR2 hu2 ht2 hF2 => ?_))); conv => whnf)
    | (refine ⟨_, _, (congrFun hu2 154).symm, ⟨_, rfl, rfl⟩, ?_⟩; conv => whnf)
    | (refine cl_use hC (n_thrown hu2 ?_); rw [ht2]; conv => whnf)
    | (obtain ⟨f9, e9, v9⟩ := hU1 (by assumption); refine ⟨_, _, (hF2 160 (by omega)).trans e9, _, ix_nI, ⟨by omega, by decide⟩, ?_⟩; rw [v9]; conv => whnf)
    | (refine And.intro (fun _ => ?_) (fun hcc => absurd lg_self hcc); conv => whnf)
    | (refine ⟨_, rfl, ?_⟩; conv => whnf)
    | (refine ⟨_, _, rfl, ⟨_, rfl, rfl⟩, ?_⟩; conv => whnf)
    | (refine ⟨_, _, rfl, ?_⟩
       with_reducible apply ix_ex
       · repeat (first | with_reducible exact ix_nI | assumption | with_reducible apply ix_add | with_reducible apply ix_mul | (with_reducible apply ix_sub) | (with_reducible apply ix_upd) | (with_reducible apply ix_div) | omega)
       (refine ⟨⟨by omega, by decide⟩, ?_⟩; conv => whnf))
    | (with_reducible apply br_le
       · repeat (first | with_reducible exact ix_nI | assumption | with_reducible apply ix_add | with_reducible apply ix_mul | (with_reducible apply ix_sub) | (with_reducible apply ix_upd) | (with_reducible apply ix_div) | omega)
       · repeat (first | with_reducible exact ix_nI | assumption | with_reducible apply ix_add | with_reducible apply ix_mul | (with_reducible apply ix_sub) | (with_reducible apply ix_upd) | (with_reducible apply ix_div) | omega)
       · omega
       · omega
       all_goals (intro hc; first | omega | (conv => whnf)))
    | (with_reducible apply br_lt
       · repeat (first | with_reducible exact ix_nI | assumption | with_reducible apply ix_add | with_reducible apply ix_mul | (with_reducible apply ix_sub) | (with_reducible apply ix_upd) | (with_reducible apply ix_div) | omega)
       · repeat (first | with_reducible exact ix_nI | assumption | with_reducible apply ix_add | with_reducible apply ix_mul | (with_reducible apply ix_sub) | (with_reducible apply ix_upd) | (with_reducible apply ix_div) | omega)
       · omega
       · omega
       all_goals (intro hc; first | omega | (conv => whnf)))
    | (with_reducible apply br_eq
       · repeat (first | with_reducible exact ix_nI | assumption | with_reducible apply ix_add | with_reducible apply ix_mul | (with_reducible apply ix_sub) | (with_reducible apply ix_upd) | (with_reducible apply ix_div) | omega)
       · repeat (first | with_reducible exact ix_nI | assumption | with_reducible apply ix_add | with_reducible apply ix_mul | (with_reducible apply ix_sub) | (with_reducible apply ix_upd) | (with_reducible apply ix_div) | omega)
       · omega
       · omega
       all_goals (intro hc; first | omega | (conv => whnf)))
    | (with_reducible apply br_ne
       · repeat (first | with_reducible exact ix_nI | assumption | with_reducible apply ix_add | with_reducible apply ix_mul | (with_reducible apply ix_sub) | (with_reducible apply ix_upd) | (with_reducible apply ix_div) | omega)
       · repeat (first | with_reducible exact ix_nI | assumption | with_reducible apply ix_add | with_reducible apply ix_mul | (with_reducible apply ix_sub) | (with_reducible apply ix_upd) | (with_reducible apply ix_div) | omega)
       · omega
       · omega
       all_goals (intro hc; first | omega | (conv => whnf)))
    | (with_reducible apply br_eq0
       · repeat (first | with_reducible exact ix_nI | assumption | with_reducible apply ix_add | with_reducible apply ix_mul | (with_reducible apply ix_sub) | (with_reducible apply ix_upd) | (with_reducible apply ix_div) | omega)
       · omega
       all_goals (intro hc; first | omega | (conv => whnf)))
    | (with_reducible apply br_ne0
       · repeat (first | with_reducible exact ix_nI | assumption | with_reducible apply ix_add | with_reducible apply ix_mul | (with_reducible apply ix_sub) | (with_reducible apply ix_upd) | (with_reducible apply ix_div) | omega)
       · omega
       all_goals (intro hc; first | omega | (conv => whnf)))
    | (with_reducible apply br_le0
       · repeat (first | with_reducible exact ix_nI | assumption | with_reducible apply ix_add | with_reducible apply ix_mul | (with_reducible apply ix_sub) | (with_reducible apply ix_upd) | (with_reducible apply ix_div) | omega)
       · omega
       all_goals (intro hc; first | omega | (conv => whnf)))
    | (with_reducible apply br_gt0
       · repeat (first | with_reducible exact ix_nI | assumption | with_reducible apply ix_add | with_reducible apply ix_mul | (with_reducible apply ix_sub) | (with_reducible apply ix_upd) | (with_reducible apply ix_div) | omega)
       · omega
       all_goals (intro hc; first | omega | (conv => whnf)))
    | (with_reducible apply br_lt0
       · repeat (first | with_reducible exact ix_nI | assumption | with_reducible apply ix_add | with_reducible apply ix_mul | (with_reducible apply ix_sub) | (with_reducible apply ix_upd) | (with_reducible apply ix_div) | omega)
       · omega
       conv => whnf)
    | (with_reducible apply br_ge0
       · repeat (first | with_reducible exact ix_nI | assumption | with_reducible apply ix_add | with_reducible apply ix_mul | (with_reducible apply ix_sub) | (with_reducible apply ix_upd) | (with_reducible apply ix_div) | omega)
       · omega
       conv => whnf)
    | (with_reducible apply br_tab
       · repeat (first | with_reducible exact ix_nI | assumption | with_reducible apply ix_add | with_reducible apply ix_mul | (with_reducible apply ix_sub) | (with_reducible apply ix_upd) | (with_reducible apply ix_div) | omega)
       · omega
       all_goals (intro hc; (try dsimp only at hc); first | omega | (conv => whnf)))
    | (refine And.intro (fun hc => ?_) (fun hc => ?_) <;> conv => whnf)
    | (refine And.intro (by decide) ?_; conv => whnf)
    | fail)
  all_goals
    refine wp_use hW ?_
    have hO2 : OA h2 := by
      obtain ⟨f9, e9⟩ := hO1
      exact ⟨f9, (hF2 160 (by omega)).trans e9⟩
    exact (hgo h2 w1 ⟨hA1.moved fun a ha => hF2 a (Or.inl ha), ⟨u2, hR2, hu2⟩, hO2⟩ hw1).le (by repeat' (first | exact trivial | refine And.intro rfl ?_))
theorem lc_page {i : Nat} (hX : LX A h) (hI : Ivz n A.1) (hi : i + 3 < gL G) (hL : gL G ≤ 2048) (hgo : ∀ h' w', LX (aPage A (gS G (i + 1)) (gS G (i + 2))).2.2 h' → (w' = w ∨ w' = XW w) → wp G (d + 10) kL_law T0 s0 K 1606 [some (.retAddr 6), some (.ref 0), some (.ref 154), some (.ref 160), some (.int (nI i)), none, none, none, none] [] h' w') : wp G (d + 10) kL_law T0 s0 K 838 [some (.retAddr 6), some (.ref 0), some (.ref 154), some (.ref 160), some (.int (nI i)), none, none, none, none] [] h w := by
  have hE : okA A (aPage A (gS G (i + 1)) (gS G (i + 2))) := ok_page
  obtain ⟨hA, ⟨u, hR, hu⟩, hO⟩ := hX
  have hm : ∀ {h1 w1} {K1 : AO → AH → W3 → Prop}, MK h1 w1 K1 (aPage A (gS G (i + 1)) (gS G (i + 2))) → Cl G (d + 9) kX5_page [.ref 154, .int (gS G (i + 1)), .int (gS G (i + 2))] (setM h1 u) w1 K1 := fun hk => m_page hR hI hk
  have hl : ∀ {K1 : AO → AH → W3 → Prop}, LK h w K1 (aPage A (gS G (i + 1)) (gS G (i + 2))) → Cl G (d + 9) kL_page [.ref 0, .int (gS G (i + 1)), .int (gS G (i + 2)), .ref 160] h w K1 := fun hk => l_page hA hI hO hk
  generalize aPage A (gS G (i + 1)) (gS G (i + 2)) = r at *
  obtain ⟨hE1, hE2⟩ := hE
  refine wp_vc [1606] 95 rfl fun W' C hW hC => ?_
  conv => whnf
  repeat' (first
    | (refine ⟨i + 1, ix_add ix_nI ix_nI, ⟨by decide, (show i + 1 < gL G by omega), (show gL G < 100000 by omega)⟩, ?_⟩; conv => whnf)
    | (refine ⟨i + 2, ix_add ix_nI ix_nI, ⟨by decide, (show i + 2 < gL G by omega), (show gL G < 100000 by omega)⟩, ?_⟩; conv => whnf)
    | (refine cl_use hC (hl fun h1 w1 hA1 hU1 hO1 hF1 hw1 => ?_); have hu1 := setM_keep hu hF1; conv => whnf)
    | (refine ⟨_, _, (congrFun hu1 154).symm, ⟨_, rfl, rfl⟩, ?_⟩; conv => whnf)
    | (refine cl_use hC (n_use hu1 (hm (MK_of fun u2 h2 hR2 hu2 ht2 hF2 => ?_))); conv => whnf)
    | (refine ⟨_, _, (congrFun hu2 154).symm, ⟨_, rfl, rfl⟩, ?_⟩; conv => whnf)
    | (refine cl_use hC (n_thrown hu2 ?_); rw [ht2]; conv => whnf)
    | (obtain ⟨f9, e9, v9⟩ := hU1 (by assumption); refine ⟨_, _, (hF2 160 (by omega)).trans e9, _, ix_nI, ⟨by omega, by decide⟩, ?_⟩; rw [v9]; conv => whnf)
    | (refine And.intro (fun _ => ?_) (fun hcc => absurd lg_self hcc); conv => whnf)
    | (refine ⟨_, rfl, ?_⟩; conv => whnf)
    | (refine ⟨_, _, rfl, ⟨_, rfl, rfl⟩, ?_⟩; conv => whnf)
    | (refine ⟨_, _, rfl, ?_⟩
       with_reducible apply ix_ex
       · repeat (first | with_reducible exact ix_nI | assumption | with_reducible apply ix_add | with_reducible apply ix_mul | (with_reducible apply ix_sub) | (with_reducible apply ix_upd) | (with_reducible apply ix_div) | omega)
       (refine ⟨⟨by omega, by decide⟩, ?_⟩; conv => whnf))
    | (with_reducible apply br_le
       · repeat (first | with_reducible exact ix_nI | assumption | with_reducible apply ix_add | with_reducible apply ix_mul | (with_reducible apply ix_sub) | (with_reducible apply ix_upd) | (with_reducible apply ix_div) | omega)
       · repeat (first | with_reducible exact ix_nI | assumption | with_reducible apply ix_add | with_reducible apply ix_mul | (with_reducible apply ix_sub) | (with_reducible apply ix_upd) | (with_reducible apply ix_div) | omega)
       · omega
       · omega
       all_goals (intro hc; first | omega | (conv => whnf)))
    | (with_reducible apply br_lt
       · repeat (first | with_reducible exact ix_nI | assumption | with_reducible apply ix_add | with_reducible apply ix_mul | (with_reducible apply ix_sub) | (with_reducible apply ix_upd) | (with_reducible apply ix_div) | omega)
       · repeat (first | with_reducible exact ix_nI | assumption | with_reducible apply ix_add | with_reducible apply ix_mul | (with_reducible apply ix_sub) | (with_reducible apply ix_upd) | (with_reducible apply ix_div) | omega)
       · omega
       · omega
       all_goals (intro hc; first | omega | (conv => whnf)))
    | (with_reducible apply br_eq
       · repeat (first | with_reducible exact ix_nI | assumption | with_reducible apply ix_add | with_reducible apply ix_mul | (with_reducible apply ix_sub) | (with_reducible apply ix_upd) | (with_reducible apply ix_div) | omega)
       · repeat (first | with_reducible exact ix_nI | assumption | with_reducible apply ix_add | with_reducible apply ix_mul | (with_reducible apply ix_sub) | (with_reducible apply ix_upd) | (with_reducible apply ix_div) | omega)
       · omega
       · omega
       all_goals (intro hc; first | omega | (conv => whnf)))
    | (with_reducible apply br_ne
       · repeat (first | with_reducible exact ix_nI | assumption | with_reducible apply ix_add | with_reducible apply ix_mul | (with_reducible apply ix_sub) | (with_reducible apply ix_upd) | (with_reducible apply ix_div) | omega)
       · repeat (first | with_reducible exact ix_nI | assumption | with_reducible apply ix_add | with_reducible apply ix_mul | (with_reducible apply ix_sub) | (with_reducible apply ix_upd) | (with_reducible apply ix_div) | omega)
       · omega
       · omega
       all_goals (intro hc; first | omega | (conv => whnf)))
    | (with_reducible apply br_eq0
       · repeat (first | with_reducible exact ix_nI | assumption | with_reducible apply ix_add | with_reducible apply ix_mul | (with_reducible apply ix_sub) | (with_reducible apply ix_upd) | (with_reducible apply ix_div) | omega)
       · omega
       all_goals (intro hc; first | omega | (conv => whnf)))
    | (with_reducible apply br_ne0
       · repeat (first | with_reducible exact ix_nI | assumption | with_reducible apply ix_add | with_reducible apply ix_mul | (with_reducible apply ix_sub) | (with_reducible apply ix_upd) | (with_reducible apply ix_div) | omega)
       · omega
       all_goals (intro hc; first | omega | (conv => whnf)))
    | (with_reducible apply br_le0
       · repeat (first | with_reducible exact ix_nI | assumption | with_reducible apply ix_add | with_reducible apply ix_mul | (with_reducible apply ix_sub) | (with_reducible apply ix_upd) | (with_reducible apply ix_div) | omega)
       · omega
       all_goals (intro hc; first | omega | (conv => whnf)))
    | (with_reducible apply br_gt0
       · repeat (first | with_reducible exact ix_nI | assumption | with_reducible apply ix_add | with_reducible apply ix_mul | (with_reducible apply ix_sub) | (with_reducible apply ix_upd) | (with_reducible apply ix_div) | omega)
       · omega
       all_goals (intro hc; first | omega | (conv => whnf)))
    | (with_reducible apply br_lt0
       · repeat (first | with_reducible exact ix_nI | assumption | with_reducible apply ix_add | with_reducible apply ix_mul | (with_reducible apply ix_sub) | (with_reducible apply ix_upd) | (with_reducible apply ix_div) | omega)
       · omega
       conv => whnf)
    | (with_reducible apply br_ge0
       · repeat (first | with_reducible exact ix_nI | assumption | with_reducible apply ix_add | with_reducible apply ix_mul | (with_reducible apply ix_sub) | (with_reducible apply ix_upd) | (with_reducible apply ix_div) | omega)
       · omega
       conv => whnf)
    | (with_reducible apply br_tab
       · repeat (first | with_reducible exact ix_nI | assumption | with_reducible apply ix_add | with_reducible apply ix_mul | (with_reducible apply ix_sub) | (with_reducible apply ix_upd) | (with_reducible apply ix_div) | omega)
       · omega
       all_goals (intro hc; (try dsimp only at hc); first | omega | (conv => whnf)))
    | (refine And.intro (fun hc => ?_) (fun hc => ?_) <;> conv => whnf)
    | (refine And.intro (by decide) ?_; conv => whnf)
    | fail)
  all_goals
    refine wp_use hW ?_
    have hO2 : OA h2 := by
      obtain ⟨f9, e9⟩ := hO1
      exact ⟨f9, (hF2 160 (by omega)).trans e9⟩
    exact (hgo h2 w1 ⟨hA1.moved fun a ha => hF2 a (Or.inl ha), ⟨u2, hR2, hu2⟩, hO2⟩ hw1).le (by repeat' (first | exact trivial | refine And.intro rfl ?_))
theorem lc_data {i : Nat} (hX : LX A h) (hI : Ivz n A.1) (hi : i + 3 < gL G) (hL : gL G ≤ 2048) (hgo : ∀ h' w', LX (aData A (gS G (i + 1))).2.2 h' → (w' = w ∨ w' = XW w) → wp G (d + 10) kL_law T0 s0 K 1606 [some (.retAddr 6), some (.ref 0), some (.ref 154), some (.ref 160), some (.int (nI i)), none, none, none, none] [] h' w') : wp G (d + 10) kL_law T0 s0 K 906 [some (.retAddr 6), some (.ref 0), some (.ref 154), some (.ref 160), some (.int (nI i)), none, none, none, none] [] h w := by
  have hE : okA A (aData A (gS G (i + 1))) := ok_data.A
  obtain ⟨hA, ⟨u, hR, hu⟩, hO⟩ := hX
  have hm : ∀ {h1 w1} {K1 : AO → AH → W3 → Prop}, MK h1 w1 K1 (aData A (gS G (i + 1))) → Cl G (d + 9) kX5_data [.ref 154, .int (gS G (i + 1))] (setM h1 u) w1 K1 := fun hk => m_data hR hI hk
  have hl : ∀ {K1 : AO → AH → W3 → Prop}, LK h w K1 (aData A (gS G (i + 1))) → Cl G (d + 9) kL_data [.ref 0, .int (gS G (i + 1)), .ref 160] h w K1 := fun hk => l_data hA hI hO hk
  generalize aData A (gS G (i + 1)) = r at *
  obtain ⟨hE1, hE2⟩ := hE
  refine wp_vc [1606] 95 rfl fun W' C hW hC => ?_
  conv => whnf
  repeat' (first
    | (refine ⟨i + 1, ix_add ix_nI ix_nI, ⟨by decide, (show i + 1 < gL G by omega), (show gL G < 100000 by omega)⟩, ?_⟩; conv => whnf)
    | (refine cl_use hC (hl fun h1 w1 hA1 hU1 hO1 hF1 hw1 => ?_); have hu1 := setM_keep hu hF1; conv => whnf)
    | (refine ⟨_, _, (congrFun hu1 154).symm, ⟨_, rfl, rfl⟩, ?_⟩; conv => whnf)
    | (refine cl_use hC (n_use hu1 (hm (MK_of fun u2 h2 hR2 hu2 ht2 hF2 => ?_))); conv => whnf)
    | (refine ⟨_, _, (congrFun hu2 154).symm, ⟨_, rfl, rfl⟩, ?_⟩; conv => whnf)
    | (refine cl_use hC (n_thrown hu2 ?_); rw [ht2]; conv => whnf)
    | (obtain ⟨f9, e9, v9⟩ := hU1 (by assumption); refine ⟨_, _, (hF2 160 (by omega)).trans e9, _, ix_nI, ⟨by omega, by decide⟩, ?_⟩; rw [v9]; conv => whnf)
    | (refine And.intro (fun _ => ?_) (fun hcc => absurd lg_self hcc); conv => whnf)
    | (refine ⟨_, rfl, ?_⟩; conv => whnf)
    | (refine ⟨_, _, rfl, ⟨_, rfl, rfl⟩, ?_⟩; conv => whnf)
    | (refine ⟨_, _, rfl, ?_⟩
       with_reducible apply ix_ex
       · repeat (first | with_reducible exact ix_nI | assumption | with_reducible apply ix_add | with_reducible apply ix_mul | (with_reducible apply ix_sub) | (with_reducible apply ix_upd) | (with_reducible apply ix_div) | omega)
       (refine ⟨⟨by omega, by decide⟩, ?_⟩; conv => whnf))
    | (with_reducible apply br_le
       · repeat (first | with_reducible exact ix_nI | assumption | with_reducible apply ix_add | with_reducible apply ix_mul | (with_reducible apply ix_sub) | (with_reducible apply ix_upd) | (with_reducible apply ix_div) | omega)
       · repeat (first | with_reducible exact ix_nI | assumption | with_reducible apply ix_add | with_reducible apply ix_mul | (with_reducible apply ix_sub) | (with_reducible apply ix_upd) | (with_reducible apply ix_div) | omega)
       · omega
       · omega
       all_goals (intro hc; first | omega | (conv => whnf)))
    | (with_reducible apply br_lt
       · repeat (first | with_reducible exact ix_nI | assumption | with_reducible apply ix_add | with_reducible apply ix_mul | (with_reducible apply ix_sub) | (with_reducible apply ix_upd) | (with_reducible apply ix_div) | omega)
       · repeat (first | with_reducible exact ix_nI | assumption | with_reducible apply ix_add | with_reducible apply ix_mul | (with_reducible apply ix_sub) | (with_reducible apply ix_upd) | (with_reducible apply ix_div) | omega)
       · omega
       · omega
       all_goals (intro hc; first | omega | (conv => whnf)))
    | (with_reducible apply br_eq
       · repeat (first | with_reducible exact ix_nI | assumption | with_reducible apply ix_add | with_reducible apply ix_mul | (with_reducible apply ix_sub) | (with_reducible apply ix_upd) | (with_reducible apply ix_div) | omega)
       · repeat (first | with_reducible exact ix_nI | assumption | with_reducible apply ix_add | with_reducible apply ix_mul | (with_reducible apply ix_sub) | (with_reducible apply ix_upd) | (with_reducible apply ix_div) | omega)
       · omega
       · omega
       all_goals (intro hc; first | omega | (conv => whnf)))
    | (with_reducible apply br_ne
       · repeat (first | with_reducible exact ix_nI | assumption | with_reducible apply ix_add | with_reducible apply ix_mul | (with_reducible apply ix_sub) | (with_reducible apply ix_upd) | (with_reducible apply ix_div) | omega)
       · repeat (first | with_reducible exact ix_nI | assumption | with_reducible apply ix_add | with_reducible apply ix_mul | (with_reducible apply ix_sub) | (with_reducible apply ix_upd) | (with_reducible apply ix_div) | omega)
       · omega
       · omega
       all_goals (intro hc; first | omega | (conv => whnf)))
    | (with_reducible apply br_eq0
       · repeat (first | with_reducible exact ix_nI | assumption | with_reducible apply ix_add | with_reducible apply ix_mul | (with_reducible apply ix_sub) | (with_reducible apply ix_upd) | (with_reducible apply ix_div) | omega)
       · omega
       all_goals (intro hc; first | omega | (conv => whnf)))
    | (with_reducible apply br_ne0
       · repeat (first | with_reducible exact ix_nI | assumption | with_reducible apply ix_add | with_reducible apply ix_mul | (with_reducible apply ix_sub) | (with_reducible apply ix_upd) | (with_reducible apply ix_div) | omega)
       · omega
       all_goals (intro hc; first | omega | (conv => whnf)))
    | (with_reducible apply br_le0
       · repeat (first | with_reducible exact ix_nI | assumption | with_reducible apply ix_add | with_reducible apply ix_mul | (with_reducible apply ix_sub) | (with_reducible apply ix_upd) | (with_reducible apply ix_div) | omega)
       · omega
       all_goals (intro hc; first | omega | (conv => whnf)))
    | (with_reducible apply br_gt0
       · repeat (first | with_reducible exact ix_nI | assumption | with_reducible apply ix_add | with_reducible apply ix_mul | (with_reducible apply ix_sub) | (with_reducible apply ix_upd) | (with_reducible apply ix_div) | omega)
       · omega
       all_goals (intro hc; first | omega | (conv => whnf)))
    | (with_reducible apply br_lt0
       · repeat (first | with_reducible exact ix_nI | assumption | with_reducible apply ix_add | with_reducible apply ix_mul | (with_reducible apply ix_sub) | (with_reducible apply ix_upd) | (with_reducible apply ix_div) | omega)
       · omega
       conv => whnf)
    | (with_reducible apply br_ge0
       · repeat (first | with_reducible exact ix_nI | assumption | with_reducible apply ix_add | with_reducible apply ix_mul | (with_reducible apply ix_sub) | (with_reducible apply ix_upd) | (with_reducible apply ix_div) | omega)
       · omega
       conv => whnf)
    | (with_reducible apply br_tab
       · repeat (first | with_reducible exact ix_nI | assumption | with_reducible apply ix_add | with_reducible apply ix_mul | (with_reducible apply ix_sub) | (with_reducible apply ix_upd) | (with_reducible apply ix_div) | omega)
       · omega
       all_goals (intro hc; (try dsimp only at hc); first | omega | (conv => whnf)))
    | (refine And.intro (fun hc => ?_) (fun hc => ?_) <;> conv => whnf)
    | (refine And.intro (by decide) ?_; conv => whnf)
    | fail)
  all_goals
    refine wp_use hW ?_
    have hO2 : OA h2 := by
      obtain ⟨f9, e9⟩ := hO1
      exact ⟨f9, (hF2 160 (by omega)).trans e9⟩
    exact (hgo h2 w1 ⟨hA1.moved fun a ha => hF2 a (Or.inl ha), ⟨u2, hR2, hu2⟩, hO2⟩ hw1).le (by repeat' (first | exact trivial | refine And.intro rfl ?_))
theorem lc_cell {i : Nat} (hX : LX A h) (hI : Ivz n A.1) (hi : i + 3 < gL G) (hL : gL G ≤ 2048) (hgo : ∀ h' w', LX (aCell A (gS G (i + 1)) (gS G (i + 2)) (gS G (i + 3))).2.2 h' → (w' = w ∨ w' = XW w) → wp G (d + 10) kL_law T0 s0 K 1606 [some (.retAddr 6), some (.ref 0), some (.ref 154), some (.ref 160), some (.int (nI i)), none, none, none, none] [] h' w') : wp G (d + 10) kL_law T0 s0 K 962 [some (.retAddr 6), some (.ref 0), some (.ref 154), some (.ref 160), some (.int (nI i)), none, none, none, none] [] h w := by
  have hE : okA A (aCell A (gS G (i + 1)) (gS G (i + 2)) (gS G (i + 3))) := ok_cell
  obtain ⟨hA, ⟨u, hR, hu⟩, hO⟩ := hX
  have hm : ∀ {h1 w1} {K1 : AO → AH → W3 → Prop}, MK h1 w1 K1 (aCell A (gS G (i + 1)) (gS G (i + 2)) (gS G (i + 3))) → Cl G (d + 9) kX5_cell [.ref 154, .int (gS G (i + 1)), .int (gS G (i + 2)), .int (gS G (i + 3))] (setM h1 u) w1 K1 := fun hk => m_cell hR hI hk
  have hl : ∀ {K1 : AO → AH → W3 → Prop}, LK h w K1 (aCell A (gS G (i + 1)) (gS G (i + 2)) (gS G (i + 3))) → Cl G (d + 9) kL_cell [.ref 0, .int (gS G (i + 1)), .int (gS G (i + 2)), .int (gS G (i + 3)), .ref 160] h w K1 := fun hk => l_cell hA hI hO hk
  generalize aCell A (gS G (i + 1)) (gS G (i + 2)) (gS G (i + 3)) = r at *
  obtain ⟨hE1, hE2⟩ := hE
  refine wp_vc [1606] 95 rfl fun W' C hW hC => ?_
  conv => whnf
  repeat' (first
    | (refine ⟨i + 1, ix_add ix_nI ix_nI, ⟨by decide, (show i + 1 < gL G by omega), (show gL G < 100000 by omega)⟩, ?_⟩; conv => whnf)
    | (refine ⟨i + 2, ix_add ix_nI ix_nI, ⟨by decide, (show i + 2 < gL G by omega), (show gL G < 100000 by omega)⟩, ?_⟩; conv => whnf)
    | (refine ⟨i + 3, ix_add ix_nI ix_nI, ⟨by decide, (show i + 3 < gL G by omega), (show gL G < 100000 by omega)⟩, ?_⟩; conv => whnf)
    | (refine cl_use hC (hl fun h1 w1 hA1 hU1 hO1 hF1 hw1 => ?_); have hu1 := setM_keep hu hF1; conv => whnf)
    | (refine ⟨_, _, (congrFun hu1 154).symm, ⟨_, rfl, rfl⟩, ?_⟩; conv => whnf)
    | (refine cl_use hC (n_use hu1 (hm (MK_of fun u2 h2 hR2 hu2 ht2 hF2 => ?_))); conv => whnf)
    | (refine ⟨_, _, (congrFun hu2 154).symm, ⟨_, rfl, rfl⟩, ?_⟩; conv => whnf)
    | (refine cl_use hC (n_thrown hu2 ?_); rw [ht2]; conv => whnf)
    | (obtain ⟨f9, e9, v9⟩ := hU1 (by assumption); refine ⟨_, _, (hF2 160 (by omega)).trans e9, _, ix_nI, ⟨by omega, by decide⟩, ?_⟩; rw [v9]; conv => whnf)
    | (refine And.intro (fun _ => ?_) (fun hcc => absurd lg_self hcc); conv => whnf)
    | (refine ⟨_, rfl, ?_⟩; conv => whnf)
    | (refine ⟨_, _, rfl, ⟨_, rfl, rfl⟩, ?_⟩; conv => whnf)
    | (refine ⟨_, _, rfl, ?_⟩
       with_reducible apply ix_ex
       · repeat (first | with_reducible exact ix_nI | assumption | with_reducible apply ix_add | with_reducible apply ix_mul | (with_reducible apply ix_sub) | (with_reducible apply ix_upd) | (with_reducible apply ix_div) | omega)
       (refine ⟨⟨by omega, by decide⟩, ?_⟩; conv => whnf))
    | (with_reducible apply br_le
       · repeat (first | with_reducible exact ix_nI | assumption | with_reducible apply ix_add | with_reducible apply ix_mul | (with_reducible apply ix_sub) | (with_reducible apply ix_upd) | (with_reducible apply ix_div) | omega)
       · repeat (first | with_reducible exact ix_nI | assumption | with_reducible apply ix_add | with_reducible apply ix_mul | (with_reducible apply ix_sub) | (with_reducible apply ix_upd) | (with_reducible apply ix_div) | omega)
       · omega
       · omega
       all_goals (intro hc; first | omega | (conv => whnf)))
    | (with_reducible apply br_lt
       · repeat (first | with_reducible exact ix_nI | assumption | with_reducible apply ix_add | with_reducible apply ix_mul | (with_reducible apply ix_sub) | (with_reducible apply ix_upd) | (with_reducible apply ix_div) | omega)
       · repeat (first | with_reducible exact ix_nI | assumption | with_reducible apply ix_add | with_reducible apply ix_mul | (with_reducible apply ix_sub) | (with_reducible apply ix_upd) | (with_reducible apply ix_div) | omega)
       · omega
       · omega
       all_goals (intro hc; first | omega | (conv => whnf)))
    | (with_reducible apply br_eq
       · repeat (first | with_reducible exact ix_nI | assumption | with_reducible apply ix_add | with_reducible apply ix_mul | (with_reducible apply ix_sub) | (with_reducible apply ix_upd) | (with_reducible apply ix_div) | omega)
       · repeat (first | with_reducible exact ix_nI | assumption | with_reducible apply ix_add | with_reducible apply ix_mul | (with_reducible apply ix_sub) | (with_reducible apply ix_upd) | (with_reducible apply ix_div) | omega)
       · omega
       · omega
       all_goals (intro hc; first | omega | (conv => whnf)))
    | (with_reducible apply br_ne
       · repeat (first | with_reducible exact ix_nI | assumption | with_reducible apply ix_add | with_reducible apply ix_mul | (with_reducible apply ix_sub) | (with_reducible apply ix_upd) | (with_reducible apply ix_div) | omega)
       · repeat (first | with_reducible exact ix_nI | assumption | with_reducible apply ix_add | with_reducible apply ix_mul | (with_reducible apply ix_sub) | (with_reducible apply ix_upd) | (with_reducible apply ix_div) | omega)
       · omega
       · omega
       all_goals (intro hc; first | omega | (conv => whnf)))
    | (with_reducible apply br_eq0
       · repeat (first | with_reducible exact ix_nI | assumption | with_reducible apply ix_add | with_reducible apply ix_mul | (with_reducible apply ix_sub) | (with_reducible apply ix_upd) | (with_reducible apply ix_div) | omega)
       · omega
       all_goals (intro hc; first | omega | (conv => whnf)))
    | (with_reducible apply br_ne0
       · repeat (first | with_reducible exact ix_nI | assumption | with_reducible apply ix_add | with_reducible apply ix_mul | (with_reducible apply ix_sub) | (with_reducible apply ix_upd) | (with_reducible apply ix_div) | omega)
       · omega
       all_goals (intro hc; first | omega | (conv => whnf)))
    | (with_reducible apply br_le0
       · repeat (first | with_reducible exact ix_nI | assumption | with_reducible apply ix_add | with_reducible apply ix_mul | (with_reducible apply ix_sub) | (with_reducible apply ix_upd) | (with_reducible apply ix_div) | omega)
       · omega
       all_goals (intro hc; first | omega | (conv => whnf)))
    | (with_reducible apply br_gt0
       · repeat (first | with_reducible exact ix_nI | assumption | with_reducible apply ix_add | with_reducible apply ix_mul | (with_reducible apply ix_sub) | (with_reducible apply ix_upd) | (with_reducible apply ix_div) | omega)
       · omega
       all_goals (intro hc; first | omega | (conv => whnf)))
    | (with_reducible apply br_lt0
       · repeat (first | with_reducible exact ix_nI | assumption | with_reducible apply ix_add | with_reducible apply ix_mul | (with_reducible apply ix_sub) | (with_reducible apply ix_upd) | (with_reducible apply ix_div) | omega)
       · omega
       conv => whnf)
    | (with_reducible apply br_ge0
       · repeat (first | with_reducible exact ix_nI | assumption | with_reducible apply ix_add | with_reducible apply ix_mul | (with_reducible apply ix_sub) | (with_reducible apply ix_upd) | (with_reducible apply ix_div) | omega)
       · omega
       conv => whnf)
    | (with_reducible apply br_tab
       · repeat (first | with_reducible exact ix_nI | assumption | with_reducible apply ix_add | with_reducible apply ix_mul | (with_reducible apply ix_sub) | (with_reducible apply ix_upd) | (with_reducible apply ix_div) | omega)
       · omega
       all_goals (intro hc; (try dsimp only at hc); first | omega | (conv => whnf)))
    | (refine And.intro (fun hc => ?_) (fun hc => ?_) <;> conv => whnf)
    | (refine And.intro (by decide) ?_; conv => whnf)
    | fail)
  all_goals
    refine wp_use hW ?_
    have hO2 : OA h2 := by
      obtain ⟨f9, e9⟩ := hO1
      exact ⟨f9, (hF2 160 (by omega)).trans e9⟩
    exact (hgo h2 w1 ⟨hA1.moved fun a ha => hF2 a (Or.inl ha), ⟨u2, hR2, hu2⟩, hO2⟩ hw1).le (by repeat' (first | exact trivial | refine And.intro rfl ?_))
theorem lc_match {i : Nat} (hX : LX A h) (hI : Ivz n A.1) (hi : i + 3 < gL G) (hL : gL G ≤ 2048) (hgo : ∀ h' w', LX (aMatch A (gS G (i + 1)) (gS G (i + 2))).2.2 h' → (w' = w ∨ w' = XW w) → wp G (d + 10) kL_law T0 s0 K 1606 [some (.retAddr 6), some (.ref 0), some (.ref 154), some (.ref 160), some (.int (nI i)), none, none, none, none] [] h' w') : wp G (d + 10) kL_law T0 s0 K 1042 [some (.retAddr 6), some (.ref 0), some (.ref 154), some (.ref 160), some (.int (nI i)), none, none, none, none] [] h w := by
  have hE : okA A (aMatch A (gS G (i + 1)) (gS G (i + 2))) := ok_match
  obtain ⟨hA, ⟨u, hR, hu⟩, hO⟩ := hX
  have hm : ∀ {h1 w1} {K1 : AO → AH → W3 → Prop}, MK h1 w1 K1 (aMatch A (gS G (i + 1)) (gS G (i + 2))) → Cl G (d + 9) kX5_match [.ref 154, .int (gS G (i + 1)), .int (gS G (i + 2))] (setM h1 u) w1 K1 := fun hk => m_match hR hI hk
  have hl : ∀ {K1 : AO → AH → W3 → Prop}, LK h w K1 (aMatch A (gS G (i + 1)) (gS G (i + 2))) → Cl G (d + 9) kL_match [.ref 0, .int (gS G (i + 1)), .int (gS G (i + 2)), .ref 160] h w K1 := fun hk => l_match hA hI hO hk
  generalize aMatch A (gS G (i + 1)) (gS G (i + 2)) = r at *
  obtain ⟨hE1, hE2⟩ := hE
  refine wp_vc [1606] 95 rfl fun W' C hW hC => ?_
  conv => whnf
  repeat' (first
    | (refine ⟨i + 1, ix_add ix_nI ix_nI, ⟨by decide, (show i + 1 < gL G by omega), (show gL G < 100000 by omega)⟩, ?_⟩; conv => whnf)
    | (refine ⟨i + 2, ix_add ix_nI ix_nI, ⟨by decide, (show i + 2 < gL G by omega), (show gL G < 100000 by omega)⟩, ?_⟩; conv => whnf)
    | (refine cl_use hC (hl fun h1 w1 hA1 hU1 hO1 hF1 hw1 => ?_); have hu1 := setM_keep hu hF1; conv => whnf)
    | (refine ⟨_, _, (congrFun hu1 154).symm, ⟨_, rfl, rfl⟩, ?_⟩; conv => whnf)
    | (refine cl_use hC (n_use hu1 (hm (MK_of fun u2 h2 hR2 hu2 ht2 hF2 => ?_))); conv => whnf)
    | (refine ⟨_, _, (congrFun hu2 154).symm, ⟨_, rfl, rfl⟩, ?_⟩; conv => whnf)
    | (refine cl_use hC (n_thrown hu2 ?_); rw [ht2]; conv => whnf)
    | (obtain ⟨f9, e9, v9⟩ := hU1 (by assumption); refine ⟨_, _, (hF2 160 (by omega)).trans e9, _, ix_nI, ⟨by omega, by decide⟩, ?_⟩; rw [v9]; conv => whnf)
    | (refine And.intro (fun _ => ?_) (fun hcc => absurd lg_self hcc); conv => whnf)
    | (refine ⟨_, rfl, ?_⟩; conv => whnf)
    | (refine ⟨_, _, rfl, ⟨_, rfl, rfl⟩, ?_⟩; conv => whnf)
    | (refine ⟨_, _, rfl, ?_⟩
       with_reducible apply ix_ex
       · repeat (first | with_reducible exact ix_nI | assumption | with_reducible apply ix_add | with_reducible apply ix_mul | (with_reducible apply ix_sub) | (with_reducible apply ix_upd) | (with_reducible apply ix_div) | omega)
       (refine ⟨⟨by omega, by decide⟩, ?_⟩; conv => whnf))
    | (with_reducible apply br_le
       · repeat (first | with_reducible exact ix_nI | assumption | with_reducible apply ix_add | with_reducible apply ix_mul | (with_reducible apply ix_sub) | (with_reducible apply ix_upd) | (with_reducible apply ix_div) | omega)
       · repeat (first | with_reducible exact ix_nI | assumption | with_reducible apply ix_add | with_reducible apply ix_mul | (with_reducible apply ix_sub) | (with_reducible apply ix_upd) | (with_reducible apply ix_div) | omega)
       · omega
       · omega
       all_goals (intro hc; first | omega | (conv => whnf)))
    | (with_reducible apply br_lt
       · repeat (first | with_reducible exact ix_nI | assumption | with_reducible apply ix_add | with_reducible apply ix_mul | (with_reducible apply ix_sub) | (with_reducible apply ix_upd) | (with_reducible apply ix_div) | omega)
       · repeat (first | with_reducible exact ix_nI | assumption | with_reducible apply ix_add | with_reducible apply ix_mul | (with_reducible apply ix_sub) | (with_reducible apply ix_upd) | (with_reducible apply ix_div) | omega)
       · omega
       · omega
       all_goals (intro hc; first | omega | (conv => whnf)))
    | (with_reducible apply br_eq
       · repeat (first | with_reducible exact ix_nI | assumption | with_reducible apply ix_add | with_reducible apply ix_mul | (with_reducible apply ix_sub) | (with_reducible apply ix_upd) | (with_reducible apply ix_div) | omega)
       · repeat (first | with_reducible exact ix_nI | assumption | with_reducible apply ix_add | with_reducible apply ix_mul | (with_reducible apply ix_sub) | (with_reducible apply ix_upd) | (with_reducible apply ix_div) | omega)
       · omega
       · omega
       all_goals (intro hc; first | omega | (conv => whnf)))
    | (with_reducible apply br_ne
       · repeat (first | with_reducible exact ix_nI | assumption | with_reducible apply ix_add | with_reducible apply ix_mul | (with_reducible apply ix_sub) | (with_reducible apply ix_upd) | (with_reducible apply ix_div) | omega)
       · repeat (first | with_reducible exact ix_nI | assumption | with_reducible apply ix_add | with_reducible apply ix_mul | (with_reducible apply ix_sub) | (with_reducible apply ix_upd) | (with_reducible apply ix_div) | omega)
       · omega
       · omega
       all_goals (intro hc; first | omega | (conv => whnf)))
    | (with_reducible apply br_eq0
       · repeat (first | with_reducible exact ix_nI | assumption | with_reducible apply ix_add | with_reducible apply ix_mul | (with_reducible apply ix_sub) | (with_reducible apply ix_upd) | (with_reducible apply ix_div) | omega)
       · omega
       all_goals (intro hc; first | omega | (conv => whnf)))
    | (with_reducible apply br_ne0
       · repeat (first | with_reducible exact ix_nI | assumption | with_reducible apply ix_add | with_reducible apply ix_mul | (with_reducible apply ix_sub) | (with_reducible apply ix_upd) | (with_reducible apply ix_div) | omega)
       · omega
       all_goals (intro hc; first | omega | (conv => whnf)))
    | (with_reducible apply br_le0
       · repeat (first | with_reducible exact ix_nI | assumption | with_reducible apply ix_add | with_reducible apply ix_mul | (with_reducible apply ix_sub) | (with_reducible apply ix_upd) | (with_reducible apply ix_div) | omega)
       · omega
       all_goals (intro hc; first | omega | (conv => whnf)))
    | (with_reducible apply br_gt0
       · repeat (first | with_reducible exact ix_nI | assumption | with_reducible apply ix_add | with_reducible apply ix_mul | (with_reducible apply ix_sub) | (with_reducible apply ix_upd) | (with_reducible apply ix_div) | omega)
       · omega
       all_goals (intro hc; first | omega | (conv => whnf)))
    | (with_reducible apply br_lt0
       · repeat (first | with_reducible exact ix_nI | assumption | with_reducible apply ix_add | with_reducible apply ix_mul | (with_reducible apply ix_sub) | (with_reducible apply ix_upd) | (with_reducible apply ix_div) | omega)
       · omega
       conv => whnf)
    | (with_reducible apply br_ge0
       · repeat (first | with_reducible exact ix_nI | assumption | with_reducible apply ix_add | with_reducible apply ix_mul | (with_reducible apply ix_sub) | (with_reducible apply ix_upd) | (with_reducible apply ix_div) | omega)
       · omega
       conv => whnf)
    | (with_reducible apply br_tab
       · repeat (first | with_reducible exact ix_nI | assumption | with_reducible apply ix_add | with_reducible apply ix_mul | (with_reducible apply ix_sub) | (with_reducible apply ix_upd) | (with_reducible apply ix_div) | omega)
       · omega
       all_goals (intro hc; (try dsimp only at hc); first | omega | (conv => whnf)))
    | (refine And.intro (fun hc => ?_) (fun hc => ?_) <;> conv => whnf)
    | (refine And.intro (by decide) ?_; conv => whnf)
    | fail)
  all_goals
    refine wp_use hW ?_
    have hO2 : OA h2 := by
      obtain ⟨f9, e9⟩ := hO1
      exact ⟨f9, (hF2 160 (by omega)).trans e9⟩
    exact (hgo h2 w1 ⟨hA1.moved fun a ha => hF2 a (Or.inl ha), ⟨u2, hR2, hu2⟩, hO2⟩ hw1).le (by repeat' (first | exact trivial | refine And.intro rfl ?_))
theorem lc_count {i : Nat} (hX : LX A h) (hI : Ivz n A.1) (hi : i + 3 < gL G) (hL : gL G ≤ 2048) (hgo : ∀ h' w', LX (aCount A (gS G (i + 1))).2.2 h' → (w' = w ∨ w' = XW w) → wp G (d + 10) kL_law T0 s0 K 1606 [some (.retAddr 6), some (.ref 0), some (.ref 154), some (.ref 160), some (.int (nI i)), none, none, none, none] [] h' w') : wp G (d + 10) kL_law T0 s0 K 1110 [some (.retAddr 6), some (.ref 0), some (.ref 154), some (.ref 160), some (.int (nI i)), none, none, none, none] [] h w := by
  have hE : okA A (aCount A (gS G (i + 1))) := ok_count.A
  obtain ⟨hA, ⟨u, hR, hu⟩, hO⟩ := hX
  have hm : ∀ {h1 w1} {K1 : AO → AH → W3 → Prop}, MK h1 w1 K1 (aCount A (gS G (i + 1))) → Cl G (d + 9) kX5_count [.ref 154, .int (gS G (i + 1))] (setM h1 u) w1 K1 := fun hk => m_count hR hI hk
  have hl : ∀ {K1 : AO → AH → W3 → Prop}, LK h w K1 (aCount A (gS G (i + 1))) → Cl G (d + 9) kL_count [.ref 0, .int (gS G (i + 1)), .ref 160] h w K1 := fun hk => l_count hA hI hO hk
  generalize aCount A (gS G (i + 1)) = r at *
  obtain ⟨hE1, hE2⟩ := hE
  refine wp_vc [1606] 95 rfl fun W' C hW hC => ?_
  conv => whnf
  repeat' (first
    | (refine ⟨i + 1, ix_add ix_nI ix_nI, ⟨by decide, (show i + 1 < gL G by omega), (show gL G < 100000 by omega)⟩, ?_⟩; conv => whnf)
    | (refine cl_use hC (hl fun h1 w1 hA1 hU1 hO1 hF1 hw1 => ?_); have hu1 := setM_keep hu hF1; conv => whnf)
    | (refine ⟨_, _, (congrFun hu1 154).symm, ⟨_, rfl, rfl⟩, ?_⟩; conv => whnf)
    | (refine cl_use hC (n_use hu1 (hm (MK_of fun u2 h2 hR2 hu2 ht2 hF2 => ?_))); conv => whnf)
    | (refine ⟨_, _, (congrFun hu2 154).symm, ⟨_, rfl, rfl⟩, ?_⟩; conv => whnf)
    | (refine cl_use hC (n_thrown hu2 ?_); rw [ht2]; conv => whnf)
    | (obtain ⟨f9, e9, v9⟩ := hU1 (by assumption); refine ⟨_, _, (hF2 160 (by omega)).trans e9, _, ix_nI, ⟨by omega, by decide⟩, ?_⟩; rw [v9]; conv => whnf)
    | (refine And.intro (fun _ => ?_) (fun hcc => absurd lg_self hcc); conv => whnf)
    | (refine ⟨_, rfl, ?_⟩; conv => whnf)
    | (refine ⟨_, _, rfl, ⟨_, rfl, rfl⟩, ?_⟩; conv => whnf)
    | (refine ⟨_, _, rfl, ?_⟩
       with_reducible apply ix_ex
       · repeat (first | with_reducible exact ix_nI | assumption | with_reducible apply ix_add | with_reducible apply ix_mul | (with_reducible apply ix_sub) | (with_reducible apply ix_upd) | (with_reducible apply ix_div) | omega)
       (refine ⟨⟨by omega, by decide⟩, ?_⟩; conv => whnf))
    | (with_reducible apply br_le
       · repeat (first | with_reducible exact ix_nI | assumption | with_reducible apply ix_add | with_reducible apply ix_mul | (with_reducible apply ix_sub) | (with_reducible apply ix_upd) | (with_reducible apply ix_div) | omega)
       · repeat (first | with_reducible exact ix_nI | assumption | with_reducible apply ix_add | with_reducible apply ix_mul | (with_reducible apply ix_sub) | (with_reducible apply ix_upd) | (with_reducible apply ix_div) | omega)
       · omega
       · omega
       all_goals (intro hc; first | omega | (conv => whnf)))
    | (with_reducible apply br_lt
       · repeat (first | with_reducible exact ix_nI | assumption | with_reducible apply ix_add | with_reducible apply ix_mul | (with_reducible apply ix_sub) | (with_reducible apply ix_upd) | (with_reducible apply ix_div) | omega)
       · repeat (first | with_reducible exact ix_nI | assumption | with_reducible apply ix_add | with_reducible apply ix_mul | (with_reducible apply ix_sub) | (with_reducible apply ix_upd) | (with_reducible apply ix_div) | omega)
       · omega
       · omega
       all_goals (intro hc; first | omega | (conv => whnf)))
    | (with_reducible apply br_eq
       · repeat (first | with_reducible exact ix_nI | assumption | with_reducible apply ix_add | with_reducible apply ix_mul | (with_reducible apply ix_sub) | (with_reducible apply ix_upd) | (with_reducible apply ix_div) | omega)
       · repeat (first | with_reducible exact ix_nI | assumption | with_reducible apply ix_add | with_reducible apply ix_mul | (with_reducible apply ix_sub) | (with_reducible apply ix_upd) | (with_reducible apply ix_div) | omega)
       · omega
       · omega
       all_goals (intro hc; first | omega | (conv => whnf)))
    | (with_reducible apply br_ne
       · repeat (first | with_reducible exact ix_nI | assumption | with_reducible apply ix_add | with_reducible apply ix_mul | (with_reducible apply ix_sub) | (with_reducible apply ix_upd) | (with_reducible apply ix_div) | omega)
       · repeat (first | with_reducible exact ix_nI | assumption | with_reducible apply ix_add | with_reducible apply ix_mul | (with_reducible apply ix_sub) | (with_reducible apply ix_upd) | (with_reducible apply ix_div) | omega)
       · omega
       · omega
       all_goals (intro hc; first | omega | (conv => whnf)))
    | (with_reducible apply br_eq0
       · repeat (first | with_reducible exact ix_nI | assumption | with_reducible apply ix_add | with_reducible apply ix_mul | (with_reducible apply ix_sub) | (with_reducible apply ix_upd) | (with_reducible apply ix_div) | omega)
       · omega
       all_goals (intro hc; first | omega | (conv => whnf)))
    | (with_reducible apply br_ne0
       · repeat (first | with_reducible exact ix_nI | assumption | with_reducible apply ix_add | with_reducible apply ix_mul | (with_reducible apply ix_sub) | (with_reducible apply ix_upd) | (with_reducible apply ix_div) | omega)
       · omega
       all_goals (intro hc; first | omega | (conv => whnf)))
    | (with_reducible apply br_le0
       · repeat (first | with_reducible exact ix_nI | assumption | with_reducible apply ix_add | with_reducible apply ix_mul | (with_reducible apply ix_sub) | (with_reducible apply ix_upd) | (with_reducible apply ix_div) | omega)
       · omega
       all_goals (intro hc; first | omega | (conv => whnf)))
    | (with_reducible apply br_gt0
       · repeat (first | with_reducible exact ix_nI | assumption | with_reducible apply ix_add | with_reducible apply ix_mul | (with_reducible apply ix_sub) | (with_reducible apply ix_upd) | (with_reducible apply ix_div) | omega)
       · omega
       all_goals (intro hc; first | omega | (conv => whnf)))
    | (with_reducible apply br_lt0
       · repeat (first | with_reducible exact ix_nI | assumption | with_reducible apply ix_add | with_reducible apply ix_mul | (with_reducible apply ix_sub) | (with_reducible apply ix_upd) | (with_reducible apply ix_div) | omega)
       · omega
       conv => whnf)
    | (with_reducible apply br_ge0
       · repeat (first | with_reducible exact ix_nI | assumption | with_reducible apply ix_add | with_reducible apply ix_mul | (with_reducible apply ix_sub) | (with_reducible apply ix_upd) | (with_reducible apply ix_div) | omega)
       · omega
       conv => whnf)
    | (with_reducible apply br_tab
       · repeat (first | with_reducible exact ix_nI | assumption | with_reducible apply ix_add | with_reducible apply ix_mul | (with_reducible apply ix_sub) | (with_reducible apply ix_upd) | (with_reducible apply ix_div) | omega)
       · omega
       all_goals (intro hc; (try dsimp only at hc); first | omega | (conv => whnf)))
    | (refine And.intro (fun hc => ?_) (fun hc => ?_) <;> conv => whnf)
    | (refine And.intro (by decide) ?_; conv => whnf)
    | fail)
  all_goals
    refine wp_use hW ?_
    have hO2 : OA h2 := by
      obtain ⟨f9, e9⟩ := hO1
      exact ⟨f9, (hF2 160 (by omega)).trans e9⟩
    exact (hgo h2 w1 ⟨hA1.moved fun a ha => hF2 a (Or.inl ha), ⟨u2, hR2, hu2⟩, hO2⟩ hw1).le (by repeat' (first | exact trivial | refine And.intro rfl ?_))
theorem lc_setting {i : Nat} (hX : LX A h) (hI : Ivz n A.1) (hi : i + 3 < gL G) (hL : gL G ≤ 2048) (hgo : ∀ h' w', LX (aSetting A (gS G (i + 1))).2.2 h' → (w' = w ∨ w' = XW w) → wp G (d + 10) kL_law T0 s0 K 1606 [some (.retAddr 6), some (.ref 0), some (.ref 154), some (.ref 160), some (.int (nI i)), none, none, none, none] [] h' w') : wp G (d + 10) kL_law T0 s0 K 1166 [some (.retAddr 6), some (.ref 0), some (.ref 154), some (.ref 160), some (.int (nI i)), none, none, none, none] [] h w := by
  have hE : okA A (aSetting A (gS G (i + 1))) := ok_setting.A
  obtain ⟨hA, ⟨u, hR, hu⟩, hO⟩ := hX
  have hm : ∀ {h1 w1} {K1 : AO → AH → W3 → Prop}, MK h1 w1 K1 (aSetting A (gS G (i + 1))) → Cl G (d + 9) kX5_setting [.ref 154, .int (gS G (i + 1))] (setM h1 u) w1 K1 := fun hk => m_setting hR hI hk
  have hl : ∀ {K1 : AO → AH → W3 → Prop}, LK h w K1 (aSetting A (gS G (i + 1))) → Cl G (d + 9) kL_setting [.ref 0, .int (gS G (i + 1)), .ref 160] h w K1 := fun hk => l_setting hA hI hO hk
  generalize aSetting A (gS G (i + 1)) = r at *
  obtain ⟨hE1, hE2⟩ := hE
  refine wp_vc [1606] 95 rfl fun W' C hW hC => ?_
  conv => whnf
  repeat' (first
    | (refine ⟨i + 1, ix_add ix_nI ix_nI, ⟨by decide, (show i + 1 < gL G by omega), (show gL G < 100000 by omega)⟩, ?_⟩; conv => whnf)
    | (refine cl_use hC (hl fun h1 w1 hA1 hU1 hO1 hF1 hw1 => ?_); have hu1 := setM_keep hu hF1; conv => whnf)
    | (refine ⟨_, _, (congrFun hu1 154).symm, ⟨_, rfl, rfl⟩, ?_⟩; conv => whnf)
    | (refine cl_use hC (n_use hu1 (hm (MK_of fun u2 h2 hR2 hu2 ht2 hF2 => ?_))); conv => whnf)
    | (refine ⟨_, _, (congrFun hu2 154).symm, ⟨_, rfl, rfl⟩, ?_⟩; conv => whnf)
    | (refine cl_use hC (n_thrown hu2 ?_); rw [ht2]; conv => whnf)
    | (obtain ⟨f9, e9, v9⟩ := hU1 (by assumption); refine ⟨_, _, (hF2 160 (by omega)).trans e9, _, ix_nI, ⟨by omega, by decide⟩, ?_⟩; rw [v9]; conv => whnf)
    | (refine And.intro (fun _ => ?_) (fun hcc => absurd lg_self hcc); conv => whnf)
    | (refine ⟨_, rfl, ?_⟩; conv => whnf)
    | (refine ⟨_, _, rfl, ⟨_, rfl, rfl⟩, ?_⟩; conv => whnf)
    | (refine ⟨_, _, rfl, ?_⟩
       with_reducible apply ix_ex
       · repeat (first | with_reducible exact ix_nI | assumption | with_reducible apply ix_add | with_reducible apply ix_mul | (with_reducible apply ix_sub) | (with_reducible apply ix_upd) | (with_reducible apply ix_div) | omega)
       (refine ⟨⟨by omega, by decide⟩, ?_⟩; conv => whnf))
    | (with_reducible apply br_le
       · repeat (first | with_reducible exact ix_nI | assumption | with_reducible apply ix_add | with_reducible apply ix_mul | (with_reducible apply ix_sub) | (with_reducible apply ix_upd) | (with_reducible apply ix_div) | omega)
       · repeat (first | with_reducible exact ix_nI | assumption | with_reducible apply ix_add | with_reducible apply ix_mul | (with_reducible apply ix_sub) | (with_reducible apply ix_upd) | (with_reducible apply ix_div) | omega)
       · omega
       · omega
       all_goals (intro hc; first | omega | (conv => whnf)))
    | (with_reducible apply br_lt
       · repeat (first | with_reducible exact ix_nI | assumption | with_reducible apply ix_add | with_reducible apply ix_mul | (with_reducible apply ix_sub) | (with_reducible apply ix_upd) | (with_reducible apply ix_div) | omega)
       · repeat (first | with_reducible exact ix_nI | assumption | with_reducible apply ix_add | with_reducible apply ix_mul | (with_reducible apply ix_sub) | (with_reducible apply ix_upd) | (with_reducible apply ix_div) | omega)
       · omega
       · omega
       all_goals (intro hc; first | omega | (conv => whnf)))
    | (with_reducible apply br_eq
       · repeat (first | with_reducible exact ix_nI | assumption | with_reducible apply ix_add | with_reducible apply ix_mul | (with_reducible apply ix_sub) | (with_reducible apply ix_upd) | (with_reducible apply ix_div) | omega)
       · repeat (first | with_reducible exact ix_nI | assumption | with_reducible apply ix_add | with_reducible apply ix_mul | (with_reducible apply ix_sub) | (with_reducible apply ix_upd) | (with_reducible apply ix_div) | omega)
       · omega
       · omega
       all_goals (intro hc; first | omega | (conv => whnf)))
    | (with_reducible apply br_ne
       · repeat (first | with_reducible exact ix_nI | assumption | with_reducible apply ix_add | with_reducible apply ix_mul | (with_reducible apply ix_sub) | (with_reducible apply ix_upd) | (with_reducible apply ix_div) | omega)
       · repeat (first | with_reducible exact ix_nI | assumption | with_reducible apply ix_add | with_reducible apply ix_mul | (with_reducible apply ix_sub) | (with_reducible apply ix_upd) | (with_reducible apply ix_div) | omega)
       · omega
       · omega
       all_goals (intro hc; first | omega | (conv => whnf)))
    | (with_reducible apply br_eq0
       · repeat (first | with_reducible exact ix_nI | assumption | with_reducible apply ix_add | with_reducible apply ix_mul | (with_reducible apply ix_sub) | (with_reducible apply ix_upd) | (with_reducible apply ix_div) | omega)
       · omega
       all_goals (intro hc; first | omega | (conv => whnf)))
    | (with_reducible apply br_ne0
       · repeat (first | with_reducible exact ix_nI | assumption | with_reducible apply ix_add | with_reducible apply ix_mul | (with_reducible apply ix_sub) | (with_reducible apply ix_upd) | (with_reducible apply ix_div) | omega)
       · omega
       all_goals (intro hc; first | omega | (conv => whnf)))
    | (with_reducible apply br_le0
       · repeat (first | with_reducible exact ix_nI | assumption | with_reducible apply ix_add | with_reducible apply ix_mul | (with_reducible apply ix_sub) | (with_reducible apply ix_upd) | (with_reducible apply ix_div) | omega)
       · omega
       all_goals (intro hc; first | omega | (conv => whnf)))
    | (with_reducible apply br_gt0
       · repeat (first | with_reducible exact ix_nI | assumption | with_reducible apply ix_add | with_reducible apply ix_mul | (with_reducible apply ix_sub) | (with_reducible apply ix_upd) | (with_reducible apply ix_div) | omega)
       · omega
       all_goals (intro hc; first | omega | (conv => whnf)))
    | (with_reducible apply br_lt0
       · repeat (first | with_reducible exact ix_nI | assumption | with_reducible apply ix_add | with_reducible apply ix_mul | (with_reducible apply ix_sub) | (with_reducible apply ix_upd) | (with_reducible apply ix_div) | omega)
       · omega
       conv => whnf)
    | (with_reducible apply br_ge0
       · repeat (first | with_reducible exact ix_nI | assumption | with_reducible apply ix_add | with_reducible apply ix_mul | (with_reducible apply ix_sub) | (with_reducible apply ix_upd) | (with_reducible apply ix_div) | omega)
       · omega
       conv => whnf)
    | (with_reducible apply br_tab
       · repeat (first | with_reducible exact ix_nI | assumption | with_reducible apply ix_add | with_reducible apply ix_mul | (with_reducible apply ix_sub) | (with_reducible apply ix_upd) | (with_reducible apply ix_div) | omega)
       · omega
       all_goals (intro hc; (try dsimp only at hc); first | omega | (conv => whnf)))
    | (refine And.intro (fun hc => ?_) (fun hc => ?_) <;> conv => whnf)
    | (refine And.intro (by decide) ?_; conv => whnf)
    | fail)
  all_goals
    refine wp_use hW ?_
    have hO2 : OA h2 := by
      obtain ⟨f9, e9⟩ := hO1
      exact ⟨f9, (hF2 160 (by omega)).trans e9⟩
    exact (hgo h2 w1 ⟨hA1.moved fun a ha => hF2 a (Or.inl ha), ⟨u2, hR2, hu2⟩, hO2⟩ hw1).le (by repeat' (first | exact trivial | refine And.intro rfl ?_))
theorem lc_wrong {i : Nat} (hX : LX A h) (hI : Ivz n A.1) (hi : i + 3 < gL G) (hL : gL G ≤ 2048) (hgo : ∀ h' w', LX (aWrong A (gS G (i + 1)) (gS G (i + 2))).2.2 h' → (w' = w ∨ w' = XW w) → wp G (d + 10) kL_law T0 s0 K 1606 [some (.retAddr 6), some (.ref 0), some (.ref 154), some (.ref 160), some (.int (nI i)), none, none, none, none] [] h' w') : wp G (d + 10) kL_law T0 s0 K 1222 [some (.retAddr 6), some (.ref 0), some (.ref 154), some (.ref 160), some (.int (nI i)), none, none, none, none] [] h w := by
  have hE : okA A (aWrong A (gS G (i + 1)) (gS G (i + 2))) := ok_wrong.A
  obtain ⟨hA, ⟨u, hR, hu⟩, hO⟩ := hX
  have hm : ∀ {h1 w1} {K1 : AO → AH → W3 → Prop}, MK h1 w1 K1 (aWrong A (gS G (i + 1)) (gS G (i + 2))) → Cl G (d + 9) kX5_wrong [.ref 154, .int (gS G (i + 1)), .int (gS G (i + 2))] (setM h1 u) w1 K1 := fun hk => m_wrong hR hI hk
  have hl : ∀ {K1 : AO → AH → W3 → Prop}, LK h w K1 (aWrong A (gS G (i + 1)) (gS G (i + 2))) → Cl G (d + 9) kL_wrong [.ref 0, .int (gS G (i + 1)), .int (gS G (i + 2)), .ref 160] h w K1 := fun hk => l_wrong hA hI hO hk
  generalize aWrong A (gS G (i + 1)) (gS G (i + 2)) = r at *
  obtain ⟨hE1, hE2⟩ := hE
  refine wp_vc [1606] 95 rfl fun W' C hW hC => ?_
  conv => whnf
  repeat' (first
    | (refine ⟨i + 1, ix_add ix_nI ix_nI, ⟨by decide, (show i + 1 < gL G by omega), (show gL G < 100000 by omega)⟩, ?_⟩; conv => whnf)
    | (refine ⟨i + 2, ix_add ix_nI ix_nI, ⟨by decide, (show i + 2 < gL G by omega), (show gL G < 100000 by omega)⟩, ?_⟩; conv => whnf)
    | (refine cl_use hC (hl fun h1 w1 hA1 hU1 hO1 hF1 hw1 => ?_); have hu1 := setM_keep hu hF1; conv => whnf)
    | (refine ⟨_, _, (congrFun hu1 154).symm, ⟨_, rfl, rfl⟩, ?_⟩; conv => whnf)
    | (refine cl_use hC (n_use hu1 (hm (MK_of fun u2 h2 hR2 hu2 ht2 hF2 => ?_))); conv => whnf)
    | (refine ⟨_, _, (congrFun hu2 154).symm, ⟨_, rfl, rfl⟩, ?_⟩; conv => whnf)
    | (refine cl_use hC (n_thrown hu2 ?_); rw [ht2]; conv => whnf)
    | (obtain ⟨f9, e9, v9⟩ := hU1 (by assumption); refine ⟨_, _, (hF2 160 (by omega)).trans e9, _, ix_nI, ⟨by omega, by decide⟩, ?_⟩; rw [v9]; conv => whnf)
    | (refine And.intro (fun _ => ?_) (fun hcc => absurd lg_self hcc); conv => whnf)
    | (refine ⟨_, rfl, ?_⟩; conv => whnf)
    | (refine ⟨_, _, rfl, ⟨_, rfl, rfl⟩, ?_⟩; conv => whnf)
    | (refine ⟨_, _, rfl, ?_⟩
       with_reducible apply ix_ex
       · repeat (first | with_reducible exact ix_nI | assumption | with_reducible apply ix_add | with_reducible apply ix_mul | (with_reducible apply ix_sub) | (with_reducible apply ix_upd) | (with_reducible apply ix_div) | omega)
       (refine ⟨⟨by omega, by decide⟩, ?_⟩; conv => whnf))
    | (with_reducible apply br_le
       · repeat (first | with_reducible exact ix_nI | assumption | with_reducible apply ix_add | with_reducible apply ix_mul | (with_reducible apply ix_sub) | (with_reducible apply ix_upd) | (with_reducible apply ix_div) | omega)
       · repeat (first | with_reducible exact ix_nI | assumption | with_reducible apply ix_add | with_reducible apply ix_mul | (with_reducible apply ix_sub) | (with_reducible apply ix_upd) | (with_reducible apply ix_div) | omega)
       · omega
       · omega
       all_goals (intro hc; first | omega | (conv => whnf)))
    | (with_reducible apply br_lt
       · repeat (first | with_reducible exact ix_nI | assumption | with_reducible apply ix_add | with_reducible apply ix_mul | (with_reducible apply ix_sub) | (with_reducible apply ix_upd) | (with_reducible apply ix_div) | omega)
       · repeat (first | with_reducible exact ix_nI | assumption | with_reducible apply ix_add | with_reducible apply ix_mul | (with_reducible apply ix_sub) | (with_reducible apply ix_upd) | (with_reducible apply ix_div) | omega)
       · omega
       · omega
       all_goals (intro hc; first | omega | (conv => whnf)))
    | (with_reducible apply br_eq
       · repeat (first | with_reducible exact ix_nI | assumption | with_reducible apply ix_add | with_reducible apply ix_mul | (with_reducible apply ix_sub) | (with_reducible apply ix_upd) | (with_reducible apply ix_div) | omega)
       · repeat (first | with_reducible exact ix_nI | assumption | with_reducible apply ix_add | with_reducible apply ix_mul | (with_reducible apply ix_sub) | (with_reducible apply ix_upd) | (with_reducible apply ix_div) | omega)
       · omega
       · omega
       all_goals (intro hc; first | omega | (conv => whnf)))
    | (with_reducible apply br_ne
       · repeat (first | with_reducible exact ix_nI | assumption | with_reducible apply ix_add | with_reducible apply ix_mul | (with_reducible apply ix_sub) | (with_reducible apply ix_upd) | (with_reducible apply ix_div) | omega)
       · repeat (first | with_reducible exact ix_nI | assumption | with_reducible apply ix_add | with_reducible apply ix_mul | (with_reducible apply ix_sub) | (with_reducible apply ix_upd) | (with_reducible apply ix_div) | omega)
       · omega
       · omega
       all_goals (intro hc; first | omega | (conv => whnf)))
    | (with_reducible apply br_eq0
       · repeat (first | with_reducible exact ix_nI | assumption | with_reducible apply ix_add | with_reducible apply ix_mul | (with_reducible apply ix_sub) | (with_reducible apply ix_upd) | (with_reducible apply ix_div) | omega)
       · omega
       all_goals (intro hc; first | omega | (conv => whnf)))
    | (with_reducible apply br_ne0
       · repeat (first | with_reducible exact ix_nI | assumption | with_reducible apply ix_add | with_reducible apply ix_mul | (with_reducible apply ix_sub) | (with_reducible apply ix_upd) | (with_reducible apply ix_div) | omega)
       · omega
       all_goals (intro hc; first | omega | (conv => whnf)))
    | (with_reducible apply br_le0
       · repeat (first | with_reducible exact ix_nI | assumption | with_reducible apply ix_add | with_reducible apply ix_mul | (with_reducible apply ix_sub) | (with_reducible apply ix_upd) | (with_reducible apply ix_div) | omega)
       · omega
       all_goals (intro hc; first | omega | (conv => whnf)))
    | (with_reducible apply br_gt0
       · repeat (first | with_reducible exact ix_nI | assumption | with_reducible apply ix_add | with_reducible apply ix_mul | (with_reducible apply ix_sub) | (with_reducible apply ix_upd) | (with_reducible apply ix_div) | omega)
       · omega
       all_goals (intro hc; first | omega | (conv => whnf)))
    | (with_reducible apply br_lt0
       · repeat (first | with_reducible exact ix_nI | assumption | with_reducible apply ix_add | with_reducible apply ix_mul | (with_reducible apply ix_sub) | (with_reducible apply ix_upd) | (with_reducible apply ix_div) | omega)
       · omega
       conv => whnf)
    | (with_reducible apply br_ge0
       · repeat (first | with_reducible exact ix_nI | assumption | with_reducible apply ix_add | with_reducible apply ix_mul | (with_reducible apply ix_sub) | (with_reducible apply ix_upd) | (with_reducible apply ix_div) | omega)
       · omega
       conv => whnf)
    | (with_reducible apply br_tab
       · repeat (first | with_reducible exact ix_nI | assumption | with_reducible apply ix_add | with_reducible apply ix_mul | (with_reducible apply ix_sub) | (with_reducible apply ix_upd) | (with_reducible apply ix_div) | omega)
       · omega
       all_goals (intro hc; (try dsimp only at hc); first | omega | (conv => whnf)))
    | (refine And.intro (fun hc => ?_) (fun hc => ?_) <;> conv => whnf)
    | (refine And.intro (by decide) ?_; conv => whnf)
    | fail)
  all_goals
    refine wp_use hW ?_
    have hO2 : OA h2 := by
      obtain ⟨f9, e9⟩ := hO1
      exact ⟨f9, (hF2 160 (by omega)).trans e9⟩
    exact (hgo h2 w1 ⟨hA1.moved fun a ha => hF2 a (Or.inl ha), ⟨u2, hR2, hu2⟩, hO2⟩ hw1).le (by repeat' (first | exact trivial | refine And.intro rfl ?_))
theorem lc_ifRead {i : Nat} (hX : LX A h) (hI : Ivz n A.1) (hi : i + 3 < gL G) (hL : gL G ≤ 2048) (hgo : ∀ h' w', LX (aIfRead A (gS G (i + 1)) (gS G (i + 2))).2.2 h' → (w' = w ∨ w' = XW w) → wp G (d + 10) kL_law T0 s0 K 1606 [some (.retAddr 6), some (.ref 0), some (.ref 154), some (.ref 160), some (.int (nI i)), none, none, none, none] [] h' w') : wp G (d + 10) kL_law T0 s0 K 1290 [some (.retAddr 6), some (.ref 0), some (.ref 154), some (.ref 160), some (.int (nI i)), none, none, none, none] [] h w := by
  have hE : okA A (aIfRead A (gS G (i + 1)) (gS G (i + 2))) := ok_ifRead
  obtain ⟨hA, ⟨u, hR, hu⟩, hO⟩ := hX
  have hm : ∀ {h1 w1} {K1 : AO → AH → W3 → Prop}, MK h1 w1 K1 (aIfRead A (gS G (i + 1)) (gS G (i + 2))) → Cl G (d + 9) kX5_ifRead [.ref 154, .int (gS G (i + 1)), .int (gS G (i + 2))] (setM h1 u) w1 K1 := fun hk => m_ifRead hR hI hk
  have hl : ∀ {K1 : AO → AH → W3 → Prop}, LK h w K1 (aIfRead A (gS G (i + 1)) (gS G (i + 2))) → Cl G (d + 9) kL_ifRead [.ref 0, .int (gS G (i + 1)), .int (gS G (i + 2)), .ref 160] h w K1 := fun hk => l_ifRead hA hI hO hk
  generalize aIfRead A (gS G (i + 1)) (gS G (i + 2)) = r at *
  obtain ⟨hE1, hE2⟩ := hE
  refine wp_vc [1606] 95 rfl fun W' C hW hC => ?_
  conv => whnf
  repeat' (first
    | (refine ⟨i + 1, ix_add ix_nI ix_nI, ⟨by decide, (show i + 1 < gL G by omega), (show gL G < 100000 by omega)⟩, ?_⟩; conv => whnf)
    | (refine ⟨i + 2, ix_add ix_nI ix_nI, ⟨by decide, (show i + 2 < gL G by omega), (show gL G < 100000 by omega)⟩, ?_⟩; conv => whnf)
    | (refine cl_use hC (hl fun h1 w1 hA1 hU1 hO1 hF1 hw1 => ?_); have hu1 := setM_keep hu hF1; conv => whnf)
    | (refine ⟨_, _, (congrFun hu1 154).symm, ⟨_, rfl, rfl⟩, ?_⟩; conv => whnf)
    | (refine cl_use hC (n_use hu1 (hm (MK_of fun u2 h2 hR2 hu2 ht2 hF2 => ?_))); conv => whnf)
    | (refine ⟨_, _, (congrFun hu2 154).symm, ⟨_, rfl, rfl⟩, ?_⟩; conv => whnf)
    | (refine cl_use hC (n_thrown hu2 ?_); rw [ht2]; conv => whnf)
    | (obtain ⟨f9, e9, v9⟩ := hU1 (by assumption); refine ⟨_, _, (hF2 160 (by omega)).trans e9, _, ix_nI, ⟨by omega, by decide⟩, ?_⟩; rw [v9]; conv => whnf)
    | (refine And.intro (fun _ => ?_) (fun hcc => absurd lg_self hcc); conv => whnf)
    | (refine ⟨_, rfl, ?_⟩; conv => whnf)
    | (refine ⟨_, _, rfl, ⟨_, rfl, rfl⟩, ?_⟩; conv => whnf)
    | (refine ⟨_, _, rfl, ?_⟩
       with_reducible apply ix_ex
       · repeat (first | with_reducible exact ix_nI | assumption | with_reducible apply ix_add | with_reducible apply ix_mul | (with_reducible apply ix_sub) | (with_reducible apply ix_upd) | (with_reducible apply ix_div) | omega)
       (refine ⟨⟨by omega, by decide⟩, ?_⟩; conv => whnf))
    | (with_reducible apply br_le
       · repeat (first | with_reducible exact ix_nI | assumption | with_reducible apply ix_add | with_reducible apply ix_mul | (with_reducible apply ix_sub) | (with_reducible apply ix_upd) | (with_reducible apply ix_div) | omega)
       · repeat (first | with_reducible exact ix_nI | assumption | with_reducible apply ix_add | with_reducible apply ix_mul | (with_reducible apply ix_sub) | (with_reducible apply ix_upd) | (with_reducible apply ix_div) | omega)
       · omega
       · omega
       all_goals (intro hc; first | omega | (conv => whnf)))
    | (with_reducible apply br_lt
       · repeat (first | with_reducible exact ix_nI | assumption | with_reducible apply ix_add | with_reducible apply ix_mul | (with_reducible apply ix_sub) | (with_reducible apply ix_upd) | (with_reducible apply ix_div) | omega)
       · repeat (first | with_reducible exact ix_nI | assumption | with_reducible apply ix_add | with_reducible apply ix_mul | (with_reducible apply ix_sub) | (with_reducible apply ix_upd) | (with_reducible apply ix_div) | omega)
       · omega
       · omega
       all_goals (intro hc; first | omega | (conv => whnf)))
    | (with_reducible apply br_eq
       · repeat (first | with_reducible exact ix_nI | assumption | with_reducible apply ix_add | with_reducible apply ix_mul | (with_reducible apply ix_sub) | (with_reducible apply ix_upd) | (with_reducible apply ix_div) | omega)
       · repeat (first | with_reducible exact ix_nI | assumption | with_reducible apply ix_add | with_reducible apply ix_mul | (with_reducible apply ix_sub) | (with_reducible apply ix_upd) | (with_reducible apply ix_div) | omega)
       · omega
       · omega
       all_goals (intro hc; first | omega | (conv => whnf)))
    | (with_reducible apply br_ne
       · repeat (first | with_reducible exact ix_nI | assumption | with_reducible apply ix_add | with_reducible apply ix_mul | (with_reducible apply ix_sub) | (with_reducible apply ix_upd) | (with_reducible apply ix_div) | omega)
       · repeat (first | with_reducible exact ix_nI | assumption | with_reducible apply ix_add | with_reducible apply ix_mul | (with_reducible apply ix_sub) | (with_reducible apply ix_upd) | (with_reducible apply ix_div) | omega)
       · omega
       · omega
       all_goals (intro hc; first | omega | (conv => whnf)))
    | (with_reducible apply br_eq0
       · repeat (first | with_reducible exact ix_nI | assumption | with_reducible apply ix_add | with_reducible apply ix_mul | (with_reducible apply ix_sub) | (with_reducible apply ix_upd) | (with_reducible apply ix_div) | omega)
       · omega
       all_goals (intro hc; first | omega | (conv => whnf)))
    | (with_reducible apply br_ne0
       · repeat (first | with_reducible exact ix_nI | assumption | with_reducible apply ix_add | with_reducible apply ix_mul | (with_reducible apply ix_sub) | (with_reducible apply ix_upd) | (with_reducible apply ix_div) | omega)
       · omega
       all_goals (intro hc; first | omega | (conv => whnf)))
    | (with_reducible apply br_le0
       · repeat (first | with_reducible exact ix_nI | assumption | with_reducible apply ix_add | with_reducible apply ix_mul | (with_reducible apply ix_sub) | (with_reducible apply ix_upd) | (with_reducible apply ix_div) | omega)
       · omega
       all_goals (intro hc; first | omega | (conv => whnf)))
    | (with_reducible apply br_gt0
       · repeat (first | with_reducible exact ix_nI | assumption | with_reducible apply ix_add | with_reducible apply ix_mul | (with_reducible apply ix_sub) | (with_reducible apply ix_upd) | (with_reducible apply ix_div) | omega)
       · omega
       all_goals (intro hc; first | omega | (conv => whnf)))
    | (with_reducible apply br_lt0
       · repeat (first | with_reducible exact ix_nI | assumption | with_reducible apply ix_add | with_reducible apply ix_mul | (with_reducible apply ix_sub) | (with_reducible apply ix_upd) | (with_reducible apply ix_div) | omega)
       · omega
       conv => whnf)
    | (with_reducible apply br_ge0
       · repeat (first | with_reducible exact ix_nI | assumption | with_reducible apply ix_add | with_reducible apply ix_mul | (with_reducible apply ix_sub) | (with_reducible apply ix_upd) | (with_reducible apply ix_div) | omega)
       · omega
       conv => whnf)
    | (with_reducible apply br_tab
       · repeat (first | with_reducible exact ix_nI | assumption | with_reducible apply ix_add | with_reducible apply ix_mul | (with_reducible apply ix_sub) | (with_reducible apply ix_upd) | (with_reducible apply ix_div) | omega)
       · omega
       all_goals (intro hc; (try dsimp only at hc); first | omega | (conv => whnf)))
    | (refine And.intro (fun hc => ?_) (fun hc => ?_) <;> conv => whnf)
    | (refine And.intro (by decide) ?_; conv => whnf)
    | fail)
  all_goals
    refine wp_use hW ?_
    have hO2 : OA h2 := by
      obtain ⟨f9, e9⟩ := hO1
      exact ⟨f9, (hF2 160 (by omega)).trans e9⟩
    exact (hgo h2 w1 ⟨hA1.moved fun a ha => hF2 a (Or.inl ha), ⟨u2, hR2, hu2⟩, hO2⟩ hw1).le (by repeat' (first | exact trivial | refine And.intro rfl ?_))
theorem lc_life {i : Nat} (hX : LX A h) (hI : Ivz n A.1) (hi : i + 3 < gL G) (hL : gL G ≤ 2048) (hgo : ∀ h' w', LX (aLife A (gS G (i + 1))).2.2 h' → (w' = w ∨ w' = XW w) → wp G (d + 10) kL_law T0 s0 K 1606 [some (.retAddr 6), some (.ref 0), some (.ref 154), some (.ref 160), some (.int (nI i)), none, none, none, none] [] h' w') : wp G (d + 10) kL_law T0 s0 K 1358 [some (.retAddr 6), some (.ref 0), some (.ref 154), some (.ref 160), some (.int (nI i)), none, none, none, none] [] h w := by
  have hE : okA A (aLife A (gS G (i + 1))) := ok_life.A
  obtain ⟨hA, ⟨u, hR, hu⟩, hO⟩ := hX
  have hm : ∀ {h1 w1} {K1 : AO → AH → W3 → Prop}, MK h1 w1 K1 (aLife A (gS G (i + 1))) → Cl G (d + 9) kX5_life [.ref 154, .int (gS G (i + 1))] (setM h1 u) w1 K1 := fun hk => m_life hR hI hk
  have hl : ∀ {K1 : AO → AH → W3 → Prop}, LK h w K1 (aLife A (gS G (i + 1))) → Cl G (d + 9) kL_life [.ref 0, .int (gS G (i + 1)), .ref 160] h w K1 := fun hk => l_life hA hI hO hk
  generalize aLife A (gS G (i + 1)) = r at *
  obtain ⟨hE1, hE2⟩ := hE
  refine wp_vc [1606] 95 rfl fun W' C hW hC => ?_
  conv => whnf
  repeat' (first
    | (refine ⟨i + 1, ix_add ix_nI ix_nI, ⟨by decide, (show i + 1 < gL G by omega), (show gL G < 100000 by omega)⟩, ?_⟩; conv => whnf)
    | (refine cl_use hC (hl fun h1 w1 hA1 hU1 hO1 hF1 hw1 => ?_); have hu1 := setM_keep hu hF1; conv => whnf)
    | (refine ⟨_, _, (congrFun hu1 154).symm, ⟨_, rfl, rfl⟩, ?_⟩; conv => whnf)
    | (refine cl_use hC (n_use hu1 (hm (MK_of fun u2 h2 hR2 hu2 ht2 hF2 => ?_))); conv => whnf)
    | (refine ⟨_, _, (congrFun hu2 154).symm, ⟨_, rfl, rfl⟩, ?_⟩; conv => whnf)
    | (refine cl_use hC (n_thrown hu2 ?_); rw [ht2]; conv => whnf)
    | (obtain ⟨f9, e9, v9⟩ := hU1 (by assumption); refine ⟨_, _, (hF2 160 (by omega)).trans e9, _, ix_nI, ⟨by omega, by decide⟩, ?_⟩; rw [v9]; conv => whnf)
    | (refine And.intro (fun _ => ?_) (fun hcc => absurd lg_self hcc); conv => whnf)
    | (refine ⟨_, rfl, ?_⟩; conv => whnf)
    | (refine ⟨_, _, rfl, ⟨_, rfl, rfl⟩, ?_⟩; conv => whnf)
    | (refine ⟨_, _, rfl, ?_⟩
       with_reducible apply ix_ex
       · repeat (first | with_reducible exact ix_nI | assumption | with_reducible apply ix_add | with_reducible apply ix_mul | (with_reducible apply ix_sub) | (with_reducible apply ix_upd) | (with_reducible apply ix_div) | omega)
       (refine ⟨⟨by omega, by decide⟩, ?_⟩; conv => whnf))
    | (with_reducible apply br_le
       · repeat (first | with_reducible exact ix_nI | assumption | with_reducible apply ix_add | with_reducible apply ix_mul | (with_reducible apply ix_sub) | (with_reducible apply ix_upd) | (with_reducible apply ix_div) | omega)
       · repeat (first | with_reducible exact ix_nI | assumption | with_reducible apply ix_add | with_reducible apply ix_mul | (with_reducible apply ix_sub) | (with_reducible apply ix_upd) | (with_reducible apply ix_div) | omega)
       · omega
       · omega
       all_goals (intro hc; first | omega | (conv => whnf)))
    | (with_reducible apply br_lt
       · repeat (first | with_reducible exact ix_nI | assumption | with_reducible apply ix_add | with_reducible apply ix_mul | (with_reducible apply ix_sub) | (with_reducible apply ix_upd) | (with_reducible apply ix_div) | omega)
       · repeat (first | with_reducible exact ix_nI | assumption | with_reducible apply ix_add | with_reducible apply ix_mul | (with_reducible apply ix_sub) | (with_reducible apply ix_upd) | (with_reducible apply ix_div) | omega)
       · omega
       · omega
       all_goals (intro hc; first | omega | (conv => whnf)))
    | (with_reducible apply br_eq
       · repeat (first | with_reducible exact ix_nI | assumption | with_reducible apply ix_add | with_reducible apply ix_mul | (with_reducible apply ix_sub) | (with_reducible apply ix_upd) | (with_reducible apply ix_div) | omega)
       · repeat (first | with_reducible exact ix_nI | assumption | with_reducible apply ix_add | with_reducible apply ix_mul | (with_reducible apply ix_sub) | (with_reducible apply ix_upd) | (with_reducible apply ix_div) | omega)
       · omega
       · omega
       all_goals (intro hc; first | omega | (conv => whnf)))
    | (with_reducible apply br_ne
       · repeat (first | with_reducible exact ix_nI | assumption | with_reducible apply ix_add | with_reducible apply ix_mul | (with_reducible apply ix_sub) | (with_reducible apply ix_upd) | (with_reducible apply ix_div) | omega)
       · repeat (first | with_reducible exact ix_nI | assumption | with_reducible apply ix_add | with_reducible apply ix_mul | (with_reducible apply ix_sub) | (with_reducible apply ix_upd) | (with_reducible apply ix_div) | omega)
       · omega
       · omega
       all_goals (intro hc; first | omega | (conv => whnf)))
    | (with_reducible apply br_eq0
       · repeat (first | with_reducible exact ix_nI | assumption | with_reducible apply ix_add | with_reducible apply ix_mul | (with_reducible apply ix_sub) | (with_reducible apply ix_upd) | (with_reducible apply ix_div) | omega)
       · omega
       all_goals (intro hc; first | omega | (conv => whnf)))
    | (with_reducible apply br_ne0
       · repeat (first | with_reducible exact ix_nI | assumption | with_reducible apply ix_add | with_reducible apply ix_mul | (with_reducible apply ix_sub) | (with_reducible apply ix_upd) | (with_reducible apply ix_div) | omega)
       · omega
       all_goals (intro hc; first | omega | (conv => whnf)))
    | (with_reducible apply br_le0
       · repeat (first | with_reducible exact ix_nI | assumption | with_reducible apply ix_add | with_reducible apply ix_mul | (with_reducible apply ix_sub) | (with_reducible apply ix_upd) | (with_reducible apply ix_div) | omega)
       · omega
       all_goals (intro hc; first | omega | (conv => whnf)))
    | (with_reducible apply br_gt0
       · repeat (first | with_reducible exact ix_nI | assumption | with_reducible apply ix_add | with_reducible apply ix_mul | (with_reducible apply ix_sub) | (with_reducible apply ix_upd) | (with_reducible apply ix_div) | omega)
       · omega
       all_goals (intro hc; first | omega | (conv => whnf)))
    | (with_reducible apply br_lt0
       · repeat (first | with_reducible exact ix_nI | assumption | with_reducible apply ix_add | with_reducible apply ix_mul | (with_reducible apply ix_sub) | (with_reducible apply ix_upd) | (with_reducible apply ix_div) | omega)
       · omega
       conv => whnf)
    | (with_reducible apply br_ge0
       · repeat (first | with_reducible exact ix_nI | assumption | with_reducible apply ix_add | with_reducible apply ix_mul | (with_reducible apply ix_sub) | (with_reducible apply ix_upd) | (with_reducible apply ix_div) | omega)
       · omega
       conv => whnf)
    | (with_reducible apply br_tab
       · repeat (first | with_reducible exact ix_nI | assumption | with_reducible apply ix_add | with_reducible apply ix_mul | (with_reducible apply ix_sub) | (with_reducible apply ix_upd) | (with_reducible apply ix_div) | omega)
       · omega
       all_goals (intro hc; (try dsimp only at hc); first | omega | (conv => whnf)))
    | (refine And.intro (fun hc => ?_) (fun hc => ?_) <;> conv => whnf)
    | (refine And.intro (by decide) ?_; conv => whnf)
    | fail)
  all_goals
    refine wp_use hW ?_
    have hO2 : OA h2 := by
      obtain ⟨f9, e9⟩ := hO1
      exact ⟨f9, (hF2 160 (by omega)).trans e9⟩
    exact (hgo h2 w1 ⟨hA1.moved fun a ha => hF2 a (Or.inl ha), ⟨u2, hR2, hu2⟩, hO2⟩ hw1).le (by repeat' (first | exact trivial | refine And.intro rfl ?_))
theorem lc_bestShift {i : Nat} (hX : LX A h) (hI : Ivz n A.1) (hi : i + 3 < gL G) (hL : gL G ≤ 2048) (hgo : ∀ h' w', LX (aShift A (gS G (i + 1)) (gS G (i + 2))).2.2 h' → (w' = w ∨ w' = XW w) → wp G (d + 10) kL_law T0 s0 K 1606 [some (.retAddr 6), some (.ref 0), some (.ref 154), some (.ref 160), some (.int (nI i)), none, none, none, none] [] h' w') : wp G (d + 10) kL_law T0 s0 K 1414 [some (.retAddr 6), some (.ref 0), some (.ref 154), some (.ref 160), some (.int (nI i)), none, none, none, none] [] h w := by
  have hE : okA A (aShift A (gS G (i + 1)) (gS G (i + 2))) := ok_bestShift
  obtain ⟨hA, ⟨u, hR, hu⟩, hO⟩ := hX
  have hm : ∀ {h1 w1} {K1 : AO → AH → W3 → Prop}, MK h1 w1 K1 (aShift A (gS G (i + 1)) (gS G (i + 2))) → Cl G (d + 9) kX5_bestShift [.ref 154, .int (gS G (i + 1)), .int (gS G (i + 2))] (setM h1 u) w1 K1 := fun hk => m_bestShift hR hI hk
  have hl : ∀ {K1 : AO → AH → W3 → Prop}, LK h w K1 (aShift A (gS G (i + 1)) (gS G (i + 2))) → Cl G (d + 9) kL_bestShift [.ref 0, .int (gS G (i + 1)), .int (gS G (i + 2)), .ref 160] h w K1 := fun hk => l_bestShift hA hI hO hk
  generalize aShift A (gS G (i + 1)) (gS G (i + 2)) = r at *
  obtain ⟨hE1, hE2⟩ := hE
  refine wp_vc [1606] 95 rfl fun W' C hW hC => ?_
  conv => whnf
  repeat' (first
    | (refine ⟨i + 1, ix_add ix_nI ix_nI, ⟨by decide, (show i + 1 < gL G by omega), (show gL G < 100000 by omega)⟩, ?_⟩; conv => whnf)
    | (refine ⟨i + 2, ix_add ix_nI ix_nI, ⟨by decide, (show i + 2 < gL G by omega), (show gL G < 100000 by omega)⟩, ?_⟩; conv => whnf)
    | (refine cl_use hC (hl fun h1 w1 hA1 hU1 hO1 hF1 hw1 => ?_); have hu1 := setM_keep hu hF1; conv => whnf)
    | (refine ⟨_, _, (congrFun hu1 154).symm, ⟨_, rfl, rfl⟩, ?_⟩; conv => whnf)
    | (refine cl_use hC (n_use hu1 (hm (MK_of fun u2 h2 hR2 hu2 ht2 hF2 => ?_))); conv => whnf)
    | (refine ⟨_, _, (congrFun hu2 154).symm, ⟨_, rfl, rfl⟩, ?_⟩; conv => whnf)
    | (refine cl_use hC (n_thrown hu2 ?_); rw [ht2]; conv => whnf)
    | (obtain ⟨f9, e9, v9⟩ := hU1 (by assumption); refine ⟨_, _, (hF2 160 (by omega)).trans e9, _, ix_nI, ⟨by omega, by decide⟩, ?_⟩; rw [v9]; conv => whnf)
    | (refine And.intro (fun _ => ?_) (fun hcc => absurd lg_self hcc); conv => whnf)
    | (refine ⟨_, rfl, ?_⟩; conv => whnf)
    | (refine ⟨_, _, rfl, ⟨_, rfl, rfl⟩, ?_⟩; conv => whnf)
    | (refine ⟨_, _, rfl, ?_⟩
       with_reducible apply ix_ex
       · repeat (first | with_reducible exact ix_nI | assumption | with_reducible apply ix_add | with_reducible apply ix_mul | (with_reducible apply ix_sub) | (with_reducible apply ix_upd) | (with_reducible apply ix_div) | omega)
       (refine ⟨⟨by omega, by decide⟩, ?_⟩; conv => whnf))
    | (with_reducible apply br_le
       · repeat (first | with_reducible exact ix_nI | assumption | with_reducible apply ix_add | with_reducible apply ix_mul | (with_reducible apply ix_sub) | (with_reducible apply ix_upd) | (with_reducible apply ix_div) | omega)
       · repeat (first | with_reducible exact ix_nI | assumption | with_reducible apply ix_add | with_reducible apply ix_mul | (with_reducible apply ix_sub) | (with_reducible apply ix_upd) | (with_reducible apply ix_div) | omega)
       · omega
       · omega
       all_goals (intro hc; first | omega | (conv => whnf)))
    | (with_reducible apply br_lt
       · repeat (first | with_reducible exact ix_nI | assumption | with_reducible apply ix_add | with_reducible apply ix_mul | (with_reducible apply ix_sub) | (with_reducible apply ix_upd) | (with_reducible apply ix_div) | omega)
       · repeat (first | with_reducible exact ix_nI | assumption | with_reducible apply ix_add | with_reducible apply ix_mul | (with_reducible apply ix_sub) | (with_reducible apply ix_upd) | (with_reducible apply ix_div) | omega)
       · omega
       · omega
       all_goals (intro hc; first | omega | (conv => whnf)))
    | (with_reducible apply br_eq
       · repeat (first | with_reducible exact ix_nI | assumption | with_reducible apply ix_add | with_reducible apply ix_mul | (with_reducible apply ix_sub) | (with_reducible apply ix_upd) | (with_reducible apply ix_div) | omega)
       · repeat (first | with_reducible exact ix_nI | assumption | with_reducible apply ix_add | with_reducible apply ix_mul | (with_reducible apply ix_sub) | (with_reducible apply ix_upd) | (with_reducible apply ix_div) | omega)
       · omega
       · omega
       all_goals (intro hc; first | omega | (conv => whnf)))
    | (with_reducible apply br_ne
       · repeat (first | with_reducible exact ix_nI | assumption | with_reducible apply ix_add | with_reducible apply ix_mul | (with_reducible apply ix_sub) | (with_reducible apply ix_upd) | (with_reducible apply ix_div) | omega)
       · repeat (first | with_reducible exact ix_nI | assumption | with_reducible apply ix_add | with_reducible apply ix_mul | (with_reducible apply ix_sub) | (with_reducible apply ix_upd) | (with_reducible apply ix_div) | omega)
       · omega
       · omega
       all_goals (intro hc; first | omega | (conv => whnf)))
    | (with_reducible apply br_eq0
       · repeat (first | with_reducible exact ix_nI | assumption | with_reducible apply ix_add | with_reducible apply ix_mul | (with_reducible apply ix_sub) | (with_reducible apply ix_upd) | (with_reducible apply ix_div) | omega)
       · omega
       all_goals (intro hc; first | omega | (conv => whnf)))
    | (with_reducible apply br_ne0
       · repeat (first | with_reducible exact ix_nI | assumption | with_reducible apply ix_add | with_reducible apply ix_mul | (with_reducible apply ix_sub) | (with_reducible apply ix_upd) | (with_reducible apply ix_div) | omega)
       · omega
       all_goals (intro hc; first | omega | (conv => whnf)))
    | (with_reducible apply br_le0
       · repeat (first | with_reducible exact ix_nI | assumption | with_reducible apply ix_add | with_reducible apply ix_mul | (with_reducible apply ix_sub) | (with_reducible apply ix_upd) | (with_reducible apply ix_div) | omega)
       · omega
       all_goals (intro hc; first | omega | (conv => whnf)))
    | (with_reducible apply br_gt0
       · repeat (first | with_reducible exact ix_nI | assumption | with_reducible apply ix_add | with_reducible apply ix_mul | (with_reducible apply ix_sub) | (with_reducible apply ix_upd) | (with_reducible apply ix_div) | omega)
       · omega
       all_goals (intro hc; first | omega | (conv => whnf)))
    | (with_reducible apply br_lt0
       · repeat (first | with_reducible exact ix_nI | assumption | with_reducible apply ix_add | with_reducible apply ix_mul | (with_reducible apply ix_sub) | (with_reducible apply ix_upd) | (with_reducible apply ix_div) | omega)
       · omega
       conv => whnf)
    | (with_reducible apply br_ge0
       · repeat (first | with_reducible exact ix_nI | assumption | with_reducible apply ix_add | with_reducible apply ix_mul | (with_reducible apply ix_sub) | (with_reducible apply ix_upd) | (with_reducible apply ix_div) | omega)
       · omega
       conv => whnf)
    | (with_reducible apply br_tab
       · repeat (first | with_reducible exact ix_nI | assumption | with_reducible apply ix_add | with_reducible apply ix_mul | (with_reducible apply ix_sub) | (with_reducible apply ix_upd) | (with_reducible apply ix_div) | omega)
       · omega
       all_goals (intro hc; (try dsimp only at hc); first | omega | (conv => whnf)))
    | (refine And.intro (fun hc => ?_) (fun hc => ?_) <;> conv => whnf)
    | (refine And.intro (by decide) ?_; conv => whnf)
    | fail)
  all_goals
    refine wp_use hW ?_
    have hO2 : OA h2 := by
      obtain ⟨f9, e9⟩ := hO1
      exact ⟨f9, (hF2 160 (by omega)).trans e9⟩
    exact (hgo h2 w1 ⟨hA1.moved fun a ha => hF2 a (Or.inl ha), ⟨u2, hR2, hu2⟩, hO2⟩ hw1).le (by repeat' (first | exact trivial | refine And.intro rfl ?_))
theorem lc_lostIn {i : Nat} (hX : LX A h) (hI : Ivz n A.1) (hi : i + 3 < gL G) (hL : gL G ≤ 2048) (hgo : ∀ h' w', LX (aLost A (gS G (i + 1))).2.2 h' → (w' = w ∨ w' = XW w) → wp G (d + 10) kL_law T0 s0 K 1606 [some (.retAddr 6), some (.ref 0), some (.ref 154), some (.ref 160), some (.int (nI i)), none, none, none, none] [] h' w') : wp G (d + 10) kL_law T0 s0 K 1482 [some (.retAddr 6), some (.ref 0), some (.ref 154), some (.ref 160), some (.int (nI i)), none, none, none, none] [] h w := by
  have hE : okA A (aLost A (gS G (i + 1))) := ok_lostIn.A
  obtain ⟨hA, ⟨u, hR, hu⟩, hO⟩ := hX
  have hm : ∀ {h1 w1} {K1 : AO → AH → W3 → Prop}, MK h1 w1 K1 (aLost A (gS G (i + 1))) → Cl G (d + 9) kX5_lostIn [.ref 154, .int (gS G (i + 1))] (setM h1 u) w1 K1 := fun hk => m_lostIn hR hI hk
  have hl : ∀ {K1 : AO → AH → W3 → Prop}, LK h w K1 (aLost A (gS G (i + 1))) → Cl G (d + 9) kL_lostIn [.ref 0, .int (gS G (i + 1)), .ref 160] h w K1 := fun hk => l_lostIn hA hI hO hk
  generalize aLost A (gS G (i + 1)) = r at *
  obtain ⟨hE1, hE2⟩ := hE
  refine wp_vc [1606] 95 rfl fun W' C hW hC => ?_
  conv => whnf
  repeat' (first
    | (refine ⟨i + 1, ix_add ix_nI ix_nI, ⟨by decide, (show i + 1 < gL G by omega), (show gL G < 100000 by omega)⟩, ?_⟩; conv => whnf)
    | (refine cl_use hC (hl fun h1 w1 hA1 hU1 hO1 hF1 hw1 => ?_); have hu1 := setM_keep hu hF1; conv => whnf)
    | (refine ⟨_, _, (congrFun hu1 154).symm, ⟨_, rfl, rfl⟩, ?_⟩; conv => whnf)
    | (refine cl_use hC (n_use hu1 (hm (MK_of fun u2 h2 hR2 hu2 ht2 hF2 => ?_))); conv => whnf)
    | (refine ⟨_, _, (congrFun hu2 154).symm, ⟨_, rfl, rfl⟩, ?_⟩; conv => whnf)
    | (refine cl_use hC (n_thrown hu2 ?_); rw [ht2]; conv => whnf)
    | (obtain ⟨f9, e9, v9⟩ := hU1 (by assumption); refine ⟨_, _, (hF2 160 (by omega)).trans e9, _, ix_nI, ⟨by omega, by decide⟩, ?_⟩; rw [v9]; conv => whnf)
    | (refine And.intro (fun _ => ?_) (fun hcc => absurd lg_self hcc); conv => whnf)
    | (refine ⟨_, rfl, ?_⟩; conv => whnf)
    | (refine ⟨_, _, rfl, ⟨_, rfl, rfl⟩, ?_⟩; conv => whnf)
    | (refine ⟨_, _, rfl, ?_⟩
       with_reducible apply ix_ex
       · repeat (first | with_reducible exact ix_nI | assumption | with_reducible apply ix_add | with_reducible apply ix_mul | (with_reducible apply ix_sub) | (with_reducible apply ix_upd) | (with_reducible apply ix_div) | omega)
       (refine ⟨⟨by omega, by decide⟩, ?_⟩; conv => whnf))
    | (with_reducible apply br_le
       · repeat (first | with_reducible exact ix_nI | assumption | with_reducible apply ix_add | with_reducible apply ix_mul | (with_reducible apply ix_sub) | (with_reducible apply ix_upd) | (with_reducible apply ix_div) | omega)
       · repeat (first | with_reducible exact ix_nI | assumption | with_reducible apply ix_add | with_reducible apply ix_mul | (with_reducible apply ix_sub) | (with_reducible apply ix_upd) | (with_reducible apply ix_div) | omega)
       · omega
       · omega
       all_goals (intro hc; first | omega | (conv => whnf)))
    | (with_reducible apply br_lt
       · repeat (first | with_reducible exact ix_nI | assumption | with_reducible apply ix_add | with_reducible apply ix_mul | (with_reducible apply ix_sub) | (with_reducible apply ix_upd) | (with_reducible apply ix_div) | omega)
       · repeat (first | with_reducible exact ix_nI | assumption | with_reducible apply ix_add | with_reducible apply ix_mul | (with_reducible apply ix_sub) | (with_reducible apply ix_upd) | (with_reducible apply ix_div) | omega)
       · omega
       · omega
       all_goals (intro hc; first | omega | (conv => whnf)))
    | (with_reducible apply br_eq
       · repeat (first | with_reducible exact ix_nI | assumption | with_reducible apply ix_add | with_reducible apply ix_mul | (with_reducible apply ix_sub) | (with_reducible apply ix_upd) | (with_reducible apply ix_div) | omega)
       · repeat (first | with_reducible exact ix_nI | assumption | with_reducible apply ix_add | with_reducible apply ix_mul | (with_reducible apply ix_sub) | (with_reducible apply ix_upd) | (with_reducible apply ix_div) | omega)
       · omega
       · omega
       all_goals (intro hc; first | omega | (conv => whnf)))
    | (with_reducible apply br_ne
       · repeat (first | with_reducible exact ix_nI | assumption | with_reducible apply ix_add | with_reducible apply ix_mul | (with_reducible apply ix_sub) | (with_reducible apply ix_upd) | (with_reducible apply ix_div) | omega)
       · repeat (first | with_reducible exact ix_nI | assumption | with_reducible apply ix_add | with_reducible apply ix_mul | (with_reducible apply ix_sub) | (with_reducible apply ix_upd) | (with_reducible apply ix_div) | omega)
       · omega
       · omega
       all_goals (intro hc; first | omega | (conv => whnf)))
    | (with_reducible apply br_eq0
       · repeat (first | with_reducible exact ix_nI | assumption | with_reducible apply ix_add | with_reducible apply ix_mul | (with_reducible apply ix_sub) | (with_reducible apply ix_upd) | (with_reducible apply ix_div) | omega)
       · omega
       all_goals (intro hc; first | omega | (conv => whnf)))
    | (with_reducible apply br_ne0
       · repeat (first | with_reducible exact ix_nI | assumption | with_reducible apply ix_add | with_reducible apply ix_mul | (with_reducible apply ix_sub) | (with_reducible apply ix_upd) | (with_reducible apply ix_div) | omega)
       · omega
       all_goals (intro hc; first | omega | (conv => whnf)))
    | (with_reducible apply br_le0
       · repeat (first | with_reducible exact ix_nI | assumption | with_reducible apply ix_add | with_reducible apply ix_mul | (with_reducible apply ix_sub) | (with_reducible apply ix_upd) | (with_reducible apply ix_div) | omega)
       · omega
       all_goals (intro hc; first | omega | (conv => whnf)))
    | (with_reducible apply br_gt0
       · repeat (first | with_reducible exact ix_nI | assumption | with_reducible apply ix_add | with_reducible apply ix_mul | (with_reducible apply ix_sub) | (with_reducible apply ix_upd) | (with_reducible apply ix_div) | omega)
       · omega
       all_goals (intro hc; first | omega | (conv => whnf)))
    | (with_reducible apply br_lt0
       · repeat (first | with_reducible exact ix_nI | assumption | with_reducible apply ix_add | with_reducible apply ix_mul | (with_reducible apply ix_sub) | (with_reducible apply ix_upd) | (with_reducible apply ix_div) | omega)
       · omega
       conv => whnf)
    | (with_reducible apply br_ge0
       · repeat (first | with_reducible exact ix_nI | assumption | with_reducible apply ix_add | with_reducible apply ix_mul | (with_reducible apply ix_sub) | (with_reducible apply ix_upd) | (with_reducible apply ix_div) | omega)
       · omega
       conv => whnf)
    | (with_reducible apply br_tab
       · repeat (first | with_reducible exact ix_nI | assumption | with_reducible apply ix_add | with_reducible apply ix_mul | (with_reducible apply ix_sub) | (with_reducible apply ix_upd) | (with_reducible apply ix_div) | omega)
       · omega
       all_goals (intro hc; (try dsimp only at hc); first | omega | (conv => whnf)))
    | (refine And.intro (fun hc => ?_) (fun hc => ?_) <;> conv => whnf)
    | (refine And.intro (by decide) ?_; conv => whnf)
    | fail)
  all_goals
    refine wp_use hW ?_
    have hO2 : OA h2 := by
      obtain ⟨f9, e9⟩ := hO1
      exact ⟨f9, (hF2 160 (by omega)).trans e9⟩
    exact (hgo h2 w1 ⟨hA1.moved fun a ha => hF2 a (Or.inl ha), ⟨u2, hR2, hu2⟩, hO2⟩ hw1).le (by repeat' (first | exact trivial | refine And.intro rfl ?_))
end L3
