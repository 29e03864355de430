/-! ===== the law: its other cases, its loop ===== -/
section L4
variable {G : GG} {d n T0 s0 : Nat} {A : AS} {h0 h : AH} {w : W3} {K : AO → AH → W3 → Prop}
theorem lc_clear {i : Nat} (hX : LX A h) (hI : Ivz n A.1) (hgo : ∀ h', LX (aClear A).2.2 h' → wp G (d + 10) kL_law T0 s0 K 1606 [some (.retAddr 6), some (.ref 0), some (.ref 154), some (.ref 160), some (.int (nI i)), none, none, none, none] [] h' w) : wp G (d + 10) kL_law T0 s0 K 724 [some (.retAddr 6), some (.ref 0), some (.ref 154), some (.ref 160), some (.int (nI i)), none, none, none, none] [] h w := by
  obtain ⟨hA, ⟨u, hR, hu⟩, hO⟩ := hX
  refine wp_vc [1606] 95 rfl fun W' C hW hC => ?_
  conv => whnf
  repeat' (first
    | (refine ⟨_, _, hA.1, ⟨_, rfl, rfl⟩, ?_⟩; conv => whnf)
    | (refine cl_use hC (c_clearBuffer hA ⟨fun _ h1 hA1 hF1 => ?_, fun e => absurd e (show ¬ 0 = 1 by omega), fun e => absurd e (show ¬ 0 = 2 by omega)⟩); have hu1 := setM_keep hu (fun a g1 _ => hF1 a g1); conv => whnf)
    | (refine ⟨_, _, (congrFun hu1 154).symm, ⟨_, rfl, rfl⟩, ?_⟩; conv => whnf)
    | (refine cl_use hC (n_use hu1 (m_clearBuffer hR hI (MK_of fun u2 h2 hR2 hu2 ht2 hF2 => ?_))); conv => whnf)
    | (refine And.intro (fun _ => ?_) (fun hcc => absurd rfl hcc); conv => whnf)
    | (refine ⟨_, rfl, ?_⟩; conv => whnf)
    | (refine ⟨_, _, rfl, ⟨_, rfl, rfl⟩, ?_⟩; conv => whnf)
    | (refine ⟨_, _, rfl, ?_⟩
       with_reducible apply ix_ex
       · repeat (first | with_reducible exact ix_nI | assumption | with_reducible apply ix_add | with_reducible apply ix_mul | (with_reducible apply ix_sub) | (with_reducible apply ix_upd) | (with_reducible apply ix_div) | omega)
       (refine ⟨⟨by omega, by decide⟩, ?_⟩; conv => whnf))
    | (with_reducible apply br_le
       · repeat (first | with_reducible exact ix_nI | assumption | with_reducible apply ix_add | with_reducible apply ix_mul | (with_reducible apply ix_sub) | (with_reducible apply ix_upd) | (with_reducible apply ix_div) | omega)
       · repeat (first | with_reducible exact ix_nI | assumption | with_reducible apply ix_add | with_reducible apply ix_mul | (with_reducible apply ix_sub) | (with_reducible apply ix_upd) | (with_reducible apply ix_div) | omega)
       · omega
       · omega
       all_goals (intro hc; first | omega | (conv => whnf)))
    | (with_reducible apply br_lt
       · repeat (first | with_reducible exact ix_nI | assumption | with_reducible apply ix_add | with_reducible apply ix_mul | (with_reducible apply ix_sub) | (with_reducible apply ix_upd) | (with_reducible apply ix_div) | omega)
       · repeat (first | with_reducible exact ix_nI | assumption | with_reducible apply ix_add | with_reducible apply ix_mul | (with_reducible apply ix_sub) | (with_reducible apply ix_upd) | (with_reducible apply ix_div) | omega)
       · omega
       · omega
       all_goals (intro hc; first | omega | (conv => whnf)))
    | (with_reducible apply br_eq
       · repeat (first | with_reducible exact ix_nI | assumption | with_reducible apply ix_add | with_reducible apply ix_mul | (with_reducible apply ix_sub) | (with_reducible apply ix_upd) | (with_reducible apply ix_div) | omega)
       · repeat (first | with_reducible exact ix_nI | assumption | with_reducible apply ix_add | with_reducible apply ix_mul | (with_reducible apply ix_sub) | (with_reducible apply ix_upd) | (with_reducible apply ix_div) | omega)
       · omega
       · omega
       all_goals (intro hc; first | omega | (conv => whnf)))
    | (with_reducible apply br_ne
       · repeat (first | with_reducible exact ix_nI | assumption | with_reducible apply ix_add | with_reducible apply ix_mul | (with_reducible apply ix_sub) | (with_reducible apply ix_upd) | (with_reducible apply ix_div) | omega)
       · repeat (first | with_reducible exact ix_nI | assumption | with_reducible apply ix_add | with_reducible apply ix_mul | (with_reducible apply ix_sub) | (with_reducible apply ix_upd) | (with_reducible apply ix_div) | omega)
       · omega
       · omega
       all_goals (intro hc; first | omega | (conv => whnf)))
    | (with_reducible apply br_eq0
       · repeat (first | with_reducible exact ix_nI | assumption | with_reducible apply ix_add | with_reducible apply ix_mul | (with_reducible apply ix_sub) | (with_reducible apply ix_upd) | (with_reducible apply ix_div) | omega)
       · omega
       all_goals (intro hc; first | omega | (conv => whnf)))
    | (with_reducible apply br_ne0
       · repeat (first | with_reducible exact ix_nI | assumption | with_reducible apply ix_add | with_reducible apply ix_mul | (with_reducible apply ix_sub) | (with_reducible apply ix_upd) | (with_reducible apply ix_div) | omega)
       · omega
       all_goals (intro hc; first | omega | (conv => whnf)))
    | (with_reducible apply br_le0
       · repeat (first | with_reducible exact ix_nI | assumption | with_reducible apply ix_add | with_reducible apply ix_mul | (with_reducible apply ix_sub) | (with_reducible apply ix_upd) | (with_reducible apply ix_div) | omega)
       · omega
       all_goals (intro hc; first | omega | (conv => whnf)))
    | (with_reducible apply br_gt0
       · repeat (first | with_reducible exact ix_nI | assumption | with_reducible apply ix_add | with_reducible apply ix_mul | (with_reducible apply ix_sub) | (with_reducible apply ix_upd) | (with_reducible apply ix_div) | omega)
       · omega
       all_goals (intro hc; first | omega | (conv => whnf)))
    | (with_reducible apply br_lt0
       · repeat (first | with_reducible exact ix_nI | assumption | with_reducible apply ix_add | with_reducible apply ix_mul | (with_reducible apply ix_sub) | (with_reducible apply ix_upd) | (with_reducible apply ix_div) | omega)
       · omega
       conv => whnf)
    | (with_reducible apply br_ge0
       · repeat (first | with_reducible exact ix_nI | assumption | with_reducible apply ix_add | with_reducible apply ix_mul | (with_reducible apply ix_sub) | (with_reducible apply ix_upd) | (with_reducible apply ix_div) | omega)
       · omega
       conv => whnf)
    | (with_reducible apply br_tab
       · repeat (first | with_reducible exact ix_nI | assumption | with_reducible apply ix_add | with_reducible apply ix_mul | (with_reducible apply ix_sub) | (with_reducible apply ix_upd) | (with_reducible apply ix_div) | omega)
       · omega
       all_goals (intro hc; (try dsimp only at hc); first | omega | (conv => whnf)))
    | (refine And.intro (fun hc => ?_) (fun hc => ?_) <;> conv => whnf)
    | (refine And.intro (by decide) ?_; conv => whnf)
    | fail)
  refine wp_use hW ?_
  have hO2 : OA h2 := by
    obtain ⟨f9, e9⟩ := hO
    exact ⟨f9, (hF2 160 (by omega)).trans ((hF1 160 (by omega)).trans e9)⟩
  exact (hgo h2 ⟨hA1.moved fun a ha => hF2 a (Or.inl ha), ⟨u2, hR2, hu2⟩, hO2⟩).le (by repeat' (first | exact trivial | refine And.intro rfl ?_))
theorem lc_err {i : Nat} (hX : LX A h) (hI : Ivz n A.1) (hgo : ∀ h', LX (aErr A).2.2 h' → wp G (d + 10) kL_law T0 s0 K 1606 [some (.retAddr 6), some (.ref 0), some (.ref 154), some (.ref 160), some (.int (nI i)), none, none, none, none] [] h' w) : wp G (d + 10) kL_law T0 s0 K 737 [some (.retAddr 6), some (.ref 0), some (.ref 154), some (.ref 160), some (.int (nI i)), none, none, none, none] [] h w := by
  obtain ⟨hA, ⟨u, hR, hu⟩, hO⟩ := hX
  refine wp_vc [1606] 95 rfl fun W' C hW hC => ?_
  conv => whnf
  repeat' (first
    | (refine ⟨_, _, hA.1, ⟨_, rfl, rfl⟩, ?_⟩; conv => whnf)
    | (refine cl_use hC (c_firstError hA ⟨fun _ h1 hA1 hF1 => ?_, fun e => absurd e (show ¬ 0 = 1 by omega), fun e => absurd e (show ¬ 0 = 2 by omega)⟩); have hu1 := setM_keep hu (fun a g1 _ => hF1 a g1); conv => whnf)
    | (refine ⟨_, _, (congrFun hu1 154).symm, ⟨_, rfl, rfl⟩, ?_⟩; conv => whnf)
    | (refine cl_use hC (n_use hu1 (m_firstError hR hI (MK_of fun u2 h2 hR2 hu2 ht2 hF2 => ?_))); conv => whnf)
    | (refine And.intro (fun _ => ?_) (fun hcc => absurd rfl hcc); conv => whnf)
    | (refine ⟨_, rfl, ?_⟩; conv => whnf)
    | (refine ⟨_, _, rfl, ⟨_, rfl, rfl⟩, ?_⟩; conv => whnf)
    | (refine ⟨_, _, rfl, ?_⟩
       with_reducible apply ix_ex
       · repeat (first | with_reducible exact ix_nI | assumption | with_reducible apply ix_add | with_reducible apply ix_mul | (with_reducible apply ix_sub) | (with_reducible apply ix_upd) | (with_reducible apply ix_div) | omega)
       (refine ⟨⟨by omega, by decide⟩, ?_⟩; conv => whnf))
    | (with_reducible apply br_le
       · repeat (first | with_reducible exact ix_nI | assumption | with_reducible apply ix_add | with_reducible apply ix_mul | (with_reducible apply ix_sub) | (with_reducible apply ix_upd) | (with_reducible apply ix_div) | omega)
       · repeat (first | with_reducible exact ix_nI | assumption | with_reducible apply ix_add | with_reducible apply ix_mul | (with_reducible apply ix_sub) | (with_reducible apply ix_upd) | (with_reducible apply ix_div) | omega)
       · omega
       · omega
       all_goals (intro hc; first | omega | (conv => whnf)))
    | (with_reducible apply br_lt
       · repeat (first | with_reducible exact ix_nI | assumption | with_reducible apply ix_add | with_reducible apply ix_mul | (with_reducible apply ix_sub) | (with_reducible apply ix_upd) | (with_reducible apply ix_div) | omega)
       · repeat (first | with_reducible exact ix_nI | assumption | with_reducible apply ix_add | with_reducible apply ix_mul | (with_reducible apply ix_sub) | (with_reducible apply ix_upd) | (with_reducible apply ix_div) | omega)
       · omega
       · omega
       all_goals (intro hc; first | omega | (conv => whnf)))
    | (with_reducible apply br_eq
       · repeat (first | with_reducible exact ix_nI | assumption | with_reducible apply ix_add | with_reducible apply ix_mul | (with_reducible apply ix_sub) | (with_reducible apply ix_upd) | (with_reducible apply ix_div) | omega)
       · repeat (first | with_reducible exact ix_nI | assumption | with_reducible apply ix_add | with_reducible apply ix_mul | (with_reducible apply ix_sub) | (with_reducible apply ix_upd) | (with_reducible apply ix_div) | omega)
       · omega
       · omega
       all_goals (intro hc; first | omega | (conv => whnf)))
    | (with_reducible apply br_ne
       · repeat (first | with_reducible exact ix_nI | assumption | with_reducible apply ix_add | with_reducible apply ix_mul | (with_reducible apply ix_sub) | (with_reducible apply ix_upd) | (with_reducible apply ix_div) | omega)
       · repeat (first | with_reducible exact ix_nI | assumption | with_reducible apply ix_add | with_reducible apply ix_mul | (with_reducible apply ix_sub) | (with_reducible apply ix_upd) | (with_reducible apply ix_div) | omega)
       · omega
       · omega
       all_goals (intro hc; first | omega | (conv => whnf)))
    | (with_reducible apply br_eq0
       · repeat (first | with_reducible exact ix_nI | assumption | with_reducible apply ix_add | with_reducible apply ix_mul | (with_reducible apply ix_sub) | (with_reducible apply ix_upd) | (with_reducible apply ix_div) | omega)
       · omega
       all_goals (intro hc; first | omega | (conv => whnf)))
    | (with_reducible apply br_ne0
       · repeat (first | with_reducible exact ix_nI | assumption | with_reducible apply ix_add | with_reducible apply ix_mul | (with_reducible apply ix_sub) | (with_reducible apply ix_upd) | (with_reducible apply ix_div) | omega)
       · omega
       all_goals (intro hc; first | omega | (conv => whnf)))
    | (with_reducible apply br_le0
       · repeat (first | with_reducible exact ix_nI | assumption | with_reducible apply ix_add | with_reducible apply ix_mul | (with_reducible apply ix_sub) | (with_reducible apply ix_upd) | (with_reducible apply ix_div) | omega)
       · omega
       all_goals (intro hc; first | omega | (conv => whnf)))
    | (with_reducible apply br_gt0
       · repeat (first | with_reducible exact ix_nI | assumption | with_reducible apply ix_add | with_reducible apply ix_mul | (with_reducible apply ix_sub) | (with_reducible apply ix_upd) | (with_reducible apply ix_div) | omega)
       · omega
       all_goals (intro hc; first | omega | (conv => whnf)))
    | (with_reducible apply br_lt0
       · repeat (first | with_reducible exact ix_nI | assumption | with_reducible apply ix_add | with_reducible apply ix_mul | (with_reducible apply ix_sub) | (with_reducible apply ix_upd) | (with_reducible apply ix_div) | omega)
       · omega
       conv => whnf)
    | (with_reducible apply br_ge0
       · repeat (first | with_reducible exact ix_nI | assumption | with_reducible apply ix_add | with_reducible apply ix_mul | (with_reducible apply ix_sub) | (with_reducible apply ix_upd) | (with_reducible apply ix_div) | omega)
       · omega
       conv => whnf)
    | (with_reducible apply br_tab
       · repeat (first | with_reducible exact ix_nI | assumption | with_reducible apply ix_add | with_reducible apply ix_mul | (with_reducible apply ix_sub) | (with_reducible apply ix_upd) | (with_reducible apply ix_div) | omega)
       · omega
       all_goals (intro hc; (try dsimp only at hc); first | omega | (conv => whnf)))
    | (refine And.intro (fun hc => ?_) (fun hc => ?_) <;> conv => whnf)
    | (refine And.intro (by decide) ?_; conv => whnf)
    | fail)
  refine wp_use hW ?_
  have hO2 : OA h2 := by
    obtain ⟨f9, e9⟩ := hO
    exact ⟨f9, (hF2 160 (by omega)).trans ((hF1 160 (by omega)).trans e9)⟩
  exact (hgo h2 ⟨hA1.moved fun a ha => hF2 a (Or.inl ha), ⟨u2, hR2, hu2⟩, hO2⟩).le (by repeat' (first | exact trivial | refine And.intro rfl ?_))
theorem lc_spare {i : Nat} (hX : LX A h) (hI : Ivz n A.1) (hgo : ∀ h', LX (aSpare A).2.2 h' → wp G (d + 10) kL_law T0 s0 K 1606 [some (.retAddr 6), some (.ref 0), some (.ref 154), some (.ref 160), some (.int (nI i)), none, none, none, none] [] h' w) : wp G (d + 10) kL_law T0 s0 K 1538 [some (.retAddr 6), some (.ref 0), some (.ref 154), some (.ref 160), some (.int (nI i)), none, none, none, none] [] h w := by
  obtain ⟨hA, ⟨u, hR, hu⟩, hO⟩ := hX
  refine wp_vc [1606] 95 rfl fun W' C hW hC => ?_
  conv => whnf
  repeat' (first
    | (refine ⟨_, _, hA.1, ⟨_, rfl, rfl⟩, ?_⟩; conv => whnf)
    | (refine cl_use hC (c_spare hA hI ⟨fun _ h1 hA1 hF1 => ?_, fun e => absurd e (show ¬ 0 = 1 by omega), fun e => absurd e (show ¬ 0 = 2 by omega)⟩); have hu1 := setM_keep hu (fun a g1 _ => hF1 a g1); conv => whnf)
    | (refine ⟨_, _, (congrFun hu1 154).symm, ⟨_, rfl, rfl⟩, ?_⟩; conv => whnf)
    | (refine cl_use hC (n_use hu1 (m_spare hR hI (MK_of fun u2 h2 hR2 hu2 ht2 hF2 => ?_))); conv => whnf)
    | (refine And.intro (fun _ => ?_) (fun hcc => absurd rfl hcc); conv => whnf)
    | (refine ⟨_, rfl, ?_⟩; conv => whnf)
    | (refine ⟨_, _, rfl, ⟨_, rfl, rfl⟩, ?_⟩; conv => whnf)
    | (refine ⟨_, _, rfl, ?_⟩
       with_reducible apply ix_ex
       · repeat (first | with_reducible exact ix_nI | assumption | with_reducible apply ix_add | with_reducible apply ix_mul | (with_reducible apply ix_sub) | (with_reducible apply ix_upd) | (with_reducible apply ix_div) | omega)
       (refine ⟨⟨by omega, by decide⟩, ?_⟩; conv => whnf))
    | (with_reducible apply br_le
       · repeat (first | with_reducible exact ix_nI | assumption | with_reducible apply ix_add | with_reducible apply ix_mul | (with_reducible apply ix_sub) | (with_reducible apply ix_upd) | (with_reducible apply ix_div) | omega)
       · repeat (first | with_reducible exact ix_nI | assumption | with_reducible apply ix_add | with_reducible apply ix_mul | (with_reducible apply ix_sub) | (with_reducible apply ix_upd) | (with_reducible apply ix_div) | omega)
       · omega
       · omega
       all_goals (intro hc; first | omega | (conv => whnf)))
    | (with_reducible apply br_lt
       · repeat (first | with_reducible exact ix_nI | assumption | with_reducible apply ix_add | with_reducible apply ix_mul | (with_reducible apply ix_sub) | (with_reducible apply ix_upd) | (with_reducible apply ix_div) | omega)
       · repeat (first | with_reducible exact ix_nI | assumption | with_reducible apply ix_add | with_reducible apply ix_mul | (with_reducible apply ix_sub) | (with_reducible apply ix_upd) | (with_reducible apply ix_div) | omega)
       · omega
       · omega
       all_goals (intro hc; first | omega | (conv => whnf)))
    | (with_reducible apply br_eq
       · repeat (first | with_reducible exact ix_nI | assumption | with_reducible apply ix_add | with_reducible apply ix_mul | (with_reducible apply ix_sub) | (with_reducible apply ix_upd) | (with_reducible apply ix_div) | omega)
       · repeat (first | with_reducible exact ix_nI | assumption | with_reducible apply ix_add | with_reducible apply ix_mul | (with_reducible apply ix_sub) | (with_reducible apply ix_upd) | (with_reducible apply ix_div) | omega)
       · omega
       · omega
       all_goals (intro hc; first | omega | (conv => whnf)))
    | (with_reducible apply br_ne
       · repeat (first | with_reducible exact ix_nI | assumption | with_reducible apply ix_add | with_reducible apply ix_mul | (with_reducible apply ix_sub) | (with_reducible apply ix_upd) | (with_reducible apply ix_div) | omega)
       · repeat (first | with_reducible exact ix_nI | assumption | with_reducible apply ix_add | with_reducible apply ix_mul | (with_reducible apply ix_sub) | (with_reducible apply ix_upd) | (with_reducible apply ix_div) | omega)
       · omega
       · omega
       all_goals (intro hc; first | omega | (conv => whnf)))
    | (with_reducible apply br_eq0
       · repeat (first | with_reducible exact ix_nI | assumption | with_reducible apply ix_add | with_reducible apply ix_mul | (with_reducible apply ix_sub) | (with_reducible apply ix_upd) | (with_reducible apply ix_div) | omega)
       · omega
       all_goals (intro hc; first | omega | (conv => whnf)))
    | (with_reducible apply br_ne0
       · repeat (first | with_reducible exact ix_nI | assumption | with_reducible apply ix_add | with_reducible apply ix_mul | (with_reducible apply ix_sub) | (with_reducible apply ix_upd) | (with_reducible apply ix_div) | omega)
       · omega
       all_goals (intro hc; first | omega | (conv => whnf)))
    | (with_reducible apply br_le0
       · repeat (first | with_reducible exact ix_nI | assumption | with_reducible apply ix_add | with_reducible apply ix_mul | (with_reducible apply ix_sub) | (with_reducible apply ix_upd) | (with_reducible apply ix_div) | omega)
       · omega
       all_goals (intro hc; first | omega | (conv => whnf)))
    | (with_reducible apply br_gt0
       · repeat (first | with_reducible exact ix_nI | assumption | with_reducible apply ix_add | with_reducible apply ix_mul | (with_reducible apply ix_sub) | (with_reducible apply ix_upd) | (with_reducible apply ix_div) | omega)
       · omega
       all_goals (intro hc; first | omega | (conv => whnf)))
    | (with_reducible apply br_lt0
       · repeat (first | with_reducible exact ix_nI | assumption | with_reducible apply ix_add | with_reducible apply ix_mul | (with_reducible apply ix_sub) | (with_reducible apply ix_upd) | (with_reducible apply ix_div) | omega)
       · omega
       conv => whnf)
    | (with_reducible apply br_ge0
       · repeat (first | with_reducible exact ix_nI | assumption | with_reducible apply ix_add | with_reducible apply ix_mul | (with_reducible apply ix_sub) | (with_reducible apply ix_upd) | (with_reducible apply ix_div) | omega)
       · omega
       conv => whnf)
    | (with_reducible apply br_tab
       · repeat (first | with_reducible exact ix_nI | assumption | with_reducible apply ix_add | with_reducible apply ix_mul | (with_reducible apply ix_sub) | (with_reducible apply ix_upd) | (with_reducible apply ix_div) | omega)
       · omega
       all_goals (intro hc; (try dsimp only at hc); first | omega | (conv => whnf)))
    | (refine And.intro (fun hc => ?_) (fun hc => ?_) <;> conv => whnf)
    | (refine And.intro (by decide) ?_; conv => whnf)
    | fail)
  refine wp_use hW ?_
  have hO2 : OA h2 := by
    obtain ⟨f9, e9⟩ := hO
    exact ⟨f9, (hF2 160 (by omega)).trans ((hF1 160 (by omega)).trans e9)⟩
  exact (hgo h2 ⟨hA1.moved fun a ha => hF2 a (Or.inl ha), ⟨u2, hR2, hu2⟩, hO2⟩).le (by repeat' (first | exact trivial | refine And.intro rfl ?_))
theorem lc_mean {i : Nat} (hX : LX A h) (hI : Ivz n A.1) (hn : n ≤ 100000) (hgo : ∀ h', LX A h' → wp G (d + 10) kL_law T0 s0 K 1606 [some (.retAddr 6), some (.ref 0), some (.ref 154), some (.ref 160), some (.int (nI i)), none, none, none, none] [] h' w) : wp G (d + 10) kL_law T0 s0 K 1551 [some (.retAddr 6), some (.ref 0), some (.ref 154), some (.ref 160), some (.int (nI i)), none, none, none, none] [] h w := by
  obtain ⟨hA, ⟨u, hR, hu⟩, hO⟩ := hX
  refine wp_vc [1606] 95 rfl fun W' C hW hC => ?_
  conv => whnf
  have hD := mn_DZ hI hn
  repeat' (first
    | (refine ⟨_, _, hA.1, ⟨_, rfl, rfl⟩, ?_⟩; conv => whnf)
    | (refine cl_use hC (c_meanFee hD hA ?_); conv => whnf)
    | (refine ⟨_, _, (congrFun hu 154).symm, ⟨_, rfl, rfl⟩, ?_⟩; conv => whnf)
    | (refine cl_use hC (n_use hu (m_meanFee hD hR fun u2 hR2 ht2 => ?_)); conv => whnf)
    | (refine ⟨_, rfl, ?_⟩; conv => whnf)
    | (refine ⟨_, _, rfl, ⟨_, rfl, rfl⟩, ?_⟩; conv => whnf)
    | (refine ⟨_, _, rfl, ?_⟩
       with_reducible apply ix_ex
       · repeat (first | with_reducible exact ix_nI | assumption | with_reducible apply ix_add | with_reducible apply ix_mul | (with_reducible apply ix_sub) | (with_reducible apply ix_upd) | (with_reducible apply ix_div) | omega)
       (refine ⟨⟨by omega, by decide⟩, ?_⟩; conv => whnf))
    | (with_reducible apply br_le
       · repeat (first | with_reducible exact ix_nI | assumption | with_reducible apply ix_add | with_reducible apply ix_mul | (with_reducible apply ix_sub) | (with_reducible apply ix_upd) | (with_reducible apply ix_div) | omega)
       · repeat (first | with_reducible exact ix_nI | assumption | with_reducible apply ix_add | with_reducible apply ix_mul | (with_reducible apply ix_sub) | (with_reducible apply ix_upd) | (with_reducible apply ix_div) | omega)
       · omega
       · omega
       all_goals (intro hc; first | omega | (conv => whnf)))
    | (with_reducible apply br_lt
       · repeat (first | with_reducible exact ix_nI | assumption | with_reducible apply ix_add | with_reducible apply ix_mul | (with_reducible apply ix_sub) | (with_reducible apply ix_upd) | (with_reducible apply ix_div) | omega)
       · repeat (first | with_reducible exact ix_nI | assumption | with_reducible apply ix_add | with_reducible apply ix_mul | (with_reducible apply ix_sub) | (with_reducible apply ix_upd) | (with_reducible apply ix_div) | omega)
       · omega
       · omega
       all_goals (intro hc; first | omega | (conv => whnf)))
    | (with_reducible apply br_eq
       · repeat (first | with_reducible exact ix_nI | assumption | with_reducible apply ix_add | with_reducible apply ix_mul | (with_reducible apply ix_sub) | (with_reducible apply ix_upd) | (with_reducible apply ix_div) | omega)
       · repeat (first | with_reducible exact ix_nI | assumption | with_reducible apply ix_add | with_reducible apply ix_mul | (with_reducible apply ix_sub) | (with_reducible apply ix_upd) | (with_reducible apply ix_div) | omega)
       · omega
       · omega
       all_goals (intro hc; first | omega | (conv => whnf)))
    | (with_reducible apply br_ne
       · repeat (first | with_reducible exact ix_nI | assumption | with_reducible apply ix_add | with_reducible apply ix_mul | (with_reducible apply ix_sub) | (with_reducible apply ix_upd) | (with_reducible apply ix_div) | omega)
       · repeat (first | with_reducible exact ix_nI | assumption | with_reducible apply ix_add | with_reducible apply ix_mul | (with_reducible apply ix_sub) | (with_reducible apply ix_upd) | (with_reducible apply ix_div) | omega)
       · omega
       · omega
       all_goals (intro hc; first | omega | (conv => whnf)))
    | (with_reducible apply br_eq0
       · repeat (first | with_reducible exact ix_nI | assumption | with_reducible apply ix_add | with_reducible apply ix_mul | (with_reducible apply ix_sub) | (with_reducible apply ix_upd) | (with_reducible apply ix_div) | omega)
       · omega
       all_goals (intro hc; first | omega | (conv => whnf)))
    | (with_reducible apply br_ne0
       · repeat (first | with_reducible exact ix_nI | assumption | with_reducible apply ix_add | with_reducible apply ix_mul | (with_reducible apply ix_sub) | (with_reducible apply ix_upd) | (with_reducible apply ix_div) | omega)
       · omega
       all_goals (intro hc; first | omega | (conv => whnf)))
    | (with_reducible apply br_le0
       · repeat (first | with_reducible exact ix_nI | assumption | with_reducible apply ix_add | with_reducible apply ix_mul | (with_reducible apply ix_sub) | (with_reducible apply ix_upd) | (with_reducible apply ix_div) | omega)
       · omega
       all_goals (intro hc; first | omega | (conv => whnf)))
    | (with_reducible apply br_gt0
       · repeat (first | with_reducible exact ix_nI | assumption | with_reducible apply ix_add | with_reducible apply ix_mul | (with_reducible apply ix_sub) | (with_reducible apply ix_upd) | (with_reducible apply ix_div) | omega)
       · omega
       all_goals (intro hc; first | omega | (conv => whnf)))
    | (with_reducible apply br_lt0
       · repeat (first | with_reducible exact ix_nI | assumption | with_reducible apply ix_add | with_reducible apply ix_mul | (with_reducible apply ix_sub) | (with_reducible apply ix_upd) | (with_reducible apply ix_div) | omega)
       · omega
       conv => whnf)
    | (with_reducible apply br_ge0
       · repeat (first | with_reducible exact ix_nI | assumption | with_reducible apply ix_add | with_reducible apply ix_mul | (with_reducible apply ix_sub) | (with_reducible apply ix_upd) | (with_reducible apply ix_div) | omega)
       · omega
       conv => whnf)
    | (with_reducible apply br_tab
       · repeat (first | with_reducible exact ix_nI | assumption | with_reducible apply ix_add | with_reducible apply ix_mul | (with_reducible apply ix_sub) | (with_reducible apply ix_upd) | (with_reducible apply ix_div) | omega)
       · omega
       all_goals (intro hc; (try dsimp only at hc); first | omega | (conv => whnf)))
    | (refine And.intro (fun hc => ?_) (fun hc => ?_) <;> conv => whnf)
    | (refine And.intro (by decide) ?_; conv => whnf)
    | fail)
  all_goals first
    | (rename_i hc9
       exact absurd (show Op.cmpValue _ CmpOp.l = 0 by rw [hD.2]; decide) hc9)
    | (refine wp_use hW ?_
       have hO2 : OA (setM h u2) := by
         obtain ⟨f9, e9⟩ := hO
         exact ⟨f9, (setM_out (by omega)).trans e9⟩
       exact (hgo (setM h u2) ⟨hA.moved fun a ha => setM_out (Or.inl ha), ⟨u2, hR2, setM_setM⟩, hO2⟩).le (by repeat' (first | exact trivial | refine And.intro rfl ?_)))
theorem lc_digest {i : Nat} (hX : LX A h) (hI : Ivz n A.1) (hn : n ≤ 100000) (hgo : ∀ h', LX A h' → wp G (d + 10) kL_law T0 s0 K 1606 [some (.retAddr 6), some (.ref 0), some (.ref 154), some (.ref 160), some (.int (nI i)), none, none, none, none] [] h' w) : wp G (d + 10) kL_law T0 s0 K 1592 [some (.retAddr 6), some (.ref 0), some (.ref 154), some (.ref 160), some (.int (nI i)), none, none, none, none] [] h w := by
  obtain ⟨hA, ⟨u, hR, hu⟩, hO⟩ := hX
  refine wp_vc [1606] 95 rfl fun W' C hW hC => ?_
  conv => whnf
  have hD := mn_DZ hI hn
  have hB := b_ok (G := G) hI hn
  repeat' (first
    | (refine ⟨_, _, hA.1, ⟨_, rfl, rfl⟩, ?_⟩; conv => whnf)
    | (refine cl_use hC (c_digest hD hB hA hI fun h1 hA1 hF1 => ?_); have hu1 := setM_keep hu (fun a g1 _ => hF1 a g1); conv => whnf)
    | (refine ⟨_, _, (congrFun hu1 154).symm, ⟨_, rfl, rfl⟩, ?_⟩; conv => whnf)
    | (refine cl_use hC (n_use hu1 (m_digest hD hR hI fun u2 hR2 ht2 => ?_)); conv => whnf)
    | (refine And.intro (fun _ => ?_) (fun hcc => absurd lg_self hcc); conv => whnf)
    | (refine ⟨_, rfl, ?_⟩; conv => whnf)
    | (refine ⟨_, _, rfl, ⟨_, rfl, rfl⟩, ?_⟩; conv => whnf)
    | (refine ⟨_, _, rfl, ?_⟩
       with_reducible apply ix_ex
       · repeat (first | with_reducible exact ix_nI | assumption | with_reducible apply ix_add | with_reducible apply ix_mul | (with_reducible apply ix_sub) | (with_reducible apply ix_upd) | (with_reducible apply ix_div) | omega)
       (refine ⟨⟨by omega, by decide⟩, ?_⟩; conv => whnf))
    | (with_reducible apply br_le
       · repeat (first | with_reducible exact ix_nI | assumption | with_reducible apply ix_add | with_reducible apply ix_mul | (with_reducible apply ix_sub) | (with_reducible apply ix_upd) | (with_reducible apply ix_div) | omega)
       · repeat (first | with_reducible exact ix_nI | assumption | with_reducible apply ix_add | with_reducible apply ix_mul | (with_reducible apply ix_sub) | (with_reducible apply ix_upd) | (with_reducible apply ix_div) | omega)
       · omega
       · omega
       all_goals (intro hc; first | omega | (conv => whnf)))
    | (with_reducible apply br_lt
       · repeat (first | with_reducible exact ix_nI | assumption | with_reducible apply ix_add | with_reducible apply ix_mul | (with_reducible apply ix_sub) | (with_reducible apply ix_upd) | (with_reducible apply ix_div) | omega)
       · repeat (first | with_reducible exact ix_nI | assumption | with_reducible apply ix_add | with_reducible apply ix_mul | (with_reducible apply ix_sub) | (with_reducible apply ix_upd) | (with_reducible apply ix_div) | omega)
       · omega
       · omega
       all_goals (intro hc; first | omega | (conv => whnf)))
    | (with_reducible apply br_eq
       · repeat (first | with_reducible exact ix_nI | assumption | with_reducible apply ix_add | with_reducible apply ix_mul | (with_reducible apply ix_sub) | (with_reducible apply ix_upd) | (with_reducible apply ix_div) | omega)
       · repeat (first | with_reducible exact ix_nI | assumption | with_reducible apply ix_add | with_reducible apply ix_mul | (with_reducible apply ix_sub) | (with_reducible apply ix_upd) | (with_reducible apply ix_div) | omega)
       · omega
       · omega
       all_goals (intro hc; first | omega | (conv => whnf)))
    | (with_reducible apply br_ne
       · repeat (first | with_reducible exact ix_nI | assumption | with_reducible apply ix_add | with_reducible apply ix_mul | (with_reducible apply ix_sub) | (with_reducible apply ix_upd) | (with_reducible apply ix_div) | omega)
       · repeat (first | with_reducible exact ix_nI | assumption | with_reducible apply ix_add | with_reducible apply ix_mul | (with_reducible apply ix_sub) | (with_reducible apply ix_upd) | (with_reducible apply ix_div) | omega)
       · omega
       · omega
       all_goals (intro hc; first | omega | (conv => whnf)))
    | (with_reducible apply br_eq0
       · repeat (first | with_reducible exact ix_nI | assumption | with_reducible apply ix_add | with_reducible apply ix_mul | (with_reducible apply ix_sub) | (with_reducible apply ix_upd) | (with_reducible apply ix_div) | omega)
       · omega
       all_goals (intro hc; first | omega | (conv => whnf)))
    | (with_reducible apply br_ne0
       · repeat (first | with_reducible exact ix_nI | assumption | with_reducible apply ix_add | with_reducible apply ix_mul | (with_reducible apply ix_sub) | (with_reducible apply ix_upd) | (with_reducible apply ix_div) | omega)
       · omega
       all_goals (intro hc; first | omega | (conv => whnf)))
    | (with_reducible apply br_le0
       · repeat (first | with_reducible exact ix_nI | assumption | with_reducible apply ix_add | with_reducible apply ix_mul | (with_reducible apply ix_sub) | (with_reducible apply ix_upd) | (with_reducible apply ix_div) | omega)
       · omega
       all_goals (intro hc; first | omega | (conv => whnf)))
    | (with_reducible apply br_gt0
       · repeat (first | with_reducible exact ix_nI | assumption | with_reducible apply ix_add | with_reducible apply ix_mul | (with_reducible apply ix_sub) | (with_reducible apply ix_upd) | (with_reducible apply ix_div) | omega)
       · omega
       all_goals (intro hc; first | omega | (conv => whnf)))
    | (with_reducible apply br_lt0
       · repeat (first | with_reducible exact ix_nI | assumption | with_reducible apply ix_add | with_reducible apply ix_mul | (with_reducible apply ix_sub) | (with_reducible apply ix_upd) | (with_reducible apply ix_div) | omega)
       · omega
       conv => whnf)
    | (with_reducible apply br_ge0
       · repeat (first | with_reducible exact ix_nI | assumption | with_reducible apply ix_add | with_reducible apply ix_mul | (with_reducible apply ix_sub) | (with_reducible apply ix_upd) | (with_reducible apply ix_div) | omega)
       · omega
       conv => whnf)
    | (with_reducible apply br_tab
       · repeat (first | with_reducible exact ix_nI | assumption | with_reducible apply ix_add | with_reducible apply ix_mul | (with_reducible apply ix_sub) | (with_reducible apply ix_upd) | (with_reducible apply ix_div) | omega)
       · omega
       all_goals (intro hc; (try dsimp only at hc); first | omega | (conv => whnf)))
    | (refine And.intro (fun hc => ?_) (fun hc => ?_) <;> conv => whnf)
    | (refine And.intro (by decide) ?_; conv => whnf)
    | fail)
  refine wp_use hW ?_
  have hO2 : OA (setM h1 u2) := by
    obtain ⟨f9, e9⟩ := hO
    exact ⟨f9, (setM_out (by omega)).trans ((hF1 160 (by omega)).trans e9)⟩
  exact (hgo (setM h1 u2) ⟨hA1.moved fun a ha => setM_out (Or.inl ha), ⟨u2, hR2, setM_setM⟩, hO2⟩).le (by repeat' (first | exact trivial | refine And.intro rfl ?_))
theorem sub_lt {L k : Nat} (hL : L ≤ 2048) (h1 : L < 4 * k + 4) (h2 : 4 * k ≤ L) : nI L - nI 4 < nI (4 * k) := by
  by_cases h4 : 4 ≤ L
  · rw [pk_sub h4, nI_ltI (by omega) (by omega)]
    omega
  · have hk : k = 0 := by omega
    subst hk
    rcases (show L = 0 ∨ L = 1 ∨ L = 2 ∨ L = 3 by omega) with e | e | e | e <;> (subst e; decide)
theorem law_loop {S : Nat} (hL : gL G ≤ 2048) (hfin : ∀ h' w', w'.2.1 ≤ 673 → w'.2.2 ≤ S + 3072 → K (.inl (some (.int 1))) h' w') : ∀ m k A h w, gL G / 4 = k + m → LX A h → IA (21 * k) A → (w.2.1 ≤ 161 + k ∧ w.2.2 ≤ S + 6 * k) → wp G (d + 10) kL_law T0 s0 K 23 [some (.retAddr 6), some (.ref 0), some (.ref 154), some (.ref 160), some (.int (nI (4 * k))), none, none, none, none] [] h w := by
  intro m
  induction m with
  | zero =>
    intro k A h w hm hX hI hw
    have hlt := sub_lt (L := gL G) (k := k) hL (by omega) (by omega)
    refine wp_vc [] 95 rfl fun W' C hW hC => ?_
    conv => whnf
    refine And.intro (by decide) ?_
    conv => whnf
    refine And.intro (fun _ => ?_) (fun hcc => absurd hlt hcc)
    conv => whnf
    exact ⟨Or.inr rfl, hfin _ _ (by omega) (by omega)⟩
  | succ m ih =>
    intro k A h w hm hX hI hw
    have hi : 4 * k + 3 < gL G := by omega
    have hge : ¬ nI (gL G) - nI 4 < nI (4 * k) := by
      rw [pk_sub (by omega), nI_ltI (by omega) (by omega)]
      omega
    have hn : 21 * k ≤ 100000 := by omega
    have keyN : ∀ A' h' w', LX A' h' → IA (21 * k + 21) A' → (w' = w ∨ w' = XW w) → wp G (d + 10) kL_law T0 s0 K 1606 [some (.retAddr 6), some (.ref 0), some (.ref 154), some (.ref 160), some (.int (nI (4 * k))), none, none, none, none] [] h' w' := by
      intro A' h' w' hX' hI' hw'
      refine wp_vc [23] 40 rfl fun W' C hW hC => ?_
      conv => whnf
      refine wp_use hW ?_
      rw [nI_add]
      have e : 4 * k + 4 = 4 * (k + 1) := by omega
      rw [e]
      refine (ih (k + 1) A' h' w' (by omega) hX' (by rw [show 21 * (k + 1) = 21 * k + 21 by omega]; exact hI') ?_).le (by repeat' (first | exact trivial | refine And.intro rfl ?_))
      rcases hw' with q | q
      · subst q
        exact ⟨by omega, by omega⟩
      · subst q
        exact ⟨show w.2.1 + 1 ≤ _ by omega, show w.2.2 + 6 ≤ _ by omega⟩
    obtain ⟨a, ha, ea⟩ := and31I (gS G (4 * k))
    refine wp_vc [160,228,284,340,408,464,544,600,668,724,737,750,794,838,906,962,1042,1110,1166,1222,1290,1358,1414,1482,1538,1551,1592,1606] 95 rfl fun W' C hW hC => ?_
    conv => whnf
    refine And.intro (by decide) ?_
    conv => whnf
    refine And.intro (fun hcc => absurd hcc hge) (fun _ => ?_)
    conv => whnf
    refine ⟨4 * k, rfl, ⟨by decide, (show 4 * k < gL G by omega), (show gL G < 100000 by omega)⟩, ?_⟩
    rw [show xval (gS G) 6 (4 * k) = gS G (4 * k) from rfl]
    conv => whnf
    rw [ea]
    repeat' (first
      | (with_reducible apply br_tab
         · with_reducible exact ix_nI
         · omega
         all_goals (intro hc; first | omega | (conv => whnf)))
      | fail)
    · refine wp_use hW ?_
      exact (lc_write hX hI.1 hi hL fun h' w' hX' hw' => keyN _ h' w' hX' (ia_write hI) hw').le (by repeat' (first | exact trivial | refine And.intro rfl ?_))
    · refine wp_use hW ?_
      exact (lc_read hX hI.1 hi hL fun h' w' hX' hw' => keyN _ h' w' hX' (ia_read hI) hw').le (by repeat' (first | exact trivial | refine And.intro rfl ?_))
    · refine wp_use hW ?_
      exact (lc_erase hX hI.1 hi hL fun h' w' hX' hw' => keyN _ h' w' hX' (ia_erase hI) hw').le (by repeat' (first | exact trivial | refine And.intro rfl ?_))
    · refine wp_use hW ?_
      exact (lc_copy hX hI.1 hi hL fun h' w' hX' hw' => keyN _ h' w' hX' (ia_copy hI) hw').le (by repeat' (first | exact trivial | refine And.intro rfl ?_))
    · refine wp_use hW ?_
      exact (lc_pass hX hI.1 hi hL fun h' w' hX' hw' => keyN _ h' w' hX' (ia_pass hI) hw').le (by repeat' (first | exact trivial | refine And.intro rfl ?_))
    · refine wp_use hW ?_
      exact (lc_addMatch hX hI.1 hi hL fun h' w' hX' hw' => keyN _ h' w' hX' (ia_addMatch hI) hw').le (by repeat' (first | exact trivial | refine And.intro rfl ?_))
    · refine wp_use hW ?_
      exact (lc_removeMatch hX hI.1 hi hL fun h' w' hX' hw' => keyN _ h' w' hX' (ia_removeMatch hI) hw').le (by repeat' (first | exact trivial | refine And.intro rfl ?_))
    · refine wp_use hW ?_
      exact (lc_set hX hI.1 hi hL fun h' w' hX' hw' => keyN _ h' w' hX' (ia_set hI) hw').le (by repeat' (first | exact trivial | refine And.intro rfl ?_))
    · refine wp_use hW ?_
      exact (lc_append hX hI.1 hi hL fun h' w' hX' hw' => keyN _ h' w' hX' (ia_append hI) hw').le (by repeat' (first | exact trivial | refine And.intro rfl ?_))
    · refine wp_use hW ?_
      exact (lc_clear hX hI.1 fun h' hX' => keyN _ h' w hX' (ia_clear hI) (Or.inl rfl)).le (by repeat' (first | exact trivial | refine And.intro rfl ?_))
    · refine wp_use hW ?_
      exact (lc_err hX hI.1 fun h' hX' => keyN _ h' w hX' ((ia_ok hI : IA (21 * k + 21) (aErr A).2.2)) (Or.inl rfl)).le (by repeat' (first | exact trivial | refine And.intro rfl ?_))
    · refine wp_use hW ?_
      exact (lc_run hX hI.1 hi hL fun h' w' hX' hw' => keyN _ h' w' hX' (ia_run hI) hw').le (by repeat' (first | exact trivial | refine And.intro rfl ?_))
    · refine wp_use hW ?_
      exact (lc_undo hX hI.1 hi hL fun h' w' hX' hw' => keyN _ h' w' hX' (ia_undo hI) hw').le (by repeat' (first | exact trivial | refine And.intro rfl ?_))
    · refine wp_use hW ?_
      exact (lc_page hX hI.1 hi hL fun h' w' hX' hw' => keyN _ h' w' hX' (ia_page hI) hw').le (by repeat' (first | exact trivial | refine And.intro rfl ?_))
    · refine wp_use hW ?_
      exact (lc_data hX hI.1 hi hL fun h' w' hX' hw' => keyN _ h' w' hX' (ia_data hI) hw').le (by repeat' (first | exact trivial | refine And.intro rfl ?_))
    · refine wp_use hW ?_
      exact (lc_cell hX hI.1 hi hL fun h' w' hX' hw' => keyN _ h' w' hX' (ia_cell hI) hw').le (by repeat' (first | exact trivial | refine And.intro rfl ?_))
    · refine wp_use hW ?_
      exact (lc_match hX hI.1 hi hL fun h' w' hX' hw' => keyN _ h' w' hX' (ia_match hI) hw').le (by repeat' (first | exact trivial | refine And.intro rfl ?_))
    · refine wp_use hW ?_
      exact (lc_count hX hI.1 hi hL fun h' w' hX' hw' => keyN _ h' w' hX' (ia_count hI) hw').le (by repeat' (first | exact trivial | refine And.intro rfl ?_))
    · refine wp_use hW ?_
      exact (lc_setting hX hI.1 hi hL fun h' w' hX' hw' => keyN _ h' w' hX' (ia_setting hI) hw').le (by repeat' (first | exact trivial | refine And.intro rfl ?_))
    · refine wp_use hW ?_
      exact (lc_wrong hX hI.1 hi hL fun h' w' hX' hw' => keyN _ h' w' hX' (ia_wrong hI) hw').le (by repeat' (first | exact trivial | refine And.intro rfl ?_))
    · refine wp_use hW ?_
      exact (lc_ifRead hX hI.1 hi hL fun h' w' hX' hw' => keyN _ h' w' hX' (ia_ifRead hI) hw').le (by repeat' (first | exact trivial | refine And.intro rfl ?_))
    · refine wp_use hW ?_
      exact (lc_life hX hI.1 hi hL fun h' w' hX' hw' => keyN _ h' w' hX' (ia_life hI) hw').le (by repeat' (first | exact trivial | refine And.intro rfl ?_))
    · refine wp_use hW ?_
      exact (lc_bestShift hX hI.1 hi hL fun h' w' hX' hw' => keyN _ h' w' hX' (ia_bestShift hI) hw').le (by repeat' (first | exact trivial | refine And.intro rfl ?_))
    · refine wp_use hW ?_
      exact (lc_lostIn hX hI.1 hi hL fun h' w' hX' hw' => keyN _ h' w' hX' (ia_lostIn hI) hw').le (by repeat' (first | exact trivial | refine And.intro rfl ?_))
    · refine wp_use hW ?_
      exact (lc_spare hX hI.1 fun h' hX' => keyN _ h' w hX' ((ia_ok hI : IA (21 * k + 21) (aSpare A).2.2)) (Or.inl rfl)).le (by repeat' (first | exact trivial | refine And.intro rfl ?_))
    · refine wp_use hW ?_
      exact (lc_mean hX hI.1 hn fun h' hX' => keyN _ h' w hX' (hI.mono (by omega)) (Or.inl rfl)).le (by repeat' (first | exact trivial | refine And.intro rfl ?_))
    · refine wp_use hW ?_
      exact (lc_digest hX hI.1 hn fun h' hX' => keyN _ h' w hX' (hI.mono (by omega)) (Or.inl rfl)).le (by repeat' (first | exact trivial | refine And.intro rfl ?_))
    · refine wp_use hW ?_
      exact (keyN A h w hX (hI.mono (by omega)) (Or.inl rfl)).le (by repeat' (first | exact trivial | refine And.intro rfl ?_))
theorem z0_ivz : Ivz 0 (z0L 3) := by
  refine ⟨fun j hj => ?_, ⟨⟨by decide, by decide, by decide⟩, fun p hp => ?_⟩⟩
  · by_cases h18 : 18 ≤ j
    · rw [z0_hi h18]
      have hb : ∀ N, bd (nI 0) N := fun N => ⟨0, Nat.zero_le _, rfl⟩
      unfold PR
      (repeat' split) <;> first | exact hb _ | exact trivial | exact ⟨by decide, by decide⟩
    · match j, h18 with
      | 0, _ => exact (PR_set (by omega)).mpr ⟨10, by decide, by decide⟩
      | 1, _ => exact (PR_set (by omega)).mpr ⟨4, by decide, by decide⟩
      | 2, _ => exact (PR_set (by omega)).mpr ⟨2, by decide, by decide⟩
      | 3, _ => exact (PR_set (by omega)).mpr ⟨3, by decide, by decide⟩
      | 4, _ => exact (PR_set (by omega)).mpr ⟨5, by decide, by decide⟩
      | 5, _ => exact (PR_set (by omega)).mpr ⟨1, by decide, by decide⟩
      | 6, _ => exact PR_free (by omega)
      | 7, _ => exact PR_seed.mpr ⟨1, by decide, by decide⟩
      | 8, _ => exact PR_free (by omega)
      | 9, _ => exact (PR_off (by omega)).mpr ⟨by decide, by decide⟩
      | 10, _ => exact (PR_off (by omega)).mpr ⟨by decide, by decide⟩
      | 11, _ => exact (PR_off (by omega)).mpr ⟨by decide, by decide⟩
      | 12, _ => exact (PR_off (by omega)).mpr ⟨by decide, by decide⟩
      | 13, _ => exact (PR_off (by omega)).mpr ⟨by decide, by decide⟩
      | 14, _ => exact (PR_off (by omega)).mpr ⟨by decide, by decide⟩
      | 15, _ => exact (PR_off (by omega)).mpr ⟨by decide, by decide⟩
      | 16, _ => exact (PR_off (by omega)).mpr ⟨by decide, by decide⟩
      | 17, _ => exact (PR_off (by omega)).mpr ⟨by decide, by decide⟩
      | j + 18, h => exact absurd (by omega) h
  · have e : z0L 3 (46 + p) = nI 0 := z0_hi (by omega)
    unfold favN
    rw [e]
    exact ⟨by decide, by decide⟩
theorem law_body (hL : gL G ≤ 2048) (hfin : ∀ h' w', w'.2.1 ≤ 673 → w'.2.2 ≤ 3395 + 3072 → K (.inl (some (.int 1))) h' w') : wp G (d + 10) kL_law 0 0 K 0 (entL (mL kL_law) [.retAddr 6]) [] h0 (0, 0, 0) := by
  refine wp_vc [23] 95 rfl fun W' C hW hC => ?_
  conv => whnf
  repeat' (first
    | (refine And.intro rfl ?_; dsimp only; conv => whnf)
    | (refine cl_use hC (c_init fun h1 hA1 hF1 => ?_); conv => whnf)
    | (refine cl_use hC (m_init fun u hz hs hl => ?_); conv => whnf)
    | (refine ⟨1, rfl, by decide, rfl, ?_⟩; dsimp only; conv => whnf)
    | (refine ⟨_, rfl, ?_⟩; conv => whnf)
    | (refine ⟨_, _, rfl, ⟨_, rfl, rfl⟩, ?_⟩; conv => whnf)
    | (refine ⟨_, _, rfl, ?_⟩
       with_reducible apply ix_ex
       · repeat (first | with_reducible exact ix_nI | assumption | with_reducible apply ix_add | with_reducible apply ix_mul | (with_reducible apply ix_sub) | (with_reducible apply ix_upd) | (with_reducible apply ix_div) | omega)
       (refine ⟨⟨by omega, by decide⟩, ?_⟩; conv => whnf))
    | (with_reducible apply br_le
       · repeat (first | with_reducible exact ix_nI | assumption | with_reducible apply ix_add | with_reducible apply ix_mul | (with_reducible apply ix_sub) | (with_reducible apply ix_upd) | (with_reducible apply ix_div) | omega)
       · repeat (first | with_reducible exact ix_nI | assumption | with_reducible apply ix_add | with_reducible apply ix_mul | (with_reducible apply ix_sub) | (with_reducible apply ix_upd) | (with_reducible apply ix_div) | omega)
       · omega
       · omega
       all_goals (intro hc; first | omega | (conv => whnf)))
    | (with_reducible apply br_lt
       · repeat (first | with_reducible exact ix_nI | assumption | with_reducible apply ix_add | with_reducible apply ix_mul | (with_reducible apply ix_sub) | (with_reducible apply ix_upd) | (with_reducible apply ix_div) | omega)
       · repeat (first | with_reducible exact ix_nI | assumption | with_reducible apply ix_add | with_reducible apply ix_mul | (with_reducible apply ix_sub) | (with_reducible apply ix_upd) | (with_reducible apply ix_div) | omega)
       · omega
       · omega
       all_goals (intro hc; first | omega | (conv => whnf)))
    | (with_reducible apply br_eq
       · repeat (first | with_reducible exact ix_nI | assumption | with_reducible apply ix_add | with_reducible apply ix_mul | (with_reducible apply ix_sub) | (with_reducible apply ix_upd) | (with_reducible apply ix_div) | omega)
       · repeat (first | with_reducible exact ix_nI | assumption | with_reducible apply ix_add | with_reducible apply ix_mul | (with_reducible apply ix_sub) | (with_reducible apply ix_upd) | (with_reducible apply ix_div) | omega)
       · omega
       · omega
       all_goals (intro hc; first | omega | (conv => whnf)))
    | (with_reducible apply br_ne
       · repeat (first | with_reducible exact ix_nI | assumption | with_reducible apply ix_add | with_reducible apply ix_mul | (with_reducible apply ix_sub) | (with_reducible apply ix_upd) | (with_reducible apply ix_div) | omega)
       · repeat (first | with_reducible exact ix_nI | assumption | with_reducible apply ix_add | with_reducible apply ix_mul | (with_reducible apply ix_sub) | (with_reducible apply ix_upd) | (with_reducible apply ix_div) | omega)
       · omega
       · omega
       all_goals (intro hc; first | omega | (conv => whnf)))
    | (with_reducible apply br_eq0
       · repeat (first | with_reducible exact ix_nI | assumption | with_reducible apply ix_add | with_reducible apply ix_mul | (with_reducible apply ix_sub) | (with_reducible apply ix_upd) | (with_reducible apply ix_div) | omega)
       · omega
       all_goals (intro hc; first | omega | (conv => whnf)))
    | (with_reducible apply br_ne0
       · repeat (first | with_reducible exact ix_nI | assumption | with_reducible apply ix_add | with_reducible apply ix_mul | (with_reducible apply ix_sub) | (with_reducible apply ix_upd) | (with_reducible apply ix_div) | omega)
       · omega
       all_goals (intro hc; first | omega | (conv => whnf)))
    | (with_reducible apply br_le0
       · repeat (first | with_reducible exact ix_nI | assumption | with_reducible apply ix_add | with_reducible apply ix_mul | (with_reducible apply ix_sub) | (with_reducible apply ix_upd) | (with_reducible apply ix_div) | omega)
       · omega
       all_goals (intro hc; first | omega | (conv => whnf)))
    | (with_reducible apply br_gt0
       · repeat (first | with_reducible exact ix_nI | assumption | with_reducible apply ix_add | with_reducible apply ix_mul | (with_reducible apply ix_sub) | (with_reducible apply ix_upd) | (with_reducible apply ix_div) | omega)
       · omega
       all_goals (intro hc; first | omega | (conv => whnf)))
    | (with_reducible apply br_lt0
       · repeat (first | with_reducible exact ix_nI | assumption | with_reducible apply ix_add | with_reducible apply ix_mul | (with_reducible apply ix_sub) | (with_reducible apply ix_upd) | (with_reducible apply ix_div) | omega)
       · omega
       conv => whnf)
    | (with_reducible apply br_ge0
       · repeat (first | with_reducible exact ix_nI | assumption | with_reducible apply ix_add | with_reducible apply ix_mul | (with_reducible apply ix_sub) | (with_reducible apply ix_upd) | (with_reducible apply ix_div) | omega)
       · omega
       conv => whnf)
    | (with_reducible apply br_tab
       · repeat (first | with_reducible exact ix_nI | assumption | with_reducible apply ix_add | with_reducible apply ix_mul | (with_reducible apply ix_sub) | (with_reducible apply ix_upd) | (with_reducible apply ix_div) | omega)
       · omega
       all_goals (intro hc; (try dsimp only at hc); first | omega | (conv => whnf)))
    | (refine And.intro (fun hc => ?_) (fun hc => ?_) <;> conv => whnf)
    | (refine And.intro (by decide) ?_; conv => whnf)
    | fail)
  refine wp_use hW ?_
  have hX : LX (z0L 3, [], []) (upA (setM h1 u) 160 (.inl (1, 1, .inr (.inl fun _ => 0)))) := by
    refine ⟨hA1.moved fun a ha => upA_ne (by omega) (setM_out (Or.inl ha)), ⟨u, ⟨hz, ⟨hs, Nat.zero_le _, fun i r h => by simp at h⟩, hl, Nat.zero_le _, fun i c h => by simp at h⟩, setM_keep (h := setM h1 u) setM_setM fun a _ g2 => upA_ne g2 rfl⟩, ⟨_, upA_eq⟩⟩
  have hI0 : IA (21 * 0) ((z0L 3, [], []) : AS) := ⟨z0_ivz, (fun r hr => nomatch hr), Nat.zero_le _, Nat.zero_le _, (fun c hc => nomatch hc)⟩
  exact (law_loop (S := 3395) hL hfin (gL G / 4) 0 _ _ _ (Nat.zero_add _).symm hX hI0 ⟨by decide, by decide⟩).le (by repeat' (first | exact trivial | refine And.intro rfl ?_))
end L4
