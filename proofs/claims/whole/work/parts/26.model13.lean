/-! ===== the model: run ===== -/
theorem ivz_do {n : Nat} {z : ZZ} {c : CMD} (h : Ivz n z) (hc : okC c) (hcan : canC z c = true) : Ivz (n + 1) (doC z c) := by
  rcases hc with ⟨e, p, hp, e2⟩ | ⟨e, p, hp, e2⟩ | ⟨e, p, hp, e2⟩ | ⟨e, p, hp0, hp, e2⟩
  · rw [doC, if_pos e, e2, ixN_nI (by omega)]
    exact (ivz_writes h hp).mono (by omega)
  · rw [doC, if_neg (by rw [e]; decide), if_pos e, e2, ixN_nI (by omega)]
    exact ivz_reads h hp
  · rw [canC, if_neg (by rw [e]; decide), if_neg (by rw [e]; decide), if_pos e, e2, ixN_nI (by omega)] at hcan
    rw [doC, if_neg (by rw [e]; decide), if_neg (by rw [e]; decide), if_pos e, e2, ixN_nI (by omega)]
    exact (ivz_erases h hp (of_decide_eq_true hcan)).mono (by omega)
  · rw [doC, if_neg (by rw [e]; decide), if_neg (by rw [e]; decide), if_neg (by rw [e]; decide)]
    exact (ivz_pass h _).mono (by omega)
section M13
variable {G : GG} {d n : Nat} {h0 h : AH} {u : MS} {A : AS} {w : W3} {K : AO → AH → W3 → Prop}
theorem m_canCarry {k : Nat} {c : CMD} (hk : k ≤ 20) (hp : u.2.2.2.2.1 (3 * k) = c.1 ∧ u.2.2.2.2.1 (3 * k + 1) = c.2.1) (hc : okC c) (h1 : canC u.1 c = true → K (.inl (some (.int (nI 1)))) (setM h0 u) w) (h2 : canC u.1 c = false → K (.inl (some (.int (nI 0)))) (setM h0 u) w) : Cl G (d + 1) kX5_canCarry [.ref 154, .int (nI k)] (setM h0 u) w K := by
  obtain ⟨hl, hn⟩ := hp
  rcases hc with ⟨e, p, hp, e2⟩ | ⟨e, p, hp, e2⟩ | ⟨e, p, hp, e2⟩ | ⟨e, p, hp0, hp, e2⟩
  · rw [canC, if_pos e, e2, ixN_nI (by omega)] at h1 h2
    rw [e] at hl
    rw [e2] at hn
    refine Cl.of (by decide) rfl ?_
    refine wp_vc [] 60 rfl fun W' C hW hC => ?_
    conv => whnf
    repeat' (first
      | (refine ⟨_, rfl, ?_⟩; conv => whnf)
      | (refine ⟨_, _, rfl, ⟨_, rfl, rfl⟩, ?_⟩; conv => whnf)
      | (refine ⟨_, _, rfl, ?_⟩
         with_reducible apply ix_ex
         · repeat (first | with_reducible exact ix_nI | assumption | with_reducible apply ix_add | with_reducible apply ix_mul | (with_reducible apply ix_sub) | (with_reducible apply ix_upd) | (with_reducible apply ix_div) | omega)
         (refine ⟨⟨by omega, by decide⟩, ?_⟩; conv => whnf))
      | (with_reducible apply br_le
         · repeat (first | with_reducible exact ix_nI | assumption | with_reducible apply ix_add | with_reducible apply ix_mul | (with_reducible apply ix_sub) | (with_reducible apply ix_upd) | (with_reducible apply ix_div) | omega)
         · repeat (first | with_reducible exact ix_nI | assumption | with_reducible apply ix_add | with_reducible apply ix_mul | (with_reducible apply ix_sub) | (with_reducible apply ix_upd) | (with_reducible apply ix_div) | omega)
         · omega
         · omega
         all_goals (intro hc; first | omega | (conv => whnf)))
      | (with_reducible apply br_lt
         · repeat (first | with_reducible exact ix_nI | assumption | with_reducible apply ix_add | with_reducible apply ix_mul | (with_reducible apply ix_sub) | (with_reducible apply ix_upd) | (with_reducible apply ix_div) | omega)
         · repeat (first | with_reducible exact ix_nI | assumption | with_reducible apply ix_add | with_reducible apply ix_mul | (with_reducible apply ix_sub) | (with_reducible apply ix_upd) | (with_reducible apply ix_div) | omega)
         · omega
         · omega
         all_goals (intro hc; first | omega | (conv => whnf)))
      | (with_reducible apply br_eq
         · repeat (first | with_reducible exact ix_nI | assumption | with_reducible apply ix_add | with_reducible apply ix_mul | (with_reducible apply ix_sub) | (with_reducible apply ix_upd) | (with_reducible apply ix_div) | omega)
         · repeat (first | with_reducible exact ix_nI | assumption | with_reducible apply ix_add | with_reducible apply ix_mul | (with_reducible apply ix_sub) | (with_reducible apply ix_upd) | (with_reducible apply ix_div) | omega)
         · omega
         · omega
         all_goals (intro hc; first | omega | (conv => whnf)))
      | (with_reducible apply br_ne
         · repeat (first | with_reducible exact ix_nI | assumption | with_reducible apply ix_add | with_reducible apply ix_mul | (with_reducible apply ix_sub) | (with_reducible apply ix_upd) | (with_reducible apply ix_div) | omega)
         · repeat (first | with_reducible exact ix_nI | assumption | with_reducible apply ix_add | with_reducible apply ix_mul | (with_reducible apply ix_sub) | (with_reducible apply ix_upd) | (with_reducible apply ix_div) | omega)
         · omega
         · omega
         all_goals (intro hc; first | omega | (conv => whnf)))
      | (with_reducible apply br_eq0
         · repeat (first | with_reducible exact ix_nI | assumption | with_reducible apply ix_add | with_reducible apply ix_mul | (with_reducible apply ix_sub) | (with_reducible apply ix_upd) | (with_reducible apply ix_div) | omega)
         · omega
         all_goals (intro hc; first | omega | (conv => whnf)))
      | (with_reducible apply br_ne0
         · repeat (first | with_reducible exact ix_nI | assumption | with_reducible apply ix_add | with_reducible apply ix_mul | (with_reducible apply ix_sub) | (with_reducible apply ix_upd) | (with_reducible apply ix_div) | omega)
         · omega
         all_goals (intro hc; first | omega | (conv => whnf)))
      | (with_reducible apply br_le0
         · repeat (first | with_reducible exact ix_nI | assumption | with_reducible apply ix_add | with_reducible apply ix_mul | (with_reducible apply ix_sub) | (with_reducible apply ix_upd) | (with_reducible apply ix_div) | omega)
         · omega
         all_goals (intro hc; first | omega | (conv => whnf)))
      | (with_reducible apply br_gt0
         · repeat (first | with_reducible exact ix_nI | assumption | with_reducible apply ix_add | with_reducible apply ix_mul | (with_reducible apply ix_sub) | (with_reducible apply ix_upd) | (with_reducible apply ix_div) | omega)
         · omega
         all_goals (intro hc; first | omega | (conv => whnf)))
      | (with_reducible apply br_lt0
         · repeat (first | with_reducible exact ix_nI | assumption | with_reducible apply ix_add | with_reducible apply ix_mul | (with_reducible apply ix_sub) | (with_reducible apply ix_upd) | (with_reducible apply ix_div) | omega)
         · omega
         conv => whnf)
      | (with_reducible apply br_ge0
         · repeat (first | with_reducible exact ix_nI | assumption | with_reducible apply ix_add | with_reducible apply ix_mul | (with_reducible apply ix_sub) | (with_reducible apply ix_upd) | (with_reducible apply ix_div) | omega)
         · omega
         conv => whnf)
      | (with_reducible apply br_tab
         · repeat (first | with_reducible exact ix_nI | assumption | with_reducible apply ix_add | with_reducible apply ix_mul | (with_reducible apply ix_sub) | (with_reducible apply ix_upd) | (with_reducible apply ix_div) | omega)
         · omega
         all_goals (intro hc; (try dsimp only at hc); first | omega | (conv => whnf)))
      | (refine cl_use hC (m_isErased2 hn hp (fun he => ?_) (fun he => ?_)) <;> conv => whnf)
      | (refine And.intro (fun hc => ?_) (fun hc => ?_) <;> conv => whnf)
      | (refine And.intro (by decide) ?_; conv => whnf)
      | fail)
    · exact h1 (decide_eq_true he)
    · exact h2 (decide_eq_false he)
  · rw [canC, if_neg (by rw [e]; decide), if_pos e, e2, ixN_nI (by omega)] at h1 h2
    rw [e] at hl
    rw [e2] at hn
    refine Cl.of (by decide) rfl ?_
    refine wp_vc [] 60 rfl fun W' C hW hC => ?_
    conv => whnf
    repeat' (first
      | (refine ⟨_, rfl, ?_⟩; conv => whnf)
      | (refine ⟨_, _, rfl, ⟨_, rfl, rfl⟩, ?_⟩; conv => whnf)
      | (refine ⟨_, _, rfl, ?_⟩
         with_reducible apply ix_ex
         · repeat (first | with_reducible exact ix_nI | assumption | with_reducible apply ix_add | with_reducible apply ix_mul | (with_reducible apply ix_sub) | (with_reducible apply ix_upd) | (with_reducible apply ix_div) | omega)
         (refine ⟨⟨by omega, by decide⟩, ?_⟩; conv => whnf))
      | (with_reducible apply br_le
         · repeat (first | with_reducible exact ix_nI | assumption | with_reducible apply ix_add | with_reducible apply ix_mul | (with_reducible apply ix_sub) | (with_reducible apply ix_upd) | (with_reducible apply ix_div) | omega)
         · repeat (first | with_reducible exact ix_nI | assumption | with_reducible apply ix_add | with_reducible apply ix_mul | (with_reducible apply ix_sub) | (with_reducible apply ix_upd) | (with_reducible apply ix_div) | omega)
         · omega
         · omega
         all_goals (intro hc; first | omega | (conv => whnf)))
      | (with_reducible apply br_lt
         · repeat (first | with_reducible exact ix_nI | assumption | with_reducible apply ix_add | with_reducible apply ix_mul | (with_reducible apply ix_sub) | (with_reducible apply ix_upd) | (with_reducible apply ix_div) | omega)
         · repeat (first | with_reducible exact ix_nI | assumption | with_reducible apply ix_add | with_reducible apply ix_mul | (with_reducible apply ix_sub) | (with_reducible apply ix_upd) | (with_reducible apply ix_div) | omega)
         · omega
         · omega
         all_goals (intro hc; first | omega | (conv => whnf)))
      | (with_reducible apply br_eq
         · repeat (first | with_reducible exact ix_nI | assumption | with_reducible apply ix_add | with_reducible apply ix_mul | (with_reducible apply ix_sub) | (with_reducible apply ix_upd) | (with_reducible apply ix_div) | omega)
         · repeat (first | with_reducible exact ix_nI | assumption | with_reducible apply ix_add | with_reducible apply ix_mul | (with_reducible apply ix_sub) | (with_reducible apply ix_upd) | (with_reducible apply ix_div) | omega)
         · omega
         · omega
         all_goals (intro hc; first | omega | (conv => whnf)))
      | (with_reducible apply br_ne
         · repeat (first | with_reducible exact ix_nI | assumption | with_reducible apply ix_add | with_reducible apply ix_mul | (with_reducible apply ix_sub) | (with_reducible apply ix_upd) | (with_reducible apply ix_div) | omega)
         · repeat (first | with_reducible exact ix_nI | assumption | with_reducible apply ix_add | with_reducible apply ix_mul | (with_reducible apply ix_sub) | (with_reducible apply ix_upd) | (with_reducible apply ix_div) | omega)
         · omega
         · omega
         all_goals (intro hc; first | omega | (conv => whnf)))
      | (with_reducible apply br_eq0
         · repeat (first | with_reducible exact ix_nI | assumption | with_reducible apply ix_add | with_reducible apply ix_mul | (with_reducible apply ix_sub) | (with_reducible apply ix_upd) | (with_reducible apply ix_div) | omega)
         · omega
         all_goals (intro hc; first | omega | (conv => whnf)))
      | (with_reducible apply br_ne0
         · repeat (first | with_reducible exact ix_nI | assumption | with_reducible apply ix_add | with_reducible apply ix_mul | (with_reducible apply ix_sub) | (with_reducible apply ix_upd) | (with_reducible apply ix_div) | omega)
         · omega
         all_goals (intro hc; first | omega | (conv => whnf)))
      | (with_reducible apply br_le0
         · repeat (first | with_reducible exact ix_nI | assumption | with_reducible apply ix_add | with_reducible apply ix_mul | (with_reducible apply ix_sub) | (with_reducible apply ix_upd) | (with_reducible apply ix_div) | omega)
         · omega
         all_goals (intro hc; first | omega | (conv => whnf)))
      | (with_reducible apply br_gt0
         · repeat (first | with_reducible exact ix_nI | assumption | with_reducible apply ix_add | with_reducible apply ix_mul | (with_reducible apply ix_sub) | (with_reducible apply ix_upd) | (with_reducible apply ix_div) | omega)
         · omega
         all_goals (intro hc; first | omega | (conv => whnf)))
      | (with_reducible apply br_lt0
         · repeat (first | with_reducible exact ix_nI | assumption | with_reducible apply ix_add | with_reducible apply ix_mul | (with_reducible apply ix_sub) | (with_reducible apply ix_upd) | (with_reducible apply ix_div) | omega)
         · omega
         conv => whnf)
      | (with_reducible apply br_ge0
         · repeat (first | with_reducible exact ix_nI | assumption | with_reducible apply ix_add | with_reducible apply ix_mul | (with_reducible apply ix_sub) | (with_reducible apply ix_upd) | (with_reducible apply ix_div) | omega)
         · omega
         conv => whnf)
      | (with_reducible apply br_tab
         · repeat (first | with_reducible exact ix_nI | assumption | with_reducible apply ix_add | with_reducible apply ix_mul | (with_reducible apply ix_sub) | (with_reducible apply ix_upd) | (with_reducible apply ix_div) | omega)
         · omega
         all_goals (intro hc; (try dsimp only at hc); first | omega | (conv => whnf)))
      | (refine cl_use hC (m_isWritten2 hn hp (fun he => ?_) (fun he => ?_)) <;> conv => whnf)
      | (refine And.intro (fun hc => ?_) (fun hc => ?_) <;> conv => whnf)
      | (refine And.intro (by decide) ?_; conv => whnf)
      | fail)
    · exact h1 (decide_eq_true he)
    · exact h2 (decide_eq_false he)
  · rw [canC, if_neg (by rw [e]; decide), if_neg (by rw [e]; decide), if_pos e, e2, ixN_nI (by omega)] at h1 h2
    rw [e] at hl
    rw [e2] at hn
    refine Cl.of (by decide) rfl ?_
    refine wp_vc [] 60 rfl fun W' C hW hC => ?_
    conv => whnf
    repeat' (first
      | (refine ⟨_, rfl, ?_⟩; conv => whnf)
      | (refine ⟨_, _, rfl, ⟨_, rfl, rfl⟩, ?_⟩; conv => whnf)
      | (refine ⟨_, _, rfl, ?_⟩
         with_reducible apply ix_ex
         · repeat (first | with_reducible exact ix_nI | assumption | with_reducible apply ix_add | with_reducible apply ix_mul | (with_reducible apply ix_sub) | (with_reducible apply ix_upd) | (with_reducible apply ix_div) | omega)
         (refine ⟨⟨by omega, by decide⟩, ?_⟩; conv => whnf))
      | (with_reducible apply br_le
         · repeat (first | with_reducible exact ix_nI | assumption | with_reducible apply ix_add | with_reducible apply ix_mul | (with_reducible apply ix_sub) | (with_reducible apply ix_upd) | (with_reducible apply ix_div) | omega)
         · repeat (first | with_reducible exact ix_nI | assumption | with_reducible apply ix_add | with_reducible apply ix_mul | (with_reducible apply ix_sub) | (with_reducible apply ix_upd) | (with_reducible apply ix_div) | omega)
         · omega
         · omega
         all_goals (intro hc; first | omega | (conv => whnf)))
      | (with_reducible apply br_lt
         · repeat (first | with_reducible exact ix_nI | assumption | with_reducible apply ix_add | with_reducible apply ix_mul | (with_reducible apply ix_sub) | (with_reducible apply ix_upd) | (with_reducible apply ix_div) | omega)
         · repeat (first | with_reducible exact ix_nI | assumption | with_reducible apply ix_add | with_reducible apply ix_mul | (with_reducible apply ix_sub) | (with_reducible apply ix_upd) | (with_reducible apply ix_div) | omega)
         · omega
         · omega
         all_goals (intro hc; first | omega | (conv => whnf)))
      | (with_reducible apply br_eq
         · repeat (first | with_reducible exact ix_nI | assumption | with_reducible apply ix_add | with_reducible apply ix_mul | (with_reducible apply ix_sub) | (with_reducible apply ix_upd) | (with_reducible apply ix_div) | omega)
         · repeat (first | with_reducible exact ix_nI | assumption | with_reducible apply ix_add | with_reducible apply ix_mul | (with_reducible apply ix_sub) | (with_reducible apply ix_upd) | (with_reducible apply ix_div) | omega)
         · omega
         · omega
         all_goals (intro hc; first | omega | (conv => whnf)))
      | (with_reducible apply br_ne
         · repeat (first | with_reducible exact ix_nI | assumption | with_reducible apply ix_add | with_reducible apply ix_mul | (with_reducible apply ix_sub) | (with_reducible apply ix_upd) | (with_reducible apply ix_div) | omega)
         · repeat (first | with_reducible exact ix_nI | assumption | with_reducible apply ix_add | with_reducible apply ix_mul | (with_reducible apply ix_sub) | (with_reducible apply ix_upd) | (with_reducible apply ix_div) | omega)
         · omega
         · omega
         all_goals (intro hc; first | omega | (conv => whnf)))
      | (with_reducible apply br_eq0
         · repeat (first | with_reducible exact ix_nI | assumption | with_reducible apply ix_add | with_reducible apply ix_mul | (with_reducible apply ix_sub) | (with_reducible apply ix_upd) | (with_reducible apply ix_div) | omega)
         · omega
         all_goals (intro hc; first | omega | (conv => whnf)))
      | (with_reducible apply br_ne0
         · repeat (first | with_reducible exact ix_nI | assumption | with_reducible apply ix_add | with_reducible apply ix_mul | (with_reducible apply ix_sub) | (with_reducible apply ix_upd) | (with_reducible apply ix_div) | omega)
         · omega
         all_goals (intro hc; first | omega | (conv => whnf)))
      | (with_reducible apply br_le0
         · repeat (first | with_reducible exact ix_nI | assumption | with_reducible apply ix_add | with_reducible apply ix_mul | (with_reducible apply ix_sub) | (with_reducible apply ix_upd) | (with_reducible apply ix_div) | omega)
         · omega
         all_goals (intro hc; first | omega | (conv => whnf)))
      | (with_reducible apply br_gt0
         · repeat (first | with_reducible exact ix_nI | assumption | with_reducible apply ix_add | with_reducible apply ix_mul | (with_reducible apply ix_sub) | (with_reducible apply ix_upd) | (with_reducible apply ix_div) | omega)
         · omega
         all_goals (intro hc; first | omega | (conv => whnf)))
      | (with_reducible apply br_lt0
         · repeat (first | with_reducible exact ix_nI | assumption | with_reducible apply ix_add | with_reducible apply ix_mul | (with_reducible apply ix_sub) | (with_reducible apply ix_upd) | (with_reducible apply ix_div) | omega)
         · omega
         conv => whnf)
      | (with_reducible apply br_ge0
         · repeat (first | with_reducible exact ix_nI | assumption | with_reducible apply ix_add | with_reducible apply ix_mul | (with_reducible apply ix_sub) | (with_reducible apply ix_upd) | (with_reducible apply ix_div) | omega)
         · omega
         conv => whnf)
      | (with_reducible apply br_tab
         · repeat (first | with_reducible exact ix_nI | assumption | with_reducible apply ix_add | with_reducible apply ix_mul | (with_reducible apply ix_sub) | (with_reducible apply ix_upd) | (with_reducible apply ix_div) | omega)
         · omega
         all_goals (intro hc; (try dsimp only at hc); first | omega | (conv => whnf)))
      | (refine cl_use hC (m_canErase2 hn hp (fun he => ?_) (fun he => ?_)) <;> conv => whnf)
      | (refine And.intro (fun hc => ?_) (fun hc => ?_) <;> conv => whnf)
      | (refine And.intro (by decide) ?_; conv => whnf)
      | fail)
    · exact h1 (decide_eq_true he)
    · exact h2 (decide_eq_false he)
  · rw [canC, if_neg (by rw [e]; decide), if_neg (by rw [e]; decide), if_neg (by rw [e]; decide)] at h1
    rw [e] at hl
    rw [e2] at hn
    refine Cl.of (by decide) rfl ?_
    refine wp_vc [] 60 rfl fun W' C hW hC => ?_
    conv => whnf
    repeat' (first
      | (refine ⟨_, rfl, ?_⟩; conv => whnf)
      | (refine ⟨_, _, rfl, ⟨_, rfl, rfl⟩, ?_⟩; conv => whnf)
      | (refine ⟨_, _, rfl, ?_⟩
         with_reducible apply ix_ex
         · repeat (first | with_reducible exact ix_nI | assumption | with_reducible apply ix_add | with_reducible apply ix_mul | (with_reducible apply ix_sub) | (with_reducible apply ix_upd) | (with_reducible apply ix_div) | omega)
         (refine ⟨⟨by omega, by decide⟩, ?_⟩; conv => whnf))
      | (with_reducible apply br_le
         · repeat (first | with_reducible exact ix_nI | assumption | with_reducible apply ix_add | with_reducible apply ix_mul | (with_reducible apply ix_sub) | (with_reducible apply ix_upd) | (with_reducible apply ix_div) | omega)
         · repeat (first | with_reducible exact ix_nI | assumption | with_reducible apply ix_add | with_reducible apply ix_mul | (with_reducible apply ix_sub) | (with_reducible apply ix_upd) | (with_reducible apply ix_div) | omega)
         · omega
         · omega
         all_goals (intro hc; first | omega | (conv => whnf)))
      | (with_reducible apply br_lt
         · repeat (first | with_reducible exact ix_nI | assumption | with_reducible apply ix_add | with_reducible apply ix_mul | (with_reducible apply ix_sub) | (with_reducible apply ix_upd) | (with_reducible apply ix_div) | omega)
         · repeat (first | with_reducible exact ix_nI | assumption | with_reducible apply ix_add | with_reducible apply ix_mul | (with_reducible apply ix_sub) | (with_reducible apply ix_upd) | (with_reducible apply ix_div) | omega)
         · omega
         · omega
         all_goals (intro hc; first | omega | (conv => whnf)))
      | (with_reducible apply br_eq
         · repeat (first | with_reducible exact ix_nI | assumption | with_reducible apply ix_add | with_reducible apply ix_mul | (with_reducible apply ix_sub) | (with_reducible apply ix_upd) | (with_reducible apply ix_div) | omega)
         · repeat (first | with_reducible exact ix_nI | assumption | with_reducible apply ix_add | with_reducible apply ix_mul | (with_reducible apply ix_sub) | (with_reducible apply ix_upd) | (with_reducible apply ix_div) | omega)
         · omega
         · omega
         all_goals (intro hc; first | omega | (conv => whnf)))
      | (with_reducible apply br_ne
         · repeat (first | with_reducible exact ix_nI | assumption | with_reducible apply ix_add | with_reducible apply ix_mul | (with_reducible apply ix_sub) | (with_reducible apply ix_upd) | (with_reducible apply ix_div) | omega)
         · repeat (first | with_reducible exact ix_nI | assumption | with_reducible apply ix_add | with_reducible apply ix_mul | (with_reducible apply ix_sub) | (with_reducible apply ix_upd) | (with_reducible apply ix_div) | omega)
         · omega
         · omega
         all_goals (intro hc; first | omega | (conv => whnf)))
      | (with_reducible apply br_eq0
         · repeat (first | with_reducible exact ix_nI | assumption | with_reducible apply ix_add | with_reducible apply ix_mul | (with_reducible apply ix_sub) | (with_reducible apply ix_upd) | (with_reducible apply ix_div) | omega)
         · omega
         all_goals (intro hc; first | omega | (conv => whnf)))
      | (with_reducible apply br_ne0
         · repeat (first | with_reducible exact ix_nI | assumption | with_reducible apply ix_add | with_reducible apply ix_mul | (with_reducible apply ix_sub) | (with_reducible apply ix_upd) | (with_reducible apply ix_div) | omega)
         · omega
         all_goals (intro hc; first | omega | (conv => whnf)))
      | (with_reducible apply br_le0
         · repeat (first | with_reducible exact ix_nI | assumption | with_reducible apply ix_add | with_reducible apply ix_mul | (with_reducible apply ix_sub) | (with_reducible apply ix_upd) | (with_reducible apply ix_div) | omega)
         · omega
         all_goals (intro hc; first | omega | (conv => whnf)))
      | (with_reducible apply br_gt0
         · repeat (first | with_reducible exact ix_nI | assumption | with_reducible apply ix_add | with_reducible apply ix_mul | (with_reducible apply ix_sub) | (with_reducible apply ix_upd) | (with_reducible apply ix_div) | omega)
         · omega
         all_goals (intro hc; first | omega | (conv => whnf)))
      | (with_reducible apply br_lt0
         · repeat (first | with_reducible exact ix_nI | assumption | with_reducible apply ix_add | with_reducible apply ix_mul | (with_reducible apply ix_sub) | (with_reducible apply ix_upd) | (with_reducible apply ix_div) | omega)
         · omega
         conv => whnf)
      | (with_reducible apply br_ge0
         · repeat (first | with_reducible exact ix_nI | assumption | with_reducible apply ix_add | with_reducible apply ix_mul | (with_reducible apply ix_sub) | (with_reducible apply ix_upd) | (with_reducible apply ix_div) | omega)
         · omega
         conv => whnf)
      | (with_reducible apply br_tab
         · repeat (first | with_reducible exact ix_nI | assumption | with_reducible apply ix_add | with_reducible apply ix_mul | (with_reducible apply ix_sub) | (with_reducible apply ix_upd) | (with_reducible apply ix_div) | omega)
         · omega
         all_goals (intro hc; (try dsimp only at hc); first | omega | (conv => whnf)))
      | (refine And.intro (fun hc => ?_) (fun hc => ?_) <;> conv => whnf)
      | (refine And.intro (by decide) ?_; conv => whnf)
      | fail)
    exact h1 rfl
theorem m_losesBy {k : Nat} {c : CMD} (hI : Ivz n u.1) (hk : k ≤ 20) (hp : u.2.2.2.2.1 (3 * k) = c.1 ∧ u.2.2.2.2.1 (3 * k + 1) = c.2.1 ∧ u.2.2.2.2.1 (3 * k + 2) = c.2.2) (hc : okC c) (h1 : ∀ ch', lsC u.1 c = true → K (.inl (some (.int (nI 1)))) (setM h0 (doC u.1 c, u.2.1, u.2.2.1, ch', u.2.2.2.2)) w) (h2 : ∀ ch', lsC u.1 c = false → K (.inl (some (.int (nI 0)))) (setM h0 (doC u.1 c, u.2.1, u.2.2.1, ch', u.2.2.2.2)) w) : Cl G (d + 5) kX5_losesBy [.ref 154, .int (nI k)] (setM h0 u) w K := by
  obtain ⟨hl, hn, hw⟩ := hp
  rcases hc with ⟨e, p, hp, e2⟩ | ⟨e, p, hp, e2⟩ | ⟨e, p, hp, e2⟩ | ⟨e, p, hp0, hp, e2⟩
  · rw [lsC, if_neg (by rw [e]; decide), doC, if_pos e, e2, ixN_nI (by omega)] at h2
    rw [e] at hl
    rw [e2] at hn
    refine Cl.of (by decide) rfl ?_
    refine wp_vc [] 60 rfl fun W' C hW hC => ?_
    conv => whnf
    repeat' (first
      | (refine ⟨_, rfl, ?_⟩; conv => whnf)
      | (refine ⟨_, _, rfl, ⟨_, rfl, rfl⟩, ?_⟩; conv => whnf)
      | (refine ⟨_, _, rfl, ?_⟩
         with_reducible apply ix_ex
         · repeat (first | with_reducible exact ix_nI | assumption | with_reducible apply ix_add | with_reducible apply ix_mul | (with_reducible apply ix_sub) | (with_reducible apply ix_upd) | (with_reducible apply ix_div) | omega)
         (refine ⟨⟨by omega, by decide⟩, ?_⟩; conv => whnf))
      | (with_reducible apply br_le
         · repeat (first | with_reducible exact ix_nI | assumption | with_reducible apply ix_add | with_reducible apply ix_mul | (with_reducible apply ix_sub) | (with_reducible apply ix_upd) | (with_reducible apply ix_div) | omega)
         · repeat (first | with_reducible exact ix_nI | assumption | with_reducible apply ix_add | with_reducible apply ix_mul | (with_reducible apply ix_sub) | (with_reducible apply ix_upd) | (with_reducible apply ix_div) | omega)
         · omega
         · omega
         all_goals (intro hc; first | omega | (conv => whnf)))
      | (with_reducible apply br_lt
         · repeat (first | with_reducible exact ix_nI | assumption | with_reducible apply ix_add | with_reducible apply ix_mul | (with_reducible apply ix_sub) | (with_reducible apply ix_upd) | (with_reducible apply ix_div) | omega)
         · repeat (first | with_reducible exact ix_nI | assumption | with_reducible apply ix_add | with_reducible apply ix_mul | (with_reducible apply ix_sub) | (with_reducible apply ix_upd) | (with_reducible apply ix_div) | omega)
         · omega
         · omega
         all_goals (intro hc; first | omega | (conv => whnf)))
      | (with_reducible apply br_eq
         · repeat (first | with_reducible exact ix_nI | assumption | with_reducible apply ix_add | with_reducible apply ix_mul | (with_reducible apply ix_sub) | (with_reducible apply ix_upd) | (with_reducible apply ix_div) | omega)
         · repeat (first | with_reducible exact ix_nI | assumption | with_reducible apply ix_add | with_reducible apply ix_mul | (with_reducible apply ix_sub) | (with_reducible apply ix_upd) | (with_reducible apply ix_div) | omega)
         · omega
         · omega
         all_goals (intro hc; first | omega | (conv => whnf)))
      | (with_reducible apply br_ne
         · repeat (first | with_reducible exact ix_nI | assumption | with_reducible apply ix_add | with_reducible apply ix_mul | (with_reducible apply ix_sub) | (with_reducible apply ix_upd) | (with_reducible apply ix_div) | omega)
         · repeat (first | with_reducible exact ix_nI | assumption | with_reducible apply ix_add | with_reducible apply ix_mul | (with_reducible apply ix_sub) | (with_reducible apply ix_upd) | (with_reducible apply ix_div) | omega)
         · omega
         · omega
         all_goals (intro hc; first | omega | (conv => whnf)))
      | (with_reducible apply br_eq0
         · repeat (first | with_reducible exact ix_nI | assumption | with_reducible apply ix_add | with_reducible apply ix_mul | (with_reducible apply ix_sub) | (with_reducible apply ix_upd) | (with_reducible apply ix_div) | omega)
         · omega
         all_goals (intro hc; first | omega | (conv => whnf)))
      | (with_reducible apply br_ne0
         · repeat (first | with_reducible exact ix_nI | assumption | with_reducible apply ix_add | with_reducible apply ix_mul | (with_reducible apply ix_sub) | (with_reducible apply ix_upd) | (with_reducible apply ix_div) | omega)
         · omega
         all_goals (intro hc; first | omega | (conv => whnf)))
      | (with_reducible apply br_le0
         · repeat (first | with_reducible exact ix_nI | assumption | with_reducible apply ix_add | with_reducible apply ix_mul | (with_reducible apply ix_sub) | (with_reducible apply ix_upd) | (with_reducible apply ix_div) | omega)
         · omega
         all_goals (intro hc; first | omega | (conv => whnf)))
      | (with_reducible apply br_gt0
         · repeat (first | with_reducible exact ix_nI | assumption | with_reducible apply ix_add | with_reducible apply ix_mul | (with_reducible apply ix_sub) | (with_reducible apply ix_upd) | (with_reducible apply ix_div) | omega)
         · omega
         all_goals (intro hc; first | omega | (conv => whnf)))
      | (with_reducible apply br_lt0
         · repeat (first | with_reducible exact ix_nI | assumption | with_reducible apply ix_add | with_reducible apply ix_mul | (with_reducible apply ix_sub) | (with_reducible apply ix_upd) | (with_reducible apply ix_div) | omega)
         · omega
         conv => whnf)
      | (with_reducible apply br_ge0
         · repeat (first | with_reducible exact ix_nI | assumption | with_reducible apply ix_add | with_reducible apply ix_mul | (with_reducible apply ix_sub) | (with_reducible apply ix_upd) | (with_reducible apply ix_div) | omega)
         · omega
         conv => whnf)
      | (with_reducible apply br_tab
         · repeat (first | with_reducible exact ix_nI | assumption | with_reducible apply ix_add | with_reducible apply ix_mul | (with_reducible apply ix_sub) | (with_reducible apply ix_upd) | (with_reducible apply ix_div) | omega)
         · omega
         all_goals (intro hc; (try dsimp only at hc); first | omega | (conv => whnf)))
      | (refine cl_use hC (m_writes hn hp (bd_J0 hI hp) ?_); conv => whnf)
      | (refine And.intro (fun hc => ?_) (fun hc => ?_) <;> conv => whnf)
      | (refine And.intro (by decide) ?_; conv => whnf)
      | fail)
    rw [hw]
    exact h2 u.2.2.2.1 rfl
  · rw [lsC, if_pos e, doC, if_neg (by rw [e]; decide), if_pos e, e2, ixN_nI (by omega)] at h1 h2
    rw [e] at hl
    rw [e2] at hn
    refine Cl.of (by decide) rfl ?_
    refine wp_vc [] 60 rfl fun W' C hW hC => ?_
    conv => whnf
    repeat' (first
      | (refine ⟨_, rfl, ?_⟩; conv => whnf)
      | (refine ⟨_, _, rfl, ⟨_, rfl, rfl⟩, ?_⟩; conv => whnf)
      | (refine ⟨_, _, rfl, ?_⟩
         with_reducible apply ix_ex
         · repeat (first | with_reducible exact ix_nI | assumption | with_reducible apply ix_add | with_reducible apply ix_mul | (with_reducible apply ix_sub) | (with_reducible apply ix_upd) | (with_reducible apply ix_div) | omega)
         (refine ⟨⟨by omega, by decide⟩, ?_⟩; conv => whnf))
      | (with_reducible apply br_le
         · repeat (first | with_reducible exact ix_nI | assumption | with_reducible apply ix_add | with_reducible apply ix_mul | (with_reducible apply ix_sub) | (with_reducible apply ix_upd) | (with_reducible apply ix_div) | omega)
         · repeat (first | with_reducible exact ix_nI | assumption | with_reducible apply ix_add | with_reducible apply ix_mul | (with_reducible apply ix_sub) | (with_reducible apply ix_upd) | (with_reducible apply ix_div) | omega)
         · omega
         · omega
         all_goals (intro hc; first | omega | (conv => whnf)))
      | (with_reducible apply br_lt
         · repeat (first | with_reducible exact ix_nI | assumption | with_reducible apply ix_add | with_reducible apply ix_mul | (with_reducible apply ix_sub) | (with_reducible apply ix_upd) | (with_reducible apply ix_div) | omega)
         · repeat (first | with_reducible exact ix_nI | assumption | with_reducible apply ix_add | with_reducible apply ix_mul | (with_reducible apply ix_sub) | (with_reducible apply ix_upd) | (with_reducible apply ix_div) | omega)
         · omega
         · omega
         all_goals (intro hc; first | omega | (conv => whnf)))
      | (with_reducible apply br_eq
         · repeat (first | with_reducible exact ix_nI | assumption | with_reducible apply ix_add | with_reducible apply ix_mul | (with_reducible apply ix_sub) | (with_reducible apply ix_upd) | (with_reducible apply ix_div) | omega)
         · repeat (first | with_reducible exact ix_nI | assumption | with_reducible apply ix_add | with_reducible apply ix_mul | (with_reducible apply ix_sub) | (with_reducible apply ix_upd) | (with_reducible apply ix_div) | omega)
         · omega
         · omega
         all_goals (intro hc; first | omega | (conv => whnf)))
      | (with_reducible apply br_ne
         · repeat (first | with_reducible exact ix_nI | assumption | with_reducible apply ix_add | with_reducible apply ix_mul | (with_reducible apply ix_sub) | (with_reducible apply ix_upd) | (with_reducible apply ix_div) | omega)
         · repeat (first | with_reducible exact ix_nI | assumption | with_reducible apply ix_add | with_reducible apply ix_mul | (with_reducible apply ix_sub) | (with_reducible apply ix_upd) | (with_reducible apply ix_div) | omega)
         · omega
         · omega
         all_goals (intro hc; first | omega | (conv => whnf)))
      | (with_reducible apply br_eq0
         · repeat (first | with_reducible exact ix_nI | assumption | with_reducible apply ix_add | with_reducible apply ix_mul | (with_reducible apply ix_sub) | (with_reducible apply ix_upd) | (with_reducible apply ix_div) | omega)
         · omega
         all_goals (intro hc; first | omega | (conv => whnf)))
      | (with_reducible apply br_ne0
         · repeat (first | with_reducible exact ix_nI | assumption | with_reducible apply ix_add | with_reducible apply ix_mul | (with_reducible apply ix_sub) | (with_reducible apply ix_upd) | (with_reducible apply ix_div) | omega)
         · omega
         all_goals (intro hc; first | omega | (conv => whnf)))
      | (with_reducible apply br_le0
         · repeat (first | with_reducible exact ix_nI | assumption | with_reducible apply ix_add | with_reducible apply ix_mul | (with_reducible apply ix_sub) | (with_reducible apply ix_upd) | (with_reducible apply ix_div) | omega)
         · omega
         all_goals (intro hc; first | omega | (conv => whnf)))
      | (with_reducible apply br_gt0
         · repeat (first | with_reducible exact ix_nI | assumption | with_reducible apply ix_add | with_reducible apply ix_mul | (with_reducible apply ix_sub) | (with_reducible apply ix_upd) | (with_reducible apply ix_div) | omega)
         · omega
         all_goals (intro hc; first | omega | (conv => whnf)))
      | (with_reducible apply br_lt0
         · repeat (first | with_reducible exact ix_nI | assumption | with_reducible apply ix_add | with_reducible apply ix_mul | (with_reducible apply ix_sub) | (with_reducible apply ix_upd) | (with_reducible apply ix_div) | omega)
         · omega
         conv => whnf)
      | (with_reducible apply br_ge0
         · repeat (first | with_reducible exact ix_nI | assumption | with_reducible apply ix_add | with_reducible apply ix_mul | (with_reducible apply ix_sub) | (with_reducible apply ix_upd) | (with_reducible apply ix_div) | omega)
         · omega
         conv => whnf)
      | (with_reducible apply br_tab
         · repeat (first | with_reducible exact ix_nI | assumption | with_reducible apply ix_add | with_reducible apply ix_mul | (with_reducible apply ix_sub) | (with_reducible apply ix_upd) | (with_reducible apply ix_div) | omega)
         · omega
         all_goals (intro hc; (try dsimp only at hc); first | omega | (conv => whnf)))
      | (refine cl_use hC (m_reads hn hI.mf hp fun r ch' z' hch hr hz' => ?_); conv => whnf)
      | (refine And.intro (fun hc => ?_) (fun hc => ?_) <;> conv => whnf)
      | (refine And.intro (by decide) ?_; conv => whnf)
      | fail)
    · subst hr hz'
      exact h2 ch' (decide_eq_false hc)
    · subst hr hz'
      exact h1 ch' (decide_eq_true hc)
  · rw [lsC, if_neg (by rw [e]; decide), doC, if_neg (by rw [e]; decide), if_neg (by rw [e]; decide), if_pos e, e2, ixN_nI (by omega)] at h2
    rw [e] at hl
    rw [e2] at hn
    refine Cl.of (by decide) rfl ?_
    refine wp_vc [] 60 rfl fun W' C hW hC => ?_
    conv => whnf
    repeat' (first
      | (refine ⟨_, rfl, ?_⟩; conv => whnf)
      | (refine ⟨_, _, rfl, ⟨_, rfl, rfl⟩, ?_⟩; conv => whnf)
      | (refine ⟨_, _, rfl, ?_⟩
         with_reducible apply ix_ex
         · repeat (first | with_reducible exact ix_nI | assumption | with_reducible apply ix_add | with_reducible apply ix_mul | (with_reducible apply ix_sub) | (with_reducible apply ix_upd) | (with_reducible apply ix_div) | omega)
         (refine ⟨⟨by omega, by decide⟩, ?_⟩; conv => whnf))
      | (with_reducible apply br_le
         · repeat (first | with_reducible exact ix_nI | assumption | with_reducible apply ix_add | with_reducible apply ix_mul | (with_reducible apply ix_sub) | (with_reducible apply ix_upd) | (with_reducible apply ix_div) | omega)
         · repeat (first | with_reducible exact ix_nI | assumption | with_reducible apply ix_add | with_reducible apply ix_mul | (with_reducible apply ix_sub) | (with_reducible apply ix_upd) | (with_reducible apply ix_div) | omega)
         · omega
         · omega
         all_goals (intro hc; first | omega | (conv => whnf)))
      | (with_reducible apply br_lt
         · repeat (first | with_reducible exact ix_nI | assumption | with_reducible apply ix_add | with_reducible apply ix_mul | (with_reducible apply ix_sub) | (with_reducible apply ix_upd) | (with_reducible apply ix_div) | omega)
         · repeat (first | with_reducible exact ix_nI | assumption | with_reducible apply ix_add | with_reducible apply ix_mul | (with_reducible apply ix_sub) | (with_reducible apply ix_upd) | (with_reducible apply ix_div) | omega)
         · omega
         · omega
         all_goals (intro hc; first | omega | (conv => whnf)))
      | (with_reducible apply br_eq
         · repeat (first | with_reducible exact ix_nI | assumption | with_reducible apply ix_add | with_reducible apply ix_mul | (with_reducible apply ix_sub) | (with_reducible apply ix_upd) | (with_reducible apply ix_div) | omega)
         · repeat (first | with_reducible exact ix_nI | assumption | with_reducible apply ix_add | with_reducible apply ix_mul | (with_reducible apply ix_sub) | (with_reducible apply ix_upd) | (with_reducible apply ix_div) | omega)
         · omega
         · omega
         all_goals (intro hc; first | omega | (conv => whnf)))
      | (with_reducible apply br_ne
         · repeat (first | with_reducible exact ix_nI | assumption | with_reducible apply ix_add | with_reducible apply ix_mul | (with_reducible apply ix_sub) | (with_reducible apply ix_upd) | (with_reducible apply ix_div) | omega)
         · repeat (first | with_reducible exact ix_nI | assumption | with_reducible apply ix_add | with_reducible apply ix_mul | (with_reducible apply ix_sub) | (with_reducible apply ix_upd) | (with_reducible apply ix_div) | omega)
         · omega
         · omega
         all_goals (intro hc; first | omega | (conv => whnf)))
      | (with_reducible apply br_eq0
         · repeat (first | with_reducible exact ix_nI | assumption | with_reducible apply ix_add | with_reducible apply ix_mul | (with_reducible apply ix_sub) | (with_reducible apply ix_upd) | (with_reducible apply ix_div) | omega)
         · omega
         all_goals (intro hc; first | omega | (conv => whnf)))
      | (with_reducible apply br_ne0
         · repeat (first | with_reducible exact ix_nI | assumption | with_reducible apply ix_add | with_reducible apply ix_mul | (with_reducible apply ix_sub) | (with_reducible apply ix_upd) | (with_reducible apply ix_div) | omega)
         · omega
         all_goals (intro hc; first | omega | (conv => whnf)))
      | (with_reducible apply br_le0
         · repeat (first | with_reducible exact ix_nI | assumption | with_reducible apply ix_add | with_reducible apply ix_mul | (with_reducible apply ix_sub) | (with_reducible apply ix_upd) | (with_reducible apply ix_div) | omega)
         · omega
         all_goals (intro hc; first | omega | (conv => whnf)))
      | (with_reducible apply br_gt0
         · repeat (first | with_reducible exact ix_nI | assumption | with_reducible apply ix_add | with_reducible apply ix_mul | (with_reducible apply ix_sub) | (with_reducible apply ix_upd) | (with_reducible apply ix_div) | omega)
         · omega
         all_goals (intro hc; first | omega | (conv => whnf)))
      | (with_reducible apply br_lt0
         · repeat (first | with_reducible exact ix_nI | assumption | with_reducible apply ix_add | with_reducible apply ix_mul | (with_reducible apply ix_sub) | (with_reducible apply ix_upd) | (with_reducible apply ix_div) | omega)
         · omega
         conv => whnf)
      | (with_reducible apply br_ge0
         · repeat (first | with_reducible exact ix_nI | assumption | with_reducible apply ix_add | with_reducible apply ix_mul | (with_reducible apply ix_sub) | (with_reducible apply ix_upd) | (with_reducible apply ix_div) | omega)
         · omega
         conv => whnf)
      | (with_reducible apply br_tab
         · repeat (first | with_reducible exact ix_nI | assumption | with_reducible apply ix_add | with_reducible apply ix_mul | (with_reducible apply ix_sub) | (with_reducible apply ix_upd) | (with_reducible apply ix_div) | omega)
         · omega
         all_goals (intro hc; (try dsimp only at hc); first | omega | (conv => whnf)))
      | (refine cl_use hC (m_erases hn hp ?_); conv => whnf)
      | (refine And.intro (fun hc => ?_) (fun hc => ?_) <;> conv => whnf)
      | (refine And.intro (by decide) ?_; conv => whnf)
      | fail)
    exact h2 u.2.2.2.1 rfl
  · rw [lsC, if_neg (by rw [e]; decide), doC, if_neg (by rw [e]; decide), if_neg (by rw [e]; decide), if_neg (by rw [e]; decide), e2, ixN_nI (by omega)] at h2
    rw [e] at hl
    rw [e2] at hn
    refine Cl.of (by decide) rfl ?_
    refine wp_vc [] 60 rfl fun W' C hW hC => ?_
    conv => whnf
    repeat' (first
      | (refine ⟨_, rfl, ?_⟩; conv => whnf)
      | (refine ⟨_, _, rfl, ⟨_, rfl, rfl⟩, ?_⟩; conv => whnf)
      | (refine ⟨_, _, rfl, ?_⟩
         with_reducible apply ix_ex
         · repeat (first | with_reducible exact ix_nI | assumption | with_reducible apply ix_add | with_reducible apply ix_mul | (with_reducible apply ix_sub) | (with_reducible apply ix_upd) | (with_reducible apply ix_div) | omega)
         (refine ⟨⟨by omega, by decide⟩, ?_⟩; conv => whnf))
      | (with_reducible apply br_le
         · repeat (first | with_reducible exact ix_nI | assumption | with_reducible apply ix_add | with_reducible apply ix_mul | (with_reducible apply ix_sub) | (with_reducible apply ix_upd) | (with_reducible apply ix_div) | omega)
         · repeat (first | with_reducible exact ix_nI | assumption | with_reducible apply ix_add | with_reducible apply ix_mul | (with_reducible apply ix_sub) | (with_reducible apply ix_upd) | (with_reducible apply ix_div) | omega)
         · omega
         · omega
         all_goals (intro hc; first | omega | (conv => whnf)))
      | (with_reducible apply br_lt
         · repeat (first | with_reducible exact ix_nI | assumption | with_reducible apply ix_add | with_reducible apply ix_mul | (with_reducible apply ix_sub) | (with_reducible apply ix_upd) | (with_reducible apply ix_div) | omega)
         · repeat (first | with_reducible exact ix_nI | assumption | with_reducible apply ix_add | with_reducible apply ix_mul | (with_reducible apply ix_sub) | (with_reducible apply ix_upd) | (with_reducible apply ix_div) | omega)
         · omega
         · omega
         all_goals (intro hc; first | omega | (conv => whnf)))
      | (with_reducible apply br_eq
         · repeat (first | with_reducible exact ix_nI | assumption | with_reducible apply ix_add | with_reducible apply ix_mul | (with_reducible apply ix_sub) | (with_reducible apply ix_upd) | (with_reducible apply ix_div) | omega)
         · repeat (first | with_reducible exact ix_nI | assumption | with_reducible apply ix_add | with_reducible apply ix_mul | (with_reducible apply ix_sub) | (with_reducible apply ix_upd) | (with_reducible apply ix_div) | omega)
         · omega
         · omega
         all_goals (intro hc; first | omega | (conv => whnf)))
      | (with_reducible apply br_ne
         · repeat (first | with_reducible exact ix_nI | assumption | with_reducible apply ix_add | with_reducible apply ix_mul | (with_reducible apply ix_sub) | (with_reducible apply ix_upd) | (with_reducible apply ix_div) | omega)
         · repeat (first | with_reducible exact ix_nI | assumption | with_reducible apply ix_add | with_reducible apply ix_mul | (with_reducible apply ix_sub) | (with_reducible apply ix_upd) | (with_reducible apply ix_div) | omega)
         · omega
         · omega
         all_goals (intro hc; first | omega | (conv => whnf)))
      | (with_reducible apply br_eq0
         · repeat (first | with_reducible exact ix_nI | assumption | with_reducible apply ix_add | with_reducible apply ix_mul | (with_reducible apply ix_sub) | (with_reducible apply ix_upd) | (with_reducible apply ix_div) | omega)
         · omega
         all_goals (intro hc; first | omega | (conv => whnf)))
      | (with_reducible apply br_ne0
         · repeat (first | with_reducible exact ix_nI | assumption | with_reducible apply ix_add | with_reducible apply ix_mul | (with_reducible apply ix_sub) | (with_reducible apply ix_upd) | (with_reducible apply ix_div) | omega)
         · omega
         all_goals (intro hc; first | omega | (conv => whnf)))
      | (with_reducible apply br_le0
         · repeat (first | with_reducible exact ix_nI | assumption | with_reducible apply ix_add | with_reducible apply ix_mul | (with_reducible apply ix_sub) | (with_reducible apply ix_upd) | (with_reducible apply ix_div) | omega)
         · omega
         all_goals (intro hc; first | omega | (conv => whnf)))
      | (with_reducible apply br_gt0
         · repeat (first | with_reducible exact ix_nI | assumption | with_reducible apply ix_add | with_reducible apply ix_mul | (with_reducible apply ix_sub) | (with_reducible apply ix_upd) | (with_reducible apply ix_div) | omega)
         · omega
         all_goals (intro hc; first | omega | (conv => whnf)))
      | (with_reducible apply br_lt0
         · repeat (first | with_reducible exact ix_nI | assumption | with_reducible apply ix_add | with_reducible apply ix_mul | (with_reducible apply ix_sub) | (with_reducible apply ix_upd) | (with_reducible apply ix_div) | omega)
         · omega
         conv => whnf)
      | (with_reducible apply br_ge0
         · repeat (first | with_reducible exact ix_nI | assumption | with_reducible apply ix_add | with_reducible apply ix_mul | (with_reducible apply ix_sub) | (with_reducible apply ix_upd) | (with_reducible apply ix_div) | omega)
         · omega
         conv => whnf)
      | (with_reducible apply br_tab
         · repeat (first | with_reducible exact ix_nI | assumption | with_reducible apply ix_add | with_reducible apply ix_mul | (with_reducible apply ix_sub) | (with_reducible apply ix_upd) | (with_reducible apply ix_div) | omega)
         · omega
         all_goals (intro hc; (try dsimp only at hc); first | omega | (conv => whnf)))
      | (refine cl_use hC (m_passes hn (by omega) ?_); conv => whnf)
      | (refine And.intro (fun hc => ?_) (fun hc => ?_) <;> conv => whnf)
      | (refine And.intro (by decide) ?_; conv => whnf)
      | fail)
    exact h2 u.2.2.2.1 rfl
/-- the loop of run -/
theorem m_runLoop {cmds : List CMD} (hlen : 1 ≤ cmds.length ∧ cmds.length ≤ 21) (hok : ∀ c, c ∈ cmds → okC c) : ∀ rest pre n (u : MS), cmds = pre ++ rest → Ivz n u.1 → (∀ i c, cmds[i]? = some c → u.2.2.2.2.1 (3 * i) = c.1 ∧ u.2.2.2.2.1 (3 * i + 1) = c.2.1 ∧ u.2.2.2.2.1 (3 * i + 2) = c.2.2) → u.2.2.2.2.2.2.2.2.1 = nI (cmds.length - 1) → (∀ ch', K (.inl (some (.int (nI (pre.length + (runL u.1 rest).2))))) (setM h0 ((runL u.1 rest).1, u.2.1, u.2.2.1, ch', u.2.2.2.2)) w) → wp G (d + 6) kX5_run w.2.1 w.2.2 K 59 [some (.ref 154), none, some (.int (nI pre.length)), some (.int (nI 1))] [] (setM h0 u) w := by
  intro rest
  induction rest with
  | nil =>
    intro pre n u hcm hI hp hr hK
    have hl : cmds.length = pre.length := by rw [hcm]; simp
    rw [hl] at hr hlen
    refine wp_vc [59] 60 rfl fun W' C hW hC => ?_
    conv => whnf
    repeat' (first
      | (refine ⟨_, rfl, ?_⟩; conv => whnf)
      | (refine ⟨_, _, rfl, ⟨_, rfl, rfl⟩, ?_⟩; conv => whnf)
      | (refine ⟨_, _, rfl, ?_⟩
         with_reducible apply ix_ex
         · repeat (first | with_reducible exact ix_nI | assumption | with_reducible apply ix_add | with_reducible apply ix_mul | (with_reducible apply ix_sub) | (with_reducible apply ix_upd) | (with_reducible apply ix_div) | omega)
         (refine ⟨⟨by omega, by decide⟩, ?_⟩; conv => whnf))
      | (with_reducible apply br_le
         · repeat (first | with_reducible exact ix_nI | assumption | with_reducible apply ix_add | with_reducible apply ix_mul | (with_reducible apply ix_sub) | (with_reducible apply ix_upd) | (with_reducible apply ix_div) | omega)
         · repeat (first | with_reducible exact ix_nI | assumption | with_reducible apply ix_add | with_reducible apply ix_mul | (with_reducible apply ix_sub) | (with_reducible apply ix_upd) | (with_reducible apply ix_div) | omega)
         · omega
         · omega
         all_goals (intro hc; first | omega | (conv => whnf)))
      | (with_reducible apply br_lt
         · repeat (first | with_reducible exact ix_nI | assumption | with_reducible apply ix_add | with_reducible apply ix_mul | (with_reducible apply ix_sub) | (with_reducible apply ix_upd) | (with_reducible apply ix_div) | omega)
         · repeat (first | with_reducible exact ix_nI | assumption | with_reducible apply ix_add | with_reducible apply ix_mul | (with_reducible apply ix_sub) | (with_reducible apply ix_upd) | (with_reducible apply ix_div) | omega)
         · omega
         · omega
         all_goals (intro hc; first | omega | (conv => whnf)))
      | (with_reducible apply br_eq
         · repeat (first | with_reducible exact ix_nI | assumption | with_reducible apply ix_add | with_reducible apply ix_mul | (with_reducible apply ix_sub) | (with_reducible apply ix_upd) | (with_reducible apply ix_div) | omega)
         · repeat (first | with_reducible exact ix_nI | assumption | with_reducible apply ix_add | with_reducible apply ix_mul | (with_reducible apply ix_sub) | (with_reducible apply ix_upd) | (with_reducible apply ix_div) | omega)
         · omega
         · omega
         all_goals (intro hc; first | omega | (conv => whnf)))
      | (with_reducible apply br_ne
         · repeat (first | with_reducible exact ix_nI | assumption | with_reducible apply ix_add | with_reducible apply ix_mul | (with_reducible apply ix_sub) | (with_reducible apply ix_upd) | (with_reducible apply ix_div) | omega)
         · repeat (first | with_reducible exact ix_nI | assumption | with_reducible apply ix_add | with_reducible apply ix_mul | (with_reducible apply ix_sub) | (with_reducible apply ix_upd) | (with_reducible apply ix_div) | omega)
         · omega
         · omega
         all_goals (intro hc; first | omega | (conv => whnf)))
      | (with_reducible apply br_eq0
         · repeat (first | with_reducible exact ix_nI | assumption | with_reducible apply ix_add | with_reducible apply ix_mul | (with_reducible apply ix_sub) | (with_reducible apply ix_upd) | (with_reducible apply ix_div) | omega)
         · omega
         all_goals (intro hc; first | omega | (conv => whnf)))
      | (with_reducible apply br_ne0
         · repeat (first | with_reducible exact ix_nI | assumption | with_reducible apply ix_add | with_reducible apply ix_mul | (with_reducible apply ix_sub) | (with_reducible apply ix_upd) | (with_reducible apply ix_div) | omega)
         · omega
         all_goals (intro hc; first | omega | (conv => whnf)))
      | (with_reducible apply br_le0
         · repeat (first | with_reducible exact ix_nI | assumption | with_reducible apply ix_add | with_reducible apply ix_mul | (with_reducible apply ix_sub) | (with_reducible apply ix_upd) | (with_reducible apply ix_div) | omega)
         · omega
         all_goals (intro hc; first | omega | (conv => whnf)))
      | (with_reducible apply br_gt0
         · repeat (first | with_reducible exact ix_nI | assumption | with_reducible apply ix_add | with_reducible apply ix_mul | (with_reducible apply ix_sub) | (with_reducible apply ix_upd) | (with_reducible apply ix_div) | omega)
         · omega
         all_goals (intro hc; first | omega | (conv => whnf)))
      | (with_reducible apply br_lt0
         · repeat (first | with_reducible exact ix_nI | assumption | with_reducible apply ix_add | with_reducible apply ix_mul | (with_reducible apply ix_sub) | (with_reducible apply ix_upd) | (with_reducible apply ix_div) | omega)
         · omega
         conv => whnf)
      | (with_reducible apply br_ge0
         · repeat (first | with_reducible exact ix_nI | assumption | with_reducible apply ix_add | with_reducible apply ix_mul | (with_reducible apply ix_sub) | (with_reducible apply ix_upd) | (with_reducible apply ix_div) | omega)
         · omega
         conv => whnf)
      | (with_reducible apply br_tab
         · repeat (first | with_reducible exact ix_nI | assumption | with_reducible apply ix_add | with_reducible apply ix_mul | (with_reducible apply ix_sub) | (with_reducible apply ix_upd) | (with_reducible apply ix_div) | omega)
         · omega
         all_goals (intro hc; (try dsimp only at hc); first | omega | (conv => whnf)))
      | (refine And.intro (fun hc => ?_) (fun hc => ?_) <;> conv => whnf)
      | (refine And.intro (by decide) ?_; conv => whnf)
      | fail)
    exact hK u.2.2.2.1
  | cons c t ih =>
    intro pre n u hcm hI hp hr hK
    have hl : cmds.length = pre.length + (t.length + 1) := by rw [hcm]; simp
    have hcc : cmds[pre.length]? = some c := by rw [hcm]; simp
    have hco : okC c := hok c (by rw [hcm]; simp)
    rw [hl] at hr hlen
    obtain ⟨p1, p2, p3⟩ := hp _ _ hcc
    refine wp_vc [59] 60 rfl fun W' C hW hC => ?_
    conv => whnf
    repeat' (first
      | (refine ⟨_, rfl, ?_⟩; conv => whnf)
      | (refine ⟨_, _, rfl, ⟨_, rfl, rfl⟩, ?_⟩; conv => whnf)
      | (refine ⟨_, _, rfl, ?_⟩
         with_reducible apply ix_ex
         · repeat (first | with_reducible exact ix_nI | assumption | with_reducible apply ix_add | with_reducible apply ix_mul | (with_reducible apply ix_sub) | (with_reducible apply ix_upd) | (with_reducible apply ix_div) | omega)
         (refine ⟨⟨by omega, by decide⟩, ?_⟩; conv => whnf))
      | (with_reducible apply br_le
         · repeat (first | with_reducible exact ix_nI | assumption | with_reducible apply ix_add | with_reducible apply ix_mul | (with_reducible apply ix_sub) | (with_reducible apply ix_upd) | (with_reducible apply ix_div) | omega)
         · repeat (first | with_reducible exact ix_nI | assumption | with_reducible apply ix_add | with_reducible apply ix_mul | (with_reducible apply ix_sub) | (with_reducible apply ix_upd) | (with_reducible apply ix_div) | omega)
         · omega
         · omega
         all_goals (intro hc; first | omega | (conv => whnf)))
      | (with_reducible apply br_lt
         · repeat (first | with_reducible exact ix_nI | assumption | with_reducible apply ix_add | with_reducible apply ix_mul | (with_reducible apply ix_sub) | (with_reducible apply ix_upd) | (with_reducible apply ix_div) | omega)
         · repeat (first | with_reducible exact ix_nI | assumption | with_reducible apply ix_add | with_reducible apply ix_mul | (with_reducible apply ix_sub) | (with_reducible apply ix_upd) | (with_reducible apply ix_div) | omega)
         · omega
         · omega
         all_goals (intro hc; first | omega | (conv => whnf)))
      | (with_reducible apply br_eq
         · repeat (first | with_reducible exact ix_nI | assumption | with_reducible apply ix_add | with_reducible apply ix_mul | (with_reducible apply ix_sub) | (with_reducible apply ix_upd) | (with_reducible apply ix_div) | omega)
         · repeat (first | with_reducible exact ix_nI | assumption | with_reducible apply ix_add | with_reducible apply ix_mul | (with_reducible apply ix_sub) | (with_reducible apply ix_upd) | (with_reducible apply ix_div) | omega)
         · omega
         · omega
         all_goals (intro hc; first | omega | (conv => whnf)))
      | (with_reducible apply br_ne
         · repeat (first | with_reducible exact ix_nI | assumption | with_reducible apply ix_add | with_reducible apply ix_mul | (with_reducible apply ix_sub) | (with_reducible apply ix_upd) | (with_reducible apply ix_div) | omega)
         · repeat (first | with_reducible exact ix_nI | assumption | with_reducible apply ix_add | with_reducible apply ix_mul | (with_reducible apply ix_sub) | (with_reducible apply ix_upd) | (with_reducible apply ix_div) | omega)
         · omega
         · omega
         all_goals (intro hc; first | omega | (conv => whnf)))
      | (with_reducible apply br_eq0
         · repeat (first | with_reducible exact ix_nI | assumption | with_reducible apply ix_add | with_reducible apply ix_mul | (with_reducible apply ix_sub) | (with_reducible apply ix_upd) | (with_reducible apply ix_div) | omega)
         · omega
         all_goals (intro hc; first | omega | (conv => whnf)))
      | (with_reducible apply br_ne0
         · repeat (first | with_reducible exact ix_nI | assumption | with_reducible apply ix_add | with_reducible apply ix_mul | (with_reducible apply ix_sub) | (with_reducible apply ix_upd) | (with_reducible apply ix_div) | omega)
         · omega
         all_goals (intro hc; first | omega | (conv => whnf)))
      | (with_reducible apply br_le0
         · repeat (first | with_reducible exact ix_nI | assumption | with_reducible apply ix_add | with_reducible apply ix_mul | (with_reducible apply ix_sub) | (with_reducible apply ix_upd) | (with_reducible apply ix_div) | omega)
         · omega
         all_goals (intro hc; first | omega | (conv => whnf)))
      | (with_reducible apply br_gt0
         · repeat (first | with_reducible exact ix_nI | assumption | with_reducible apply ix_add | with_reducible apply ix_mul | (with_reducible apply ix_sub) | (with_reducible apply ix_upd) | (with_reducible apply ix_div) | omega)
         · omega
         all_goals (intro hc; first | omega | (conv => whnf)))
      | (with_reducible apply br_lt0
         · repeat (first | with_reducible exact ix_nI | assumption | with_reducible apply ix_add | with_reducible apply ix_mul | (with_reducible apply ix_sub) | (with_reducible apply ix_upd) | (with_reducible apply ix_div) | omega)
         · omega
         conv => whnf)
      | (with_reducible apply br_ge0
         · repeat (first | with_reducible exact ix_nI | assumption | with_reducible apply ix_add | with_reducible apply ix_mul | (with_reducible apply ix_sub) | (with_reducible apply ix_upd) | (with_reducible apply ix_div) | omega)
         · omega
         conv => whnf)
      | (with_reducible apply br_tab
         · repeat (first | with_reducible exact ix_nI | assumption | with_reducible apply ix_add | with_reducible apply ix_mul | (with_reducible apply ix_sub) | (with_reducible apply ix_upd) | (with_reducible apply ix_div) | omega)
         · omega
         all_goals (intro hc; (try dsimp only at hc); first | omega | (conv => whnf)))
      | (refine cl_use hC (m_canCarry (by omega) ⟨p1, p2⟩ hco (fun hcan => ?_) (fun hcan => ?_)) <;> conv => whnf)
        | (refine cl_use hC (m_losesBy hI (by omega) ⟨p1, p2, p3⟩ hco (fun ch' hls => ?_) (fun ch' hls => ?_)) <;> conv => whnf)
      | (refine And.intro (fun hc => ?_) (fun hc => ?_) <;> conv => whnf)
      | (refine And.intro (by decide) ?_; conv => whnf)
      | fail)
    · rw [runL, if_pos hcan, if_pos hls] at hK
      refine wp_use hW ?_
      rw [nI_add]
      refine wp.le (lv' := [some (.ref 154), none, some (.int (nI (pre.length + 1))), some (.int (nI 0))]) ?_ (by repeat' (first | exact trivial | refine And.intro rfl ?_))
      refine wp_vc [59] 60 rfl fun W' C hW hC => ?_
      conv => whnf
      repeat' (first
        | (refine ⟨_, rfl, ?_⟩; conv => whnf)
        | (refine ⟨_, _, rfl, ⟨_, rfl, rfl⟩, ?_⟩; conv => whnf)
        | (refine ⟨_, _, rfl, ?_⟩
           with_reducible apply ix_ex
           · repeat (first | with_reducible exact ix_nI | assumption | with_reducible apply ix_add | with_reducible apply ix_mul | (with_reducible apply ix_sub) | (with_reducible apply ix_upd) | (with_reducible apply ix_div) | omega)
           (refine ⟨⟨by omega, by decide⟩, ?_⟩; conv => whnf))
        | (with_reducible apply br_le
           · repeat (first | with_reducible exact ix_nI | assumption | with_reducible apply ix_add | with_reducible apply ix_mul | (with_reducible apply ix_sub) | (with_reducible apply ix_upd) | (with_reducible apply ix_div) | omega)
           · repeat (first | with_reducible exact ix_nI | assumption | with_reducible apply ix_add | with_reducible apply ix_mul | (with_reducible apply ix_sub) | (with_reducible apply ix_upd) | (with_reducible apply ix_div) | omega)
           · omega
           · omega
           all_goals (intro hc; first | omega | (conv => whnf)))
        | (with_reducible apply br_lt
           · repeat (first | with_reducible exact ix_nI | assumption | with_reducible apply ix_add | with_reducible apply ix_mul | (with_reducible apply ix_sub) | (with_reducible apply ix_upd) | (with_reducible apply ix_div) | omega)
           · repeat (first | with_reducible exact ix_nI | assumption | with_reducible apply ix_add | with_reducible apply ix_mul | (with_reducible apply ix_sub) | (with_reducible apply ix_upd) | (with_reducible apply ix_div) | omega)
           · omega
           · omega
           all_goals (intro hc; first | omega | (conv => whnf)))
        | (with_reducible apply br_eq
           · repeat (first | with_reducible exact ix_nI | assumption | with_reducible apply ix_add | with_reducible apply ix_mul | (with_reducible apply ix_sub) | (with_reducible apply ix_upd) | (with_reducible apply ix_div) | omega)
           · repeat (first | with_reducible exact ix_nI | assumption | with_reducible apply ix_add | with_reducible apply ix_mul | (with_reducible apply ix_sub) | (with_reducible apply ix_upd) | (with_reducible apply ix_div) | omega)
           · omega
           · omega
           all_goals (intro hc; first | omega | (conv => whnf)))
        | (with_reducible apply br_ne
           · repeat (first | with_reducible exact ix_nI | assumption | with_reducible apply ix_add | with_reducible apply ix_mul | (with_reducible apply ix_sub) | (with_reducible apply ix_upd) | (with_reducible apply ix_div) | omega)
           · repeat (first | with_reducible exact ix_nI | assumption | with_reducible apply ix_add | with_reducible apply ix_mul | (with_reducible apply ix_sub) | (with_reducible apply ix_upd) | (with_reducible apply ix_div) | omega)
           · omega
           · omega
           all_goals (intro hc; first | omega | (conv => whnf)))
        | (with_reducible apply br_eq0
           · repeat (first | with_reducible exact ix_nI | assumption | with_reducible apply ix_add | with_reducible apply ix_mul | (with_reducible apply ix_sub) | (with_reducible apply ix_upd) | (with_reducible apply ix_div) | omega)
           · omega
           all_goals (intro hc; first | omega | (conv => whnf)))
        | (with_reducible apply br_ne0
           · repeat (first | with_reducible exact ix_nI | assumption | with_reducible apply ix_add | with_reducible apply ix_mul | (with_reducible apply ix_sub) | (with_reducible apply ix_upd) | (with_reducible apply ix_div) | omega)
           · omega
           all_goals (intro hc; first | omega | (conv => whnf)))
        | (with_reducible apply br_le0
           · repeat (first | with_reducible exact ix_nI | assumption | with_reducible apply ix_add | with_reducible apply ix_mul | (with_reducible apply ix_sub) | (with_reducible apply ix_upd) | (with_reducible apply ix_div) | omega)
           · omega
           all_goals (intro hc; first | omega | (conv => whnf)))
        | (with_reducible apply br_gt0
           · repeat (first | with_reducible exact ix_nI | assumption | with_reducible apply ix_add | with_reducible apply ix_mul | (with_reducible apply ix_sub) | (with_reducible apply ix_upd) | (with_reducible apply ix_div) | omega)
           · omega
           all_goals (intro hc; first | omega | (conv => whnf)))
        | (with_reducible apply br_lt0
           · repeat (first | with_reducible exact ix_nI | assumption | with_reducible apply ix_add | with_reducible apply ix_mul | (with_reducible apply ix_sub) | (with_reducible apply ix_upd) | (with_reducible apply ix_div) | omega)
           · omega
           conv => whnf)
        | (with_reducible apply br_ge0
           · repeat (first | with_reducible exact ix_nI | assumption | with_reducible apply ix_add | with_reducible apply ix_mul | (with_reducible apply ix_sub) | (with_reducible apply ix_upd) | (with_reducible apply ix_div) | omega)
           · omega
           conv => whnf)
        | (with_reducible apply br_tab
           · repeat (first | with_reducible exact ix_nI | assumption | with_reducible apply ix_add | with_reducible apply ix_mul | (with_reducible apply ix_sub) | (with_reducible apply ix_upd) | (with_reducible apply ix_div) | omega)
           · omega
           all_goals (intro hc; (try dsimp only at hc); first | omega | (conv => whnf)))
        | (refine And.intro (fun hc => ?_) (fun hc => ?_) <;> conv => whnf)
        | (refine And.intro (by decide) ?_; conv => whnf)
        | fail)
      exact hK ch'
    · refine wp_use hW ?_
      rw [nI_add]
      have h9 := ih (pre ++ [c]) (n + 1) (doC u.1 c, u.2.1, u.2.2.1, ch', u.2.2.2.2) (by rw [hcm]; simp) (ivz_do hI hco hcan) hp (by rw [hl]; exact hr) (fun ch2 => ?_)
      · rw [List.length_append] at h9
        exact h9
      · have h8 := hK ch2
        rw [runL, if_pos hcan, if_neg (by rw [hls]; simp)] at h8
        dsimp only at h8
        rw [show pre.length + ((runL (doC u.1 c) t).2 + 1) = (pre ++ [c]).length + (runL (doC u.1 c) t).2 by simp; omega] at h8
        exact h8
    · rw [runL, if_neg (by rw [hcan]; simp)] at hK
      exact hK u.2.2.2.1
theorem m_run (hA : RM u A) (hI : Ivz n A.1) (hK : MK h0 w K (aRun A)) : Cl G (d + 6) kX5_run [.ref 154] (setM h0 u) w K := by
  obtain ⟨z, L, T⟩ := A; obtain ⟨hz, hS, hT⟩ := hA; dsimp only at hz hS hT hI; subst hz
  refine Cl.of (by decide) rfl ?_
  refine wp_vc [59] 60 rfl fun W' C hW hC => ?_
  conv => whnf
  refine ⟨_, _, rfl, ⟨_, rfl, rfl⟩, ?_⟩
  conv => whnf
  refine cl_use hC (m_rightUpTo hT fun p2 r2 d2 hps => ?_)
  rw [aRun] at hK
  dsimp only at hK
  cases hs : prsS ps0 T with
  | none =>
    rw [hs] at hK
    have hlt := prs_less hs
    conv => whnf
    repeat' (first
      | (refine ⟨_, rfl, ?_⟩; conv => whnf)
      | (refine ⟨_, _, rfl, ⟨_, rfl, rfl⟩, ?_⟩; conv => whnf)
      | (refine ⟨_, _, rfl, ?_⟩
         with_reducible apply ix_ex
         · repeat (first | with_reducible exact ix_nI | assumption | with_reducible apply ix_add | with_reducible apply ix_mul | (with_reducible apply ix_sub) | (with_reducible apply ix_upd) | (with_reducible apply ix_div) | omega)
         (refine ⟨⟨by omega, by decide⟩, ?_⟩; conv => whnf))
      | (with_reducible apply br_le
         · repeat (first | with_reducible exact ix_nI | assumption | with_reducible apply ix_add | with_reducible apply ix_mul | (with_reducible apply ix_sub) | (with_reducible apply ix_upd) | (with_reducible apply ix_div) | omega)
         · repeat (first | with_reducible exact ix_nI | assumption | with_reducible apply ix_add | with_reducible apply ix_mul | (with_reducible apply ix_sub) | (with_reducible apply ix_upd) | (with_reducible apply ix_div) | omega)
         · omega
         · omega
         all_goals (intro hc; first | omega | (conv => whnf)))
      | (with_reducible apply br_lt
         · repeat (first | with_reducible exact ix_nI | assumption | with_reducible apply ix_add | with_reducible apply ix_mul | (with_reducible apply ix_sub) | (with_reducible apply ix_upd) | (with_reducible apply ix_div) | omega)
         · repeat (first | with_reducible exact ix_nI | assumption | with_reducible apply ix_add | with_reducible apply ix_mul | (with_reducible apply ix_sub) | (with_reducible apply ix_upd) | (with_reducible apply ix_div) | omega)
         · omega
         · omega
         all_goals (intro hc; first | omega | (conv => whnf)))
      | (with_reducible apply br_eq
         · repeat (first | with_reducible exact ix_nI | assumption | with_reducible apply ix_add | with_reducible apply ix_mul | (with_reducible apply ix_sub) | (with_reducible apply ix_upd) | (with_reducible apply ix_div) | omega)
         · repeat (first | with_reducible exact ix_nI | assumption | with_reducible apply ix_add | with_reducible apply ix_mul | (with_reducible apply ix_sub) | (with_reducible apply ix_upd) | (with_reducible apply ix_div) | omega)
         · omega
         · omega
         all_goals (intro hc; first | omega | (conv => whnf)))
      | (with_reducible apply br_ne
         · repeat (first | with_reducible exact ix_nI | assumption | with_reducible apply ix_add | with_reducible apply ix_mul | (with_reducible apply ix_sub) | (with_reducible apply ix_upd) | (with_reducible apply ix_div) | omega)
         · repeat (first | with_reducible exact ix_nI | assumption | with_reducible apply ix_add | with_reducible apply ix_mul | (with_reducible apply ix_sub) | (with_reducible apply ix_upd) | (with_reducible apply ix_div) | omega)
         · omega
         · omega
         all_goals (intro hc; first | omega | (conv => whnf)))
      | (with_reducible apply br_eq0
         · repeat (first | with_reducible exact ix_nI | assumption | with_reducible apply ix_add | with_reducible apply ix_mul | (with_reducible apply ix_sub) | (with_reducible apply ix_upd) | (with_reducible apply ix_div) | omega)
         · omega
         all_goals (intro hc; first | omega | (conv => whnf)))
      | (with_reducible apply br_ne0
         · repeat (first | with_reducible exact ix_nI | assumption | with_reducible apply ix_add | with_reducible apply ix_mul | (with_reducible apply ix_sub) | (with_reducible apply ix_upd) | (with_reducible apply ix_div) | omega)
         · omega
         all_goals (intro hc; first | omega | (conv => whnf)))
      | (with_reducible apply br_le0
         · repeat (first | with_reducible exact ix_nI | assumption | with_reducible apply ix_add | with_reducible apply ix_mul | (with_reducible apply ix_sub) | (with_reducible apply ix_upd) | (with_reducible apply ix_div) | omega)
         · omega
         all_goals (intro hc; first | omega | (conv => whnf)))
      | (with_reducible apply br_gt0
         · repeat (first | with_reducible exact ix_nI | assumption | with_reducible apply ix_add | with_reducible apply ix_mul | (with_reducible apply ix_sub) | (with_reducible apply ix_upd) | (with_reducible apply ix_div) | omega)
         · omega
         all_goals (intro hc; first | omega | (conv => whnf)))
      | (with_reducible apply br_lt0
         · repeat (first | with_reducible exact ix_nI | assumption | with_reducible apply ix_add | with_reducible apply ix_mul | (with_reducible apply ix_sub) | (with_reducible apply ix_upd) | (with_reducible apply ix_div) | omega)
         · omega
         conv => whnf)
      | (with_reducible apply br_ge0
         · repeat (first | with_reducible exact ix_nI | assumption | with_reducible apply ix_add | with_reducible apply ix_mul | (with_reducible apply ix_sub) | (with_reducible apply ix_upd) | (with_reducible apply ix_div) | omega)
         · omega
         conv => whnf)
      | (with_reducible apply br_tab
         · repeat (first | with_reducible exact ix_nI | assumption | with_reducible apply ix_add | with_reducible apply ix_mul | (with_reducible apply ix_sub) | (with_reducible apply ix_upd) | (with_reducible apply ix_div) | omega)
         · omega
         all_goals (intro hc; (try dsimp only at hc); first | omega | (conv => whnf)))
      | (rw [hT.1]; (with_reducible apply br_ne ix_nI ix_nI (by omega) (by omega)) <;> (intro hc1; first | omega | (conv => whnf)))
      | (refine And.intro (fun hc => ?_) (fun hc => ?_) <;> conv => whnf)
      | (refine And.intro (by decide) ?_; conv => whnf)
      | fail)
    simp only [List.set_cons_succ, List.set_cons_zero, setM_obj, setM_z, setM_hist, setM_text, setM_ch, setM_parts]
    exact hK _ ⟨rfl, hS, hT⟩ rfl
  | some s =>
    rw [hs] at hK
    dsimp only at hK
    obtain ⟨hrp, hsl⟩ := hps s hs
    have hip := prs_ip hs ip0
    rw [prs_all hs]
    have hl60 := hT.2.1
    conv => whnf
    repeat' (first
      | (refine ⟨_, rfl, ?_⟩; conv => whnf)
      | (refine ⟨_, _, rfl, ⟨_, rfl, rfl⟩, ?_⟩; conv => whnf)
      | (refine ⟨_, _, rfl, ?_⟩
         with_reducible apply ix_ex
         · repeat (first | with_reducible exact ix_nI | assumption | with_reducible apply ix_add | with_reducible apply ix_mul | (with_reducible apply ix_sub) | (with_reducible apply ix_upd) | (with_reducible apply ix_div) | omega)
         (refine ⟨⟨by omega, by decide⟩, ?_⟩; conv => whnf))
      | (with_reducible apply br_le
         · repeat (first | with_reducible exact ix_nI | assumption | with_reducible apply ix_add | with_reducible apply ix_mul | (with_reducible apply ix_sub) | (with_reducible apply ix_upd) | (with_reducible apply ix_div) | omega)
         · repeat (first | with_reducible exact ix_nI | assumption | with_reducible apply ix_add | with_reducible apply ix_mul | (with_reducible apply ix_sub) | (with_reducible apply ix_upd) | (with_reducible apply ix_div) | omega)
         · omega
         · omega
         all_goals (intro hc; first | omega | (conv => whnf)))
      | (with_reducible apply br_lt
         · repeat (first | with_reducible exact ix_nI | assumption | with_reducible apply ix_add | with_reducible apply ix_mul | (with_reducible apply ix_sub) | (with_reducible apply ix_upd) | (with_reducible apply ix_div) | omega)
         · repeat (first | with_reducible exact ix_nI | assumption | with_reducible apply ix_add | with_reducible apply ix_mul | (with_reducible apply ix_sub) | (with_reducible apply ix_upd) | (with_reducible apply ix_div) | omega)
         · omega
         · omega
         all_goals (intro hc; first | omega | (conv => whnf)))
      | (with_reducible apply br_eq
         · repeat (first | with_reducible exact ix_nI | assumption | with_reducible apply ix_add | with_reducible apply ix_mul | (with_reducible apply ix_sub) | (with_reducible apply ix_upd) | (with_reducible apply ix_div) | omega)
         · repeat (first | with_reducible exact ix_nI | assumption | with_reducible apply ix_add | with_reducible apply ix_mul | (with_reducible apply ix_sub) | (with_reducible apply ix_upd) | (with_reducible apply ix_div) | omega)
         · omega
         · omega
         all_goals (intro hc; first | omega | (conv => whnf)))
      | (with_reducible apply br_ne
         · repeat (first | with_reducible exact ix_nI | assumption | with_reducible apply ix_add | with_reducible apply ix_mul | (with_reducible apply ix_sub) | (with_reducible apply ix_upd) | (with_reducible apply ix_div) | omega)
         · repeat (first | with_reducible exact ix_nI | assumption | with_reducible apply ix_add | with_reducible apply ix_mul | (with_reducible apply ix_sub) | (with_reducible apply ix_upd) | (with_reducible apply ix_div) | omega)
         · omega
         · omega
         all_goals (intro hc; first | omega | (conv => whnf)))
      | (with_reducible apply br_eq0
         · repeat (first | with_reducible exact ix_nI | assumption | with_reducible apply ix_add | with_reducible apply ix_mul | (with_reducible apply ix_sub) | (with_reducible apply ix_upd) | (with_reducible apply ix_div) | omega)
         · omega
         all_goals (intro hc; first | omega | (conv => whnf)))
      | (with_reducible apply br_ne0
         · repeat (first | with_reducible exact ix_nI | assumption | with_reducible apply ix_add | with_reducible apply ix_mul | (with_reducible apply ix_sub) | (with_reducible apply ix_upd) | (with_reducible apply ix_div) | omega)
         · omega
         all_goals (intro hc; first | omega | (conv => whnf)))
      | (with_reducible apply br_le0
         · repeat (first | with_reducible exact ix_nI | assumption | with_reducible apply ix_add | with_reducible apply ix_mul | (with_reducible apply ix_sub) | (with_reducible apply ix_upd) | (with_reducible apply ix_div) | omega)
         · omega
         all_goals (intro hc; first | omega | (conv => whnf)))
      | (with_reducible apply br_gt0
         · repeat (first | with_reducible exact ix_nI | assumption | with_reducible apply ix_add | with_reducible apply ix_mul | (with_reducible apply ix_sub) | (with_reducible apply ix_upd) | (with_reducible apply ix_div) | omega)
         · omega
         all_goals (intro hc; first | omega | (conv => whnf)))
      | (with_reducible apply br_lt0
         · repeat (first | with_reducible exact ix_nI | assumption | with_reducible apply ix_add | with_reducible apply ix_mul | (with_reducible apply ix_sub) | (with_reducible apply ix_upd) | (with_reducible apply ix_div) | omega)
         · omega
         conv => whnf)
      | (with_reducible apply br_ge0
         · repeat (first | with_reducible exact ix_nI | assumption | with_reducible apply ix_add | with_reducible apply ix_mul | (with_reducible apply ix_sub) | (with_reducible apply ix_upd) | (with_reducible apply ix_div) | omega)
         · omega
         conv => whnf)
      | (with_reducible apply br_tab
         · repeat (first | with_reducible exact ix_nI | assumption | with_reducible apply ix_add | with_reducible apply ix_mul | (with_reducible apply ix_sub) | (with_reducible apply ix_upd) | (with_reducible apply ix_div) | omega)
         · omega
         all_goals (intro hc; (try dsimp only at hc); first | omega | (conv => whnf)))
      | (rw [hT.1]; (with_reducible apply br_ne ix_nI ix_nI (by omega) (by omega)) <;> (intro hc1; first | omega | (conv => whnf)))
        | (refine cl_use hC (m_isEnded hrp hsl (fun he => ?_) (fun he => ?_)) <;> conv => whnf)
        | ((try simp only [List.set_cons_succ, List.set_cons_zero, setM_obj, setM_z, setM_hist, setM_text, setM_ch, setM_parts]); (refine cl_use hC (m_save hS (fun hist' hR => ?_)); conv => whnf))
      | (refine And.intro (fun hc => ?_) (fun hc => ?_) <;> conv => whnf)
      | (refine And.intro (by decide) ?_; conv => whnf)
      | fail)
    · refine wp_use hW ?_
      simp only [List.set_cons_succ, List.set_cons_zero, setM_obj, setM_z, setM_hist, setM_text, setM_ch, setM_parts]
      rw [if_pos he] at hK
      refine wp.le (lv' := [some (.ref 154), none, some (.int (nI 0)), some (.int (nI 1))]) ?_ (by repeat' (first | exact trivial | refine And.intro rfl ?_))
      obtain ⟨q1, q2, q3, q4, q5⟩ := hrp
      have hlen : (s.2.2 ++ [s.2.1]).length = s.2.2.length + 1 := by simp
      refine m_runLoop (cmds := s.2.2 ++ [s.2.1]) (by rw [hlen]; omega) (fun c hc => ?_) (s.2.2 ++ [s.2.1]) [] n _ rfl hI (fun i c hi => ?_) ?_ (fun ch' => ?_)
      · rcases List.mem_append.mp hc with q | q
        · exact hip.1 c q
        · have : c = s.2.1 := by simpa using q
          subst this
          exact ip_ended hip he
      · show p2 (3 * i) = _ ∧ p2 (3 * i + 1) = _ ∧ p2 (3 * i + 2) = _
        rcases Nat.lt_or_ge i s.2.2.length with q | q
        · rw [List.getElem?_append_left q] at hi
          exact q4 i c hi
        · have hi1 := (List.getElem?_eq_some_iff.mp hi).1
          rw [hlen] at hi1
          obtain rfl : i = s.2.2.length := by omega
          simp at hi
          subst hi
          refine q5 (fun e => ?_)
          rcases he with e2 | e2
          · omega
          · omega
      · rw [hlen, Nat.add_sub_cancel]
        exact q1
      · rw [show ([] : List CMD).length + (runL u.1 (s.2.2 ++ [s.2.1])).2 = (runL u.1 (s.2.2 ++ [s.2.1])).2 by simp]
        exact hK _ ⟨rfl, ⟨rfl, pushL_len hS.2.1, hR⟩, rfl, Nat.zero_le _, fun i c hi => by simp at hi⟩ rfl
    · rw [if_neg he] at hK
      simp only [List.set_cons_succ, List.set_cons_zero, setM_obj, setM_z, setM_hist, setM_text, setM_ch, setM_parts]
      exact hK _ ⟨rfl, hS, hT⟩ rfl
end M13
