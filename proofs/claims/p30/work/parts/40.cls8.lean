/-! ===== the class: the public methods that write ===== -/
theorem CS.hist {A : AS} {h : AH} (hA : CS A h) : ∃ t, h 22 = .inr (1, [.ref 23, .int (nI A.2.1.length), .int (nI t)]) := by
  obtain ⟨t, f, r, h1, h2, _⟩ := hA.2.2.1
  exact ⟨t, h2⟩
section C10
variable {G : GG} {d n : Nat} {A : AS} {h0 h : AH} {w : W3} {K : AO → AH → W3 → Prop}
theorem c_write {x y : Int32} (hA : CS A h) (hI : Ivz n A.1) (hK : CKc h w K 0 1 (aWrite A x y)) : Cl G (d + 7) kX4_write [.ref 0, .int x, .int y] h w K := by
  refine Cl.of (by decide) rfl ?_
  refine wp_vc [] 95 rfl fun W' C hW hC => ?_
  conv => whnf
  refine cl_use hC (c_requirePage (fun p hp e => ?_) (fun g => ?_)) <;> conv => whnf
  · subst e
    unfold aWrite at hK
    rw [if_pos (rg_yes hp (by omega)), ixN_nI (by omega)] at hK
    repeat' (first
      | (refine ⟨_, rfl, ?_⟩; conv => whnf)
      | (refine ⟨_, _, rfl, ⟨_, rfl, rfl⟩, ?_⟩; conv => whnf)
      | (refine ⟨_, _, rfl, ?_⟩
         with_reducible apply ix_ex
         · repeat (first | with_reducible exact ix_nI | assumption | with_reducible apply ix_add | with_reducible apply ix_mul | (with_reducible apply ix_sub) | (with_reducible apply ix_upd) | (with_reducible apply ix_div) | omega)
         (refine ⟨⟨by omega, by decide⟩, ?_⟩; conv => whnf))
      | (with_reducible apply br_le
         · repeat (first | with_reducible exact ix_nI | assumption | with_reducible apply ix_add | with_reducible apply ix_mul | (with_reducible apply ix_sub) | (with_reducible apply ix_upd) | (with_reducible apply ix_div) | omega)
         · repeat (first | with_reducible exact ix_nI | assumption | with_reducible apply ix_add | with_reducible apply ix_mul | (with_reducible apply ix_sub) | (with_reducible apply ix_upd) | (with_reducible apply ix_div) | omega)
         · omega
         · omega
         all_goals (intro hc; first | omega | (conv => whnf)))
      | (with_reducible apply br_lt
         · repeat (first | with_reducible exact ix_nI | assumption | with_reducible apply ix_add | with_reducible apply ix_mul | (with_reducible apply ix_sub) | (with_reducible apply ix_upd) | (with_reducible apply ix_div) | omega)
         · repeat (first | with_reducible exact ix_nI | assumption | with_reducible apply ix_add | with_reducible apply ix_mul | (with_reducible apply ix_sub) | (with_reducible apply ix_upd) | (with_reducible apply ix_div) | omega)
         · omega
         · omega
         all_goals (intro hc; first | omega | (conv => whnf)))
      | (with_reducible apply br_eq
         · repeat (first | with_reducible exact ix_nI | assumption | with_reducible apply ix_add | with_reducible apply ix_mul | (with_reducible apply ix_sub) | (with_reducible apply ix_upd) | (with_reducible apply ix_div) | omega)
         · repeat (first | with_reducible exact ix_nI | assumption | with_reducible apply ix_add | with_reducible apply ix_mul | (with_reducible apply ix_sub) | (with_reducible apply ix_upd) | (with_reducible apply ix_div) | omega)
         · omega
         · omega
         all_goals (intro hc; first | omega | (conv => whnf)))
      | (with_reducible apply br_ne
         · repeat (first | with_reducible exact ix_nI | assumption | with_reducible apply ix_add | with_reducible apply ix_mul | (with_reducible apply ix_sub) | (with_reducible apply ix_upd) | (with_reducible apply ix_div) | omega)
         · repeat (first | with_reducible exact ix_nI | assumption | with_reducible apply ix_add | with_reducible apply ix_mul | (with_reducible apply ix_sub) | (with_reducible apply ix_upd) | (with_reducible apply ix_div) | omega)
         · omega
         · omega
         all_goals (intro hc; first | omega | (conv => whnf)))
      | (with_reducible apply br_eq0
         · repeat (first | with_reducible exact ix_nI | assumption | with_reducible apply ix_add | with_reducible apply ix_mul | (with_reducible apply ix_sub) | (with_reducible apply ix_upd) | (with_reducible apply ix_div) | omega)
         · omega
         all_goals (intro hc; first | omega | (conv => whnf)))
      | (with_reducible apply br_ne0
         · repeat (first | with_reducible exact ix_nI | assumption | with_reducible apply ix_add | with_reducible apply ix_mul | (with_reducible apply ix_sub) | (with_reducible apply ix_upd) | (with_reducible apply ix_div) | omega)
         · omega
         all_goals (intro hc; first | omega | (conv => whnf)))
      | (with_reducible apply br_le0
         · repeat (first | with_reducible exact ix_nI | assumption | with_reducible apply ix_add | with_reducible apply ix_mul | (with_reducible apply ix_sub) | (with_reducible apply ix_upd) | (with_reducible apply ix_div) | omega)
         · omega
         all_goals (intro hc; first | omega | (conv => whnf)))
      | (with_reducible apply br_gt0
         · repeat (first | with_reducible exact ix_nI | assumption | with_reducible apply ix_add | with_reducible apply ix_mul | (with_reducible apply ix_sub) | (with_reducible apply ix_upd) | (with_reducible apply ix_div) | omega)
         · omega
         all_goals (intro hc; first | omega | (conv => whnf)))
      | (with_reducible apply br_lt0
         · repeat (first | with_reducible exact ix_nI | assumption | with_reducible apply ix_add | with_reducible apply ix_mul | (with_reducible apply ix_sub) | (with_reducible apply ix_upd) | (with_reducible apply ix_div) | omega)
         · omega
         conv => whnf)
      | (with_reducible apply br_ge0
         · repeat (first | with_reducible exact ix_nI | assumption | with_reducible apply ix_add | with_reducible apply ix_mul | (with_reducible apply ix_sub) | (with_reducible apply ix_upd) | (with_reducible apply ix_div) | omega)
         · omega
         conv => whnf)
      | (with_reducible apply br_tab
         · repeat (first | with_reducible exact ix_nI | assumption | with_reducible apply ix_add | with_reducible apply ix_mul | (with_reducible apply ix_sub) | (with_reducible apply ix_upd) | (with_reducible apply ix_div) | omega)
         · omega
         all_goals (intro hc; (try dsimp only at hc); first | omega | (conv => whnf)))
      | (refine ⟨_, hA.1, ?_⟩; conv => whnf)
      | (refine ⟨_, _, hA.1, ⟨_, rfl, rfl⟩, ?_⟩; conv => whnf)
      | (refine ⟨_, hA.2.1.obj, ?_⟩; conv => whnf)
      | (refine ⟨_, _, hA.2.1.obj, ⟨_, rfl, rfl⟩, ?_⟩; conv => whnf)
      | (obtain ⟨t9, hh9⟩ := hA.hist; refine ⟨_, _, hh9, ⟨_, rfl, rfl⟩, ?_⟩; conv => whnf)
      | (obtain ⟨t9, hh9⟩ := hA.hist; refine ⟨_, hh9, ?_⟩; conv => whnf)
      | (obtain ⟨fp9, ep9, eq9⟩ := hA.2.1.pgs
         refine ⟨_, _, _, ep9, Or.inl rfl, ?_⟩
         with_reducible apply ix_ex2
         · repeat (first | with_reducible exact ix_nI | assumption | with_reducible apply ix_add | with_reducible apply ix_mul | (with_reducible apply ix_sub) | (with_reducible apply ix_upd) | (with_reducible apply ix_div) | omega)
         (refine ⟨⟨by omega, by decide⟩, eq9 _ (by omega), ?_⟩; conv => whnf))
      | (refine ⟨_, hA.2.1.pg hp, ?_⟩; conv => whnf)
      | (refine ⟨_, _, hA.2.1.pg hp, ⟨_, rfl, rfl⟩, ?_⟩; conv => whnf)
      | (obtain ⟨q9, e9, f9⟩ := hA.2.1.st
         refine ⟨_, _, e9, ?_⟩
         with_reducible apply ix_ex
         · repeat (first | with_reducible exact ix_nI | assumption | with_reducible apply ix_add | with_reducible apply ix_mul | (with_reducible apply ix_sub) | (with_reducible apply ix_upd) | (with_reducible apply ix_div) | omega)
         (refine ⟨⟨by omega, by decide⟩, ?_⟩; rw [f9 _ (by omega)]; conv => whnf))
      | (obtain ⟨q9, e9, f9⟩ := hA.2.1.wr
         refine ⟨_, _, e9, ?_⟩
         with_reducible apply ix_ex
         · repeat (first | with_reducible exact ix_nI | assumption | with_reducible apply ix_add | with_reducible apply ix_mul | (with_reducible apply ix_sub) | (with_reducible apply ix_upd) | (with_reducible apply ix_div) | omega)
         (refine ⟨⟨by omega, by decide⟩, ?_⟩; rw [f9 _ (by omega)]; conv => whnf))
      | (obtain ⟨q9, e9, f9⟩ := hA.2.1.of
         refine ⟨_, _, e9, ?_⟩
         with_reducible apply ix_ex
         · repeat (first | with_reducible exact ix_nI | assumption | with_reducible apply ix_add | with_reducible apply ix_mul | (with_reducible apply ix_sub) | (with_reducible apply ix_upd) | (with_reducible apply ix_div) | omega)
         (refine ⟨⟨by omega, by decide⟩, ?_⟩; rw [f9 _ (by omega)]; conv => whnf))
        | (refine cl_use hC (c_requireStatus hA rfl hp (fun g1 => ?_) (fun g1 => ?_)) <;> conv => whnf)
        | (refine cl_use hC (c_save hA fun h1 hA1 hF1 => ?_); conv => whnf)
        | (refine ⟨_, hA1.1, ?_⟩; conv => whnf)
      | (refine ⟨_, _, hA1.1, ⟨_, rfl, rfl⟩, ?_⟩; conv => whnf)
      | (refine ⟨_, hA1.2.1.obj, ?_⟩; conv => whnf)
      | (refine ⟨_, _, hA1.2.1.obj, ⟨_, rfl, rfl⟩, ?_⟩; conv => whnf)
      | (obtain ⟨t9, hh9⟩ := hA1.hist; refine ⟨_, _, hh9, ⟨_, rfl, rfl⟩, ?_⟩; conv => whnf)
      | (obtain ⟨t9, hh9⟩ := hA1.hist; refine ⟨_, hh9, ?_⟩; conv => whnf)
      | (obtain ⟨fp9, ep9, eq9⟩ := hA1.2.1.pgs
         refine ⟨_, _, _, ep9, Or.inl rfl, ?_⟩
         with_reducible apply ix_ex2
         · repeat (first | with_reducible exact ix_nI | assumption | with_reducible apply ix_add | with_reducible apply ix_mul | (with_reducible apply ix_sub) | (with_reducible apply ix_upd) | (with_reducible apply ix_div) | omega)
         (refine ⟨⟨by omega, by decide⟩, eq9 _ (by omega), ?_⟩; conv => whnf))
      | (refine ⟨_, hA1.2.1.pg hp, ?_⟩; conv => whnf)
      | (refine ⟨_, _, hA1.2.1.pg hp, ⟨_, rfl, rfl⟩, ?_⟩; conv => whnf)
      | (obtain ⟨q9, e9, f9⟩ := hA1.2.1.st
         refine ⟨_, _, e9, ?_⟩
         with_reducible apply ix_ex
         · repeat (first | with_reducible exact ix_nI | assumption | with_reducible apply ix_add | with_reducible apply ix_mul | (with_reducible apply ix_sub) | (with_reducible apply ix_upd) | (with_reducible apply ix_div) | omega)
         (refine ⟨⟨by omega, by decide⟩, ?_⟩; rw [f9 _ (by omega)]; conv => whnf))
      | (obtain ⟨q9, e9, f9⟩ := hA1.2.1.wr
         refine ⟨_, _, e9, ?_⟩
         with_reducible apply ix_ex
         · repeat (first | with_reducible exact ix_nI | assumption | with_reducible apply ix_add | with_reducible apply ix_mul | (with_reducible apply ix_sub) | (with_reducible apply ix_upd) | (with_reducible apply ix_div) | omega)
         (refine ⟨⟨by omega, by decide⟩, ?_⟩; rw [f9 _ (by omega)]; conv => whnf))
      | (obtain ⟨q9, e9, f9⟩ := hA1.2.1.of
         refine ⟨_, _, e9, ?_⟩
         with_reducible apply ix_ex
         · repeat (first | with_reducible exact ix_nI | assumption | with_reducible apply ix_add | with_reducible apply ix_mul | (with_reducible apply ix_sub) | (with_reducible apply ix_upd) | (with_reducible apply ix_div) | omega)
         (refine ⟨⟨by omega, by decide⟩, ?_⟩; rw [f9 _ (by omega)]; conv => whnf))
        | (refine cl_use hC (c_writePage hA1.2.1 hI rfl hp fun h2 hM2 hO2 => ?_); have hA2 := hA1.mem hM2 hO2; obtain ⟨q, eq, eq'⟩ := hM2.ch hp; conv => whnf)
        | (refine ⟨_, hA2.1, ?_⟩; conv => whnf)
      | (refine ⟨_, _, hA2.1, ⟨_, rfl, rfl⟩, ?_⟩; conv => whnf)
      | (refine ⟨_, hA2.2.1.obj, ?_⟩; conv => whnf)
      | (refine ⟨_, _, hA2.2.1.obj, ⟨_, rfl, rfl⟩, ?_⟩; conv => whnf)
      | (obtain ⟨t9, hh9⟩ := hA2.hist; refine ⟨_, _, hh9, ⟨_, rfl, rfl⟩, ?_⟩; conv => whnf)
      | (obtain ⟨t9, hh9⟩ := hA2.hist; refine ⟨_, hh9, ?_⟩; conv => whnf)
      | (obtain ⟨fp9, ep9, eq9⟩ := hA2.2.1.pgs
         refine ⟨_, _, _, ep9, Or.inl rfl, ?_⟩
         with_reducible apply ix_ex2
         · repeat (first | with_reducible exact ix_nI | assumption | with_reducible apply ix_add | with_reducible apply ix_mul | (with_reducible apply ix_sub) | (with_reducible apply ix_upd) | (with_reducible apply ix_div) | omega)
         (refine ⟨⟨by omega, by decide⟩, eq9 _ (by omega), ?_⟩; conv => whnf))
      | (refine ⟨_, hA2.2.1.pg hp, ?_⟩; conv => whnf)
      | (refine ⟨_, _, hA2.2.1.pg hp, ⟨_, rfl, rfl⟩, ?_⟩; conv => whnf)
      | (obtain ⟨q9, e9, f9⟩ := hA2.2.1.st
         refine ⟨_, _, e9, ?_⟩
         with_reducible apply ix_ex
         · repeat (first | with_reducible exact ix_nI | assumption | with_reducible apply ix_add | with_reducible apply ix_mul | (with_reducible apply ix_sub) | (with_reducible apply ix_upd) | (with_reducible apply ix_div) | omega)
         (refine ⟨⟨by omega, by decide⟩, ?_⟩; rw [f9 _ (by omega)]; conv => whnf))
      | (obtain ⟨q9, e9, f9⟩ := hA2.2.1.wr
         refine ⟨_, _, e9, ?_⟩
         with_reducible apply ix_ex
         · repeat (first | with_reducible exact ix_nI | assumption | with_reducible apply ix_add | with_reducible apply ix_mul | (with_reducible apply ix_sub) | (with_reducible apply ix_upd) | (with_reducible apply ix_div) | omega)
         (refine ⟨⟨by omega, by decide⟩, ?_⟩; rw [f9 _ (by omega)]; conv => whnf))
      | (obtain ⟨q9, e9, f9⟩ := hA2.2.1.of
         refine ⟨_, _, e9, ?_⟩
         with_reducible apply ix_ex
         · repeat (first | with_reducible exact ix_nI | assumption | with_reducible apply ix_add | with_reducible apply ix_mul | (with_reducible apply ix_sub) | (with_reducible apply ix_upd) | (with_reducible apply ix_div) | omega)
         (refine ⟨⟨by omega, by decide⟩, ?_⟩; rw [f9 _ (by omega)]; conv => whnf))
        | (refine cl_use hC (c_chargeSum (hM2.pg hp) eq fun r hr => ?_); subst hr; conv => whnf)
      | (refine And.intro (fun hc => ?_) (fun hc => ?_) <;> conv => whnf)
      | (refine And.intro (by decide) ?_; conv => whnf)
      | fail)
    · rw [if_pos (show A.1 (30 + p) = 0 from g1)] at hK
      rw [sumN_congr (f := q) (fun c hc => eq' c hc)]
      exact hK.1 rfl _ hA2 (hF1.trans (hO2.frC (by omega)))
    · rw [if_neg (show ¬ A.1 (30 + p) = 0 from g1)] at hK
      exact hK.2.2 rfl
  · unfold aWrite at hK
    rw [if_neg g] at hK
    exact hK.2.1 rfl
theorem c_read {x : Int32} (hA : CS A h) (hI : Ivz n A.1) (hK : CKc h w K 0 1 (aRead A x)) : Cl G (d + 7) kX4_read [.ref 0, .int x] h w K := by
  refine Cl.of (by decide) rfl ?_
  refine wp_vc [] 95 rfl fun W' C hW hC => ?_
  conv => whnf
  refine cl_use hC (c_requirePage (fun p hp e => ?_) (fun g => ?_)) <;> conv => whnf
  · subst e
    unfold aRead at hK
    rw [if_pos (rg_yes hp (by omega)), ixN_nI (by omega)] at hK
    repeat' (first
      | (refine ⟨_, rfl, ?_⟩; conv => whnf)
      | (refine ⟨_, _, rfl, ⟨_, rfl, rfl⟩, ?_⟩; conv => whnf)
      | (refine ⟨_, _, rfl, ?_⟩
         with_reducible apply ix_ex
         · repeat (first | with_reducible exact ix_nI | assumption | with_reducible apply ix_add | with_reducible apply ix_mul | (with_reducible apply ix_sub) | (with_reducible apply ix_upd) | (with_reducible apply ix_div) | omega)
         (refine ⟨⟨by omega, by decide⟩, ?_⟩; conv => whnf))
      | (with_reducible apply br_le
         · repeat (first | with_reducible exact ix_nI | assumption | with_reducible apply ix_add | with_reducible apply ix_mul | (with_reducible apply ix_sub) | (with_reducible apply ix_upd) | (with_reducible apply ix_div) | omega)
         · repeat (first | with_reducible exact ix_nI | assumption | with_reducible apply ix_add | with_reducible apply ix_mul | (with_reducible apply ix_sub) | (with_reducible apply ix_upd) | (with_reducible apply ix_div) | omega)
         · omega
         · omega
         all_goals (intro hc; first | omega | (conv => whnf)))
      | (with_reducible apply br_lt
         · repeat (first | with_reducible exact ix_nI | assumption | with_reducible apply ix_add | with_reducible apply ix_mul | (with_reducible apply ix_sub) | (with_reducible apply ix_upd) | (with_reducible apply ix_div) | omega)
         · repeat (first | with_reducible exact ix_nI | assumption | with_reducible apply ix_add | with_reducible apply ix_mul | (with_reducible apply ix_sub) | (with_reducible apply ix_upd) | (with_reducible apply ix_div) | omega)
         · omega
         · omega
         all_goals (intro hc; first | omega | (conv => whnf)))
      | (with_reducible apply br_eq
         · repeat (first | with_reducible exact ix_nI | assumption | with_reducible apply ix_add | with_reducible apply ix_mul | (with_reducible apply ix_sub) | (with_reducible apply ix_upd) | (with_reducible apply ix_div) | omega)
         · repeat (first | with_reducible exact ix_nI | assumption | with_reducible apply ix_add | with_reducible apply ix_mul | (with_reducible apply ix_sub) | (with_reducible apply ix_upd) | (with_reducible apply ix_div) | omega)
         · omega
         · omega
         all_goals (intro hc; first | omega | (conv => whnf)))
      | (with_reducible apply br_ne
         · repeat (first | with_reducible exact ix_nI | assumption | with_reducible apply ix_add | with_reducible apply ix_mul | (with_reducible apply ix_sub) | (with_reducible apply ix_upd) | (with_reducible apply ix_div) | omega)
         · repeat (first | with_reducible exact ix_nI | assumption | with_reducible apply ix_add | with_reducible apply ix_mul | (with_reducible apply ix_sub) | (with_reducible apply ix_upd) | (with_reducible apply ix_div) | omega)
         · omega
         · omega
         all_goals (intro hc; first | omega | (conv => whnf)))
      | (with_reducible apply br_eq0
         · repeat (first | with_reducible exact ix_nI | assumption | with_reducible apply ix_add | with_reducible apply ix_mul | (with_reducible apply ix_sub) | (with_reducible apply ix_upd) | (with_reducible apply ix_div) | omega)
         · omega
         all_goals (intro hc; first | omega | (conv => whnf)))
      | (with_reducible apply br_ne0
         · repeat (first | with_reducible exact ix_nI | assumption | with_reducible apply ix_add | with_reducible apply ix_mul | (with_reducible apply ix_sub) | (with_reducible apply ix_upd) | (with_reducible apply ix_div) | omega)
         · omega
         all_goals (intro hc; first | omega | (conv => whnf)))
      | (with_reducible apply br_le0
         · repeat (first | with_reducible exact ix_nI | assumption | with_reducible apply ix_add | with_reducible apply ix_mul | (with_reducible apply ix_sub) | (with_reducible apply ix_upd) | (with_reducible apply ix_div) | omega)
         · omega
         all_goals (intro hc; first | omega | (conv => whnf)))
      | (with_reducible apply br_gt0
         · repeat (first | with_reducible exact ix_nI | assumption | with_reducible apply ix_add | with_reducible apply ix_mul | (with_reducible apply ix_sub) | (with_reducible apply ix_upd) | (with_reducible apply ix_div) | omega)
         · omega
         all_goals (intro hc; first | omega | (conv => whnf)))
      | (with_reducible apply br_lt0
         · repeat (first | with_reducible exact ix_nI | assumption | with_reducible apply ix_add | with_reducible apply ix_mul | (with_reducible apply ix_sub) | (with_reducible apply ix_upd) | (with_reducible apply ix_div) | omega)
         · omega
         conv => whnf)
      | (with_reducible apply br_ge0
         · repeat (first | with_reducible exact ix_nI | assumption | with_reducible apply ix_add | with_reducible apply ix_mul | (with_reducible apply ix_sub) | (with_reducible apply ix_upd) | (with_reducible apply ix_div) | omega)
         · omega
         conv => whnf)
      | (with_reducible apply br_tab
         · repeat (first | with_reducible exact ix_nI | assumption | with_reducible apply ix_add | with_reducible apply ix_mul | (with_reducible apply ix_sub) | (with_reducible apply ix_upd) | (with_reducible apply ix_div) | omega)
         · omega
         all_goals (intro hc; (try dsimp only at hc); first | omega | (conv => whnf)))
      | (refine ⟨_, hA.1, ?_⟩; conv => whnf)
      | (refine ⟨_, _, hA.1, ⟨_, rfl, rfl⟩, ?_⟩; conv => whnf)
      | (refine ⟨_, hA.2.1.obj, ?_⟩; conv => whnf)
      | (refine ⟨_, _, hA.2.1.obj, ⟨_, rfl, rfl⟩, ?_⟩; conv => whnf)
      | (obtain ⟨t9, hh9⟩ := hA.hist; refine ⟨_, _, hh9, ⟨_, rfl, rfl⟩, ?_⟩; conv => whnf)
      | (obtain ⟨t9, hh9⟩ := hA.hist; refine ⟨_, hh9, ?_⟩; conv => whnf)
      | (obtain ⟨fp9, ep9, eq9⟩ := hA.2.1.pgs
         refine ⟨_, _, _, ep9, Or.inl rfl, ?_⟩
         with_reducible apply ix_ex2
         · repeat (first | with_reducible exact ix_nI | assumption | with_reducible apply ix_add | with_reducible apply ix_mul | (with_reducible apply ix_sub) | (with_reducible apply ix_upd) | (with_reducible apply ix_div) | omega)
         (refine ⟨⟨by omega, by decide⟩, eq9 _ (by omega), ?_⟩; conv => whnf))
      | (refine ⟨_, hA.2.1.pg hp, ?_⟩; conv => whnf)
      | (refine ⟨_, _, hA.2.1.pg hp, ⟨_, rfl, rfl⟩, ?_⟩; conv => whnf)
      | (obtain ⟨q9, e9, f9⟩ := hA.2.1.st
         refine ⟨_, _, e9, ?_⟩
         with_reducible apply ix_ex
         · repeat (first | with_reducible exact ix_nI | assumption | with_reducible apply ix_add | with_reducible apply ix_mul | (with_reducible apply ix_sub) | (with_reducible apply ix_upd) | (with_reducible apply ix_div) | omega)
         (refine ⟨⟨by omega, by decide⟩, ?_⟩; rw [f9 _ (by omega)]; conv => whnf))
      | (obtain ⟨q9, e9, f9⟩ := hA.2.1.wr
         refine ⟨_, _, e9, ?_⟩
         with_reducible apply ix_ex
         · repeat (first | with_reducible exact ix_nI | assumption | with_reducible apply ix_add | with_reducible apply ix_mul | (with_reducible apply ix_sub) | (with_reducible apply ix_upd) | (with_reducible apply ix_div) | omega)
         (refine ⟨⟨by omega, by decide⟩, ?_⟩; rw [f9 _ (by omega)]; conv => whnf))
      | (obtain ⟨q9, e9, f9⟩ := hA.2.1.of
         refine ⟨_, _, e9, ?_⟩
         with_reducible apply ix_ex
         · repeat (first | with_reducible exact ix_nI | assumption | with_reducible apply ix_add | with_reducible apply ix_mul | (with_reducible apply ix_sub) | (with_reducible apply ix_upd) | (with_reducible apply ix_div) | omega)
         (refine ⟨⟨by omega, by decide⟩, ?_⟩; rw [f9 _ (by omega)]; conv => whnf))
        | (refine cl_use hC (c_requireStatus hA rfl hp (fun g1 => ?_) (fun g1 => ?_)) <;> conv => whnf)
        | (refine cl_use hC (c_save hA fun h1 hA1 hF1 => ?_); conv => whnf)
        | (refine ⟨_, hA1.1, ?_⟩; conv => whnf)
      | (refine ⟨_, _, hA1.1, ⟨_, rfl, rfl⟩, ?_⟩; conv => whnf)
      | (refine ⟨_, hA1.2.1.obj, ?_⟩; conv => whnf)
      | (refine ⟨_, _, hA1.2.1.obj, ⟨_, rfl, rfl⟩, ?_⟩; conv => whnf)
      | (obtain ⟨t9, hh9⟩ := hA1.hist; refine ⟨_, _, hh9, ⟨_, rfl, rfl⟩, ?_⟩; conv => whnf)
      | (obtain ⟨t9, hh9⟩ := hA1.hist; refine ⟨_, hh9, ?_⟩; conv => whnf)
      | (obtain ⟨fp9, ep9, eq9⟩ := hA1.2.1.pgs
         refine ⟨_, _, _, ep9, Or.inl rfl, ?_⟩
         with_reducible apply ix_ex2
         · repeat (first | with_reducible exact ix_nI | assumption | with_reducible apply ix_add | with_reducible apply ix_mul | (with_reducible apply ix_sub) | (with_reducible apply ix_upd) | (with_reducible apply ix_div) | omega)
         (refine ⟨⟨by omega, by decide⟩, eq9 _ (by omega), ?_⟩; conv => whnf))
      | (refine ⟨_, hA1.2.1.pg hp, ?_⟩; conv => whnf)
      | (refine ⟨_, _, hA1.2.1.pg hp, ⟨_, rfl, rfl⟩, ?_⟩; conv => whnf)
      | (obtain ⟨q9, e9, f9⟩ := hA1.2.1.st
         refine ⟨_, _, e9, ?_⟩
         with_reducible apply ix_ex
         · repeat (first | with_reducible exact ix_nI | assumption | with_reducible apply ix_add | with_reducible apply ix_mul | (with_reducible apply ix_sub) | (with_reducible apply ix_upd) | (with_reducible apply ix_div) | omega)
         (refine ⟨⟨by omega, by decide⟩, ?_⟩; rw [f9 _ (by omega)]; conv => whnf))
      | (obtain ⟨q9, e9, f9⟩ := hA1.2.1.wr
         refine ⟨_, _, e9, ?_⟩
         with_reducible apply ix_ex
         · repeat (first | with_reducible exact ix_nI | assumption | with_reducible apply ix_add | with_reducible apply ix_mul | (with_reducible apply ix_sub) | (with_reducible apply ix_upd) | (with_reducible apply ix_div) | omega)
         (refine ⟨⟨by omega, by decide⟩, ?_⟩; rw [f9 _ (by omega)]; conv => whnf))
      | (obtain ⟨q9, e9, f9⟩ := hA1.2.1.of
         refine ⟨_, _, e9, ?_⟩
         with_reducible apply ix_ex
         · repeat (first | with_reducible exact ix_nI | assumption | with_reducible apply ix_add | with_reducible apply ix_mul | (with_reducible apply ix_sub) | (with_reducible apply ix_upd) | (with_reducible apply ix_div) | omega)
         (refine ⟨⟨by omega, by decide⟩, ?_⟩; rw [f9 _ (by omega)]; conv => whnf))
        | (refine cl_use hC (c_readPage hA1.2.1 hI.mf hp fun h2 hM2 hO2 => ?_); have hA2 := hA1.mem hM2 hO2; conv => whnf)
      | (refine And.intro (fun hc => ?_) (fun hc => ?_) <;> conv => whnf)
      | (refine And.intro (by decide) ?_; conv => whnf)
      | fail)
    · rw [if_pos (show A.1 (30 + p) = nI 1 from g1)] at hK
      exact hK.1 rfl _ hA2 (hF1.trans (hO2.frC (by omega)))
    · rw [if_neg (show ¬ A.1 (30 + p) = nI 1 from g1)] at hK
      exact hK.2.2 rfl
  · unfold aRead at hK
    rw [if_neg g] at hK
    exact hK.2.1 rfl
theorem c_erase {x : Int32} (hA : CS A h) (hI : Ivz n A.1) (hK : CKc h w K 0 1 (aErase A x)) : Cl G (d + 7) kX4_erase [.ref 0, .int x] h w K := by
  by_cases hx : rg x 2
  · obtain ⟨p, hp, e⟩ := inN_of (n := 2) (by omega) hx.1 hx.2
    subst e
    unfold aErase at hK
    rw [if_pos (rg_yes hp (by omega)), ixN_nI (by omega)] at hK
    refine Cl.of (by decide) rfl ?_
    refine wp_vc [] 95 rfl fun W' C hW hC => ?_
    conv => whnf
    repeat' (first
      | (refine ⟨_, rfl, ?_⟩; conv => whnf)
      | (refine ⟨_, _, rfl, ⟨_, rfl, rfl⟩, ?_⟩; conv => whnf)
      | (refine ⟨_, _, rfl, ?_⟩
         with_reducible apply ix_ex
         · repeat (first | with_reducible exact ix_nI | assumption | with_reducible apply ix_add | with_reducible apply ix_mul | (with_reducible apply ix_sub) | (with_reducible apply ix_upd) | (with_reducible apply ix_div) | omega)
         (refine ⟨⟨by omega, by decide⟩, ?_⟩; conv => whnf))
      | (with_reducible apply br_le
         · repeat (first | with_reducible exact ix_nI | assumption | with_reducible apply ix_add | with_reducible apply ix_mul | (with_reducible apply ix_sub) | (with_reducible apply ix_upd) | (with_reducible apply ix_div) | omega)
         · repeat (first | with_reducible exact ix_nI | assumption | with_reducible apply ix_add | with_reducible apply ix_mul | (with_reducible apply ix_sub) | (with_reducible apply ix_upd) | (with_reducible apply ix_div) | omega)
         · omega
         · omega
         all_goals (intro hc; first | omega | (conv => whnf)))
      | (with_reducible apply br_lt
         · repeat (first | with_reducible exact ix_nI | assumption | with_reducible apply ix_add | with_reducible apply ix_mul | (with_reducible apply ix_sub) | (with_reducible apply ix_upd) | (with_reducible apply ix_div) | omega)
         · repeat (first | with_reducible exact ix_nI | assumption | with_reducible apply ix_add | with_reducible apply ix_mul | (with_reducible apply ix_sub) | (with_reducible apply ix_upd) | (with_reducible apply ix_div) | omega)
         · omega
         · omega
         all_goals (intro hc; first | omega | (conv => whnf)))
      | (with_reducible apply br_eq
         · repeat (first | with_reducible exact ix_nI | assumption | with_reducible apply ix_add | with_reducible apply ix_mul | (with_reducible apply ix_sub) | (with_reducible apply ix_upd) | (with_reducible apply ix_div) | omega)
         · repeat (first | with_reducible exact ix_nI | assumption | with_reducible apply ix_add | with_reducible apply ix_mul | (with_reducible apply ix_sub) | (with_reducible apply ix_upd) | (with_reducible apply ix_div) | omega)
         · omega
         · omega
         all_goals (intro hc; first | omega | (conv => whnf)))
      | (with_reducible apply br_ne
         · repeat (first | with_reducible exact ix_nI | assumption | with_reducible apply ix_add | with_reducible apply ix_mul | (with_reducible apply ix_sub) | (with_reducible apply ix_upd) | (with_reducible apply ix_div) | omega)
         · repeat (first | with_reducible exact ix_nI | assumption | with_reducible apply ix_add | with_reducible apply ix_mul | (with_reducible apply ix_sub) | (with_reducible apply ix_upd) | (with_reducible apply ix_div) | omega)
         · omega
         · omega
         all_goals (intro hc; first | omega | (conv => whnf)))
      | (with_reducible apply br_eq0
         · repeat (first | with_reducible exact ix_nI | assumption | with_reducible apply ix_add | with_reducible apply ix_mul | (with_reducible apply ix_sub) | (with_reducible apply ix_upd) | (with_reducible apply ix_div) | omega)
         · omega
         all_goals (intro hc; first | omega | (conv => whnf)))
      | (with_reducible apply br_ne0
         · repeat (first | with_reducible exact ix_nI | assumption | with_reducible apply ix_add | with_reducible apply ix_mul | (with_reducible apply ix_sub) | (with_reducible apply ix_upd) | (with_reducible apply ix_div) | omega)
         · omega
         all_goals (intro hc; first | omega | (conv => whnf)))
      | (with_reducible apply br_le0
         · repeat (first | with_reducible exact ix_nI | assumption | with_reducible apply ix_add | with_reducible apply ix_mul | (with_reducible apply ix_sub) | (with_reducible apply ix_upd) | (with_reducible apply ix_div) | omega)
         · omega
         all_goals (intro hc; first | omega | (conv => whnf)))
      | (with_reducible apply br_gt0
         · repeat (first | with_reducible exact ix_nI | assumption | with_reducible apply ix_add | with_reducible apply ix_mul | (with_reducible apply ix_sub) | (with_reducible apply ix_upd) | (with_reducible apply ix_div) | omega)
         · omega
         all_goals (intro hc; first | omega | (conv => whnf)))
      | (with_reducible apply br_lt0
         · repeat (first | with_reducible exact ix_nI | assumption | with_reducible apply ix_add | with_reducible apply ix_mul | (with_reducible apply ix_sub) | (with_reducible apply ix_upd) | (with_reducible apply ix_div) | omega)
         · omega
         conv => whnf)
      | (with_reducible apply br_ge0
         · repeat (first | with_reducible exact ix_nI | assumption | with_reducible apply ix_add | with_reducible apply ix_mul | (with_reducible apply ix_sub) | (with_reducible apply ix_upd) | (with_reducible apply ix_div) | omega)
         · omega
         conv => whnf)
      | (with_reducible apply br_tab
         · repeat (first | with_reducible exact ix_nI | assumption | with_reducible apply ix_add | with_reducible apply ix_mul | (with_reducible apply ix_sub) | (with_reducible apply ix_upd) | (with_reducible apply ix_div) | omega)
         · omega
         all_goals (intro hc; (try dsimp only at hc); first | omega | (conv => whnf)))
      | (refine ⟨_, hA.1, ?_⟩; conv => whnf)
      | (refine ⟨_, _, hA.1, ⟨_, rfl, rfl⟩, ?_⟩; conv => whnf)
      | (refine ⟨_, hA.2.1.obj, ?_⟩; conv => whnf)
      | (refine ⟨_, _, hA.2.1.obj, ⟨_, rfl, rfl⟩, ?_⟩; conv => whnf)
      | (obtain ⟨t9, hh9⟩ := hA.hist; refine ⟨_, _, hh9, ⟨_, rfl, rfl⟩, ?_⟩; conv => whnf)
      | (obtain ⟨t9, hh9⟩ := hA.hist; refine ⟨_, hh9, ?_⟩; conv => whnf)
      | (obtain ⟨fp9, ep9, eq9⟩ := hA.2.1.pgs
         refine ⟨_, _, _, ep9, Or.inl rfl, ?_⟩
         with_reducible apply ix_ex2
         · repeat (first | with_reducible exact ix_nI | assumption | with_reducible apply ix_add | with_reducible apply ix_mul | (with_reducible apply ix_sub) | (with_reducible apply ix_upd) | (with_reducible apply ix_div) | omega)
         (refine ⟨⟨by omega, by decide⟩, eq9 _ (by omega), ?_⟩; conv => whnf))
      | (refine ⟨_, hA.2.1.pg hp, ?_⟩; conv => whnf)
      | (refine ⟨_, _, hA.2.1.pg hp, ⟨_, rfl, rfl⟩, ?_⟩; conv => whnf)
      | (obtain ⟨q9, e9, f9⟩ := hA.2.1.st
         refine ⟨_, _, e9, ?_⟩
         with_reducible apply ix_ex
         · repeat (first | with_reducible exact ix_nI | assumption | with_reducible apply ix_add | with_reducible apply ix_mul | (with_reducible apply ix_sub) | (with_reducible apply ix_upd) | (with_reducible apply ix_div) | omega)
         (refine ⟨⟨by omega, by decide⟩, ?_⟩; rw [f9 _ (by omega)]; conv => whnf))
      | (obtain ⟨q9, e9, f9⟩ := hA.2.1.wr
         refine ⟨_, _, e9, ?_⟩
         with_reducible apply ix_ex
         · repeat (first | with_reducible exact ix_nI | assumption | with_reducible apply ix_add | with_reducible apply ix_mul | (with_reducible apply ix_sub) | (with_reducible apply ix_upd) | (with_reducible apply ix_div) | omega)
         (refine ⟨⟨by omega, by decide⟩, ?_⟩; rw [f9 _ (by omega)]; conv => whnf))
      | (obtain ⟨q9, e9, f9⟩ := hA.2.1.of
         refine ⟨_, _, e9, ?_⟩
         with_reducible apply ix_ex
         · repeat (first | with_reducible exact ix_nI | assumption | with_reducible apply ix_add | with_reducible apply ix_mul | (with_reducible apply ix_sub) | (with_reducible apply ix_upd) | (with_reducible apply ix_div) | omega)
         (refine ⟨⟨by omega, by decide⟩, ?_⟩; rw [f9 _ (by omega)]; conv => whnf))
        | (refine And.intro (by omega) ?_; conv => whnf)
        | (refine cl_use hC (c_save hA fun h1 hA1 hF1 => ?_); conv => whnf)
        | (refine ⟨_, hA1.1, ?_⟩; conv => whnf)
      | (refine ⟨_, _, hA1.1, ⟨_, rfl, rfl⟩, ?_⟩; conv => whnf)
      | (refine ⟨_, hA1.2.1.obj, ?_⟩; conv => whnf)
      | (refine ⟨_, _, hA1.2.1.obj, ⟨_, rfl, rfl⟩, ?_⟩; conv => whnf)
      | (obtain ⟨t9, hh9⟩ := hA1.hist; refine ⟨_, _, hh9, ⟨_, rfl, rfl⟩, ?_⟩; conv => whnf)
      | (obtain ⟨t9, hh9⟩ := hA1.hist; refine ⟨_, hh9, ?_⟩; conv => whnf)
      | (obtain ⟨fp9, ep9, eq9⟩ := hA1.2.1.pgs
         refine ⟨_, _, _, ep9, Or.inl rfl, ?_⟩
         with_reducible apply ix_ex2
         · repeat (first | with_reducible exact ix_nI | assumption | with_reducible apply ix_add | with_reducible apply ix_mul | (with_reducible apply ix_sub) | (with_reducible apply ix_upd) | (with_reducible apply ix_div) | omega)
         (refine ⟨⟨by omega, by decide⟩, eq9 _ (by omega), ?_⟩; conv => whnf))
      | (refine ⟨_, hA1.2.1.pg hp, ?_⟩; conv => whnf)
      | (refine ⟨_, _, hA1.2.1.pg hp, ⟨_, rfl, rfl⟩, ?_⟩; conv => whnf)
      | (obtain ⟨q9, e9, f9⟩ := hA1.2.1.st
         refine ⟨_, _, e9, ?_⟩
         with_reducible apply ix_ex
         · repeat (first | with_reducible exact ix_nI | assumption | with_reducible apply ix_add | with_reducible apply ix_mul | (with_reducible apply ix_sub) | (with_reducible apply ix_upd) | (with_reducible apply ix_div) | omega)
         (refine ⟨⟨by omega, by decide⟩, ?_⟩; rw [f9 _ (by omega)]; conv => whnf))
      | (obtain ⟨q9, e9, f9⟩ := hA1.2.1.wr
         refine ⟨_, _, e9, ?_⟩
         with_reducible apply ix_ex
         · repeat (first | with_reducible exact ix_nI | assumption | with_reducible apply ix_add | with_reducible apply ix_mul | (with_reducible apply ix_sub) | (with_reducible apply ix_upd) | (with_reducible apply ix_div) | omega)
         (refine ⟨⟨by omega, by decide⟩, ?_⟩; rw [f9 _ (by omega)]; conv => whnf))
      | (obtain ⟨q9, e9, f9⟩ := hA1.2.1.of
         refine ⟨_, _, e9, ?_⟩
         with_reducible apply ix_ex
         · repeat (first | with_reducible exact ix_nI | assumption | with_reducible apply ix_add | with_reducible apply ix_mul | (with_reducible apply ix_sub) | (with_reducible apply ix_upd) | (with_reducible apply ix_div) | omega)
         (refine ⟨⟨by omega, by decide⟩, ?_⟩; rw [f9 _ (by omega)]; conv => whnf))
        | (refine cl_use hC (c_eraseBlock hA1.2.1 rfl hp fun h2 hM2 hO2 => ?_); have hA2 := hA1.mem hM2 hO2; conv => whnf)
        | (refine ⟨_, hA2.1, ?_⟩; conv => whnf)
      | (refine ⟨_, _, hA2.1, ⟨_, rfl, rfl⟩, ?_⟩; conv => whnf)
      | (refine ⟨_, hA2.2.1.obj, ?_⟩; conv => whnf)
      | (refine ⟨_, _, hA2.2.1.obj, ⟨_, rfl, rfl⟩, ?_⟩; conv => whnf)
      | (obtain ⟨t9, hh9⟩ := hA2.hist; refine ⟨_, _, hh9, ⟨_, rfl, rfl⟩, ?_⟩; conv => whnf)
      | (obtain ⟨t9, hh9⟩ := hA2.hist; refine ⟨_, hh9, ?_⟩; conv => whnf)
      | (obtain ⟨fp9, ep9, eq9⟩ := hA2.2.1.pgs
         refine ⟨_, _, _, ep9, Or.inl rfl, ?_⟩
         with_reducible apply ix_ex2
         · repeat (first | with_reducible exact ix_nI | assumption | with_reducible apply ix_add | with_reducible apply ix_mul | (with_reducible apply ix_sub) | (with_reducible apply ix_upd) | (with_reducible apply ix_div) | omega)
         (refine ⟨⟨by omega, by decide⟩, eq9 _ (by omega), ?_⟩; conv => whnf))
      | (refine ⟨_, hA2.2.1.pg hp, ?_⟩; conv => whnf)
      | (refine ⟨_, _, hA2.2.1.pg hp, ⟨_, rfl, rfl⟩, ?_⟩; conv => whnf)
      | (obtain ⟨q9, e9, f9⟩ := hA2.2.1.st
         refine ⟨_, _, e9, ?_⟩
         with_reducible apply ix_ex
         · repeat (first | with_reducible exact ix_nI | assumption | with_reducible apply ix_add | with_reducible apply ix_mul | (with_reducible apply ix_sub) | (with_reducible apply ix_upd) | (with_reducible apply ix_div) | omega)
         (refine ⟨⟨by omega, by decide⟩, ?_⟩; rw [f9 _ (by omega)]; conv => whnf))
      | (obtain ⟨q9, e9, f9⟩ := hA2.2.1.wr
         refine ⟨_, _, e9, ?_⟩
         with_reducible apply ix_ex
         · repeat (first | with_reducible exact ix_nI | assumption | with_reducible apply ix_add | with_reducible apply ix_mul | (with_reducible apply ix_sub) | (with_reducible apply ix_upd) | (with_reducible apply ix_div) | omega)
         (refine ⟨⟨by omega, by decide⟩, ?_⟩; rw [f9 _ (by omega)]; conv => whnf))
      | (obtain ⟨q9, e9, f9⟩ := hA2.2.1.of
         refine ⟨_, _, e9, ?_⟩
         with_reducible apply ix_ex
         · repeat (first | with_reducible exact ix_nI | assumption | with_reducible apply ix_add | with_reducible apply ix_mul | (with_reducible apply ix_sub) | (with_reducible apply ix_upd) | (with_reducible apply ix_div) | omega)
         (refine ⟨⟨by omega, by decide⟩, ?_⟩; rw [f9 _ (by omega)]; conv => whnf))
      | (refine And.intro (fun hc => ?_) (fun hc => ?_) <;> conv => whnf)
      | (refine And.intro (by decide) ?_; conv => whnf)
      | fail)
    · rw [if_pos hc] at hK
      exact hK.1 rfl _ hA2 (hF1.trans (hO2.frC (by omega)))
    · rw [if_neg hc] at hK
      exact hK.2.2 rfl
  · unfold aErase at hK
    rw [if_neg hx] at hK
    refine Cl.of (by decide) rfl ?_
    refine wp_vc [19] 95 rfl fun W' C hW hC => ?_
    conv => whnf
    repeat' (first
      | (refine ⟨_, rfl, ?_⟩; conv => whnf)
      | (refine ⟨_, _, rfl, ⟨_, rfl, rfl⟩, ?_⟩; conv => whnf)
      | (refine ⟨_, _, rfl, ?_⟩
         with_reducible apply ix_ex
         · repeat (first | with_reducible exact ix_nI | assumption | with_reducible apply ix_add | with_reducible apply ix_mul | (with_reducible apply ix_sub) | (with_reducible apply ix_upd) | (with_reducible apply ix_div) | omega)
         (refine ⟨⟨by omega, by decide⟩, ?_⟩; conv => whnf))
      | (with_reducible apply br_le
         · repeat (first | with_reducible exact ix_nI | assumption | with_reducible apply ix_add | with_reducible apply ix_mul | (with_reducible apply ix_sub) | (with_reducible apply ix_upd) | (with_reducible apply ix_div) | omega)
         · repeat (first | with_reducible exact ix_nI | assumption | with_reducible apply ix_add | with_reducible apply ix_mul | (with_reducible apply ix_sub) | (with_reducible apply ix_upd) | (with_reducible apply ix_div) | omega)
         · omega
         · omega
         all_goals (intro hc; first | omega | (conv => whnf)))
      | (with_reducible apply br_lt
         · repeat (first | with_reducible exact ix_nI | assumption | with_reducible apply ix_add | with_reducible apply ix_mul | (with_reducible apply ix_sub) | (with_reducible apply ix_upd) | (with_reducible apply ix_div) | omega)
         · repeat (first | with_reducible exact ix_nI | assumption | with_reducible apply ix_add | with_reducible apply ix_mul | (with_reducible apply ix_sub) | (with_reducible apply ix_upd) | (with_reducible apply ix_div) | omega)
         · omega
         · omega
         all_goals (intro hc; first | omega | (conv => whnf)))
      | (with_reducible apply br_eq
         · repeat (first | with_reducible exact ix_nI | assumption | with_reducible apply ix_add | with_reducible apply ix_mul | (with_reducible apply ix_sub) | (with_reducible apply ix_upd) | (with_reducible apply ix_div) | omega)
         · repeat (first | with_reducible exact ix_nI | assumption | with_reducible apply ix_add | with_reducible apply ix_mul | (with_reducible apply ix_sub) | (with_reducible apply ix_upd) | (with_reducible apply ix_div) | omega)
         · omega
         · omega
         all_goals (intro hc; first | omega | (conv => whnf)))
      | (with_reducible apply br_ne
         · repeat (first | with_reducible exact ix_nI | assumption | with_reducible apply ix_add | with_reducible apply ix_mul | (with_reducible apply ix_sub) | (with_reducible apply ix_upd) | (with_reducible apply ix_div) | omega)
         · repeat (first | with_reducible exact ix_nI | assumption | with_reducible apply ix_add | with_reducible apply ix_mul | (with_reducible apply ix_sub) | (with_reducible apply ix_upd) | (with_reducible apply ix_div) | omega)
         · omega
         · omega
         all_goals (intro hc; first | omega | (conv => whnf)))
      | (with_reducible apply br_eq0
         · repeat (first | with_reducible exact ix_nI | assumption | with_reducible apply ix_add | with_reducible apply ix_mul | (with_reducible apply ix_sub) | (with_reducible apply ix_upd) | (with_reducible apply ix_div) | omega)
         · omega
         all_goals (intro hc; first | omega | (conv => whnf)))
      | (with_reducible apply br_ne0
         · repeat (first | with_reducible exact ix_nI | assumption | with_reducible apply ix_add | with_reducible apply ix_mul | (with_reducible apply ix_sub) | (with_reducible apply ix_upd) | (with_reducible apply ix_div) | omega)
         · omega
         all_goals (intro hc; first | omega | (conv => whnf)))
      | (with_reducible apply br_le0
         · repeat (first | with_reducible exact ix_nI | assumption | with_reducible apply ix_add | with_reducible apply ix_mul | (with_reducible apply ix_sub) | (with_reducible apply ix_upd) | (with_reducible apply ix_div) | omega)
         · omega
         all_goals (intro hc; first | omega | (conv => whnf)))
      | (with_reducible apply br_gt0
         · repeat (first | with_reducible exact ix_nI | assumption | with_reducible apply ix_add | with_reducible apply ix_mul | (with_reducible apply ix_sub) | (with_reducible apply ix_upd) | (with_reducible apply ix_div) | omega)
         · omega
         all_goals (intro hc; first | omega | (conv => whnf)))
      | (with_reducible apply br_lt0
         · repeat (first | with_reducible exact ix_nI | assumption | with_reducible apply ix_add | with_reducible apply ix_mul | (with_reducible apply ix_sub) | (with_reducible apply ix_upd) | (with_reducible apply ix_div) | omega)
         · omega
         conv => whnf)
      | (with_reducible apply br_ge0
         · repeat (first | with_reducible exact ix_nI | assumption | with_reducible apply ix_add | with_reducible apply ix_mul | (with_reducible apply ix_sub) | (with_reducible apply ix_upd) | (with_reducible apply ix_div) | omega)
         · omega
         conv => whnf)
      | (with_reducible apply br_tab
         · repeat (first | with_reducible exact ix_nI | assumption | with_reducible apply ix_add | with_reducible apply ix_mul | (with_reducible apply ix_sub) | (with_reducible apply ix_upd) | (with_reducible apply ix_div) | omega)
         · omega
         all_goals (intro hc; (try dsimp only at hc); first | omega | (conv => whnf)))
      | (refine And.intro (by omega) ?_; conv => whnf)
      | (refine And.intro (fun hc => ?_) (fun hc => ?_) <;> conv => whnf)
      | (refine And.intro (by decide) ?_; conv => whnf)
      | fail)
    · exact hK.2.1 rfl
    · rename_i hc0
      exact absurd ⟨by rw [nI_0]; exact hc0, hc⟩ hx
    · exact hK.2.1 rfl
theorem c_copy {x y : Int32} (hA : CS A h) (hI : Ivz n A.1) (hK : CKc h w K 0 1 (aCopy A x y)) : Cl G (d + 7) kX4_copy [.ref 0, .int x, .int y] h w K := by
  refine Cl.of (by decide) rfl ?_
  refine wp_vc [73] 95 rfl fun W' C hW hC => ?_
  conv => whnf
  refine cl_use hC (c_requirePage (fun p hp e => ?_) (fun g => ?_)) <;> conv => whnf
  · subst e
    refine cl_use hC (c_requirePage (fun q hq e => ?_) (fun g => ?_)) <;> conv => whnf
    · subst e
      unfold aCopy at hK
      rw [if_pos ⟨rg_yes hp (by omega), rg_yes hq (by omega)⟩, ixN_nI (by omega), ixN_nI (by omega)] at hK
      have hI2 := ivz_reads hI hp
      repeat' (first
        | (refine ⟨_, rfl, ?_⟩; conv => whnf)
        | (refine ⟨_, _, rfl, ⟨_, rfl, rfl⟩, ?_⟩; conv => whnf)
        | (refine ⟨_, _, rfl, ?_⟩
           with_reducible apply ix_ex
           · repeat (first | with_reducible exact ix_nI | assumption | with_reducible apply ix_add | with_reducible apply ix_mul | (with_reducible apply ix_sub) | (with_reducible apply ix_upd) | (with_reducible apply ix_div) | omega)
           (refine ⟨⟨by omega, by decide⟩, ?_⟩; conv => whnf))
        | (with_reducible apply br_le
           · repeat (first | with_reducible exact ix_nI | assumption | with_reducible apply ix_add | with_reducible apply ix_mul | (with_reducible apply ix_sub) | (with_reducible apply ix_upd) | (with_reducible apply ix_div) | omega)
           · repeat (first | with_reducible exact ix_nI | assumption | with_reducible apply ix_add | with_reducible apply ix_mul | (with_reducible apply ix_sub) | (with_reducible apply ix_upd) | (with_reducible apply ix_div) | omega)
           · omega
           · omega
           all_goals (intro hc; first | omega | (conv => whnf)))
        | (with_reducible apply br_lt
           · repeat (first | with_reducible exact ix_nI | assumption | with_reducible apply ix_add | with_reducible apply ix_mul | (with_reducible apply ix_sub) | (with_reducible apply ix_upd) | (with_reducible apply ix_div) | omega)
           · repeat (first | with_reducible exact ix_nI | assumption | with_reducible apply ix_add | with_reducible apply ix_mul | (with_reducible apply ix_sub) | (with_reducible apply ix_upd) | (with_reducible apply ix_div) | omega)
           · omega
           · omega
           all_goals (intro hc; first | omega | (conv => whnf)))
        | (with_reducible apply br_eq
           · repeat (first | with_reducible exact ix_nI | assumption | with_reducible apply ix_add | with_reducible apply ix_mul | (with_reducible apply ix_sub) | (with_reducible apply ix_upd) | (with_reducible apply ix_div) | omega)
           · repeat (first | with_reducible exact ix_nI | assumption | with_reducible apply ix_add | with_reducible apply ix_mul | (with_reducible apply ix_sub) | (with_reducible apply ix_upd) | (with_reducible apply ix_div) | omega)
           · omega
           · omega
           all_goals (intro hc; first | omega | (conv => whnf)))
        | (with_reducible apply br_ne
           · repeat (first | with_reducible exact ix_nI | assumption | with_reducible apply ix_add | with_reducible apply ix_mul | (with_reducible apply ix_sub) | (with_reducible apply ix_upd) | (with_reducible apply ix_div) | omega)
           · repeat (first | with_reducible exact ix_nI | assumption | with_reducible apply ix_add | with_reducible apply ix_mul | (with_reducible apply ix_sub) | (with_reducible apply ix_upd) | (with_reducible apply ix_div) | omega)
           · omega
           · omega
           all_goals (intro hc; first | omega | (conv => whnf)))
        | (with_reducible apply br_eq0
           · repeat (first | with_reducible exact ix_nI | assumption | with_reducible apply ix_add | with_reducible apply ix_mul | (with_reducible apply ix_sub) | (with_reducible apply ix_upd) | (with_reducible apply ix_div) | omega)
           · omega
           all_goals (intro hc; first | omega | (conv => whnf)))
        | (with_reducible apply br_ne0
           · repeat (first | with_reducible exact ix_nI | assumption | with_reducible apply ix_add | with_reducible apply ix_mul | (with_reducible apply ix_sub) | (with_reducible apply ix_upd) | (with_reducible apply ix_div) | omega)
           · omega
           all_goals (intro hc; first | omega | (conv => whnf)))
        | (with_reducible apply br_le0
           · repeat (first | with_reducible exact ix_nI | assumption | with_reducible apply ix_add | with_reducible apply ix_mul | (with_reducible apply ix_sub) | (with_reducible apply ix_upd) | (with_reducible apply ix_div) | omega)
           · omega
           all_goals (intro hc; first | omega | (conv => whnf)))
        | (with_reducible apply br_gt0
           · repeat (first | with_reducible exact ix_nI | assumption | with_reducible apply ix_add | with_reducible apply ix_mul | (with_reducible apply ix_sub) | (with_reducible apply ix_upd) | (with_reducible apply ix_div) | omega)
           · omega
           all_goals (intro hc; first | omega | (conv => whnf)))
        | (with_reducible apply br_lt0
           · repeat (first | with_reducible exact ix_nI | assumption | with_reducible apply ix_add | with_reducible apply ix_mul | (with_reducible apply ix_sub) | (with_reducible apply ix_upd) | (with_reducible apply ix_div) | omega)
           · omega
           conv => whnf)
        | (with_reducible apply br_ge0
           · repeat (first | with_reducible exact ix_nI | assumption | with_reducible apply ix_add | with_reducible apply ix_mul | (with_reducible apply ix_sub) | (with_reducible apply ix_upd) | (with_reducible apply ix_div) | omega)
           · omega
           conv => whnf)
        | (with_reducible apply br_tab
           · repeat (first | with_reducible exact ix_nI | assumption | with_reducible apply ix_add | with_reducible apply ix_mul | (with_reducible apply ix_sub) | (with_reducible apply ix_upd) | (with_reducible apply ix_div) | omega)
           · omega
           all_goals (intro hc; (try dsimp only at hc); first | omega | (conv => whnf)))
        | (refine ⟨_, hA.1, ?_⟩; conv => whnf)
        | (refine ⟨_, _, hA.1, ⟨_, rfl, rfl⟩, ?_⟩; conv => whnf)
        | (refine ⟨_, hA.2.1.obj, ?_⟩; conv => whnf)
        | (refine ⟨_, _, hA.2.1.obj, ⟨_, rfl, rfl⟩, ?_⟩; conv => whnf)
        | (obtain ⟨t9, hh9⟩ := hA.hist; refine ⟨_, _, hh9, ⟨_, rfl, rfl⟩, ?_⟩; conv => whnf)
        | (obtain ⟨t9, hh9⟩ := hA.hist; refine ⟨_, hh9, ?_⟩; conv => whnf)
        | (obtain ⟨fp9, ep9, eq9⟩ := hA.2.1.pgs
           refine ⟨_, _, _, ep9, Or.inl rfl, ?_⟩
           with_reducible apply ix_ex2
           · repeat (first | with_reducible exact ix_nI | assumption | with_reducible apply ix_add | with_reducible apply ix_mul | (with_reducible apply ix_sub) | (with_reducible apply ix_upd) | (with_reducible apply ix_div) | omega)
           (refine ⟨⟨by omega, by decide⟩, eq9 _ (by omega), ?_⟩; conv => whnf))
        | (refine ⟨_, hA.2.1.pg hp, ?_⟩; conv => whnf)
        | (refine ⟨_, _, hA.2.1.pg hp, ⟨_, rfl, rfl⟩, ?_⟩; conv => whnf)
        | (obtain ⟨q9, e9, f9⟩ := hA.2.1.st
           refine ⟨_, _, e9, ?_⟩
           with_reducible apply ix_ex
           · repeat (first | with_reducible exact ix_nI | assumption | with_reducible apply ix_add | with_reducible apply ix_mul | (with_reducible apply ix_sub) | (with_reducible apply ix_upd) | (with_reducible apply ix_div) | omega)
           (refine ⟨⟨by omega, by decide⟩, ?_⟩; rw [f9 _ (by omega)]; conv => whnf))
        | (obtain ⟨q9, e9, f9⟩ := hA.2.1.wr
           refine ⟨_, _, e9, ?_⟩
           with_reducible apply ix_ex
           · repeat (first | with_reducible exact ix_nI | assumption | with_reducible apply ix_add | with_reducible apply ix_mul | (with_reducible apply ix_sub) | (with_reducible apply ix_upd) | (with_reducible apply ix_div) | omega)
           (refine ⟨⟨by omega, by decide⟩, ?_⟩; rw [f9 _ (by omega)]; conv => whnf))
        | (obtain ⟨q9, e9, f9⟩ := hA.2.1.of
           refine ⟨_, _, e9, ?_⟩
           with_reducible apply ix_ex
           · repeat (first | with_reducible exact ix_nI | assumption | with_reducible apply ix_add | with_reducible apply ix_mul | (with_reducible apply ix_sub) | (with_reducible apply ix_upd) | (with_reducible apply ix_div) | omega)
           (refine ⟨⟨by omega, by decide⟩, ?_⟩; rw [f9 _ (by omega)]; conv => whnf))
            | (refine cl_use hC (c_requireStatus hA rfl hp (fun g1 => ?_) (fun g1 => ?_)) <;> conv => whnf)
            | (refine cl_use hC (c_requireStatus hA rfl hq (fun g2 => ?_) (fun g2 => ?_)) <;> conv => whnf)
            | (refine cl_use hC (c_save hA fun h1 hA1 hF1 => ?_); conv => whnf)
            | (refine ⟨_, hA1.1, ?_⟩; conv => whnf)
        | (refine ⟨_, _, hA1.1, ⟨_, rfl, rfl⟩, ?_⟩; conv => whnf)
        | (refine ⟨_, hA1.2.1.obj, ?_⟩; conv => whnf)
        | (refine ⟨_, _, hA1.2.1.obj, ⟨_, rfl, rfl⟩, ?_⟩; conv => whnf)
        | (obtain ⟨t9, hh9⟩ := hA1.hist; refine ⟨_, _, hh9, ⟨_, rfl, rfl⟩, ?_⟩; conv => whnf)
        | (obtain ⟨t9, hh9⟩ := hA1.hist; refine ⟨_, hh9, ?_⟩; conv => whnf)
        | (obtain ⟨fp9, ep9, eq9⟩ := hA1.2.1.pgs
           refine ⟨_, _, _, ep9, Or.inl rfl, ?_⟩
           with_reducible apply ix_ex2
           · repeat (first | with_reducible exact ix_nI | assumption | with_reducible apply ix_add | with_reducible apply ix_mul | (with_reducible apply ix_sub) | (with_reducible apply ix_upd) | (with_reducible apply ix_div) | omega)
           (refine ⟨⟨by omega, by decide⟩, eq9 _ (by omega), ?_⟩; conv => whnf))
        | (refine ⟨_, hA1.2.1.pg hp, ?_⟩; conv => whnf)
        | (refine ⟨_, _, hA1.2.1.pg hp, ⟨_, rfl, rfl⟩, ?_⟩; conv => whnf)
        | (obtain ⟨q9, e9, f9⟩ := hA1.2.1.st
           refine ⟨_, _, e9, ?_⟩
           with_reducible apply ix_ex
           · repeat (first | with_reducible exact ix_nI | assumption | with_reducible apply ix_add | with_reducible apply ix_mul | (with_reducible apply ix_sub) | (with_reducible apply ix_upd) | (with_reducible apply ix_div) | omega)
           (refine ⟨⟨by omega, by decide⟩, ?_⟩; rw [f9 _ (by omega)]; conv => whnf))
        | (obtain ⟨q9, e9, f9⟩ := hA1.2.1.wr
           refine ⟨_, _, e9, ?_⟩
           with_reducible apply ix_ex
           · repeat (first | with_reducible exact ix_nI | assumption | with_reducible apply ix_add | with_reducible apply ix_mul | (with_reducible apply ix_sub) | (with_reducible apply ix_upd) | (with_reducible apply ix_div) | omega)
           (refine ⟨⟨by omega, by decide⟩, ?_⟩; rw [f9 _ (by omega)]; conv => whnf))
        | (obtain ⟨q9, e9, f9⟩ := hA1.2.1.of
           refine ⟨_, _, e9, ?_⟩
           with_reducible apply ix_ex
           · repeat (first | with_reducible exact ix_nI | assumption | with_reducible apply ix_add | with_reducible apply ix_mul | (with_reducible apply ix_sub) | (with_reducible apply ix_upd) | (with_reducible apply ix_div) | omega)
           (refine ⟨⟨by omega, by decide⟩, ?_⟩; rw [f9 _ (by omega)]; conv => whnf))
            | (refine cl_use hC (c_readPage hA1.2.1 hI.mf hp fun h2 hM2 hO2 => ?_); have hA2 := hA1.mem hM2 hO2; conv => whnf)
            | (refine ⟨_, hA2.1, ?_⟩; conv => whnf)
        | (refine ⟨_, _, hA2.1, ⟨_, rfl, rfl⟩, ?_⟩; conv => whnf)
        | (refine ⟨_, hA2.2.1.obj, ?_⟩; conv => whnf)
        | (refine ⟨_, _, hA2.2.1.obj, ⟨_, rfl, rfl⟩, ?_⟩; conv => whnf)
        | (obtain ⟨t9, hh9⟩ := hA2.hist; refine ⟨_, _, hh9, ⟨_, rfl, rfl⟩, ?_⟩; conv => whnf)
        | (obtain ⟨t9, hh9⟩ := hA2.hist; refine ⟨_, hh9, ?_⟩; conv => whnf)
        | (obtain ⟨fp9, ep9, eq9⟩ := hA2.2.1.pgs
           refine ⟨_, _, _, ep9, Or.inl rfl, ?_⟩
           with_reducible apply ix_ex2
           · repeat (first | with_reducible exact ix_nI | assumption | with_reducible apply ix_add | with_reducible apply ix_mul | (with_reducible apply ix_sub) | (with_reducible apply ix_upd) | (with_reducible apply ix_div) | omega)
           (refine ⟨⟨by omega, by decide⟩, eq9 _ (by omega), ?_⟩; conv => whnf))
        | (refine ⟨_, hA2.2.1.pg hp, ?_⟩; conv => whnf)
        | (refine ⟨_, _, hA2.2.1.pg hp, ⟨_, rfl, rfl⟩, ?_⟩; conv => whnf)
        | (obtain ⟨q9, e9, f9⟩ := hA2.2.1.st
           refine ⟨_, _, e9, ?_⟩
           with_reducible apply ix_ex
           · repeat (first | with_reducible exact ix_nI | assumption | with_reducible apply ix_add | with_reducible apply ix_mul | (with_reducible apply ix_sub) | (with_reducible apply ix_upd) | (with_reducible apply ix_div) | omega)
           (refine ⟨⟨by omega, by decide⟩, ?_⟩; rw [f9 _ (by omega)]; conv => whnf))
        | (obtain ⟨q9, e9, f9⟩ := hA2.2.1.wr
           refine ⟨_, _, e9, ?_⟩
           with_reducible apply ix_ex
           · repeat (first | with_reducible exact ix_nI | assumption | with_reducible apply ix_add | with_reducible apply ix_mul | (with_reducible apply ix_sub) | (with_reducible apply ix_upd) | (with_reducible apply ix_div) | omega)
           (refine ⟨⟨by omega, by decide⟩, ?_⟩; rw [f9 _ (by omega)]; conv => whnf))
        | (obtain ⟨q9, e9, f9⟩ := hA2.2.1.of
           refine ⟨_, _, e9, ?_⟩
           with_reducible apply ix_ex
           · repeat (first | with_reducible exact ix_nI | assumption | with_reducible apply ix_add | with_reducible apply ix_mul | (with_reducible apply ix_sub) | (with_reducible apply ix_upd) | (with_reducible apply ix_div) | omega)
           (refine ⟨⟨by omega, by decide⟩, ?_⟩; rw [f9 _ (by omega)]; conv => whnf))
            | (refine cl_use hC (c_writePage hM2 hI2 rfl hq fun h3 hM3 hO3 => ?_); have hA3 := hA2.mem hM3 hO3; conv => whnf)
        | (refine And.intro (fun hc => ?_) (fun hc => ?_) <;> conv => whnf)
        | (refine And.intro (by decide) ?_; conv => whnf)
        | fail)
      · refine wp_use hW ?_
        rw [if_pos ⟨g1, g2⟩] at hK
        have hK1 := hK.1 rfl
        dsimp only at hK1
        rw [copyZ, if_pos hc] at hK1
        refine wp_vc [] 20 rfl fun W' C hW hC => ?_
        conv => whnf
        exact hK1 _ hA2 (hF1.trans (hO2.frC (by omega)))
      · refine wp_use hW ?_
        rw [if_pos ⟨g1, g2⟩] at hK
        have hK1 := hK.1 rfl
        dsimp only at hK1
        rw [copyZ, if_neg hc] at hK1
        refine wp_vc [] 20 rfl fun W' C hW hC => ?_
        conv => whnf
        exact hK1 _ hA3 (hF1.trans ((hO2.trans hO3).frC (by omega)))
      · rw [if_neg (fun q => g2 q.2)] at hK
        exact hK.2.2 rfl
      · rw [if_neg (fun q => g1 q.1)] at hK
        exact hK.2.2 rfl
    · unfold aCopy at hK
      rw [if_neg (fun q => g q.2)] at hK
      exact hK.2.1 rfl
  · unfold aCopy at hK
    rw [if_neg (fun q => g q.1)] at hK
    exact hK.2.1 rfl
theorem c_pass {x : Int32} (hA : CS A h) (hI : Ivz n A.1) (hK : CKc h w K 2 2 (aPass A x)) : Cl G (d + 7) kX4_pass [.ref 0, .int x] h w K := by
  by_cases hx : ¬ x < nI 1 ∧ ¬ nI 100 < x
  · obtain ⟨p, hp, e⟩ := nI_le_ex (by omega) hx.1 hx.2
    subst e
    unfold aPass at hK
    rw [if_pos hx, ixN_nI (by omega)] at hK
    rw [nI_ltI (by omega) (by omega)] at hx
    refine Cl.of (by decide) rfl ?_
    refine wp_vc [] 95 rfl fun W' C hW hC => ?_
    conv => whnf
    repeat' (first
      | (refine ⟨_, rfl, ?_⟩; conv => whnf)
      | (refine ⟨_, _, rfl, ⟨_, rfl, rfl⟩, ?_⟩; conv => whnf)
      | (refine ⟨_, _, rfl, ?_⟩
         with_reducible apply ix_ex
         · repeat (first | with_reducible exact ix_nI | assumption | with_reducible apply ix_add | with_reducible apply ix_mul | (with_reducible apply ix_sub) | (with_reducible apply ix_upd) | (with_reducible apply ix_div) | omega)
         (refine ⟨⟨by omega, by decide⟩, ?_⟩; conv => whnf))
      | (with_reducible apply br_le
         · repeat (first | with_reducible exact ix_nI | assumption | with_reducible apply ix_add | with_reducible apply ix_mul | (with_reducible apply ix_sub) | (with_reducible apply ix_upd) | (with_reducible apply ix_div) | omega)
         · repeat (first | with_reducible exact ix_nI | assumption | with_reducible apply ix_add | with_reducible apply ix_mul | (with_reducible apply ix_sub) | (with_reducible apply ix_upd) | (with_reducible apply ix_div) | omega)
         · omega
         · omega
         all_goals (intro hc; first | omega | (conv => whnf)))
      | (with_reducible apply br_lt
         · repeat (first | with_reducible exact ix_nI | assumption | with_reducible apply ix_add | with_reducible apply ix_mul | (with_reducible apply ix_sub) | (with_reducible apply ix_upd) | (with_reducible apply ix_div) | omega)
         · repeat (first | with_reducible exact ix_nI | assumption | with_reducible apply ix_add | with_reducible apply ix_mul | (with_reducible apply ix_sub) | (with_reducible apply ix_upd) | (with_reducible apply ix_div) | omega)
         · omega
         · omega
         all_goals (intro hc; first | omega | (conv => whnf)))
      | (with_reducible apply br_eq
         · repeat (first | with_reducible exact ix_nI | assumption | with_reducible apply ix_add | with_reducible apply ix_mul | (with_reducible apply ix_sub) | (with_reducible apply ix_upd) | (with_reducible apply ix_div) | omega)
         · repeat (first | with_reducible exact ix_nI | assumption | with_reducible apply ix_add | with_reducible apply ix_mul | (with_reducible apply ix_sub) | (with_reducible apply ix_upd) | (with_reducible apply ix_div) | omega)
         · omega
         · omega
         all_goals (intro hc; first | omega | (conv => whnf)))
      | (with_reducible apply br_ne
         · repeat (first | with_reducible exact ix_nI | assumption | with_reducible apply ix_add | with_reducible apply ix_mul | (with_reducible apply ix_sub) | (with_reducible apply ix_upd) | (with_reducible apply ix_div) | omega)
         · repeat (first | with_reducible exact ix_nI | assumption | with_reducible apply ix_add | with_reducible apply ix_mul | (with_reducible apply ix_sub) | (with_reducible apply ix_upd) | (with_reducible apply ix_div) | omega)
         · omega
         · omega
         all_goals (intro hc; first | omega | (conv => whnf)))
      | (with_reducible apply br_eq0
         · repeat (first | with_reducible exact ix_nI | assumption | with_reducible apply ix_add | with_reducible apply ix_mul | (with_reducible apply ix_sub) | (with_reducible apply ix_upd) | (with_reducible apply ix_div) | omega)
         · omega
         all_goals (intro hc; first | omega | (conv => whnf)))
      | (with_reducible apply br_ne0
         · repeat (first | with_reducible exact ix_nI | assumption | with_reducible apply ix_add | with_reducible apply ix_mul | (with_reducible apply ix_sub) | (with_reducible apply ix_upd) | (with_reducible apply ix_div) | omega)
         · omega
         all_goals (intro hc; first | omega | (conv => whnf)))
      | (with_reducible apply br_le0
         · repeat (first | with_reducible exact ix_nI | assumption | with_reducible apply ix_add | with_reducible apply ix_mul | (with_reducible apply ix_sub) | (with_reducible apply ix_upd) | (with_reducible apply ix_div) | omega)
         · omega
         all_goals (intro hc; first | omega | (conv => whnf)))
      | (with_reducible apply br_gt0
         · repeat (first | with_reducible exact ix_nI | assumption | with_reducible apply ix_add | with_reducible apply ix_mul | (with_reducible apply ix_sub) | (with_reducible apply ix_upd) | (with_reducible apply ix_div) | omega)
         · omega
         all_goals (intro hc; first | omega | (conv => whnf)))
      | (with_reducible apply br_lt0
         · repeat (first | with_reducible exact ix_nI | assumption | with_reducible apply ix_add | with_reducible apply ix_mul | (with_reducible apply ix_sub) | (with_reducible apply ix_upd) | (with_reducible apply ix_div) | omega)
         · omega
         conv => whnf)
      | (with_reducible apply br_ge0
         · repeat (first | with_reducible exact ix_nI | assumption | with_reducible apply ix_add | with_reducible apply ix_mul | (with_reducible apply ix_sub) | (with_reducible apply ix_upd) | (with_reducible apply ix_div) | omega)
         · omega
         conv => whnf)
      | (with_reducible apply br_tab
         · repeat (first | with_reducible exact ix_nI | assumption | with_reducible apply ix_add | with_reducible apply ix_mul | (with_reducible apply ix_sub) | (with_reducible apply ix_upd) | (with_reducible apply ix_div) | omega)
         · omega
         all_goals (intro hc; (try dsimp only at hc); first | omega | (conv => whnf)))
      | (refine ⟨_, hA.1, ?_⟩; conv => whnf)
      | (refine ⟨_, _, hA.1, ⟨_, rfl, rfl⟩, ?_⟩; conv => whnf)
      | (refine ⟨_, hA.2.1.obj, ?_⟩; conv => whnf)
      | (refine ⟨_, _, hA.2.1.obj, ⟨_, rfl, rfl⟩, ?_⟩; conv => whnf)
      | (obtain ⟨t9, hh9⟩ := hA.hist; refine ⟨_, _, hh9, ⟨_, rfl, rfl⟩, ?_⟩; conv => whnf)
      | (obtain ⟨t9, hh9⟩ := hA.hist; refine ⟨_, hh9, ?_⟩; conv => whnf)
      | (obtain ⟨fp9, ep9, eq9⟩ := hA.2.1.pgs
         refine ⟨_, _, _, ep9, Or.inl rfl, ?_⟩
         with_reducible apply ix_ex2
         · repeat (first | with_reducible exact ix_nI | assumption | with_reducible apply ix_add | with_reducible apply ix_mul | (with_reducible apply ix_sub) | (with_reducible apply ix_upd) | (with_reducible apply ix_div) | omega)
         (refine ⟨⟨by omega, by decide⟩, eq9 _ (by omega), ?_⟩; conv => whnf))
      | (refine ⟨_, hA.2.1.pg hp, ?_⟩; conv => whnf)
      | (refine ⟨_, _, hA.2.1.pg hp, ⟨_, rfl, rfl⟩, ?_⟩; conv => whnf)
      | (obtain ⟨q9, e9, f9⟩ := hA.2.1.st
         refine ⟨_, _, e9, ?_⟩
         with_reducible apply ix_ex
         · repeat (first | with_reducible exact ix_nI | assumption | with_reducible apply ix_add | with_reducible apply ix_mul | (with_reducible apply ix_sub) | (with_reducible apply ix_upd) | (with_reducible apply ix_div) | omega)
         (refine ⟨⟨by omega, by decide⟩, ?_⟩; rw [f9 _ (by omega)]; conv => whnf))
      | (obtain ⟨q9, e9, f9⟩ := hA.2.1.wr
         refine ⟨_, _, e9, ?_⟩
         with_reducible apply ix_ex
         · repeat (first | with_reducible exact ix_nI | assumption | with_reducible apply ix_add | with_reducible apply ix_mul | (with_reducible apply ix_sub) | (with_reducible apply ix_upd) | (with_reducible apply ix_div) | omega)
         (refine ⟨⟨by omega, by decide⟩, ?_⟩; rw [f9 _ (by omega)]; conv => whnf))
      | (obtain ⟨q9, e9, f9⟩ := hA.2.1.of
         refine ⟨_, _, e9, ?_⟩
         with_reducible apply ix_ex
         · repeat (first | with_reducible exact ix_nI | assumption | with_reducible apply ix_add | with_reducible apply ix_mul | (with_reducible apply ix_sub) | (with_reducible apply ix_upd) | (with_reducible apply ix_div) | omega)
         (refine ⟨⟨by omega, by decide⟩, ?_⟩; rw [f9 _ (by omega)]; conv => whnf))
        | (refine cl_use hC (c_save hA fun h1 hA1 hF1 => ?_); conv => whnf)
        | (refine ⟨_, hA1.1, ?_⟩; conv => whnf)
      | (refine ⟨_, _, hA1.1, ⟨_, rfl, rfl⟩, ?_⟩; conv => whnf)
      | (refine ⟨_, hA1.2.1.obj, ?_⟩; conv => whnf)
      | (refine ⟨_, _, hA1.2.1.obj, ⟨_, rfl, rfl⟩, ?_⟩; conv => whnf)
      | (obtain ⟨t9, hh9⟩ := hA1.hist; refine ⟨_, _, hh9, ⟨_, rfl, rfl⟩, ?_⟩; conv => whnf)
      | (obtain ⟨t9, hh9⟩ := hA1.hist; refine ⟨_, hh9, ?_⟩; conv => whnf)
      | (obtain ⟨fp9, ep9, eq9⟩ := hA1.2.1.pgs
         refine ⟨_, _, _, ep9, Or.inl rfl, ?_⟩
         with_reducible apply ix_ex2
         · repeat (first | with_reducible exact ix_nI | assumption | with_reducible apply ix_add | with_reducible apply ix_mul | (with_reducible apply ix_sub) | (with_reducible apply ix_upd) | (with_reducible apply ix_div) | omega)
         (refine ⟨⟨by omega, by decide⟩, eq9 _ (by omega), ?_⟩; conv => whnf))
      | (refine ⟨_, hA1.2.1.pg hp, ?_⟩; conv => whnf)
      | (refine ⟨_, _, hA1.2.1.pg hp, ⟨_, rfl, rfl⟩, ?_⟩; conv => whnf)
      | (obtain ⟨q9, e9, f9⟩ := hA1.2.1.st
         refine ⟨_, _, e9, ?_⟩
         with_reducible apply ix_ex
         · repeat (first | with_reducible exact ix_nI | assumption | with_reducible apply ix_add | with_reducible apply ix_mul | (with_reducible apply ix_sub) | (with_reducible apply ix_upd) | (with_reducible apply ix_div) | omega)
         (refine ⟨⟨by omega, by decide⟩, ?_⟩; rw [f9 _ (by omega)]; conv => whnf))
      | (obtain ⟨q9, e9, f9⟩ := hA1.2.1.wr
         refine ⟨_, _, e9, ?_⟩
         with_reducible apply ix_ex
         · repeat (first | with_reducible exact ix_nI | assumption | with_reducible apply ix_add | with_reducible apply ix_mul | (with_reducible apply ix_sub) | (with_reducible apply ix_upd) | (with_reducible apply ix_div) | omega)
         (refine ⟨⟨by omega, by decide⟩, ?_⟩; rw [f9 _ (by omega)]; conv => whnf))
      | (obtain ⟨q9, e9, f9⟩ := hA1.2.1.of
         refine ⟨_, _, e9, ?_⟩
         with_reducible apply ix_ex
         · repeat (first | with_reducible exact ix_nI | assumption | with_reducible apply ix_add | with_reducible apply ix_mul | (with_reducible apply ix_sub) | (with_reducible apply ix_upd) | (with_reducible apply ix_div) | omega)
         (refine ⟨⟨by omega, by decide⟩, ?_⟩; rw [f9 _ (by omega)]; conv => whnf))
        | (refine cl_use hC (c_passHours hA1.2.1 hI rfl (by omega) fun h2 hM2 hO2 => ?_); have hA2 := hA1.mem hM2 hO2; conv => whnf)
        | (refine ⟨_, hA2.1, ?_⟩; conv => whnf)
      | (refine ⟨_, _, hA2.1, ⟨_, rfl, rfl⟩, ?_⟩; conv => whnf)
      | (refine ⟨_, hA2.2.1.obj, ?_⟩; conv => whnf)
      | (refine ⟨_, _, hA2.2.1.obj, ⟨_, rfl, rfl⟩, ?_⟩; conv => whnf)
      | (obtain ⟨t9, hh9⟩ := hA2.hist; refine ⟨_, _, hh9, ⟨_, rfl, rfl⟩, ?_⟩; conv => whnf)
      | (obtain ⟨t9, hh9⟩ := hA2.hist; refine ⟨_, hh9, ?_⟩; conv => whnf)
      | (obtain ⟨fp9, ep9, eq9⟩ := hA2.2.1.pgs
         refine ⟨_, _, _, ep9, Or.inl rfl, ?_⟩
         with_reducible apply ix_ex2
         · repeat (first | with_reducible exact ix_nI | assumption | with_reducible apply ix_add | with_reducible apply ix_mul | (with_reducible apply ix_sub) | (with_reducible apply ix_upd) | (with_reducible apply ix_div) | omega)
         (refine ⟨⟨by omega, by decide⟩, eq9 _ (by omega), ?_⟩; conv => whnf))
      | (refine ⟨_, hA2.2.1.pg hp, ?_⟩; conv => whnf)
      | (refine ⟨_, _, hA2.2.1.pg hp, ⟨_, rfl, rfl⟩, ?_⟩; conv => whnf)
      | (obtain ⟨q9, e9, f9⟩ := hA2.2.1.st
         refine ⟨_, _, e9, ?_⟩
         with_reducible apply ix_ex
         · repeat (first | with_reducible exact ix_nI | assumption | with_reducible apply ix_add | with_reducible apply ix_mul | (with_reducible apply ix_sub) | (with_reducible apply ix_upd) | (with_reducible apply ix_div) | omega)
         (refine ⟨⟨by omega, by decide⟩, ?_⟩; rw [f9 _ (by omega)]; conv => whnf))
      | (obtain ⟨q9, e9, f9⟩ := hA2.2.1.wr
         refine ⟨_, _, e9, ?_⟩
         with_reducible apply ix_ex
         · repeat (first | with_reducible exact ix_nI | assumption | with_reducible apply ix_add | with_reducible apply ix_mul | (with_reducible apply ix_sub) | (with_reducible apply ix_upd) | (with_reducible apply ix_div) | omega)
         (refine ⟨⟨by omega, by decide⟩, ?_⟩; rw [f9 _ (by omega)]; conv => whnf))
      | (obtain ⟨q9, e9, f9⟩ := hA2.2.1.of
         refine ⟨_, _, e9, ?_⟩
         with_reducible apply ix_ex
         · repeat (first | with_reducible exact ix_nI | assumption | with_reducible apply ix_add | with_reducible apply ix_mul | (with_reducible apply ix_sub) | (with_reducible apply ix_upd) | (with_reducible apply ix_div) | omega)
         (refine ⟨⟨by omega, by decide⟩, ?_⟩; rw [f9 _ (by omega)]; conv => whnf))
      | (refine And.intro (fun hc => ?_) (fun hc => ?_) <;> conv => whnf)
      | (refine And.intro (by decide) ?_; conv => whnf)
      | fail)
    exact hK.1 rfl _ hA2 (hF1.trans (hO2.frC (by omega)))
  · unfold aPass at hK
    rw [if_neg hx] at hK
    refine Cl.of (by decide) rfl ?_
    refine wp_vc [21] 95 rfl fun W' C hW hC => ?_
    conv => whnf
    repeat' (first
      | (refine ⟨_, rfl, ?_⟩; conv => whnf)
      | (refine ⟨_, _, rfl, ⟨_, rfl, rfl⟩, ?_⟩; conv => whnf)
      | (refine ⟨_, _, rfl, ?_⟩
         with_reducible apply ix_ex
         · repeat (first | with_reducible exact ix_nI | assumption | with_reducible apply ix_add | with_reducible apply ix_mul | (with_reducible apply ix_sub) | (with_reducible apply ix_upd) | (with_reducible apply ix_div) | omega)
         (refine ⟨⟨by omega, by decide⟩, ?_⟩; conv => whnf))
      | (with_reducible apply br_le
         · repeat (first | with_reducible exact ix_nI | assumption | with_reducible apply ix_add | with_reducible apply ix_mul | (with_reducible apply ix_sub) | (with_reducible apply ix_upd) | (with_reducible apply ix_div) | omega)
         · repeat (first | with_reducible exact ix_nI | assumption | with_reducible apply ix_add | with_reducible apply ix_mul | (with_reducible apply ix_sub) | (with_reducible apply ix_upd) | (with_reducible apply ix_div) | omega)
         · omega
         · omega
         all_goals (intro hc; first | omega | (conv => whnf)))
      | (with_reducible apply br_lt
         · repeat (first | with_reducible exact ix_nI | assumption | with_reducible apply ix_add | with_reducible apply ix_mul | (with_reducible apply ix_sub) | (with_reducible apply ix_upd) | (with_reducible apply ix_div) | omega)
         · repeat (first | with_reducible exact ix_nI | assumption | with_reducible apply ix_add | with_reducible apply ix_mul | (with_reducible apply ix_sub) | (with_reducible apply ix_upd) | (with_reducible apply ix_div) | omega)
         · omega
         · omega
         all_goals (intro hc; first | omega | (conv => whnf)))
      | (with_reducible apply br_eq
         · repeat (first | with_reducible exact ix_nI | assumption | with_reducible apply ix_add | with_reducible apply ix_mul | (with_reducible apply ix_sub) | (with_reducible apply ix_upd) | (with_reducible apply ix_div) | omega)
         · repeat (first | with_reducible exact ix_nI | assumption | with_reducible apply ix_add | with_reducible apply ix_mul | (with_reducible apply ix_sub) | (with_reducible apply ix_upd) | (with_reducible apply ix_div) | omega)
         · omega
         · omega
         all_goals (intro hc; first | omega | (conv => whnf)))
      | (with_reducible apply br_ne
         · repeat (first | with_reducible exact ix_nI | assumption | with_reducible apply ix_add | with_reducible apply ix_mul | (with_reducible apply ix_sub) | (with_reducible apply ix_upd) | (with_reducible apply ix_div) | omega)
         · repeat (first | with_reducible exact ix_nI | assumption | with_reducible apply ix_add | with_reducible apply ix_mul | (with_reducible apply ix_sub) | (with_reducible apply ix_upd) | (with_reducible apply ix_div) | omega)
         · omega
         · omega
         all_goals (intro hc; first | omega | (conv => whnf)))
      | (with_reducible apply br_eq0
         · repeat (first | with_reducible exact ix_nI | assumption | with_reducible apply ix_add | with_reducible apply ix_mul | (with_reducible apply ix_sub) | (with_reducible apply ix_upd) | (with_reducible apply ix_div) | omega)
         · omega
         all_goals (intro hc; first | omega | (conv => whnf)))
      | (with_reducible apply br_ne0
         · repeat (first | with_reducible exact ix_nI | assumption | with_reducible apply ix_add | with_reducible apply ix_mul | (with_reducible apply ix_sub) | (with_reducible apply ix_upd) | (with_reducible apply ix_div) | omega)
         · omega
         all_goals (intro hc; first | omega | (conv => whnf)))
      | (with_reducible apply br_le0
         · repeat (first | with_reducible exact ix_nI | assumption | with_reducible apply ix_add | with_reducible apply ix_mul | (with_reducible apply ix_sub) | (with_reducible apply ix_upd) | (with_reducible apply ix_div) | omega)
         · omega
         all_goals (intro hc; first | omega | (conv => whnf)))
      | (with_reducible apply br_gt0
         · repeat (first | with_reducible exact ix_nI | assumption | with_reducible apply ix_add | with_reducible apply ix_mul | (with_reducible apply ix_sub) | (with_reducible apply ix_upd) | (with_reducible apply ix_div) | omega)
         · omega
         all_goals (intro hc; first | omega | (conv => whnf)))
      | (with_reducible apply br_lt0
         · repeat (first | with_reducible exact ix_nI | assumption | with_reducible apply ix_add | with_reducible apply ix_mul | (with_reducible apply ix_sub) | (with_reducible apply ix_upd) | (with_reducible apply ix_div) | omega)
         · omega
         conv => whnf)
      | (with_reducible apply br_ge0
         · repeat (first | with_reducible exact ix_nI | assumption | with_reducible apply ix_add | with_reducible apply ix_mul | (with_reducible apply ix_sub) | (with_reducible apply ix_upd) | (with_reducible apply ix_div) | omega)
         · omega
         conv => whnf)
      | (with_reducible apply br_tab
         · repeat (first | with_reducible exact ix_nI | assumption | with_reducible apply ix_add | with_reducible apply ix_mul | (with_reducible apply ix_sub) | (with_reducible apply ix_upd) | (with_reducible apply ix_div) | omega)
         · omega
         all_goals (intro hc; (try dsimp only at hc); first | omega | (conv => whnf)))
      | (refine And.intro (by omega) ?_; conv => whnf)
      | (refine And.intro (fun hc => ?_) (fun hc => ?_) <;> conv => whnf)
      | (refine And.intro (by decide) ?_; conv => whnf)
      | fail)
    · exact hK.2.1 rfl
    · rename_i hc0
      exact absurd ⟨hc0, Int32.not_lt.mpr hc⟩ hx
    · exact hK.2.1 rfl
theorem c_addMatch {x y v : Int32} (hA : CS A h) (hI : Ivz n A.1) (hK : CKc h w K 2 1 (aAdd A x y v)) : Cl G (d + 7) kX4_addMatch [.ref 0, .int x, .int y, .int v] h w K := by
  obtain ⟨⟨h8, hM1, hM6⟩, hfav⟩ := id hI.mf
  have hob := hA.2.1.obj
  rw [h8] at hob
  unfold aAdd at hK
  refine Cl.of (by decide) rfl ?_
  refine wp_vc [] 95 rfl fun W' C hW hC => ?_
  conv => whnf
  refine cl_use hC (c_requireOffset (fun e1 => ?_) (fun e1 => ?_)) <;> conv => whnf
  · refine cl_use hC (c_requireOffset (fun e2 => ?_) (fun e2 => ?_)) <;> conv => whnf
    · refine cl_use hC (c_requireOffset (fun e3 => ?_) (fun e3 => ?_)) <;> conv => whnf
      · rw [if_pos ⟨e1, e2, e3⟩] at hK
        repeat' (first
          | (refine ⟨_, rfl, ?_⟩; conv => whnf)
          | (refine ⟨_, _, rfl, ⟨_, rfl, rfl⟩, ?_⟩; conv => whnf)
          | (refine ⟨_, _, rfl, ?_⟩
             with_reducible apply ix_ex
             · repeat (first | with_reducible exact ix_nI | assumption | with_reducible apply ix_add | with_reducible apply ix_mul | (with_reducible apply ix_sub) | (with_reducible apply ix_upd) | (with_reducible apply ix_div) | omega)
             (refine ⟨⟨by omega, by decide⟩, ?_⟩; conv => whnf))
          | (with_reducible apply br_le
             · repeat (first | with_reducible exact ix_nI | assumption | with_reducible apply ix_add | with_reducible apply ix_mul | (with_reducible apply ix_sub) | (with_reducible apply ix_upd) | (with_reducible apply ix_div) | omega)
             · repeat (first | with_reducible exact ix_nI | assumption | with_reducible apply ix_add | with_reducible apply ix_mul | (with_reducible apply ix_sub) | (with_reducible apply ix_upd) | (with_reducible apply ix_div) | omega)
             · omega
             · omega
             all_goals (intro hc; first | omega | (conv => whnf)))
          | (with_reducible apply br_lt
             · repeat (first | with_reducible exact ix_nI | assumption | with_reducible apply ix_add | with_reducible apply ix_mul | (with_reducible apply ix_sub) | (with_reducible apply ix_upd) | (with_reducible apply ix_div) | omega)
             · repeat (first | with_reducible exact ix_nI | assumption | with_reducible apply ix_add | with_reducible apply ix_mul | (with_reducible apply ix_sub) | (with_reducible apply ix_upd) | (with_reducible apply ix_div) | omega)
             · omega
             · omega
             all_goals (intro hc; first | omega | (conv => whnf)))
          | (with_reducible apply br_eq
             · repeat (first | with_reducible exact ix_nI | assumption | with_reducible apply ix_add | with_reducible apply ix_mul | (with_reducible apply ix_sub) | (with_reducible apply ix_upd) | (with_reducible apply ix_div) | omega)
             · repeat (first | with_reducible exact ix_nI | assumption | with_reducible apply ix_add | with_reducible apply ix_mul | (with_reducible apply ix_sub) | (with_reducible apply ix_upd) | (with_reducible apply ix_div) | omega)
             · omega
             · omega
             all_goals (intro hc; first | omega | (conv => whnf)))
          | (with_reducible apply br_ne
             · repeat (first | with_reducible exact ix_nI | assumption | with_reducible apply ix_add | with_reducible apply ix_mul | (with_reducible apply ix_sub) | (with_reducible apply ix_upd) | (with_reducible apply ix_div) | omega)
             · repeat (first | with_reducible exact ix_nI | assumption | with_reducible apply ix_add | with_reducible apply ix_mul | (with_reducible apply ix_sub) | (with_reducible apply ix_upd) | (with_reducible apply ix_div) | omega)
             · omega
             · omega
             all_goals (intro hc; first | omega | (conv => whnf)))
          | (with_reducible apply br_eq0
             · repeat (first | with_reducible exact ix_nI | assumption | with_reducible apply ix_add | with_reducible apply ix_mul | (with_reducible apply ix_sub) | (with_reducible apply ix_upd) | (with_reducible apply ix_div) | omega)
             · omega
             all_goals (intro hc; first | omega | (conv => whnf)))
          | (with_reducible apply br_ne0
             · repeat (first | with_reducible exact ix_nI | assumption | with_reducible apply ix_add | with_reducible apply ix_mul | (with_reducible apply ix_sub) | (with_reducible apply ix_upd) | (with_reducible apply ix_div) | omega)
             · omega
             all_goals (intro hc; first | omega | (conv => whnf)))
          | (with_reducible apply br_le0
             · repeat (first | with_reducible exact ix_nI | assumption | with_reducible apply ix_add | with_reducible apply ix_mul | (with_reducible apply ix_sub) | (with_reducible apply ix_upd) | (with_reducible apply ix_div) | omega)
             · omega
             all_goals (intro hc; first | omega | (conv => whnf)))
          | (with_reducible apply br_gt0
             · repeat (first | with_reducible exact ix_nI | assumption | with_reducible apply ix_add | with_reducible apply ix_mul | (with_reducible apply ix_sub) | (with_reducible apply ix_upd) | (with_reducible apply ix_div) | omega)
             · omega
             all_goals (intro hc; first | omega | (conv => whnf)))
          | (with_reducible apply br_lt0
             · repeat (first | with_reducible exact ix_nI | assumption | with_reducible apply ix_add | with_reducible apply ix_mul | (with_reducible apply ix_sub) | (with_reducible apply ix_upd) | (with_reducible apply ix_div) | omega)
             · omega
             conv => whnf)
          | (with_reducible apply br_ge0
             · repeat (first | with_reducible exact ix_nI | assumption | with_reducible apply ix_add | with_reducible apply ix_mul | (with_reducible apply ix_sub) | (with_reducible apply ix_upd) | (with_reducible apply ix_div) | omega)
             · omega
             conv => whnf)
          | (with_reducible apply br_tab
             · repeat (first | with_reducible exact ix_nI | assumption | with_reducible apply ix_add | with_reducible apply ix_mul | (with_reducible apply ix_sub) | (with_reducible apply ix_upd) | (with_reducible apply ix_div) | omega)
             · omega
             all_goals (intro hc; (try dsimp only at hc); first | omega | (conv => whnf)))
          | (refine ⟨_, hA.1, ?_⟩; conv => whnf)
                | (refine ⟨_, hob, ?_⟩; conv => whnf)
                | (refine ⟨_, hA.1, ?_⟩; conv => whnf)
          | (refine ⟨_, _, hA.1, ⟨_, rfl, rfl⟩, ?_⟩; conv => whnf)
          | (refine ⟨_, hA.2.1.obj, ?_⟩; conv => whnf)
          | (refine ⟨_, _, hA.2.1.obj, ⟨_, rfl, rfl⟩, ?_⟩; conv => whnf)
          | (obtain ⟨t9, hh9⟩ := hA.hist; refine ⟨_, _, hh9, ⟨_, rfl, rfl⟩, ?_⟩; conv => whnf)
          | (obtain ⟨t9, hh9⟩ := hA.hist; refine ⟨_, hh9, ?_⟩; conv => whnf)
          | (obtain ⟨fp9, ep9, eq9⟩ := hA.2.1.pgs
             refine ⟨_, _, _, ep9, Or.inl rfl, ?_⟩
             with_reducible apply ix_ex2
             · repeat (first | with_reducible exact ix_nI | assumption | with_reducible apply ix_add | with_reducible apply ix_mul | (with_reducible apply ix_sub) | (with_reducible apply ix_upd) | (with_reducible apply ix_div) | omega)
             (refine ⟨⟨by omega, by decide⟩, eq9 _ (by omega), ?_⟩; conv => whnf))
          | (refine ⟨_, hA.2.1.pg hp, ?_⟩; conv => whnf)
          | (refine ⟨_, _, hA.2.1.pg hp, ⟨_, rfl, rfl⟩, ?_⟩; conv => whnf)
          | (obtain ⟨q9, e9, f9⟩ := hA.2.1.st
             refine ⟨_, _, e9, ?_⟩
             with_reducible apply ix_ex
             · repeat (first | with_reducible exact ix_nI | assumption | with_reducible apply ix_add | with_reducible apply ix_mul | (with_reducible apply ix_sub) | (with_reducible apply ix_upd) | (with_reducible apply ix_div) | omega)
             (refine ⟨⟨by omega, by decide⟩, ?_⟩; rw [f9 _ (by omega)]; conv => whnf))
          | (obtain ⟨q9, e9, f9⟩ := hA.2.1.wr
             refine ⟨_, _, e9, ?_⟩
             with_reducible apply ix_ex
             · repeat (first | with_reducible exact ix_nI | assumption | with_reducible apply ix_add | with_reducible apply ix_mul | (with_reducible apply ix_sub) | (with_reducible apply ix_upd) | (with_reducible apply ix_div) | omega)
             (refine ⟨⟨by omega, by decide⟩, ?_⟩; rw [f9 _ (by omega)]; conv => whnf))
          | (obtain ⟨q9, e9, f9⟩ := hA.2.1.of
             refine ⟨_, _, e9, ?_⟩
             with_reducible apply ix_ex
             · repeat (first | with_reducible exact ix_nI | assumption | with_reducible apply ix_add | with_reducible apply ix_mul | (with_reducible apply ix_sub) | (with_reducible apply ix_upd) | (with_reducible apply ix_div) | omega)
             (refine ⟨⟨by omega, by decide⟩, ?_⟩; rw [f9 _ (by omega)]; conv => whnf))
                | (refine And.intro (by omega) ?_; conv => whnf)
                | (refine cl_use hC (c_save hA fun h1 hA1 hF1 => ?_); conv => whnf)
                | (refine ⟨_, hA1.1, ?_⟩; conv => whnf)
          | (refine ⟨_, _, hA1.1, ⟨_, rfl, rfl⟩, ?_⟩; conv => whnf)
          | (refine ⟨_, hA1.2.1.obj, ?_⟩; conv => whnf)
          | (refine ⟨_, _, hA1.2.1.obj, ⟨_, rfl, rfl⟩, ?_⟩; conv => whnf)
          | (obtain ⟨t9, hh9⟩ := hA1.hist; refine ⟨_, _, hh9, ⟨_, rfl, rfl⟩, ?_⟩; conv => whnf)
          | (obtain ⟨t9, hh9⟩ := hA1.hist; refine ⟨_, hh9, ?_⟩; conv => whnf)
          | (obtain ⟨fp9, ep9, eq9⟩ := hA1.2.1.pgs
             refine ⟨_, _, _, ep9, Or.inl rfl, ?_⟩
             with_reducible apply ix_ex2
             · repeat (first | with_reducible exact ix_nI | assumption | with_reducible apply ix_add | with_reducible apply ix_mul | (with_reducible apply ix_sub) | (with_reducible apply ix_upd) | (with_reducible apply ix_div) | omega)
             (refine ⟨⟨by omega, by decide⟩, eq9 _ (by omega), ?_⟩; conv => whnf))
          | (refine ⟨_, hA1.2.1.pg hp, ?_⟩; conv => whnf)
          | (refine ⟨_, _, hA1.2.1.pg hp, ⟨_, rfl, rfl⟩, ?_⟩; conv => whnf)
          | (obtain ⟨q9, e9, f9⟩ := hA1.2.1.st
             refine ⟨_, _, e9, ?_⟩
             with_reducible apply ix_ex
             · repeat (first | with_reducible exact ix_nI | assumption | with_reducible apply ix_add | with_reducible apply ix_mul | (with_reducible apply ix_sub) | (with_reducible apply ix_upd) | (with_reducible apply ix_div) | omega)
             (refine ⟨⟨by omega, by decide⟩, ?_⟩; rw [f9 _ (by omega)]; conv => whnf))
          | (obtain ⟨q9, e9, f9⟩ := hA1.2.1.wr
             refine ⟨_, _, e9, ?_⟩
             with_reducible apply ix_ex
             · repeat (first | with_reducible exact ix_nI | assumption | with_reducible apply ix_add | with_reducible apply ix_mul | (with_reducible apply ix_sub) | (with_reducible apply ix_upd) | (with_reducible apply ix_div) | omega)
             (refine ⟨⟨by omega, by decide⟩, ?_⟩; rw [f9 _ (by omega)]; conv => whnf))
          | (obtain ⟨q9, e9, f9⟩ := hA1.2.1.of
             refine ⟨_, _, e9, ?_⟩
             with_reducible apply ix_ex
             · repeat (first | with_reducible exact ix_nI | assumption | with_reducible apply ix_add | with_reducible apply ix_mul | (with_reducible apply ix_sub) | (with_reducible apply ix_upd) | (with_reducible apply ix_div) | omega)
             (refine ⟨⟨by omega, by decide⟩, ?_⟩; rw [f9 _ (by omega)]; conv => whnf))
                | (refine cl_use hC (c_putMatch hA1.2.1 hI.mf (by assumption) fun h2 hM2 hO2 => ?_); have hA2 := hA1.mem hM2 hO2; conv => whnf)
                | (refine ⟨_, hA2.1, ?_⟩; conv => whnf)
          | (refine ⟨_, _, hA2.1, ⟨_, rfl, rfl⟩, ?_⟩; conv => whnf)
          | (refine ⟨_, hA2.2.1.obj, ?_⟩; conv => whnf)
          | (refine ⟨_, _, hA2.2.1.obj, ⟨_, rfl, rfl⟩, ?_⟩; conv => whnf)
          | (obtain ⟨t9, hh9⟩ := hA2.hist; refine ⟨_, _, hh9, ⟨_, rfl, rfl⟩, ?_⟩; conv => whnf)
          | (obtain ⟨t9, hh9⟩ := hA2.hist; refine ⟨_, hh9, ?_⟩; conv => whnf)
          | (obtain ⟨fp9, ep9, eq9⟩ := hA2.2.1.pgs
             refine ⟨_, _, _, ep9, Or.inl rfl, ?_⟩
             with_reducible apply ix_ex2
             · repeat (first | with_reducible exact ix_nI | assumption | with_reducible apply ix_add | with_reducible apply ix_mul | (with_reducible apply ix_sub) | (with_reducible apply ix_upd) | (with_reducible apply ix_div) | omega)
             (refine ⟨⟨by omega, by decide⟩, eq9 _ (by omega), ?_⟩; conv => whnf))
          | (refine ⟨_, hA2.2.1.pg hp, ?_⟩; conv => whnf)
          | (refine ⟨_, _, hA2.2.1.pg hp, ⟨_, rfl, rfl⟩, ?_⟩; conv => whnf)
          | (obtain ⟨q9, e9, f9⟩ := hA2.2.1.st
             refine ⟨_, _, e9, ?_⟩
             with_reducible apply ix_ex
             · repeat (first | with_reducible exact ix_nI | assumption | with_reducible apply ix_add | with_reducible apply ix_mul | (with_reducible apply ix_sub) | (with_reducible apply ix_upd) | (with_reducible apply ix_div) | omega)
             (refine ⟨⟨by omega, by decide⟩, ?_⟩; rw [f9 _ (by omega)]; conv => whnf))
          | (obtain ⟨q9, e9, f9⟩ := hA2.2.1.wr
             refine ⟨_, _, e9, ?_⟩
             with_reducible apply ix_ex
             · repeat (first | with_reducible exact ix_nI | assumption | with_reducible apply ix_add | with_reducible apply ix_mul | (with_reducible apply ix_sub) | (with_reducible apply ix_upd) | (with_reducible apply ix_div) | omega)
             (refine ⟨⟨by omega, by decide⟩, ?_⟩; rw [f9 _ (by omega)]; conv => whnf))
          | (obtain ⟨q9, e9, f9⟩ := hA2.2.1.of
             refine ⟨_, _, e9, ?_⟩
             with_reducible apply ix_ex
             · repeat (first | with_reducible exact ix_nI | assumption | with_reducible apply ix_add | with_reducible apply ix_mul | (with_reducible apply ix_sub) | (with_reducible apply ix_upd) | (with_reducible apply ix_div) | omega)
             (refine ⟨⟨by omega, by decide⟩, ?_⟩; rw [f9 _ (by omega)]; conv => whnf))
          | (refine And.intro (fun hc => ?_) (fun hc => ?_) <;> conv => whnf)
          | (refine And.intro (by decide) ?_; conv => whnf)
          | fail)
        · rw [if_neg (by rw [h8, nI_eq (by omega) (by omega)]; omega)] at hK
          have e : addZ A.1 x y v 8 - nI 1 = A.1 8 := by
            unfold addZ
            rw [upd_eq, h8, nI_add, pk_sub (by omega), Nat.add_sub_cancel]
          have hK1 := hK.1 rfl _ hA2 (hF1.trans (hO2.frC (by omega)))
          dsimp only at hK1
          rw [← e] at hK1
          exact hK1
        · rw [if_pos (by rw [h8, nI_eq (by omega) (by omega)]; omega)] at hK
          exact hK.2.2 rfl
      · rw [if_neg (fun q => e3 q.2.2)] at hK
        exact hK.2.1 rfl
    · rw [if_neg (fun q => e2 q.2.1)] at hK
      exact hK.2.1 rfl
  · rw [if_neg (fun q => e1 q.1)] at hK
    exact hK.2.1 rfl
theorem c_removeMatch {x : Int32} (hA : CS A h) (hI : Ivz n A.1) (hK : CKc h w K 0 1 (aRem A x)) : Cl G (d + 7) kX4_removeMatch [.ref 0, .int x] h w K := by
  obtain ⟨⟨h8, hM1, hM6⟩, hfav⟩ := id hI.mf
  have hob := hA.2.1.obj
  rw [h8] at hob
  unfold aRem at hK
  refine Cl.of (by decide) rfl ?_
  refine wp_vc [] 95 rfl fun W' C hW hC => ?_
  conv => whnf
  repeat' (first
    | (refine ⟨_, rfl, ?_⟩; conv => whnf)
    | (refine ⟨_, _, rfl, ⟨_, rfl, rfl⟩, ?_⟩; conv => whnf)
    | (refine ⟨_, _, rfl, ?_⟩
       with_reducible apply ix_ex
       · repeat (first | with_reducible exact ix_nI | assumption | with_reducible apply ix_add | with_reducible apply ix_mul | (with_reducible apply ix_sub) | (with_reducible apply ix_upd) | (with_reducible apply ix_div) | omega)
       (refine ⟨⟨by omega, by decide⟩, ?_⟩; conv => whnf))
    | (with_reducible apply br_le
       · repeat (first | with_reducible exact ix_nI | assumption | with_reducible apply ix_add | with_reducible apply ix_mul | (with_reducible apply ix_sub) | (with_reducible apply ix_upd) | (with_reducible apply ix_div) | omega)
       · repeat (first | with_reducible exact ix_nI | assumption | with_reducible apply ix_add | with_reducible apply ix_mul | (with_reducible apply ix_sub) | (with_reducible apply ix_upd) | (with_reducible apply ix_div) | omega)
       · omega
       · omega
       all_goals (intro hc; first | omega | (conv => whnf)))
    | (with_reducible apply br_lt
       · repeat (first | with_reducible exact ix_nI | assumption | with_reducible apply ix_add | with_reducible apply ix_mul | (with_reducible apply ix_sub) | (with_reducible apply ix_upd) | (with_reducible apply ix_div) | omega)
       · repeat (first | with_reducible exact ix_nI | assumption | with_reducible apply ix_add | with_reducible apply ix_mul | (with_reducible apply ix_sub) | (with_reducible apply ix_upd) | (with_reducible apply ix_div) | omega)
       · omega
       · omega
       all_goals (intro hc; first | omega | (conv => whnf)))
    | (with_reducible apply br_eq
       · repeat (first | with_reducible exact ix_nI | assumption | with_reducible apply ix_add | with_reducible apply ix_mul | (with_reducible apply ix_sub) | (with_reducible apply ix_upd) | (with_reducible apply ix_div) | omega)
       · repeat (first | with_reducible exact ix_nI | assumption | with_reducible apply ix_add | with_reducible apply ix_mul | (with_reducible apply ix_sub) | (with_reducible apply ix_upd) | (with_reducible apply ix_div) | omega)
       · omega
       · omega
       all_goals (intro hc; first | omega | (conv => whnf)))
    | (with_reducible apply br_ne
       · repeat (first | with_reducible exact ix_nI | assumption | with_reducible apply ix_add | with_reducible apply ix_mul | (with_reducible apply ix_sub) | (with_reducible apply ix_upd) | (with_reducible apply ix_div) | omega)
       · repeat (first | with_reducible exact ix_nI | assumption | with_reducible apply ix_add | with_reducible apply ix_mul | (with_reducible apply ix_sub) | (with_reducible apply ix_upd) | (with_reducible apply ix_div) | omega)
       · omega
       · omega
       all_goals (intro hc; first | omega | (conv => whnf)))
    | (with_reducible apply br_eq0
       · repeat (first | with_reducible exact ix_nI | assumption | with_reducible apply ix_add | with_reducible apply ix_mul | (with_reducible apply ix_sub) | (with_reducible apply ix_upd) | (with_reducible apply ix_div) | omega)
       · omega
       all_goals (intro hc; first | omega | (conv => whnf)))
    | (with_reducible apply br_ne0
       · repeat (first | with_reducible exact ix_nI | assumption | with_reducible apply ix_add | with_reducible apply ix_mul | (with_reducible apply ix_sub) | (with_reducible apply ix_upd) | (with_reducible apply ix_div) | omega)
       · omega
       all_goals (intro hc; first | omega | (conv => whnf)))
    | (with_reducible apply br_le0
       · repeat (first | with_reducible exact ix_nI | assumption | with_reducible apply ix_add | with_reducible apply ix_mul | (with_reducible apply ix_sub) | (with_reducible apply ix_upd) | (with_reducible apply ix_div) | omega)
       · omega
       all_goals (intro hc; first | omega | (conv => whnf)))
    | (with_reducible apply br_gt0
       · repeat (first | with_reducible exact ix_nI | assumption | with_reducible apply ix_add | with_reducible apply ix_mul | (with_reducible apply ix_sub) | (with_reducible apply ix_upd) | (with_reducible apply ix_div) | omega)
       · omega
       all_goals (intro hc; first | omega | (conv => whnf)))
    | (with_reducible apply br_lt0
       · repeat (first | with_reducible exact ix_nI | assumption | with_reducible apply ix_add | with_reducible apply ix_mul | (with_reducible apply ix_sub) | (with_reducible apply ix_upd) | (with_reducible apply ix_div) | omega)
       · omega
       conv => whnf)
    | (with_reducible apply br_ge0
       · repeat (first | with_reducible exact ix_nI | assumption | with_reducible apply ix_add | with_reducible apply ix_mul | (with_reducible apply ix_sub) | (with_reducible apply ix_upd) | (with_reducible apply ix_div) | omega)
       · omega
       conv => whnf)
    | (with_reducible apply br_tab
       · repeat (first | with_reducible exact ix_nI | assumption | with_reducible apply ix_add | with_reducible apply ix_mul | (with_reducible apply ix_sub) | (with_reducible apply ix_upd) | (with_reducible apply ix_div) | omega)
       · omega
       all_goals (intro hc; (try dsimp only at hc); first | omega | (conv => whnf)))
    | (refine ⟨_, hA.1, ?_⟩; conv => whnf)
    | (refine ⟨_, hob, ?_⟩; conv => whnf)
    | (refine cl_use hC (c_requireMatch hA h8 hM6 (fun p hp e => ?_) (fun g => ?_)) <;> conv => whnf)
    | (refine ⟨_, hA.1, ?_⟩; conv => whnf)
    | (refine ⟨_, _, hA.1, ⟨_, rfl, rfl⟩, ?_⟩; conv => whnf)
    | (refine ⟨_, hA.2.1.obj, ?_⟩; conv => whnf)
    | (refine ⟨_, _, hA.2.1.obj, ⟨_, rfl, rfl⟩, ?_⟩; conv => whnf)
    | (obtain ⟨t9, hh9⟩ := hA.hist; refine ⟨_, _, hh9, ⟨_, rfl, rfl⟩, ?_⟩; conv => whnf)
    | (obtain ⟨t9, hh9⟩ := hA.hist; refine ⟨_, hh9, ?_⟩; conv => whnf)
    | (obtain ⟨fp9, ep9, eq9⟩ := hA.2.1.pgs
       refine ⟨_, _, _, ep9, Or.inl rfl, ?_⟩
       with_reducible apply ix_ex2
       · repeat (first | with_reducible exact ix_nI | assumption | with_reducible apply ix_add | with_reducible apply ix_mul | (with_reducible apply ix_sub) | (with_reducible apply ix_upd) | (with_reducible apply ix_div) | omega)
       (refine ⟨⟨by omega, by decide⟩, eq9 _ (by omega), ?_⟩; conv => whnf))
    | (refine ⟨_, hA.2.1.pg hp, ?_⟩; conv => whnf)
    | (refine ⟨_, _, hA.2.1.pg hp, ⟨_, rfl, rfl⟩, ?_⟩; conv => whnf)
    | (obtain ⟨q9, e9, f9⟩ := hA.2.1.st
       refine ⟨_, _, e9, ?_⟩
       with_reducible apply ix_ex
       · repeat (first | with_reducible exact ix_nI | assumption | with_reducible apply ix_add | with_reducible apply ix_mul | (with_reducible apply ix_sub) | (with_reducible apply ix_upd) | (with_reducible apply ix_div) | omega)
       (refine ⟨⟨by omega, by decide⟩, ?_⟩; rw [f9 _ (by omega)]; conv => whnf))
    | (obtain ⟨q9, e9, f9⟩ := hA.2.1.wr
       refine ⟨_, _, e9, ?_⟩
       with_reducible apply ix_ex
       · repeat (first | with_reducible exact ix_nI | assumption | with_reducible apply ix_add | with_reducible apply ix_mul | (with_reducible apply ix_sub) | (with_reducible apply ix_upd) | (with_reducible apply ix_div) | omega)
       (refine ⟨⟨by omega, by decide⟩, ?_⟩; rw [f9 _ (by omega)]; conv => whnf))
    | (obtain ⟨q9, e9, f9⟩ := hA.2.1.of
       refine ⟨_, _, e9, ?_⟩
       with_reducible apply ix_ex
       · repeat (first | with_reducible exact ix_nI | assumption | with_reducible apply ix_add | with_reducible apply ix_mul | (with_reducible apply ix_sub) | (with_reducible apply ix_upd) | (with_reducible apply ix_div) | omega)
       (refine ⟨⟨by omega, by decide⟩, ?_⟩; rw [f9 _ (by omega)]; conv => whnf))
    | (refine And.intro (by omega) ?_; conv => whnf)
    | (refine cl_use hC (c_save hA fun h1 hA1 hF1 => ?_); conv => whnf)
    | (refine ⟨_, hA1.1, ?_⟩; conv => whnf)
    | (refine ⟨_, _, hA1.1, ⟨_, rfl, rfl⟩, ?_⟩; conv => whnf)
    | (refine ⟨_, hA1.2.1.obj, ?_⟩; conv => whnf)
    | (refine ⟨_, _, hA1.2.1.obj, ⟨_, rfl, rfl⟩, ?_⟩; conv => whnf)
    | (obtain ⟨t9, hh9⟩ := hA1.hist; refine ⟨_, _, hh9, ⟨_, rfl, rfl⟩, ?_⟩; conv => whnf)
    | (obtain ⟨t9, hh9⟩ := hA1.hist; refine ⟨_, hh9, ?_⟩; conv => whnf)
    | (obtain ⟨fp9, ep9, eq9⟩ := hA1.2.1.pgs
       refine ⟨_, _, _, ep9, Or.inl rfl, ?_⟩
       with_reducible apply ix_ex2
       · repeat (first | with_reducible exact ix_nI | assumption | with_reducible apply ix_add | with_reducible apply ix_mul | (with_reducible apply ix_sub) | (with_reducible apply ix_upd) | (with_reducible apply ix_div) | omega)
       (refine ⟨⟨by omega, by decide⟩, eq9 _ (by omega), ?_⟩; conv => whnf))
    | (refine ⟨_, hA1.2.1.pg hp, ?_⟩; conv => whnf)
    | (refine ⟨_, _, hA1.2.1.pg hp, ⟨_, rfl, rfl⟩, ?_⟩; conv => whnf)
    | (obtain ⟨q9, e9, f9⟩ := hA1.2.1.st
       refine ⟨_, _, e9, ?_⟩
       with_reducible apply ix_ex
       · repeat (first | with_reducible exact ix_nI | assumption | with_reducible apply ix_add | with_reducible apply ix_mul | (with_reducible apply ix_sub) | (with_reducible apply ix_upd) | (with_reducible apply ix_div) | omega)
       (refine ⟨⟨by omega, by decide⟩, ?_⟩; rw [f9 _ (by omega)]; conv => whnf))
    | (obtain ⟨q9, e9, f9⟩ := hA1.2.1.wr
       refine ⟨_, _, e9, ?_⟩
       with_reducible apply ix_ex
       · repeat (first | with_reducible exact ix_nI | assumption | with_reducible apply ix_add | with_reducible apply ix_mul | (with_reducible apply ix_sub) | (with_reducible apply ix_upd) | (with_reducible apply ix_div) | omega)
       (refine ⟨⟨by omega, by decide⟩, ?_⟩; rw [f9 _ (by omega)]; conv => whnf))
    | (obtain ⟨q9, e9, f9⟩ := hA1.2.1.of
       refine ⟨_, _, e9, ?_⟩
       with_reducible apply ix_ex
       · repeat (first | with_reducible exact ix_nI | assumption | with_reducible apply ix_add | with_reducible apply ix_mul | (with_reducible apply ix_sub) | (with_reducible apply ix_upd) | (with_reducible apply ix_div) | omega)
       (refine ⟨⟨by omega, by decide⟩, ?_⟩; rw [f9 _ (by omega)]; conv => whnf))
    | (refine cl_use hC (c_takeMatchAway hA1.2.1 hI.mf e hp (show 2 ≤ mN' A.1 by omega) fun h2 hM2 hO2 => ?_); have hA2 := hA1.mem hM2 hO2; conv => whnf)
    | (refine ⟨_, hA2.1, ?_⟩; conv => whnf)
    | (refine ⟨_, _, hA2.1, ⟨_, rfl, rfl⟩, ?_⟩; conv => whnf)
    | (refine ⟨_, hA2.2.1.obj, ?_⟩; conv => whnf)
    | (refine ⟨_, _, hA2.2.1.obj, ⟨_, rfl, rfl⟩, ?_⟩; conv => whnf)
    | (obtain ⟨t9, hh9⟩ := hA2.hist; refine ⟨_, _, hh9, ⟨_, rfl, rfl⟩, ?_⟩; conv => whnf)
    | (obtain ⟨t9, hh9⟩ := hA2.hist; refine ⟨_, hh9, ?_⟩; conv => whnf)
    | (obtain ⟨fp9, ep9, eq9⟩ := hA2.2.1.pgs
       refine ⟨_, _, _, ep9, Or.inl rfl, ?_⟩
       with_reducible apply ix_ex2
       · repeat (first | with_reducible exact ix_nI | assumption | with_reducible apply ix_add | with_reducible apply ix_mul | (with_reducible apply ix_sub) | (with_reducible apply ix_upd) | (with_reducible apply ix_div) | omega)
       (refine ⟨⟨by omega, by decide⟩, eq9 _ (by omega), ?_⟩; conv => whnf))
    | (refine ⟨_, hA2.2.1.pg hp, ?_⟩; conv => whnf)
    | (refine ⟨_, _, hA2.2.1.pg hp, ⟨_, rfl, rfl⟩, ?_⟩; conv => whnf)
    | (obtain ⟨q9, e9, f9⟩ := hA2.2.1.st
       refine ⟨_, _, e9, ?_⟩
       with_reducible apply ix_ex
       · repeat (first | with_reducible exact ix_nI | assumption | with_reducible apply ix_add | with_reducible apply ix_mul | (with_reducible apply ix_sub) | (with_reducible apply ix_upd) | (with_reducible apply ix_div) | omega)
       (refine ⟨⟨by omega, by decide⟩, ?_⟩; rw [f9 _ (by omega)]; conv => whnf))
    | (obtain ⟨q9, e9, f9⟩ := hA2.2.1.wr
       refine ⟨_, _, e9, ?_⟩
       with_reducible apply ix_ex
       · repeat (first | with_reducible exact ix_nI | assumption | with_reducible apply ix_add | with_reducible apply ix_mul | (with_reducible apply ix_sub) | (with_reducible apply ix_upd) | (with_reducible apply ix_div) | omega)
       (refine ⟨⟨by omega, by decide⟩, ?_⟩; rw [f9 _ (by omega)]; conv => whnf))
    | (obtain ⟨q9, e9, f9⟩ := hA2.2.1.of
       refine ⟨_, _, e9, ?_⟩
       with_reducible apply ix_ex
       · repeat (first | with_reducible exact ix_nI | assumption | with_reducible apply ix_add | with_reducible apply ix_mul | (with_reducible apply ix_sub) | (with_reducible apply ix_upd) | (with_reducible apply ix_div) | omega)
       (refine ⟨⟨by omega, by decide⟩, ?_⟩; rw [f9 _ (by omega)]; conv => whnf))
    | (refine And.intro (fun hc => ?_) (fun hc => ?_) <;> conv => whnf)
    | (refine And.intro (by decide) ?_; conv => whnf)
    | fail)
  · subst e
    rw [if_pos (rg_yes hp (by omega)), ixN_nI (by omega), if_neg hc] at hK
    have e : remZ A.1 p 8 = nI (mN' A.1 - 1) := by
      unfold remZ
      rw [remFavs_8, remShift_8 (by omega), upd_eq]
    have hK1 := hK.1 rfl _ hA2 (hF1.trans (hO2.frC (by omega)))
    dsimp only at hK1
    rw [← e] at hK1
    exact hK1
  · subst e
    rw [if_pos (rg_yes hp (by omega)), if_pos hc] at hK
    exact hK.2.2 rfl
  · rw [if_neg g] at hK
    exact hK.2.1 rfl
theorem xv1 {xs : Nat → Int32} : ∀ p, p < 6 → xval xs 1 p = nI ([60, 50, 8, 30, 100, 10].getD p 0)
  | 0, _ => rfl
  | 1, _ => rfl
  | 2, _ => rfl
  | 3, _ => rfl
  | 4, _ => rfl
  | 5, _ => rfl
  | p + 6, h => absurd h (by omega)
theorem c_set {x y : Int32} (hA : CS A h) (hI : Ivz n A.1) (hK : CKc h w K 0 2 (aSet A x y)) : Cl G (d + 7) kX4_set [.ref 0, .int x, .int y] h w K := by
  unfold aSet at hK
  refine Cl.of (by decide) rfl ?_
  refine wp_vc [] 95 rfl fun W' C hW hC => ?_
  conv => whnf
  refine cl_use hC (c_requireSetting (fun p hp e => ?_) (fun g => ?_)) <;> conv => whnf
  · subst e
    rw [if_pos (rg_yes hp (by omega)), ixN_nI (by omega), ← xv1 (xs := gS G) p hp] at hK
    repeat' (first
      | (refine ⟨_, rfl, ?_⟩; conv => whnf)
      | (refine ⟨_, _, rfl, ⟨_, rfl, rfl⟩, ?_⟩; conv => whnf)
      | (refine ⟨_, _, rfl, ?_⟩
         with_reducible apply ix_ex
         · repeat (first | with_reducible exact ix_nI | assumption | with_reducible apply ix_add | with_reducible apply ix_mul | (with_reducible apply ix_sub) | (with_reducible apply ix_upd) | (with_reducible apply ix_div) | omega)
         (refine ⟨⟨by omega, by decide⟩, ?_⟩; conv => whnf))
      | (with_reducible apply br_le
         · repeat (first | with_reducible exact ix_nI | assumption | with_reducible apply ix_add | with_reducible apply ix_mul | (with_reducible apply ix_sub) | (with_reducible apply ix_upd) | (with_reducible apply ix_div) | omega)
         · repeat (first | with_reducible exact ix_nI | assumption | with_reducible apply ix_add | with_reducible apply ix_mul | (with_reducible apply ix_sub) | (with_reducible apply ix_upd) | (with_reducible apply ix_div) | omega)
         · omega
         · omega
         all_goals (intro hc; first | omega | (conv => whnf)))
      | (with_reducible apply br_lt
         · repeat (first | with_reducible exact ix_nI | assumption | with_reducible apply ix_add | with_reducible apply ix_mul | (with_reducible apply ix_sub) | (with_reducible apply ix_upd) | (with_reducible apply ix_div) | omega)
         · repeat (first | with_reducible exact ix_nI | assumption | with_reducible apply ix_add | with_reducible apply ix_mul | (with_reducible apply ix_sub) | (with_reducible apply ix_upd) | (with_reducible apply ix_div) | omega)
         · omega
         · omega
         all_goals (intro hc; first | omega | (conv => whnf)))
      | (with_reducible apply br_eq
         · repeat (first | with_reducible exact ix_nI | assumption | with_reducible apply ix_add | with_reducible apply ix_mul | (with_reducible apply ix_sub) | (with_reducible apply ix_upd) | (with_reducible apply ix_div) | omega)
         · repeat (first | with_reducible exact ix_nI | assumption | with_reducible apply ix_add | with_reducible apply ix_mul | (with_reducible apply ix_sub) | (with_reducible apply ix_upd) | (with_reducible apply ix_div) | omega)
         · omega
         · omega
         all_goals (intro hc; first | omega | (conv => whnf)))
      | (with_reducible apply br_ne
         · repeat (first | with_reducible exact ix_nI | assumption | with_reducible apply ix_add | with_reducible apply ix_mul | (with_reducible apply ix_sub) | (with_reducible apply ix_upd) | (with_reducible apply ix_div) | omega)
         · repeat (first | with_reducible exact ix_nI | assumption | with_reducible apply ix_add | with_reducible apply ix_mul | (with_reducible apply ix_sub) | (with_reducible apply ix_upd) | (with_reducible apply ix_div) | omega)
         · omega
         · omega
         all_goals (intro hc; first | omega | (conv => whnf)))
      | (with_reducible apply br_eq0
         · repeat (first | with_reducible exact ix_nI | assumption | with_reducible apply ix_add | with_reducible apply ix_mul | (with_reducible apply ix_sub) | (with_reducible apply ix_upd) | (with_reducible apply ix_div) | omega)
         · omega
         all_goals (intro hc; first | omega | (conv => whnf)))
      | (with_reducible apply br_ne0
         · repeat (first | with_reducible exact ix_nI | assumption | with_reducible apply ix_add | with_reducible apply ix_mul | (with_reducible apply ix_sub) | (with_reducible apply ix_upd) | (with_reducible apply ix_div) | omega)
         · omega
         all_goals (intro hc; first | omega | (conv => whnf)))
      | (with_reducible apply br_le0
         · repeat (first | with_reducible exact ix_nI | assumption | with_reducible apply ix_add | with_reducible apply ix_mul | (with_reducible apply ix_sub) | (with_reducible apply ix_upd) | (with_reducible apply ix_div) | omega)
         · omega
         all_goals (intro hc; first | omega | (conv => whnf)))
      | (with_reducible apply br_gt0
         · repeat (first | with_reducible exact ix_nI | assumption | with_reducible apply ix_add | with_reducible apply ix_mul | (with_reducible apply ix_sub) | (with_reducible apply ix_upd) | (with_reducible apply ix_div) | omega)
         · omega
         all_goals (intro hc; first | omega | (conv => whnf)))
      | (with_reducible apply br_lt0
         · repeat (first | with_reducible exact ix_nI | assumption | with_reducible apply ix_add | with_reducible apply ix_mul | (with_reducible apply ix_sub) | (with_reducible apply ix_upd) | (with_reducible apply ix_div) | omega)
         · omega
         conv => whnf)
      | (with_reducible apply br_ge0
         · repeat (first | with_reducible exact ix_nI | assumption | with_reducible apply ix_add | with_reducible apply ix_mul | (with_reducible apply ix_sub) | (with_reducible apply ix_upd) | (with_reducible apply ix_div) | omega)
         · omega
         conv => whnf)
      | (with_reducible apply br_tab
         · repeat (first | with_reducible exact ix_nI | assumption | with_reducible apply ix_add | with_reducible apply ix_mul | (with_reducible apply ix_sub) | (with_reducible apply ix_upd) | (with_reducible apply ix_div) | omega)
         · omega
         all_goals (intro hc; (try dsimp only at hc); first | omega | (conv => whnf)))
      | (refine ⟨_, hA.1, ?_⟩; conv => whnf)
      | (refine ⟨_, _, hA.1, ⟨_, rfl, rfl⟩, ?_⟩; conv => whnf)
      | (refine ⟨_, hA.2.1.obj, ?_⟩; conv => whnf)
      | (refine ⟨_, _, hA.2.1.obj, ⟨_, rfl, rfl⟩, ?_⟩; conv => whnf)
      | (obtain ⟨t9, hh9⟩ := hA.hist; refine ⟨_, _, hh9, ⟨_, rfl, rfl⟩, ?_⟩; conv => whnf)
      | (obtain ⟨t9, hh9⟩ := hA.hist; refine ⟨_, hh9, ?_⟩; conv => whnf)
      | (obtain ⟨fp9, ep9, eq9⟩ := hA.2.1.pgs
         refine ⟨_, _, _, ep9, Or.inl rfl, ?_⟩
         with_reducible apply ix_ex2
         · repeat (first | with_reducible exact ix_nI | assumption | with_reducible apply ix_add | with_reducible apply ix_mul | (with_reducible apply ix_sub) | (with_reducible apply ix_upd) | (with_reducible apply ix_div) | omega)
         (refine ⟨⟨by omega, by decide⟩, eq9 _ (by omega), ?_⟩; conv => whnf))
      | (refine ⟨_, hA.2.1.pg hp, ?_⟩; conv => whnf)
      | (refine ⟨_, _, hA.2.1.pg hp, ⟨_, rfl, rfl⟩, ?_⟩; conv => whnf)
      | (obtain ⟨q9, e9, f9⟩ := hA.2.1.st
         refine ⟨_, _, e9, ?_⟩
         with_reducible apply ix_ex
         · repeat (first | with_reducible exact ix_nI | assumption | with_reducible apply ix_add | with_reducible apply ix_mul | (with_reducible apply ix_sub) | (with_reducible apply ix_upd) | (with_reducible apply ix_div) | omega)
         (refine ⟨⟨by omega, by decide⟩, ?_⟩; rw [f9 _ (by omega)]; conv => whnf))
      | (obtain ⟨q9, e9, f9⟩ := hA.2.1.wr
         refine ⟨_, _, e9, ?_⟩
         with_reducible apply ix_ex
         · repeat (first | with_reducible exact ix_nI | assumption | with_reducible apply ix_add | with_reducible apply ix_mul | (with_reducible apply ix_sub) | (with_reducible apply ix_upd) | (with_reducible apply ix_div) | omega)
         (refine ⟨⟨by omega, by decide⟩, ?_⟩; rw [f9 _ (by omega)]; conv => whnf))
      | (obtain ⟨q9, e9, f9⟩ := hA.2.1.of
         refine ⟨_, _, e9, ?_⟩
         with_reducible apply ix_ex
         · repeat (first | with_reducible exact ix_nI | assumption | with_reducible apply ix_add | with_reducible apply ix_mul | (with_reducible apply ix_sub) | (with_reducible apply ix_upd) | (with_reducible apply ix_div) | omega)
         (refine ⟨⟨by omega, by decide⟩, ?_⟩; rw [f9 _ (by omega)]; conv => whnf))
        | (refine And.intro ⟨by decide, hp, (by decide : 6 < 100000)⟩ ?_; conv => whnf)
        | (refine And.intro (by omega) ?_; conv => whnf)
        | (refine cl_use hC (c_save hA fun h1 hA1 hF1 => ?_); obtain ⟨qs, es, es'⟩ := hA1.2.1.st; conv => whnf)
        | (refine ⟨_, _, es, _, ix_nI, ⟨by omega, by decide⟩, ?_⟩; (try rw [es' _ (by omega)]); conv => whnf)
        | (refine ⟨_, hA1.1, ?_⟩; conv => whnf)
      | (refine ⟨_, _, hA1.1, ⟨_, rfl, rfl⟩, ?_⟩; conv => whnf)
      | (refine ⟨_, hA1.2.1.obj, ?_⟩; conv => whnf)
      | (refine ⟨_, _, hA1.2.1.obj, ⟨_, rfl, rfl⟩, ?_⟩; conv => whnf)
      | (obtain ⟨t9, hh9⟩ := hA1.hist; refine ⟨_, _, hh9, ⟨_, rfl, rfl⟩, ?_⟩; conv => whnf)
      | (obtain ⟨t9, hh9⟩ := hA1.hist; refine ⟨_, hh9, ?_⟩; conv => whnf)
      | (obtain ⟨fp9, ep9, eq9⟩ := hA1.2.1.pgs
         refine ⟨_, _, _, ep9, Or.inl rfl, ?_⟩
         with_reducible apply ix_ex2
         · repeat (first | with_reducible exact ix_nI | assumption | with_reducible apply ix_add | with_reducible apply ix_mul | (with_reducible apply ix_sub) | (with_reducible apply ix_upd) | (with_reducible apply ix_div) | omega)
         (refine ⟨⟨by omega, by decide⟩, eq9 _ (by omega), ?_⟩; conv => whnf))
      | (refine ⟨_, hA1.2.1.pg hp, ?_⟩; conv => whnf)
      | (refine ⟨_, _, hA1.2.1.pg hp, ⟨_, rfl, rfl⟩, ?_⟩; conv => whnf)
      | (obtain ⟨q9, e9, f9⟩ := hA1.2.1.st
         refine ⟨_, _, e9, ?_⟩
         with_reducible apply ix_ex
         · repeat (first | with_reducible exact ix_nI | assumption | with_reducible apply ix_add | with_reducible apply ix_mul | (with_reducible apply ix_sub) | (with_reducible apply ix_upd) | (with_reducible apply ix_div) | omega)
         (refine ⟨⟨by omega, by decide⟩, ?_⟩; rw [f9 _ (by omega)]; conv => whnf))
      | (obtain ⟨q9, e9, f9⟩ := hA1.2.1.wr
         refine ⟨_, _, e9, ?_⟩
         with_reducible apply ix_ex
         · repeat (first | with_reducible exact ix_nI | assumption | with_reducible apply ix_add | with_reducible apply ix_mul | (with_reducible apply ix_sub) | (with_reducible apply ix_upd) | (with_reducible apply ix_div) | omega)
         (refine ⟨⟨by omega, by decide⟩, ?_⟩; rw [f9 _ (by omega)]; conv => whnf))
      | (obtain ⟨q9, e9, f9⟩ := hA1.2.1.of
         refine ⟨_, _, e9, ?_⟩
         with_reducible apply ix_ex
         · repeat (first | with_reducible exact ix_nI | assumption | with_reducible apply ix_add | with_reducible apply ix_mul | (with_reducible apply ix_sub) | (with_reducible apply ix_upd) | (with_reducible apply ix_div) | omega)
         (refine ⟨⟨by omega, by decide⟩, ?_⟩; rw [f9 _ (by omega)]; conv => whnf))
      | (refine And.intro (fun hc => ?_) (fun hc => ?_) <;> conv => whnf)
      | (refine And.intro (by decide) ?_; conv => whnf)
      | fail)
    · rw [if_neg (fun q => q.1 (by rw [nI_0]; exact hc))] at hK
      exact hK.2.2 rfl
    · rename_i hc0
      rw [if_pos ⟨by rw [nI_0]; exact hc0, Int32.not_lt.mpr hc⟩] at hK
      have hM2 := hA1.2.1.upS (i := p) (x := y) hp es'
      have hO2 := Off.up' (b := 1) (h := h1) (h' := h1) (a := 1 + 3) (k := 3) (x := .inl (0, 6, .inl (upd qs p y))) rfl (by omega) Off.refl
      exact hK.1 rfl _ (hA1.mem hM2 hO2) (hF1.trans (hO2.frC (by omega)))
    · rw [if_neg (fun q => q.2 (Int32.not_le.mp hc))] at hK
      exact hK.2.2 rfl
  · rw [if_neg g] at hK
    exact hK.2.1 rfl
theorem CS.text {T' : List Int32} {h' : AH} (hA : CS A h) (hT : TX T' h') (hO : ∀ a, (a < 150 ∨ 152 ≤ a) → h' a = h a) : CS (A.1, A.2.1, T') h' :=
  ⟨(hO _ (by omega)).trans hA.1, hA.2.1.moved fun a _ _ => hO a (by omega), hA.2.2.1.moved fun a _ _ => hO a (by omega), hT, hA.2.2.2.2.moved fun a _ _ => hO a (by omega)⟩
end C10
