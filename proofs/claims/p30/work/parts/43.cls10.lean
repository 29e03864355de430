/-! ===== the class: what would be ===== -/
section C12
variable {G : GG} {d n : Nat} {A : AS} {h0 h : AH} {w : W3} {K : AO → AH → W3 → Prop}
theorem c_wrong {x y : Int32} (hA : CS A h) (hI : Ivz n A.1) (hK : CKc h w K 0 0 (aWrong A x y)) : Cl G (d + 7) kX4_wrong [.ref 0, .int x, .int y] h w K := by
  obtain ⟨⟨h8, hM1, hM6⟩, hfav⟩ := id hI.mf
  unfold aWrong at hK
  refine Cl.of (by decide) rfl ?_
  refine wp_vc [] 95 rfl fun W' C hW hC => ?_
  conv => whnf
  refine cl_use hC (c_requirePage (fun p hp e => ?_) (fun g => ?_)) <;> conv => whnf
  · subst e
    obtain ⟨q, eq, eq'⟩ := hA.2.1.ch hp
    repeat' (first
      | (refine ⟨_, rfl, ?_⟩; conv => whnf)
      | (refine ⟨_, _, rfl, ⟨_, rfl, rfl⟩, ?_⟩; conv => whnf)
      | (refine ⟨_, _, rfl, ?_⟩
         with_reducible apply ix_ex
         · repeat (first | with_reducible exact ix_nI | assumption | with_reducible apply ix_add | with_reducible apply ix_mul | (with_reducible apply ix_sub) | (with_reducible apply ix_upd) | (with_reducible apply ix_div) | omega)
         (refine ⟨⟨by omega, by decide⟩, ?_⟩; conv => whnf))
      | (with_reducible apply br_le
         · repeat (first | with_reducible exact ix_nI | assumption | with_reducible apply ix_add | with_reducible apply ix_mul | (with_reducible apply ix_sub) | (with_reducible apply ix_upd) | (with_reducible apply ix_div) | omega)
         · repeat (first | with_reducible exact ix_nI | assumption | with_reducible apply ix_add | with_reducible apply ix_mul | (with_reducible apply ix_sub) | (with_reducible apply ix_upd) | (with_reducible apply ix_div) | omega)
         · omega
         · omega
         all_goals (intro hc; first | omega | (conv => whnf)))
      | (with_reducible apply br_lt
         · repeat (first | with_reducible exact ix_nI | assumption | with_reducible apply ix_add | with_reducible apply ix_mul | (with_reducible apply ix_sub) | (with_reducible apply ix_upd) | (with_reducible apply ix_div) | omega)
         · repeat (first | with_reducible exact ix_nI | assumption | with_reducible apply ix_add | with_reducible apply ix_mul | (with_reducible apply ix_sub) | (with_reducible apply ix_upd) | (with_reducible apply ix_div) | omega)
         · omega
         · omega
         all_goals (intro hc; first | omega | (conv => whnf)))
      | (with_reducible apply br_eq
         · repeat (first | with_reducible exact ix_nI | assumption | with_reducible apply ix_add | with_reducible apply ix_mul | (with_reducible apply ix_sub) | (with_reducible apply ix_upd) | (with_reducible apply ix_div) | omega)
         · repeat (first | with_reducible exact ix_nI | assumption | with_reducible apply ix_add | with_reducible apply ix_mul | (with_reducible apply ix_sub) | (with_reducible apply ix_upd) | (with_reducible apply ix_div) | omega)
         · omega
         · omega
         all_goals (intro hc; first | omega | (conv => whnf)))
      | (with_reducible apply br_ne
         · repeat (first | with_reducible exact ix_nI | assumption | with_reducible apply ix_add | with_reducible apply ix_mul | (with_reducible apply ix_sub) | (with_reducible apply ix_upd) | (with_reducible apply ix_div) | omega)
         · repeat (first | with_reducible exact ix_nI | assumption | with_reducible apply ix_add | with_reducible apply ix_mul | (with_reducible apply ix_sub) | (with_reducible apply ix_upd) | (with_reducible apply ix_div) | omega)
         · omega
         · omega
         all_goals (intro hc; first | omega | (conv => whnf)))
      | (with_reducible apply br_eq0
         · repeat (first | with_reducible exact ix_nI | assumption | with_reducible apply ix_add | with_reducible apply ix_mul | (with_reducible apply ix_sub) | (with_reducible apply ix_upd) | (with_reducible apply ix_div) | omega)
         · omega
         all_goals (intro hc; first | omega | (conv => whnf)))
      | (with_reducible apply br_ne0
         · repeat (first | with_reducible exact ix_nI | assumption | with_reducible apply ix_add | with_reducible apply ix_mul | (with_reducible apply ix_sub) | (with_reducible apply ix_upd) | (with_reducible apply ix_div) | omega)
         · omega
         all_goals (intro hc; first | omega | (conv => whnf)))
      | (with_reducible apply br_le0
         · repeat (first | with_reducible exact ix_nI | assumption | with_reducible apply ix_add | with_reducible apply ix_mul | (with_reducible apply ix_sub) | (with_reducible apply ix_upd) | (with_reducible apply ix_div) | omega)
         · omega
         all_goals (intro hc; first | omega | (conv => whnf)))
      | (with_reducible apply br_gt0
         · repeat (first | with_reducible exact ix_nI | assumption | with_reducible apply ix_add | with_reducible apply ix_mul | (with_reducible apply ix_sub) | (with_reducible apply ix_upd) | (with_reducible apply ix_div) | omega)
         · omega
         all_goals (intro hc; first | omega | (conv => whnf)))
      | (with_reducible apply br_lt0
         · repeat (first | with_reducible exact ix_nI | assumption | with_reducible apply ix_add | with_reducible apply ix_mul | (with_reducible apply ix_sub) | (with_reducible apply ix_upd) | (with_reducible apply ix_div) | omega)
         · omega
         conv => whnf)
      | (with_reducible apply br_ge0
         · repeat (first | with_reducible exact ix_nI | assumption | with_reducible apply ix_add | with_reducible apply ix_mul | (with_reducible apply ix_sub) | (with_reducible apply ix_upd) | (with_reducible apply ix_div) | omega)
         · omega
         conv => whnf)
      | (with_reducible apply br_tab
         · repeat (first | with_reducible exact ix_nI | assumption | with_reducible apply ix_add | with_reducible apply ix_mul | (with_reducible apply ix_sub) | (with_reducible apply ix_upd) | (with_reducible apply ix_div) | omega)
         · omega
         all_goals (intro hc; (try dsimp only at hc); first | omega | (conv => whnf)))
      | (refine ⟨_, _, hA.1, ⟨_, rfl, rfl⟩, ?_⟩; conv => whnf)
        | (refine cl_use hC (c_requireMatch hA h8 hM6 (fun m hm e => ?_) (fun g => ?_)) <;> conv => whnf)
        | (refine ⟨_, hA.1, ?_⟩; conv => whnf)
      | (refine ⟨_, _, hA.1, ⟨_, rfl, rfl⟩, ?_⟩; conv => whnf)
      | (refine ⟨_, hA.2.1.obj, ?_⟩; conv => whnf)
      | (refine ⟨_, _, hA.2.1.obj, ⟨_, rfl, rfl⟩, ?_⟩; conv => whnf)
      | (obtain ⟨t9, hh9⟩ := hA.hist; refine ⟨_, _, hh9, ⟨_, rfl, rfl⟩, ?_⟩; conv => whnf)
      | (obtain ⟨t9, hh9⟩ := hA.hist; refine ⟨_, hh9, ?_⟩; conv => whnf)
      | (obtain ⟨fp9, ep9, eq9⟩ := hA.2.1.pgs
         refine ⟨_, _, _, ep9, Or.inl rfl, ?_⟩
         with_reducible apply ix_ex2
         · repeat (first | with_reducible exact ix_nI | assumption | with_reducible apply ix_add | with_reducible apply ix_mul | (with_reducible apply ix_sub) | (with_reducible apply ix_upd) | (with_reducible apply ix_div) | omega)
         (refine ⟨⟨by omega, by decide⟩, eq9 _ (by omega), ?_⟩; conv => whnf))
      | (refine ⟨_, hA.2.1.pg hp, ?_⟩; conv => whnf)
      | (refine ⟨_, _, hA.2.1.pg hp, ⟨_, rfl, rfl⟩, ?_⟩; conv => whnf)
      | (obtain ⟨q9, e9, f9⟩ := hA.2.1.st
         refine ⟨_, _, e9, ?_⟩
         with_reducible apply ix_ex
         · repeat (first | with_reducible exact ix_nI | assumption | with_reducible apply ix_add | with_reducible apply ix_mul | (with_reducible apply ix_sub) | (with_reducible apply ix_upd) | (with_reducible apply ix_div) | omega)
         (refine ⟨⟨by omega, by decide⟩, ?_⟩; rw [f9 _ (by omega)]; conv => whnf))
      | (obtain ⟨q9, e9, f9⟩ := hA.2.1.wr
         refine ⟨_, _, e9, ?_⟩
         with_reducible apply ix_ex
         · repeat (first | with_reducible exact ix_nI | assumption | with_reducible apply ix_add | with_reducible apply ix_mul | (with_reducible apply ix_sub) | (with_reducible apply ix_upd) | (with_reducible apply ix_div) | omega)
         (refine ⟨⟨by omega, by decide⟩, ?_⟩; rw [f9 _ (by omega)]; conv => whnf))
      | (obtain ⟨q9, e9, f9⟩ := hA.2.1.of
         refine ⟨_, _, e9, ?_⟩
         with_reducible apply ix_ex
         · repeat (first | with_reducible exact ix_nI | assumption | with_reducible apply ix_add | with_reducible apply ix_mul | (with_reducible apply ix_sub) | (with_reducible apply ix_upd) | (with_reducible apply ix_div) | omega)
         (refine ⟨⟨by omega, by decide⟩, ?_⟩; rw [f9 _ (by omega)]; conv => whnf))
        | (refine cl_use hC (c_wrongByMatch hA.2.1 (hA.2.1.pg hp) eq e (by omega) fun r hr => ?_); subst hr; conv => whnf)
      | (refine And.intro (fun hc => ?_) (fun hc => ?_) <;> conv => whnf)
      | (refine And.intro (by decide) ?_; conv => whnf)
      | fail)
    · subst e
      rw [if_pos ⟨rg_yes hp (by omega), rg_yes hm (by omega)⟩, ixN_nI (by omega), ixN_nI (by omega)] at hK
      have h9 := hK.ok' hA
      unfold wrN at h9
      rw [if_neg hc, ← wN_wrong, wN_congr (q := chg A.1 p) (q' := q) (fun c hc => (eq' c hc).symm)] at h9
      exact h9
    · subst e
      rw [if_pos ⟨rg_yes hp (by omega), rg_yes hm (by omega)⟩, ixN_nI (by omega), ixN_nI (by omega)] at hK
      have h9 := hK.ok' hA
      unfold wrN at h9
      rw [if_pos hc] at h9
      exact h9
    · rw [if_neg (fun q => g q.2)] at hK
      exact hK.2.1 rfl
  · rw [if_neg (fun q => g q.1)] at hK
    exact hK.2.1 rfl
end C12
