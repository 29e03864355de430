/-! ===== the class: what would be ===== -/
section C12
variable {G : GG} {d n : Nat} {A : AS} {h0 h : AH} {w : W3} {K : AO → AH → W3 → Prop}
theorem c_wrong {x y : Int32} (hA : CS A h) (hI : Ivz n A.1) (hK : CKc h w K 0 0 (aWrong A x y)) : Cl G (d + 7) kX4_wrong [.ref 0, .int x, .int y] h w K := by
  obtain ⟨⟨h8, hM1, hM6⟩, hfav⟩ := id hI.mf
  unfold aWrong at hK
  refine Cl.of (by decide) rfl ?_
  refine wp_vc [] 95 rfl fun W' C hW hC => ?_
  conv => whnf
  refine cl_use hC (c_requirePage (fun p hp e => ?_) (fun g => ?_)) <;> conv => whnf
  · subst e
    obtain ⟨q, eq, eq'⟩ := hA.2.1.ch hp
    repeat' (first
      | (refine ⟨_, rfl, ?_⟩; conv => whnf)
      | (refine ⟨_, _, rfl, ⟨_, rfl, rfl⟩, ?_⟩; conv => whnf)
      | (refine ⟨_, _, rfl, ?_⟩
         with_reducible apply ix_ex
         · repeat (first | with_reducible exact ix_nI | assumption | with_reducible apply ix_add | with_reducible apply ix_mul | (with_reducible apply ix_sub) | (with_reducible apply ix_upd) | (with_reducible apply ix_div) | omega)
         (refine ⟨⟨by omega, by decide⟩, ?_⟩; conv => whnf))
      | (with_reducible apply br_le
         · repeat (first | with_reducible exact ix_nI | assumption | with_reducible apply ix_add | with_reducible apply ix_mul | (with_reducible apply ix_sub) | (with_reducible apply ix_upd) | (with_reducible apply ix_div) | omega)
         · repeat (first | with_reducible exact ix_nI | assumption | with_reducible apply ix_add | with_reducible apply ix_mul | (with_reducible apply ix_sub) | (with_reducible apply ix_upd) | (with_reducible apply ix_div) | omega)
         · omega
         · omega
         all_goals (intro hc; first | omega | (conv => whnf)))
      | (with_reducible apply br_lt
         · repeat (first | with_reducible exact ix_nI | assumption | with_reducible apply ix_add | with_reducible apply ix_mul | (with_reducible apply ix_sub) | (with_reducible apply ix_upd) | (with_reducible apply ix_div) | omega)
         · repeat (first | with_reducible exact ix_nI | assumption | with_reducible apply ix_add | with_reducible apply ix_mul | (with_reducible apply ix_sub) | (with_reducible apply ix_upd) | (with_reducible apply ix_div) | omega)
         · omega
         · omega
         all_goals (intro hc; first | omega | (conv => whnf)))
      | (with_reducible apply br_eq
         · repeat (first | with_reducible exact ix_nI | assumption | with_reducible apply ix_add | with_reducible apply ix_mul | (with_reducible apply ix_sub) | (with_reducible apply ix_upd) | (with_reducible apply ix_div) | omega)
         · repeat (first | with_reducible exact ix_nI | assumption | with_reducible apply ix_add | with_reducible apply ix_mul | (with_reducible apply ix_sub) | (with_reducible apply ix_upd) | (with_reducible apply ix_div) | omega)
         · omega
         · omega
         all_goals (intro hc; first | omega | (conv => whnf)))
      | (with_reducible apply br_ne
         · repeat (first | with_reducible exact ix_nI | assumption | with_reducible apply ix_add | with_reducible apply ix_mul | (with_reducible apply ix_sub) | (with_reducible apply ix_upd) | (with_reducible apply ix_div) | omega)
         · repeat (first | with_reducible exact ix_nI | assumption | with_reducible apply ix_add | with_reducible apply ix_mul | (with_reducible apply ix_sub) | (with_reducible apply ix_upd) | (with_reducible apply ix_div) | omega)
         · omega
         · omega
         all_goals (intro hc; first | omega | (conv => whnf)))
      | (with_reducible apply br_eq0
         · repeat (first | with_reducible exact ix_nI | assumption | with_reducible apply ix_add | with_reducible apply ix_mul | (with_reducible apply ix_sub) | (with_reducible apply ix_upd) | (with_reducible apply ix_div) | omega)
         · omega
         all_goals (intro hc; first | omega | (conv => whnf)))
      | (with_reducible apply br_ne0
         · repeat (first | with_reducible exact ix_nI | assumption | with_reducible apply ix_add | with_reducible apply ix_mul | (with_reducible apply ix_sub) | (with_reducible apply ix_upd) | (with_reducible apply ix_div) | omega)
         · omega
         all_goals (intro hc; first | omega | (conv => whnf)))
      | (with_reducible apply br_le0
         · repeat (first | with_reducible exact ix_nI | assumption | with_reducible apply ix_add | with_reducible apply ix_mul | (with_reducible apply ix_sub) | (with_reducible apply ix_upd) | (with_reducible apply ix_div) | omega)
         · omega
         all_goals (intro hc; first | omega | (conv => whnf)))
      | (with_reducible apply br_gt0
         · repeat (first | with_reducible exact ix_nI | assumption | with_reducible apply ix_add | with_reducible apply ix_mul | (with_reducible apply ix_sub) | (with_reducible apply ix_upd) | (with_reducible apply ix_div) | omega)
         · omega
         all_goals (intro hc; first | omega | (conv => whnf)))
      | (with_reducible apply br_lt0
         · repeat (first | with_reducible exact ix_nI | assumption | with_reducible apply ix_add | with_reducible apply ix_mul | (with_reducible apply ix_sub) | (with_reducible apply ix_upd) | (with_reducible apply ix_div) | omega)
         · omega
         conv => whnf)
      | (with_reducible apply br_ge0
         · repeat (first | with_reducible exact ix_nI | assumption | with_reducible apply ix_add | with_reducible apply ix_mul | (with_reducible apply ix_sub) | (with_reducible apply ix_upd) | (with_reducible apply ix_div) | omega)
         · omega
         conv => whnf)
      | (with_reducible apply br_tab
         · repeat (first | with_reducible exact ix_nI | assumption | with_reducible apply ix_add | with_reducible apply ix_mul | (with_reducible apply ix_sub) | (with_reducible apply ix_upd) | (with_reducible apply ix_div) | omega)
         · omega
         all_goals (intro hc; (try dsimp only at hc); first | omega | (conv => whnf)))
      | (refine ⟨_, _, hA.1, ⟨_, rfl, rfl⟩, ?_⟩; conv => whnf)
        | (refine cl_use hC (c_requireMatch hA h8 hM6 (fun m hm e => ?_) (fun g => ?_)) <;> conv => whnf)
        | (refine ⟨_, hA.1, ?_⟩; conv => whnf)
      | (refine ⟨_, _, hA.1, ⟨_, rfl, rfl⟩, ?_⟩; conv => whnf)
      | (refine ⟨_, hA.2.1.obj, ?_⟩; conv => whnf)
      | (refine ⟨_, _, hA.2.1.obj, ⟨_, rfl, rfl⟩, ?_⟩; conv => whnf)
      | (obtain ⟨t9, hh9⟩ := hA.hist; refine ⟨_, _, hh9, ⟨_, rfl, rfl⟩, ?_⟩; conv => whnf)
      | (obtain ⟨t9, hh9⟩ := hA.hist; refine ⟨_, hh9, ?_⟩; conv => whnf)
      | (obtain ⟨fp9, ep9, eq9⟩ := hA.2.1.pgs
         refine ⟨_, _, _, ep9, Or.inl rfl, ?_⟩
         with_reducible apply ix_ex2
         · repeat (first | with_reducible exact ix_nI | assumption | with_reducible apply ix_add | with_reducible apply ix_mul | (with_reducible apply ix_sub) | (with_reducible apply ix_upd) | (with_reducible apply ix_div) | omega)
         (refine ⟨⟨by omega, by decide⟩, eq9 _ (by omega), ?_⟩; conv => whnf))
      | (refine ⟨_, hA.2.1.pg hp, ?_⟩; conv => whnf)
      | (refine ⟨_, _, hA.2.1.pg hp, ⟨_, rfl, rfl⟩, ?_⟩; conv => whnf)
      | (obtain ⟨q9, e9, f9⟩ := hA.2.1.st
         refine ⟨_, _, e9, ?_⟩
         with_reducible apply ix_ex
         · repeat (first | with_reducible exact ix_nI | assumption | with_reducible apply ix_add | with_reducible apply ix_mul | (with_reducible apply ix_sub) | (with_reducible apply ix_upd) | (with_reducible apply ix_div) | omega)
         (refine ⟨⟨by omega, by decide⟩, ?_⟩; rw [f9 _ (by omega)]; conv => whnf))
      | (obtain ⟨q9, e9, f9⟩ := hA.2.1.wr
         refine ⟨_, _, e9, ?_⟩
         with_reducible apply ix_ex
         · repeat (first | with_reducible exact ix_nI | assumption | with_reducible apply ix_add | with_reducible apply ix_mul | (with_reducible apply ix_sub) | (with_reducible apply ix_upd) | (with_reducible apply ix_div) | omega)
         (refine ⟨⟨by omega, by decide⟩, ?_⟩; rw [f9 _ (by omega)]; conv => whnf))
      | (obtain ⟨q9, e9, f9⟩ := hA.2.1.of
         refine ⟨_, _, e9, ?_⟩
         with_reducible apply ix_ex
         · repeat (first | with_reducible exact ix_nI | assumption | with_reducible apply ix_add | with_reducible apply ix_mul | (with_reducible apply ix_sub) | (with_reducible apply ix_upd) | (with_reducible apply ix_div) | omega)
         (refine ⟨⟨by omega, by decide⟩, ?_⟩; rw [f9 _ (by omega)]; conv => whnf))
        | (refine cl_use hC (c_wrongByMatch hA.2.1 (hA.2.1.pg hp) eq e (by omega) fun r hr => ?_); subst hr; conv => whnf)
      | (refine And.intro (fun hc => ?_) (fun hc => ?_) <;> conv => whnf)
      | (refine And.intro (by decide) ?_; conv => whnf)
      | fail)
    · subst e
      rw [if_pos ⟨rg_yes hp (by omega), rg_yes hm (by omega)⟩, ixN_nI (by omega), ixN_nI (by omega)] at hK
      have h9 := hK.ok' hA
      unfold wrN at h9
      rw [if_neg hc, ← wN_wrong, wN_congr (q := chg A.1 p) (q' := q) (fun c hc => (eq' c hc).symm)] at h9
      exact h9
    · subst e
      rw [if_pos ⟨rg_yes hp (by omega), rg_yes hm (by omega)⟩, ixN_nI (by omega), ixN_nI (by omega)] at hK
      have h9 := hK.ok' hA
      unfold wrN at h9
      rw [if_pos hc] at h9
      exact h9
    · rw [if_neg (fun q => g q.2)] at hK
      exact hK.2.1 rfl
  · rw [if_neg (fun q => g q.1)] at hK
    exact hK.2.1 rfl
theorem c_ifRead {x y : Int32} (hA : CS A h) (hI : Ivz n A.1) (hK : CKc h w K 0 2 (aIfRead A x y)) : Cl G (d + 7) kX4_ifRead [.ref 0, .int x, .int y] h w K := by
  obtain ⟨⟨h8, hM1, hM6⟩, hF⟩ := id hI.mf
  have hob := hA.2.1.obj
  rw [h8] at hob
  unfold aIfRead at hK
  refine Cl.of (by decide) rfl ?_
  refine wp_vc [23] 95 rfl fun W' C hW hC => ?_
  conv => whnf
  refine cl_use hC (c_requirePage (fun p hp e => ?_) (fun g => ?_)) <;> conv => whnf
  · subst e
    rw [if_pos (rg_yes hp (by omega)), ixN_nI (by omega)] at hK
    repeat' (first
      | (refine ⟨_, rfl, ?_⟩; conv => whnf)
      | (refine ⟨_, _, rfl, ⟨_, rfl, rfl⟩, ?_⟩; conv => whnf)
      | (refine ⟨_, _, rfl, ?_⟩
         with_reducible apply ix_ex
         · repeat (first | with_reducible exact ix_nI | assumption | with_reducible apply ix_add | with_reducible apply ix_mul | (with_reducible apply ix_sub) | (with_reducible apply ix_upd) | (with_reducible apply ix_div) | omega)
         (refine ⟨⟨by omega, by decide⟩, ?_⟩; conv => whnf))
      | (with_reducible apply br_le
         · repeat (first | with_reducible exact ix_nI | assumption | with_reducible apply ix_add | with_reducible apply ix_mul | (with_reducible apply ix_sub) | (with_reducible apply ix_upd) | (with_reducible apply ix_div) | omega)
         · repeat (first | with_reducible exact ix_nI | assumption | with_reducible apply ix_add | with_reducible apply ix_mul | (with_reducible apply ix_sub) | (with_reducible apply ix_upd) | (with_reducible apply ix_div) | omega)
         · omega
         · omega
         all_goals (intro hc; first | omega | (conv => whnf)))
      | (with_reducible apply br_lt
         · repeat (first | with_reducible exact ix_nI | assumption | with_reducible apply ix_add | with_reducible apply ix_mul | (with_reducible apply ix_sub) | (with_reducible apply ix_upd) | (with_reducible apply ix_div) | omega)
         · repeat (first | with_reducible exact ix_nI | assumption | with_reducible apply ix_add | with_reducible apply ix_mul | (with_reducible apply ix_sub) | (with_reducible apply ix_upd) | (with_reducible apply ix_div) | omega)
         · omega
         · omega
         all_goals (intro hc; first | omega | (conv => whnf)))
      | (with_reducible apply br_eq
         · repeat (first | with_reducible exact ix_nI | assumption | with_reducible apply ix_add | with_reducible apply ix_mul | (with_reducible apply ix_sub) | (with_reducible apply ix_upd) | (with_reducible apply ix_div) | omega)
         · repeat (first | with_reducible exact ix_nI | assumption | with_reducible apply ix_add | with_reducible apply ix_mul | (with_reducible apply ix_sub) | (with_reducible apply ix_upd) | (with_reducible apply ix_div) | omega)
         · omega
         · omega
         all_goals (intro hc; first | omega | (conv => whnf)))
      | (with_reducible apply br_ne
         · repeat (first | with_reducible exact ix_nI | assumption | with_reducible apply ix_add | with_reducible apply ix_mul | (with_reducible apply ix_sub) | (with_reducible apply ix_upd) | (with_reducible apply ix_div) | omega)
         · repeat (first | with_reducible exact ix_nI | assumption | with_reducible apply ix_add | with_reducible apply ix_mul | (with_reducible apply ix_sub) | (with_reducible apply ix_upd) | (with_reducible apply ix_div) | omega)
         · omega
         · omega
         all_goals (intro hc; first | omega | (conv => whnf)))
      | (with_reducible apply br_eq0
         · repeat (first | with_reducible exact ix_nI | assumption | with_reducible apply ix_add | with_reducible apply ix_mul | (with_reducible apply ix_sub) | (with_reducible apply ix_upd) | (with_reducible apply ix_div) | omega)
         · omega
         all_goals (intro hc; first | omega | (conv => whnf)))
      | (with_reducible apply br_ne0
         · repeat (first | with_reducible exact ix_nI | assumption | with_reducible apply ix_add | with_reducible apply ix_mul | (with_reducible apply ix_sub) | (with_reducible apply ix_upd) | (with_reducible apply ix_div) | omega)
         · omega
         all_goals (intro hc; first | omega | (conv => whnf)))
      | (with_reducible apply br_le0
         · repeat (first | with_reducible exact ix_nI | assumption | with_reducible apply ix_add | with_reducible apply ix_mul | (with_reducible apply ix_sub) | (with_reducible apply ix_upd) | (with_reducible apply ix_div) | omega)
         · omega
         all_goals (intro hc; first | omega | (conv => whnf)))
      | (with_reducible apply br_gt0
         · repeat (first | with_reducible exact ix_nI | assumption | with_reducible apply ix_add | with_reducible apply ix_mul | (with_reducible apply ix_sub) | (with_reducible apply ix_upd) | (with_reducible apply ix_div) | omega)
         · omega
         all_goals (intro hc; first | omega | (conv => whnf)))
      | (with_reducible apply br_lt0
         · repeat (first | with_reducible exact ix_nI | assumption | with_reducible apply ix_add | with_reducible apply ix_mul | (with_reducible apply ix_sub) | (with_reducible apply ix_upd) | (with_reducible apply ix_div) | omega)
         · omega
         conv => whnf)
      | (with_reducible apply br_ge0
         · repeat (first | with_reducible exact ix_nI | assumption | with_reducible apply ix_add | with_reducible apply ix_mul | (with_reducible apply ix_sub) | (with_reducible apply ix_upd) | (with_reducible apply ix_div) | omega)
         · omega
         conv => whnf)
      | (with_reducible apply br_tab
         · repeat (first | with_reducible exact ix_nI | assumption | with_reducible apply ix_add | with_reducible apply ix_mul | (with_reducible apply ix_sub) | (with_reducible apply ix_upd) | (with_reducible apply ix_div) | omega)
         · omega
         all_goals (intro hc; (try dsimp only at hc); first | omega | (conv => whnf)))
      | (refine And.intro (by omega) ?_; conv => whnf)
      | (refine And.intro (fun hc => ?_) (fun hc => ?_) <;> conv => whnf)
      | (refine And.intro (by decide) ?_; conv => whnf)
      | fail)
    · rw [if_neg (fun q => q.1 (by rw [nI_0]; exact hc))] at hK
      exact hK.2.2 rfl
    · rename_i hc0
      have hlt : y < nI 3 := Int32.lt_of_le_of_lt hc (by decide)
      obtain ⟨q, hq, e⟩ := inN_of (n := 3) (by omega) (by rw [nI_0]; exact hc0) hlt
      subst e
      rw [if_pos (rg_yes hq (by omega)), ixN_nI (by omega)] at hK
      have h9 := hK.ok' hA
      unfold ifrN at h9
      obtain ⟨hf, hfM⟩ := hF p hp
      obtain ⟨qc, eq, eq'⟩ := hA.2.1.ch hp
      have hpg := hA.2.1.pg hp
      have hFle := failsN_le (z := A.1) (p := p)
      rw [hf] at hpg
      refine wp_use hW ?_
      refine wp_vc [] 95 rfl fun W' C hW hC => ?_
      conv => whnf
      repeat' (first
        | (refine ⟨_, rfl, ?_⟩; conv => whnf)
        | (refine ⟨_, _, rfl, ⟨_, rfl, rfl⟩, ?_⟩; conv => whnf)
        | (refine ⟨_, _, rfl, ?_⟩
           with_reducible apply ix_ex
           · repeat (first | with_reducible exact ix_nI | assumption | with_reducible apply ix_add | with_reducible apply ix_mul | (with_reducible apply ix_sub) | (with_reducible apply ix_upd) | (with_reducible apply ix_div) | omega)
           (refine ⟨⟨by omega, by decide⟩, ?_⟩; conv => whnf))
        | (with_reducible apply br_le
           · repeat (first | with_reducible exact ix_nI | assumption | with_reducible apply ix_add | with_reducible apply ix_mul | (with_reducible apply ix_sub) | (with_reducible apply ix_upd) | (with_reducible apply ix_div) | omega)
           · repeat (first | with_reducible exact ix_nI | assumption | with_reducible apply ix_add | with_reducible apply ix_mul | (with_reducible apply ix_sub) | (with_reducible apply ix_upd) | (with_reducible apply ix_div) | omega)
           · omega
           · omega
           all_goals (intro hc; first | omega | (conv => whnf)))
        | (with_reducible apply br_lt
           · repeat (first | with_reducible exact ix_nI | assumption | with_reducible apply ix_add | with_reducible apply ix_mul | (with_reducible apply ix_sub) | (with_reducible apply ix_upd) | (with_reducible apply ix_div) | omega)
           · repeat (first | with_reducible exact ix_nI | assumption | with_reducible apply ix_add | with_reducible apply ix_mul | (with_reducible apply ix_sub) | (with_reducible apply ix_upd) | (with_reducible apply ix_div) | omega)
           · omega
           · omega
           all_goals (intro hc; first | omega | (conv => whnf)))
        | (with_reducible apply br_eq
           · repeat (first | with_reducible exact ix_nI | assumption | with_reducible apply ix_add | with_reducible apply ix_mul | (with_reducible apply ix_sub) | (with_reducible apply ix_upd) | (with_reducible apply ix_div) | omega)
           · repeat (first | with_reducible exact ix_nI | assumption | with_reducible apply ix_add | with_reducible apply ix_mul | (with_reducible apply ix_sub) | (with_reducible apply ix_upd) | (with_reducible apply ix_div) | omega)
           · omega
           · omega
           all_goals (intro hc; first | omega | (conv => whnf)))
        | (with_reducible apply br_ne
           · repeat (first | with_reducible exact ix_nI | assumption | with_reducible apply ix_add | with_reducible apply ix_mul | (with_reducible apply ix_sub) | (with_reducible apply ix_upd) | (with_reducible apply ix_div) | omega)
           · repeat (first | with_reducible exact ix_nI | assumption | with_reducible apply ix_add | with_reducible apply ix_mul | (with_reducible apply ix_sub) | (with_reducible apply ix_upd) | (with_reducible apply ix_div) | omega)
           · omega
           · omega
           all_goals (intro hc; first | omega | (conv => whnf)))
        | (with_reducible apply br_eq0
           · repeat (first | with_reducible exact ix_nI | assumption | with_reducible apply ix_add | with_reducible apply ix_mul | (with_reducible apply ix_sub) | (with_reducible apply ix_upd) | (with_reducible apply ix_div) | omega)
           · omega
           all_goals (intro hc; first | omega | (conv => whnf)))
        | (with_reducible apply br_ne0
           · repeat (first | with_reducible exact ix_nI | assumption | with_reducible apply ix_add | with_reducible apply ix_mul | (with_reducible apply ix_sub) | (with_reducible apply ix_upd) | (with_reducible apply ix_div) | omega)
           · omega
           all_goals (intro hc; first | omega | (conv => whnf)))
        | (with_reducible apply br_le0
           · repeat (first | with_reducible exact ix_nI | assumption | with_reducible apply ix_add | with_reducible apply ix_mul | (with_reducible apply ix_sub) | (with_reducible apply ix_upd) | (with_reducible apply ix_div) | omega)
           · omega
           all_goals (intro hc; first | omega | (conv => whnf)))
        | (with_reducible apply br_gt0
           · repeat (first | with_reducible exact ix_nI | assumption | with_reducible apply ix_add | with_reducible apply ix_mul | (with_reducible apply ix_sub) | (with_reducible apply ix_upd) | (with_reducible apply ix_div) | omega)
           · omega
           all_goals (intro hc; first | omega | (conv => whnf)))
        | (with_reducible apply br_lt0
           · repeat (first | with_reducible exact ix_nI | assumption | with_reducible apply ix_add | with_reducible apply ix_mul | (with_reducible apply ix_sub) | (with_reducible apply ix_upd) | (with_reducible apply ix_div) | omega)
           · omega
           conv => whnf)
        | (with_reducible apply br_ge0
           · repeat (first | with_reducible exact ix_nI | assumption | with_reducible apply ix_add | with_reducible apply ix_mul | (with_reducible apply ix_sub) | (with_reducible apply ix_upd) | (with_reducible apply ix_div) | omega)
           · omega
           conv => whnf)
        | (with_reducible apply br_tab
           · repeat (first | with_reducible exact ix_nI | assumption | with_reducible apply ix_add | with_reducible apply ix_mul | (with_reducible apply ix_sub) | (with_reducible apply ix_upd) | (with_reducible apply ix_div) | omega)
           · omega
           all_goals (intro hc; (try dsimp only at hc); first | omega | (conv => whnf)))
        | (refine ⟨_, hA.1, ?_⟩; conv => whnf)
            | (refine ⟨_, hob, ?_⟩; conv => whnf)
            | (refine ⟨_, hpg, ?_⟩; conv => whnf)
            | (refine ⟨_, hA.1, ?_⟩; conv => whnf)
        | (refine ⟨_, _, hA.1, ⟨_, rfl, rfl⟩, ?_⟩; conv => whnf)
        | (refine ⟨_, hA.2.1.obj, ?_⟩; conv => whnf)
        | (refine ⟨_, _, hA.2.1.obj, ⟨_, rfl, rfl⟩, ?_⟩; conv => whnf)
        | (obtain ⟨t9, hh9⟩ := hA.hist; refine ⟨_, _, hh9, ⟨_, rfl, rfl⟩, ?_⟩; conv => whnf)
        | (obtain ⟨t9, hh9⟩ := hA.hist; refine ⟨_, hh9, ?_⟩; conv => whnf)
        | (obtain ⟨fp9, ep9, eq9⟩ := hA.2.1.pgs
           refine ⟨_, _, _, ep9, Or.inl rfl, ?_⟩
           with_reducible apply ix_ex2
           · repeat (first | with_reducible exact ix_nI | assumption | with_reducible apply ix_add | with_reducible apply ix_mul | (with_reducible apply ix_sub) | (with_reducible apply ix_upd) | (with_reducible apply ix_div) | omega)
           (refine ⟨⟨by omega, by decide⟩, eq9 _ (by omega), ?_⟩; conv => whnf))
        | (refine ⟨_, hA.2.1.pg hp, ?_⟩; conv => whnf)
        | (refine ⟨_, _, hA.2.1.pg hp, ⟨_, rfl, rfl⟩, ?_⟩; conv => whnf)
        | (obtain ⟨q9, e9, f9⟩ := hA.2.1.st
           refine ⟨_, _, e9, ?_⟩
           with_reducible apply ix_ex
           · repeat (first | with_reducible exact ix_nI | assumption | with_reducible apply ix_add | with_reducible apply ix_mul | (with_reducible apply ix_sub) | (with_reducible apply ix_upd) | (with_reducible apply ix_div) | omega)
           (refine ⟨⟨by omega, by decide⟩, ?_⟩; rw [f9 _ (by omega)]; conv => whnf))
        | (obtain ⟨q9, e9, f9⟩ := hA.2.1.wr
           refine ⟨_, _, e9, ?_⟩
           with_reducible apply ix_ex
           · repeat (first | with_reducible exact ix_nI | assumption | with_reducible apply ix_add | with_reducible apply ix_mul | (with_reducible apply ix_sub) | (with_reducible apply ix_upd) | (with_reducible apply ix_div) | omega)
           (refine ⟨⟨by omega, by decide⟩, ?_⟩; rw [f9 _ (by omega)]; conv => whnf))
        | (obtain ⟨q9, e9, f9⟩ := hA.2.1.of
           refine ⟨_, _, e9, ?_⟩
           with_reducible apply ix_ex
           · repeat (first | with_reducible exact ix_nI | assumption | with_reducible apply ix_add | with_reducible apply ix_mul | (with_reducible apply ix_sub) | (with_reducible apply ix_upd) | (with_reducible apply ix_div) | omega)
           (refine ⟨⟨by omega, by decide⟩, ?_⟩; rw [f9 _ (by omega)]; conv => whnf))
            | (refine cl_use hC (c_failingTries hA.2.1 h8 hM6 hfM hpg eq fun r hr => ?_); rw [fails_ok eq'] at hr; change r = nI (failsN A.1 p) at hr; subst hr; conv => whnf)
            | (refine cl_use hC (c_matchOfTry rfl hpg (by omega) (by omega) fun r hr => ?_); subst hr; conv => whnf)
            | (refine cl_use hC (c_feesOfTries hA.2.1 rfl h8 hM1 hM6 hFle fun r hr => ?_); subst hr; conv => whnf)
        | (refine And.intro (fun hc => ?_) (fun hc => ?_) <;> conv => whnf)
        | (refine And.intro (by decide) ?_; conv => whnf)
        | fail)
      · rw [if_pos (by assumption), if_neg (by assumption), if_pos (by omega)] at h9
        exact h9
      · rw [if_pos (by assumption), if_neg (by assumption), if_neg (by omega), if_pos (by omega)] at h9
        exact h9
      · rw [if_pos (by assumption), if_neg (by assumption), if_neg (by omega), if_neg (by omega)] at h9
        exact h9
      · rw [if_pos (by assumption), if_pos hc] at h9
        exact h9
      · rw [if_neg hc] at h9
        exact h9
    · rw [if_neg (fun q => hc (by
        obtain ⟨k, hk, e⟩ := inN_of (n := 3) (by omega) q.1 q.2
        rw [e, nI_leI (by omega) (by omega)]
        omega))] at hK
      exact hK.2.2 rfl
  · rw [if_neg g] at hK
    exact hK.2.1 rfl
theorem c_wrongByShift {a c : Nat} {q : ZZ} {s1 wd s : Int32} {F : List Value} (hp : h a = .inr (3, .ref c :: .int s1 :: .int wd :: F)) (hq : h c = .inl (0, 16, .inl q)) (hK : ∀ r, r = sumN (fun c => onesB (btO (rdAs (q c) s s s) ^^^ wrtW wd c)) 16 → K (.inl (some (.int r))) h w) : Cl G (d + 2) kX4_wrongByShift [.ref a, .int s] h w K := by
  refine Cl.of (by decide) rfl ?_
  refine wp_vc [] 95 rfl fun W' C hW hC => ?_
  conv => whnf
  repeat' (first
    | (refine ⟨_, rfl, ?_⟩; conv => whnf)
    | (refine ⟨_, _, rfl, ⟨_, rfl, rfl⟩, ?_⟩; conv => whnf)
    | (refine ⟨_, _, rfl, ?_⟩
       with_reducible apply ix_ex
       · repeat (first | with_reducible exact ix_nI | assumption | with_reducible apply ix_add | with_reducible apply ix_mul | (with_reducible apply ix_sub) | (with_reducible apply ix_upd) | (with_reducible apply ix_div) | omega)
       (refine ⟨⟨by omega, by decide⟩, ?_⟩; conv => whnf))
    | (with_reducible apply br_le
       · repeat (first | with_reducible exact ix_nI | assumption | with_reducible apply ix_add | with_reducible apply ix_mul | (with_reducible apply ix_sub) | (with_reducible apply ix_upd) | (with_reducible apply ix_div) | omega)
       · repeat (first | with_reducible exact ix_nI | assumption | with_reducible apply ix_add | with_reducible apply ix_mul | (with_reducible apply ix_sub) | (with_reducible apply ix_upd) | (with_reducible apply ix_div) | omega)
       · omega
       · omega
       all_goals (intro hc; first | omega | (conv => whnf)))
    | (with_reducible apply br_lt
       · repeat (first | with_reducible exact ix_nI | assumption | with_reducible apply ix_add | with_reducible apply ix_mul | (with_reducible apply ix_sub) | (with_reducible apply ix_upd) | (with_reducible apply ix_div) | omega)
       · repeat (first | with_reducible exact ix_nI | assumption | with_reducible apply ix_add | with_reducible apply ix_mul | (with_reducible apply ix_sub) | (with_reducible apply ix_upd) | (with_reducible apply ix_div) | omega)
       · omega
       · omega
       all_goals (intro hc; first | omega | (conv => whnf)))
    | (with_reducible apply br_eq
       · repeat (first | with_reducible exact ix_nI | assumption | with_reducible apply ix_add | with_reducible apply ix_mul | (with_reducible apply ix_sub) | (with_reducible apply ix_upd) | (with_reducible apply ix_div) | omega)
       · repeat (first | with_reducible exact ix_nI | assumption | with_reducible apply ix_add | with_reducible apply ix_mul | (with_reducible apply ix_sub) | (with_reducible apply ix_upd) | (with_reducible apply ix_div) | omega)
       · omega
       · omega
       all_goals (intro hc; first | omega | (conv => whnf)))
    | (with_reducible apply br_ne
       · repeat (first | with_reducible exact ix_nI | assumption | with_reducible apply ix_add | with_reducible apply ix_mul | (with_reducible apply ix_sub) | (with_reducible apply ix_upd) | (with_reducible apply ix_div) | omega)
       · repeat (first | with_reducible exact ix_nI | assumption | with_reducible apply ix_add | with_reducible apply ix_mul | (with_reducible apply ix_sub) | (with_reducible apply ix_upd) | (with_reducible apply ix_div) | omega)
       · omega
       · omega
       all_goals (intro hc; first | omega | (conv => whnf)))
    | (with_reducible apply br_eq0
       · repeat (first | with_reducible exact ix_nI | assumption | with_reducible apply ix_add | with_reducible apply ix_mul | (with_reducible apply ix_sub) | (with_reducible apply ix_upd) | (with_reducible apply ix_div) | omega)
       · omega
       all_goals (intro hc; first | omega | (conv => whnf)))
    | (with_reducible apply br_ne0
       · repeat (first | with_reducible exact ix_nI | assumption | with_reducible apply ix_add | with_reducible apply ix_mul | (with_reducible apply ix_sub) | (with_reducible apply ix_upd) | (with_reducible apply ix_div) | omega)
       · omega
       all_goals (intro hc; first | omega | (conv => whnf)))
    | (with_reducible apply br_le0
       · repeat (first | with_reducible exact ix_nI | assumption | with_reducible apply ix_add | with_reducible apply ix_mul | (with_reducible apply ix_sub) | (with_reducible apply ix_upd) | (with_reducible apply ix_div) | omega)
       · omega
       all_goals (intro hc; first | omega | (conv => whnf)))
    | (with_reducible apply br_gt0
       · repeat (first | with_reducible exact ix_nI | assumption | with_reducible apply ix_add | with_reducible apply ix_mul | (with_reducible apply ix_sub) | (with_reducible apply ix_upd) | (with_reducible apply ix_div) | omega)
       · omega
       all_goals (intro hc; first | omega | (conv => whnf)))
    | (with_reducible apply br_lt0
       · repeat (first | with_reducible exact ix_nI | assumption | with_reducible apply ix_add | with_reducible apply ix_mul | (with_reducible apply ix_sub) | (with_reducible apply ix_upd) | (with_reducible apply ix_div) | omega)
       · omega
       conv => whnf)
    | (with_reducible apply br_ge0
       · repeat (first | with_reducible exact ix_nI | assumption | with_reducible apply ix_add | with_reducible apply ix_mul | (with_reducible apply ix_sub) | (with_reducible apply ix_upd) | (with_reducible apply ix_div) | omega)
       · omega
       conv => whnf)
    | (with_reducible apply br_tab
       · repeat (first | with_reducible exact ix_nI | assumption | with_reducible apply ix_add | with_reducible apply ix_mul | (with_reducible apply ix_sub) | (with_reducible apply ix_upd) | (with_reducible apply ix_div) | omega)
       · omega
       all_goals (intro hc; (try dsimp only at hc); first | omega | (conv => whnf)))
    | (refine And.intro ⟨by decide, (show _ < 3 by decide), (by decide : 3 < 100000)⟩ ?_; rw [xv3 _ (by decide)]; conv => whnf)
    | (refine ⟨_, _, hp, ⟨_, rfl, rfl⟩, ?_⟩; conv => whnf)
    | (refine cl_use hC (c_wrongBits hp hq fun r hr => ?_); subst hr; conv => whnf)
    | (refine And.intro (fun hc => ?_) (fun hc => ?_) <;> conv => whnf)
    | (refine And.intro (by decide) ?_; conv => whnf)
    | fail)
  refine hK _ ?_
  unfold wbC
  exact sumN_congr fun c hc => by
    show onesB (btO (lvC (q c) (nI 100 + s) (nI 200 + s) (nI 300 + s)) ^^^ _) = _
    rw [lvC_rd]
theorem c_bestShift {x y : Int32} (hA : CS A h) (hK : CKc h w K 0 2 (aShift A x y)) : Cl G (d + 7) kX4_bestShift [.ref 0, .int x, .int y] h w K := by
  unfold aShift at hK
  refine Cl.of (by decide) rfl ?_
  refine wp_vc [23] 95 rfl fun W' C hW hC => ?_
  conv => whnf
  refine cl_use hC (c_requirePage (fun p hp e => ?_) (fun g => ?_)) <;> conv => whnf
  · subst e
    rw [if_pos (rg_yes hp (by omega)), ixN_nI (by omega)] at hK
    obtain ⟨qc, eq, eq'⟩ := hA.2.1.ch hp
    have hws : ∀ s, sumN (fun c => onesB (btO (rdAs (qc c) s s s) ^^^ wrtW (A.1 (78 + p)) c)) 16 = wrongS A.1 p s := fun s => sumN_congr fun c hc => by rw [eq' c hc]; rfl
    have key : ∀ q, q < 2 → y = nI q → wp G (d + 7) kX4_bestShift w.2.1 w.2.2 K 23 [some (.ref 0), some (.int (nI p)), some (.int y), none, none, none, none, none, none] [] h w := by
      intro q hq e
      subst e
      rw [if_pos (rg_yes hq (by omega)), ixN_nI (by omega)] at hK
      have h9 := hK.ok' hA
      unfold shN at h9
      refine wp_vc [55] 95 rfl fun W' C hW hC => ?_
      conv => whnf
      repeat' (first
        | (refine ⟨_, rfl, ?_⟩; conv => whnf)
        | (refine ⟨_, _, rfl, ⟨_, rfl, rfl⟩, ?_⟩; conv => whnf)
        | (refine ⟨_, _, rfl, ?_⟩
           with_reducible apply ix_ex
           · repeat (first | with_reducible exact ix_nI | assumption | with_reducible apply ix_add | with_reducible apply ix_mul | (with_reducible apply ix_sub) | (with_reducible apply ix_upd) | (with_reducible apply ix_div) | omega)
           (refine ⟨⟨by omega, by decide⟩, ?_⟩; conv => whnf))
        | (with_reducible apply br_le
           · repeat (first | with_reducible exact ix_nI | assumption | with_reducible apply ix_add | with_reducible apply ix_mul | (with_reducible apply ix_sub) | (with_reducible apply ix_upd) | (with_reducible apply ix_div) | omega)
           · repeat (first | with_reducible exact ix_nI | assumption | with_reducible apply ix_add | with_reducible apply ix_mul | (with_reducible apply ix_sub) | (with_reducible apply ix_upd) | (with_reducible apply ix_div) | omega)
           · omega
           · omega
           all_goals (intro hc; first | omega | (conv => whnf)))
        | (with_reducible apply br_lt
           · repeat (first | with_reducible exact ix_nI | assumption | with_reducible apply ix_add | with_reducible apply ix_mul | (with_reducible apply ix_sub) | (with_reducible apply ix_upd) | (with_reducible apply ix_div) | omega)
           · repeat (first | with_reducible exact ix_nI | assumption | with_reducible apply ix_add | with_reducible apply ix_mul | (with_reducible apply ix_sub) | (with_reducible apply ix_upd) | (with_reducible apply ix_div) | omega)
           · omega
           · omega
           all_goals (intro hc; first | omega | (conv => whnf)))
        | (with_reducible apply br_eq
           · repeat (first | with_reducible exact ix_nI | assumption | with_reducible apply ix_add | with_reducible apply ix_mul | (with_reducible apply ix_sub) | (with_reducible apply ix_upd) | (with_reducible apply ix_div) | omega)
           · repeat (first | with_reducible exact ix_nI | assumption | with_reducible apply ix_add | with_reducible apply ix_mul | (with_reducible apply ix_sub) | (with_reducible apply ix_upd) | (with_reducible apply ix_div) | omega)
           · omega
           · omega
           all_goals (intro hc; first | omega | (conv => whnf)))
        | (with_reducible apply br_ne
           · repeat (first | with_reducible exact ix_nI | assumption | with_reducible apply ix_add | with_reducible apply ix_mul | (with_reducible apply ix_sub) | (with_reducible apply ix_upd) | (with_reducible apply ix_div) | omega)
           · repeat (first | with_reducible exact ix_nI | assumption | with_reducible apply ix_add | with_reducible apply ix_mul | (with_reducible apply ix_sub) | (with_reducible apply ix_upd) | (with_reducible apply ix_div) | omega)
           · omega
           · omega
           all_goals (intro hc; first | omega | (conv => whnf)))
        | (with_reducible apply br_eq0
           · repeat (first | with_reducible exact ix_nI | assumption | with_reducible apply ix_add | with_reducible apply ix_mul | (with_reducible apply ix_sub) | (with_reducible apply ix_upd) | (with_reducible apply ix_div) | omega)
           · omega
           all_goals (intro hc; first | omega | (conv => whnf)))
        | (with_reducible apply br_ne0
           · repeat (first | with_reducible exact ix_nI | assumption | with_reducible apply ix_add | with_reducible apply ix_mul | (with_reducible apply ix_sub) | (with_reducible apply ix_upd) | (with_reducible apply ix_div) | omega)
           · omega
           all_goals (intro hc; first | omega | (conv => whnf)))
        | (with_reducible apply br_le0
           · repeat (first | with_reducible exact ix_nI | assumption | with_reducible apply ix_add | with_reducible apply ix_mul | (with_reducible apply ix_sub) | (with_reducible apply ix_upd) | (with_reducible apply ix_div) | omega)
           · omega
           all_goals (intro hc; first | omega | (conv => whnf)))
        | (with_reducible apply br_gt0
           · repeat (first | with_reducible exact ix_nI | assumption | with_reducible apply ix_add | with_reducible apply ix_mul | (with_reducible apply ix_sub) | (with_reducible apply ix_upd) | (with_reducible apply ix_div) | omega)
           · omega
           all_goals (intro hc; first | omega | (conv => whnf)))
        | (with_reducible apply br_lt0
           · repeat (first | with_reducible exact ix_nI | assumption | with_reducible apply ix_add | with_reducible apply ix_mul | (with_reducible apply ix_sub) | (with_reducible apply ix_upd) | (with_reducible apply ix_div) | omega)
           · omega
           conv => whnf)
        | (with_reducible apply br_ge0
           · repeat (first | with_reducible exact ix_nI | assumption | with_reducible apply ix_add | with_reducible apply ix_mul | (with_reducible apply ix_sub) | (with_reducible apply ix_upd) | (with_reducible apply ix_div) | omega)
           · omega
           conv => whnf)
        | (with_reducible apply br_tab
           · repeat (first | with_reducible exact ix_nI | assumption | with_reducible apply ix_add | with_reducible apply ix_mul | (with_reducible apply ix_sub) | (with_reducible apply ix_upd) | (with_reducible apply ix_div) | omega)
           · omega
           all_goals (intro hc; (try dsimp only at hc); first | omega | (conv => whnf)))
        | (refine ⟨_, hA.1, ?_⟩; conv => whnf)
        | (refine ⟨_, _, hA.1, ⟨_, rfl, rfl⟩, ?_⟩; conv => whnf)
        | (refine ⟨_, hA.2.1.obj, ?_⟩; conv => whnf)
        | (refine ⟨_, _, hA.2.1.obj, ⟨_, rfl, rfl⟩, ?_⟩; conv => whnf)
        | (obtain ⟨t9, hh9⟩ := hA.hist; refine ⟨_, _, hh9, ⟨_, rfl, rfl⟩, ?_⟩; conv => whnf)
        | (obtain ⟨t9, hh9⟩ := hA.hist; refine ⟨_, hh9, ?_⟩; conv => whnf)
        | (obtain ⟨fp9, ep9, eq9⟩ := hA.2.1.pgs
           refine ⟨_, _, _, ep9, Or.inl rfl, ?_⟩
           with_reducible apply ix_ex2
           · repeat (first | with_reducible exact ix_nI | assumption | with_reducible apply ix_add | with_reducible apply ix_mul | (with_reducible apply ix_sub) | (with_reducible apply ix_upd) | (with_reducible apply ix_div) | omega)
           (refine ⟨⟨by omega, by decide⟩, eq9 _ (by omega), ?_⟩; conv => whnf))
        | (refine ⟨_, hA.2.1.pg hp, ?_⟩; conv => whnf)
        | (refine ⟨_, _, hA.2.1.pg hp, ⟨_, rfl, rfl⟩, ?_⟩; conv => whnf)
        | (obtain ⟨q9, e9, f9⟩ := hA.2.1.st
           refine ⟨_, _, e9, ?_⟩
           with_reducible apply ix_ex
           · repeat (first | with_reducible exact ix_nI | assumption | with_reducible apply ix_add | with_reducible apply ix_mul | (with_reducible apply ix_sub) | (with_reducible apply ix_upd) | (with_reducible apply ix_div) | omega)
           (refine ⟨⟨by omega, by decide⟩, ?_⟩; rw [f9 _ (by omega)]; conv => whnf))
        | (obtain ⟨q9, e9, f9⟩ := hA.2.1.wr
           refine ⟨_, _, e9, ?_⟩
           with_reducible apply ix_ex
           · repeat (first | with_reducible exact ix_nI | assumption | with_reducible apply ix_add | with_reducible apply ix_mul | (with_reducible apply ix_sub) | (with_reducible apply ix_upd) | (with_reducible apply ix_div) | omega)
           (refine ⟨⟨by omega, by decide⟩, ?_⟩; rw [f9 _ (by omega)]; conv => whnf))
        | (obtain ⟨q9, e9, f9⟩ := hA.2.1.of
           refine ⟨_, _, e9, ?_⟩
           with_reducible apply ix_ex
           · repeat (first | with_reducible exact ix_nI | assumption | with_reducible apply ix_add | with_reducible apply ix_mul | (with_reducible apply ix_sub) | (with_reducible apply ix_upd) | (with_reducible apply ix_div) | omega)
           (refine ⟨⟨by omega, by decide⟩, ?_⟩; rw [f9 _ (by omega)]; conv => whnf))
            | (refine cl_use hC (c_wrongByShift (hA.2.1.pg hp) eq fun r hr => ?_); rw [hws] at hr; subst hr; conv => whnf)
        | (refine And.intro (fun hc => ?_) (fun hc => ?_) <;> conv => whnf)
        | (refine And.intro (by decide) ?_; conv => whnf)
        | fail)
      · refine wp_use hW ?_
        rw [if_neg hc] at h9
        have key3 : wp G (d + 7) kX4_bestShift w.2.1 w.2.2 K 121 [some (.ref 0), some (.int (nI p)), some (.int (nI q)), none, some (.int (shL A.1 p 120).1), some (.int (shL A.1 p 120).2), none, none, none] [] h w := by
          refine wp_vc [] 60 rfl fun W' C hW hC => ?_
          conv => whnf
          repeat' (first
            | (refine ⟨_, rfl, ?_⟩; conv => whnf)
            | (refine ⟨_, _, rfl, ⟨_, rfl, rfl⟩, ?_⟩; conv => whnf)
            | (refine ⟨_, _, rfl, ?_⟩
               with_reducible apply ix_ex
               · repeat (first | with_reducible exact ix_nI | assumption | with_reducible apply ix_add | with_reducible apply ix_mul | (with_reducible apply ix_sub) | (with_reducible apply ix_upd) | (with_reducible apply ix_div) | omega)
               (refine ⟨⟨by omega, by decide⟩, ?_⟩; conv => whnf))
            | (with_reducible apply br_le
               · repeat (first | with_reducible exact ix_nI | assumption | with_reducible apply ix_add | with_reducible apply ix_mul | (with_reducible apply ix_sub) | (with_reducible apply ix_upd) | (with_reducible apply ix_div) | omega)
               · repeat (first | with_reducible exact ix_nI | assumption | with_reducible apply ix_add | with_reducible apply ix_mul | (with_reducible apply ix_sub) | (with_reducible apply ix_upd) | (with_reducible apply ix_div) | omega)
               · omega
               · omega
               all_goals (intro hc; first | omega | (conv => whnf)))
            | (with_reducible apply br_lt
               · repeat (first | with_reducible exact ix_nI | assumption | with_reducible apply ix_add | with_reducible apply ix_mul | (with_reducible apply ix_sub) | (with_reducible apply ix_upd) | (with_reducible apply ix_div) | omega)
               · repeat (first | with_reducible exact ix_nI | assumption | with_reducible apply ix_add | with_reducible apply ix_mul | (with_reducible apply ix_sub) | (with_reducible apply ix_upd) | (with_reducible apply ix_div) | omega)
               · omega
               · omega
               all_goals (intro hc; first | omega | (conv => whnf)))
            | (with_reducible apply br_eq
               · repeat (first | with_reducible exact ix_nI | assumption | with_reducible apply ix_add | with_reducible apply ix_mul | (with_reducible apply ix_sub) | (with_reducible apply ix_upd) | (with_reducible apply ix_div) | omega)
               · repeat (first | with_reducible exact ix_nI | assumption | with_reducible apply ix_add | with_reducible apply ix_mul | (with_reducible apply ix_sub) | (with_reducible apply ix_upd) | (with_reducible apply ix_div) | omega)
               · omega
               · omega
               all_goals (intro hc; first | omega | (conv => whnf)))
            | (with_reducible apply br_ne
               · repeat (first | with_reducible exact ix_nI | assumption | with_reducible apply ix_add | with_reducible apply ix_mul | (with_reducible apply ix_sub) | (with_reducible apply ix_upd) | (with_reducible apply ix_div) | omega)
               · repeat (first | with_reducible exact ix_nI | assumption | with_reducible apply ix_add | with_reducible apply ix_mul | (with_reducible apply ix_sub) | (with_reducible apply ix_upd) | (with_reducible apply ix_div) | omega)
               · omega
               · omega
               all_goals (intro hc; first | omega | (conv => whnf)))
            | (with_reducible apply br_eq0
               · repeat (first | with_reducible exact ix_nI | assumption | with_reducible apply ix_add | with_reducible apply ix_mul | (with_reducible apply ix_sub) | (with_reducible apply ix_upd) | (with_reducible apply ix_div) | omega)
               · omega
               all_goals (intro hc; first | omega | (conv => whnf)))
            | (with_reducible apply br_ne0
               · repeat (first | with_reducible exact ix_nI | assumption | with_reducible apply ix_add | with_reducible apply ix_mul | (with_reducible apply ix_sub) | (with_reducible apply ix_upd) | (with_reducible apply ix_div) | omega)
               · omega
               all_goals (intro hc; first | omega | (conv => whnf)))
            | (with_reducible apply br_le0
               · repeat (first | with_reducible exact ix_nI | assumption | with_reducible apply ix_add | with_reducible apply ix_mul | (with_reducible apply ix_sub) | (with_reducible apply ix_upd) | (with_reducible apply ix_div) | omega)
               · omega
               all_goals (intro hc; first | omega | (conv => whnf)))
            | (with_reducible apply br_gt0
               · repeat (first | with_reducible exact ix_nI | assumption | with_reducible apply ix_add | with_reducible apply ix_mul | (with_reducible apply ix_sub) | (with_reducible apply ix_upd) | (with_reducible apply ix_div) | omega)
               · omega
               all_goals (intro hc; first | omega | (conv => whnf)))
            | (with_reducible apply br_lt0
               · repeat (first | with_reducible exact ix_nI | assumption | with_reducible apply ix_add | with_reducible apply ix_mul | (with_reducible apply ix_sub) | (with_reducible apply ix_upd) | (with_reducible apply ix_div) | omega)
               · omega
               conv => whnf)
            | (with_reducible apply br_ge0
               · repeat (first | with_reducible exact ix_nI | assumption | with_reducible apply ix_add | with_reducible apply ix_mul | (with_reducible apply ix_sub) | (with_reducible apply ix_upd) | (with_reducible apply ix_div) | omega)
               · omega
               conv => whnf)
            | (with_reducible apply br_tab
               · repeat (first | with_reducible exact ix_nI | assumption | with_reducible apply ix_add | with_reducible apply ix_mul | (with_reducible apply ix_sub) | (with_reducible apply ix_upd) | (with_reducible apply ix_div) | omega)
               · omega
               all_goals (intro hc; (try dsimp only at hc); first | omega | (conv => whnf)))
            | (refine And.intro (fun hc => ?_) (fun hc => ?_) <;> conv => whnf)
            | (refine And.intro (by decide) ?_; conv => whnf)
            | fail)
          · rw [if_neg hc] at h9
            exact h9
          · rw [if_pos hc] at h9
            exact h9
        have key2 := upto (W := fun k => wp G (d + 7) kX4_bestShift w.2.1 w.2.2 K 55 [some (.ref 0), some (.int (nI p)), some (.int (nI q)), some (.ref (1 + 5 + 2 * p)), some (.int (shL A.1 p (2 * k)).1), some (.int (shL A.1 p (2 * k)).2), some (.int (nI (k + 1))), none, none] [] h w) 60 ?_ ?_
        · exact key2
        · refine wp_vc [55,121] 60 rfl fun W' C hW hC => ?_
          conv => whnf
          repeat' (first
            | (refine ⟨_, rfl, ?_⟩; conv => whnf)
            | (refine ⟨_, _, rfl, ⟨_, rfl, rfl⟩, ?_⟩; conv => whnf)
            | (refine ⟨_, _, rfl, ?_⟩
               with_reducible apply ix_ex
               · repeat (first | with_reducible exact ix_nI | assumption | with_reducible apply ix_add | with_reducible apply ix_mul | (with_reducible apply ix_sub) | (with_reducible apply ix_upd) | (with_reducible apply ix_div) | omega)
               (refine ⟨⟨by omega, by decide⟩, ?_⟩; conv => whnf))
            | (with_reducible apply br_le
               · repeat (first | with_reducible exact ix_nI | assumption | with_reducible apply ix_add | with_reducible apply ix_mul | (with_reducible apply ix_sub) | (with_reducible apply ix_upd) | (with_reducible apply ix_div) | omega)
               · repeat (first | with_reducible exact ix_nI | assumption | with_reducible apply ix_add | with_reducible apply ix_mul | (with_reducible apply ix_sub) | (with_reducible apply ix_upd) | (with_reducible apply ix_div) | omega)
               · omega
               · omega
               all_goals (intro hc; first | omega | (conv => whnf)))
            | (with_reducible apply br_lt
               · repeat (first | with_reducible exact ix_nI | assumption | with_reducible apply ix_add | with_reducible apply ix_mul | (with_reducible apply ix_sub) | (with_reducible apply ix_upd) | (with_reducible apply ix_div) | omega)
               · repeat (first | with_reducible exact ix_nI | assumption | with_reducible apply ix_add | with_reducible apply ix_mul | (with_reducible apply ix_sub) | (with_reducible apply ix_upd) | (with_reducible apply ix_div) | omega)
               · omega
               · omega
               all_goals (intro hc; first | omega | (conv => whnf)))
            | (with_reducible apply br_eq
               · repeat (first | with_reducible exact ix_nI | assumption | with_reducible apply ix_add | with_reducible apply ix_mul | (with_reducible apply ix_sub) | (with_reducible apply ix_upd) | (with_reducible apply ix_div) | omega)
               · repeat (first | with_reducible exact ix_nI | assumption | with_reducible apply ix_add | with_reducible apply ix_mul | (with_reducible apply ix_sub) | (with_reducible apply ix_upd) | (with_reducible apply ix_div) | omega)
               · omega
               · omega
               all_goals (intro hc; first | omega | (conv => whnf)))
            | (with_reducible apply br_ne
               · repeat (first | with_reducible exact ix_nI | assumption | with_reducible apply ix_add | with_reducible apply ix_mul | (with_reducible apply ix_sub) | (with_reducible apply ix_upd) | (with_reducible apply ix_div) | omega)
               · repeat (first | with_reducible exact ix_nI | assumption | with_reducible apply ix_add | with_reducible apply ix_mul | (with_reducible apply ix_sub) | (with_reducible apply ix_upd) | (with_reducible apply ix_div) | omega)
               · omega
               · omega
               all_goals (intro hc; first | omega | (conv => whnf)))
            | (with_reducible apply br_eq0
               · repeat (first | with_reducible exact ix_nI | assumption | with_reducible apply ix_add | with_reducible apply ix_mul | (with_reducible apply ix_sub) | (with_reducible apply ix_upd) | (with_reducible apply ix_div) | omega)
               · omega
               all_goals (intro hc; first | omega | (conv => whnf)))
            | (with_reducible apply br_ne0
               · repeat (first | with_reducible exact ix_nI | assumption | with_reducible apply ix_add | with_reducible apply ix_mul | (with_reducible apply ix_sub) | (with_reducible apply ix_upd) | (with_reducible apply ix_div) | omega)
               · omega
               all_goals (intro hc; first | omega | (conv => whnf)))
            | (with_reducible apply br_le0
               · repeat (first | with_reducible exact ix_nI | assumption | with_reducible apply ix_add | with_reducible apply ix_mul | (with_reducible apply ix_sub) | (with_reducible apply ix_upd) | (with_reducible apply ix_div) | omega)
               · omega
               all_goals (intro hc; first | omega | (conv => whnf)))
            | (with_reducible apply br_gt0
               · repeat (first | with_reducible exact ix_nI | assumption | with_reducible apply ix_add | with_reducible apply ix_mul | (with_reducible apply ix_sub) | (with_reducible apply ix_upd) | (with_reducible apply ix_div) | omega)
               · omega
               all_goals (intro hc; first | omega | (conv => whnf)))
            | (with_reducible apply br_lt0
               · repeat (first | with_reducible exact ix_nI | assumption | with_reducible apply ix_add | with_reducible apply ix_mul | (with_reducible apply ix_sub) | (with_reducible apply ix_upd) | (with_reducible apply ix_div) | omega)
               · omega
               conv => whnf)
            | (with_reducible apply br_ge0
               · repeat (first | with_reducible exact ix_nI | assumption | with_reducible apply ix_add | with_reducible apply ix_mul | (with_reducible apply ix_sub) | (with_reducible apply ix_upd) | (with_reducible apply ix_div) | omega)
               · omega
               conv => whnf)
            | (with_reducible apply br_tab
               · repeat (first | with_reducible exact ix_nI | assumption | with_reducible apply ix_add | with_reducible apply ix_mul | (with_reducible apply ix_sub) | (with_reducible apply ix_upd) | (with_reducible apply ix_div) | omega)
               · omega
               all_goals (intro hc; (try dsimp only at hc); first | omega | (conv => whnf)))
            | (refine And.intro (fun hc => ?_) (fun hc => ?_) <;> conv => whnf)
            | (refine And.intro (by decide) ?_; conv => whnf)
            | fail)
          refine wp_use hW ?_
          exact key3.le (by repeat' (first | exact trivial | refine And.intro rfl ?_))
        · intro k hk ih
          obtain ⟨f0, hf0, ef0⟩ := shL_nat (z := A.1) (p := p) (2 * k)
          have e1 : shOf (2 * k + 2) = nI (k + 1) := by
            unfold shOf
            rw [if_pos (by omega), show (2 * k + 2) / 2 = k + 1 by omega]
          have e2 : shOf (2 * k + 1 + 2) = -nI (k + 1) := by
            unfold shOf
            rw [if_neg (by omega), show (2 * k + 1 + 2) / 2 = k + 1 by omega]
          have s1 : shL A.1 p (2 * k + 1) = if wrongS A.1 p (nI (k + 1)) < (shL A.1 p (2 * k)).2 then (nI (k + 1), wrongS A.1 p (nI (k + 1))) else shL A.1 p (2 * k) := by
            rw [shL, e1]
          have s2 : shL A.1 p (2 * (k + 1)) = if wrongS A.1 p (-nI (k + 1)) < (shL A.1 p (2 * k + 1)).2 then (-nI (k + 1), wrongS A.1 p (-nI (k + 1))) else shL A.1 p (2 * k + 1) := by
            rw [show 2 * (k + 1) = 2 * k + 1 + 1 by omega, shL, e2]
          have keyB : wp G (d + 7) kX4_bestShift w.2.1 w.2.2 K 90 [some (.ref 0), some (.int (nI p)), some (.int (nI q)), some (.ref (1 + 5 + 2 * p)), some (.int (shL A.1 p (2 * k + 1)).1), some (.int (shL A.1 p (2 * k + 1)).2), some (.int (nI (k + 1))), none, none] [] h w := by
            refine wp_vc [55,115] 60 rfl fun W' C hW hC => ?_
            conv => whnf
            repeat' (first
              | (refine ⟨_, rfl, ?_⟩; conv => whnf)
              | (refine ⟨_, _, rfl, ⟨_, rfl, rfl⟩, ?_⟩; conv => whnf)
              | (refine ⟨_, _, rfl, ?_⟩
                 with_reducible apply ix_ex
                 · repeat (first | with_reducible exact ix_nI | assumption | with_reducible apply ix_add | with_reducible apply ix_mul | (with_reducible apply ix_sub) | (with_reducible apply ix_upd) | (with_reducible apply ix_div) | omega)
                 (refine ⟨⟨by omega, by decide⟩, ?_⟩; conv => whnf))
              | (with_reducible apply br_le
                 · repeat (first | with_reducible exact ix_nI | assumption | with_reducible apply ix_add | with_reducible apply ix_mul | (with_reducible apply ix_sub) | (with_reducible apply ix_upd) | (with_reducible apply ix_div) | omega)
                 · repeat (first | with_reducible exact ix_nI | assumption | with_reducible apply ix_add | with_reducible apply ix_mul | (with_reducible apply ix_sub) | (with_reducible apply ix_upd) | (with_reducible apply ix_div) | omega)
                 · omega
                 · omega
                 all_goals (intro hc; first | omega | (conv => whnf)))
              | (with_reducible apply br_lt
                 · repeat (first | with_reducible exact ix_nI | assumption | with_reducible apply ix_add | with_reducible apply ix_mul | (with_reducible apply ix_sub) | (with_reducible apply ix_upd) | (with_reducible apply ix_div) | omega)
                 · repeat (first | with_reducible exact ix_nI | assumption | with_reducible apply ix_add | with_reducible apply ix_mul | (with_reducible apply ix_sub) | (with_reducible apply ix_upd) | (with_reducible apply ix_div) | omega)
                 · omega
                 · omega
                 all_goals (intro hc; first | omega | (conv => whnf)))
              | (with_reducible apply br_eq
                 · repeat (first | with_reducible exact ix_nI | assumption | with_reducible apply ix_add | with_reducible apply ix_mul | (with_reducible apply ix_sub) | (with_reducible apply ix_upd) | (with_reducible apply ix_div) | omega)
                 · repeat (first | with_reducible exact ix_nI | assumption | with_reducible apply ix_add | with_reducible apply ix_mul | (with_reducible apply ix_sub) | (with_reducible apply ix_upd) | (with_reducible apply ix_div) | omega)
                 · omega
                 · omega
                 all_goals (intro hc; first | omega | (conv => whnf)))
              | (with_reducible apply br_ne
                 · repeat (first | with_reducible exact ix_nI | assumption | with_reducible apply ix_add | with_reducible apply ix_mul | (with_reducible apply ix_sub) | (with_reducible apply ix_upd) | (with_reducible apply ix_div) | omega)
                 · repeat (first | with_reducible exact ix_nI | assumption | with_reducible apply ix_add | with_reducible apply ix_mul | (with_reducible apply ix_sub) | (with_reducible apply ix_upd) | (with_reducible apply ix_div) | omega)
                 · omega
                 · omega
                 all_goals (intro hc; first | omega | (conv => whnf)))
              | (with_reducible apply br_eq0
                 · repeat (first | with_reducible exact ix_nI | assumption | with_reducible apply ix_add | with_reducible apply ix_mul | (with_reducible apply ix_sub) | (with_reducible apply ix_upd) | (with_reducible apply ix_div) | omega)
                 · omega
                 all_goals (intro hc; first | omega | (conv => whnf)))
              | (with_reducible apply br_ne0
                 · repeat (first | with_reducible exact ix_nI | assumption | with_reducible apply ix_add | with_reducible apply ix_mul | (with_reducible apply ix_sub) | (with_reducible apply ix_upd) | (with_reducible apply ix_div) | omega)
                 · omega
                 all_goals (intro hc; first | omega | (conv => whnf)))
              | (with_reducible apply br_le0
                 · repeat (first | with_reducible exact ix_nI | assumption | with_reducible apply ix_add | with_reducible apply ix_mul | (with_reducible apply ix_sub) | (with_reducible apply ix_upd) | (with_reducible apply ix_div) | omega)
                 · omega
                 all_goals (intro hc; first | omega | (conv => whnf)))
              | (with_reducible apply br_gt0
                 · repeat (first | with_reducible exact ix_nI | assumption | with_reducible apply ix_add | with_reducible apply ix_mul | (with_reducible apply ix_sub) | (with_reducible apply ix_upd) | (with_reducible apply ix_div) | omega)
                 · omega
                 all_goals (intro hc; first | omega | (conv => whnf)))
              | (with_reducible apply br_lt0
                 · repeat (first | with_reducible exact ix_nI | assumption | with_reducible apply ix_add | with_reducible apply ix_mul | (with_reducible apply ix_sub) | (with_reducible apply ix_upd) | (with_reducible apply ix_div) | omega)
                 · omega
                 conv => whnf)
              | (with_reducible apply br_ge0
                 · repeat (first | with_reducible exact ix_nI | assumption | with_reducible apply ix_add | with_reducible apply ix_mul | (with_reducible apply ix_sub) | (with_reducible apply ix_upd) | (with_reducible apply ix_div) | omega)
                 · omega
                 conv => whnf)
              | (with_reducible apply br_tab
                 · repeat (first | with_reducible exact ix_nI | assumption | with_reducible apply ix_add | with_reducible apply ix_mul | (with_reducible apply ix_sub) | (with_reducible apply ix_upd) | (with_reducible apply ix_div) | omega)
                 · omega
                 all_goals (intro hc; (try dsimp only at hc); first | omega | (conv => whnf)))
              | (refine cl_use hC (c_wrongByShift (hA.2.1.pg hp) eq fun r hr => ?_); rw [hws] at hr; subst hr; conv => whnf)
              | (refine And.intro (fun hc => ?_) (fun hc => ?_) <;> conv => whnf)
              | (refine And.intro (by decide) ?_; conv => whnf)
              | fail)
            · refine wp_use hW ?_
              rw [if_neg (Int32.not_lt.mpr hc)] at s2
              refine wp_vc [55] 60 rfl fun W' C hW hC => ?_
              conv => whnf
              repeat' (first
                | (refine ⟨_, rfl, ?_⟩; conv => whnf)
                | (refine ⟨_, _, rfl, ⟨_, rfl, rfl⟩, ?_⟩; conv => whnf)
                | (refine ⟨_, _, rfl, ?_⟩
                   with_reducible apply ix_ex
                   · repeat (first | with_reducible exact ix_nI | assumption | with_reducible apply ix_add | with_reducible apply ix_mul | (with_reducible apply ix_sub) | (with_reducible apply ix_upd) | (with_reducible apply ix_div) | omega)
                   (refine ⟨⟨by omega, by decide⟩, ?_⟩; conv => whnf))
                | (with_reducible apply br_le
                   · repeat (first | with_reducible exact ix_nI | assumption | with_reducible apply ix_add | with_reducible apply ix_mul | (with_reducible apply ix_sub) | (with_reducible apply ix_upd) | (with_reducible apply ix_div) | omega)
                   · repeat (first | with_reducible exact ix_nI | assumption | with_reducible apply ix_add | with_reducible apply ix_mul | (with_reducible apply ix_sub) | (with_reducible apply ix_upd) | (with_reducible apply ix_div) | omega)
                   · omega
                   · omega
                   all_goals (intro hc; first | omega | (conv => whnf)))
                | (with_reducible apply br_lt
                   · repeat (first | with_reducible exact ix_nI | assumption | with_reducible apply ix_add | with_reducible apply ix_mul | (with_reducible apply ix_sub) | (with_reducible apply ix_upd) | (with_reducible apply ix_div) | omega)
                   · repeat (first | with_reducible exact ix_nI | assumption | with_reducible apply ix_add | with_reducible apply ix_mul | (with_reducible apply ix_sub) | (with_reducible apply ix_upd) | (with_reducible apply ix_div) | omega)
                   · omega
                   · omega
                   all_goals (intro hc; first | omega | (conv => whnf)))
                | (with_reducible apply br_eq
                   · repeat (first | with_reducible exact ix_nI | assumption | with_reducible apply ix_add | with_reducible apply ix_mul | (with_reducible apply ix_sub) | (with_reducible apply ix_upd) | (with_reducible apply ix_div) | omega)
                   · repeat (first | with_reducible exact ix_nI | assumption | with_reducible apply ix_add | with_reducible apply ix_mul | (with_reducible apply ix_sub) | (with_reducible apply ix_upd) | (with_reducible apply ix_div) | omega)
                   · omega
                   · omega
                   all_goals (intro hc; first | omega | (conv => whnf)))
                | (with_reducible apply br_ne
                   · repeat (first | with_reducible exact ix_nI | assumption | with_reducible apply ix_add | with_reducible apply ix_mul | (with_reducible apply ix_sub) | (with_reducible apply ix_upd) | (with_reducible apply ix_div) | omega)
                   · repeat (first | with_reducible exact ix_nI | assumption | with_reducible apply ix_add | with_reducible apply ix_mul | (with_reducible apply ix_sub) | (with_reducible apply ix_upd) | (with_reducible apply ix_div) | omega)
                   · omega
                   · omega
                   all_goals (intro hc; first | omega | (conv => whnf)))
                | (with_reducible apply br_eq0
                   · repeat (first | with_reducible exact ix_nI | assumption | with_reducible apply ix_add | with_reducible apply ix_mul | (with_reducible apply ix_sub) | (with_reducible apply ix_upd) | (with_reducible apply ix_div) | omega)
                   · omega
                   all_goals (intro hc; first | omega | (conv => whnf)))
                | (with_reducible apply br_ne0
                   · repeat (first | with_reducible exact ix_nI | assumption | with_reducible apply ix_add | with_reducible apply ix_mul | (with_reducible apply ix_sub) | (with_reducible apply ix_upd) | (with_reducible apply ix_div) | omega)
                   · omega
                   all_goals (intro hc; first | omega | (conv => whnf)))
                | (with_reducible apply br_le0
                   · repeat (first | with_reducible exact ix_nI | assumption | with_reducible apply ix_add | with_reducible apply ix_mul | (with_reducible apply ix_sub) | (with_reducible apply ix_upd) | (with_reducible apply ix_div) | omega)
                   · omega
                   all_goals (intro hc; first | omega | (conv => whnf)))
                | (with_reducible apply br_gt0
                   · repeat (first | with_reducible exact ix_nI | assumption | with_reducible apply ix_add | with_reducible apply ix_mul | (with_reducible apply ix_sub) | (with_reducible apply ix_upd) | (with_reducible apply ix_div) | omega)
                   · omega
                   all_goals (intro hc; first | omega | (conv => whnf)))
                | (with_reducible apply br_lt0
                   · repeat (first | with_reducible exact ix_nI | assumption | with_reducible apply ix_add | with_reducible apply ix_mul | (with_reducible apply ix_sub) | (with_reducible apply ix_upd) | (with_reducible apply ix_div) | omega)
                   · omega
                   conv => whnf)
                | (with_reducible apply br_ge0
                   · repeat (first | with_reducible exact ix_nI | assumption | with_reducible apply ix_add | with_reducible apply ix_mul | (with_reducible apply ix_sub) | (with_reducible apply ix_upd) | (with_reducible apply ix_div) | omega)
                   · omega
                   conv => whnf)
                | (with_reducible apply br_tab
                   · repeat (first | with_reducible exact ix_nI | assumption | with_reducible apply ix_add | with_reducible apply ix_mul | (with_reducible apply ix_sub) | (with_reducible apply ix_upd) | (with_reducible apply ix_div) | omega)
                   · omega
                   all_goals (intro hc; (try dsimp only at hc); first | omega | (conv => whnf)))
                | (refine And.intro (fun hc => ?_) (fun hc => ?_) <;> conv => whnf)
                | (refine And.intro (by decide) ?_; conv => whnf)
                | fail)
              refine wp_use hW ?_
              rw [nI_add, ← s2]
              exact ih.le (by repeat' (first | exact trivial | refine And.intro rfl ?_))
            · refine wp_use hW ?_
              rw [if_pos (Int32.not_le.mp hc)] at s2
              rw [s2] at ih
              refine wp_vc [55] 60 rfl fun W' C hW hC => ?_
              conv => whnf
              repeat' (first
                | (refine ⟨_, rfl, ?_⟩; conv => whnf)
                | (refine ⟨_, _, rfl, ⟨_, rfl, rfl⟩, ?_⟩; conv => whnf)
                | (refine ⟨_, _, rfl, ?_⟩
                   with_reducible apply ix_ex
                   · repeat (first | with_reducible exact ix_nI | assumption | with_reducible apply ix_add | with_reducible apply ix_mul | (with_reducible apply ix_sub) | (with_reducible apply ix_upd) | (with_reducible apply ix_div) | omega)
                   (refine ⟨⟨by omega, by decide⟩, ?_⟩; conv => whnf))
                | (with_reducible apply br_le
                   · repeat (first | with_reducible exact ix_nI | assumption | with_reducible apply ix_add | with_reducible apply ix_mul | (with_reducible apply ix_sub) | (with_reducible apply ix_upd) | (with_reducible apply ix_div) | omega)
                   · repeat (first | with_reducible exact ix_nI | assumption | with_reducible apply ix_add | with_reducible apply ix_mul | (with_reducible apply ix_sub) | (with_reducible apply ix_upd) | (with_reducible apply ix_div) | omega)
                   · omega
                   · omega
                   all_goals (intro hc; first | omega | (conv => whnf)))
                | (with_reducible apply br_lt
                   · repeat (first | with_reducible exact ix_nI | assumption | with_reducible apply ix_add | with_reducible apply ix_mul | (with_reducible apply ix_sub) | (with_reducible apply ix_upd) | (with_reducible apply ix_div) | omega)
                   · repeat (first | with_reducible exact ix_nI | assumption | with_reducible apply ix_add | with_reducible apply ix_mul | (with_reducible apply ix_sub) | (with_reducible apply ix_upd) | (with_reducible apply ix_div) | omega)
                   · omega
                   · omega
                   all_goals (intro hc; first | omega | (conv => whnf)))
                | (with_reducible apply br_eq
                   · repeat (first | with_reducible exact ix_nI | assumption | with_reducible apply ix_add | with_reducible apply ix_mul | (with_reducible apply ix_sub) | (with_reducible apply ix_upd) | (with_reducible apply ix_div) | omega)
                   · repeat (first | with_reducible exact ix_nI | assumption | with_reducible apply ix_add | with_reducible apply ix_mul | (with_reducible apply ix_sub) | (with_reducible apply ix_upd) | (with_reducible apply ix_div) | omega)
                   · omega
                   · omega
                   all_goals (intro hc; first | omega | (conv => whnf)))
                | (with_reducible apply br_ne
                   · repeat (first | with_reducible exact ix_nI | assumption | with_reducible apply ix_add | with_reducible apply ix_mul | (with_reducible apply ix_sub) | (with_reducible apply ix_upd) | (with_reducible apply ix_div) | omega)
                   · repeat (first | with_reducible exact ix_nI | assumption | with_reducible apply ix_add | with_reducible apply ix_mul | (with_reducible apply ix_sub) | (with_reducible apply ix_upd) | (with_reducible apply ix_div) | omega)
                   · omega
                   · omega
                   all_goals (intro hc; first | omega | (conv => whnf)))
                | (with_reducible apply br_eq0
                   · repeat (first | with_reducible exact ix_nI | assumption | with_reducible apply ix_add | with_reducible apply ix_mul | (with_reducible apply ix_sub) | (with_reducible apply ix_upd) | (with_reducible apply ix_div) | omega)
                   · omega
                   all_goals (intro hc; first | omega | (conv => whnf)))
                | (with_reducible apply br_ne0
                   · repeat (first | with_reducible exact ix_nI | assumption | with_reducible apply ix_add | with_reducible apply ix_mul | (with_reducible apply ix_sub) | (with_reducible apply ix_upd) | (with_reducible apply ix_div) | omega)
                   · omega
                   all_goals (intro hc; first | omega | (conv => whnf)))
                | (with_reducible apply br_le0
                   · repeat (first | with_reducible exact ix_nI | assumption | with_reducible apply ix_add | with_reducible apply ix_mul | (with_reducible apply ix_sub) | (with_reducible apply ix_upd) | (with_reducible apply ix_div) | omega)
                   · omega
                   all_goals (intro hc; first | omega | (conv => whnf)))
                | (with_reducible apply br_gt0
                   · repeat (first | with_reducible exact ix_nI | assumption | with_reducible apply ix_add | with_reducible apply ix_mul | (with_reducible apply ix_sub) | (with_reducible apply ix_upd) | (with_reducible apply ix_div) | omega)
                   · omega
                   all_goals (intro hc; first | omega | (conv => whnf)))
                | (with_reducible apply br_lt0
                   · repeat (first | with_reducible exact ix_nI | assumption | with_reducible apply ix_add | with_reducible apply ix_mul | (with_reducible apply ix_sub) | (with_reducible apply ix_upd) | (with_reducible apply ix_div) | omega)
                   · omega
                   conv => whnf)
                | (with_reducible apply br_ge0
                   · repeat (first | with_reducible exact ix_nI | assumption | with_reducible apply ix_add | with_reducible apply ix_mul | (with_reducible apply ix_sub) | (with_reducible apply ix_upd) | (with_reducible apply ix_div) | omega)
                   · omega
                   conv => whnf)
                | (with_reducible apply br_tab
                   · repeat (first | with_reducible exact ix_nI | assumption | with_reducible apply ix_add | with_reducible apply ix_mul | (with_reducible apply ix_sub) | (with_reducible apply ix_upd) | (with_reducible apply ix_div) | omega)
                   · omega
                   all_goals (intro hc; (try dsimp only at hc); first | omega | (conv => whnf)))
                | (refine And.intro (fun hc => ?_) (fun hc => ?_) <;> conv => whnf)
                | (refine And.intro (by decide) ?_; conv => whnf)
                | fail)
              refine wp_use hW ?_
              rw [nI_add]
              exact ih.le (by repeat' (first | exact trivial | refine And.intro rfl ?_))
          refine wp_vc [55,90,121] 60 rfl fun W' C hW hC => ?_
          conv => whnf
          repeat' (first
            | (refine ⟨_, rfl, ?_⟩; conv => whnf)
            | (refine ⟨_, _, rfl, ⟨_, rfl, rfl⟩, ?_⟩; conv => whnf)
            | (refine ⟨_, _, rfl, ?_⟩
               with_reducible apply ix_ex
               · repeat (first | with_reducible exact ix_nI | assumption | with_reducible apply ix_add | with_reducible apply ix_mul | (with_reducible apply ix_sub) | (with_reducible apply ix_upd) | (with_reducible apply ix_div) | omega)
               (refine ⟨⟨by omega, by decide⟩, ?_⟩; conv => whnf))
            | (with_reducible apply br_le
               · repeat (first | with_reducible exact ix_nI | assumption | with_reducible apply ix_add | with_reducible apply ix_mul | (with_reducible apply ix_sub) | (with_reducible apply ix_upd) | (with_reducible apply ix_div) | omega)
               · repeat (first | with_reducible exact ix_nI | assumption | with_reducible apply ix_add | with_reducible apply ix_mul | (with_reducible apply ix_sub) | (with_reducible apply ix_upd) | (with_reducible apply ix_div) | omega)
               · omega
               · omega
               all_goals (intro hc; first | omega | (conv => whnf)))
            | (with_reducible apply br_lt
               · repeat (first | with_reducible exact ix_nI | assumption | with_reducible apply ix_add | with_reducible apply ix_mul | (with_reducible apply ix_sub) | (with_reducible apply ix_upd) | (with_reducible apply ix_div) | omega)
               · repeat (first | with_reducible exact ix_nI | assumption | with_reducible apply ix_add | with_reducible apply ix_mul | (with_reducible apply ix_sub) | (with_reducible apply ix_upd) | (with_reducible apply ix_div) | omega)
               · omega
               · omega
               all_goals (intro hc; first | omega | (conv => whnf)))
            | (with_reducible apply br_eq
               · repeat (first | with_reducible exact ix_nI | assumption | with_reducible apply ix_add | with_reducible apply ix_mul | (with_reducible apply ix_sub) | (with_reducible apply ix_upd) | (with_reducible apply ix_div) | omega)
               · repeat (first | with_reducible exact ix_nI | assumption | with_reducible apply ix_add | with_reducible apply ix_mul | (with_reducible apply ix_sub) | (with_reducible apply ix_upd) | (with_reducible apply ix_div) | omega)
               · omega
               · omega
               all_goals (intro hc; first | omega | (conv => whnf)))
            | (with_reducible apply br_ne
               · repeat (first | with_reducible exact ix_nI | assumption | with_reducible apply ix_add | with_reducible apply ix_mul | (with_reducible apply ix_sub) | (with_reducible apply ix_upd) | (with_reducible apply ix_div) | omega)
               · repeat (first | with_reducible exact ix_nI | assumption | with_reducible apply ix_add | with_reducible apply ix_mul | (with_reducible apply ix_sub) | (with_reducible apply ix_upd) | (with_reducible apply ix_div) | omega)
               · omega
               · omega
               all_goals (intro hc; first | omega | (conv => whnf)))
            | (with_reducible apply br_eq0
               · repeat (first | with_reducible exact ix_nI | assumption | with_reducible apply ix_add | with_reducible apply ix_mul | (with_reducible apply ix_sub) | (with_reducible apply ix_upd) | (with_reducible apply ix_div) | omega)
               · omega
               all_goals (intro hc; first | omega | (conv => whnf)))
            | (with_reducible apply br_ne0
               · repeat (first | with_reducible exact ix_nI | assumption | with_reducible apply ix_add | with_reducible apply ix_mul | (with_reducible apply ix_sub) | (with_reducible apply ix_upd) | (with_reducible apply ix_div) | omega)
               · omega
               all_goals (intro hc; first | omega | (conv => whnf)))
            | (with_reducible apply br_le0
               · repeat (first | with_reducible exact ix_nI | assumption | with_reducible apply ix_add | with_reducible apply ix_mul | (with_reducible apply ix_sub) | (with_reducible apply ix_upd) | (with_reducible apply ix_div) | omega)
               · omega
               all_goals (intro hc; first | omega | (conv => whnf)))
            | (with_reducible apply br_gt0
               · repeat (first | with_reducible exact ix_nI | assumption | with_reducible apply ix_add | with_reducible apply ix_mul | (with_reducible apply ix_sub) | (with_reducible apply ix_upd) | (with_reducible apply ix_div) | omega)
               · omega
               all_goals (intro hc; first | omega | (conv => whnf)))
            | (with_reducible apply br_lt0
               · repeat (first | with_reducible exact ix_nI | assumption | with_reducible apply ix_add | with_reducible apply ix_mul | (with_reducible apply ix_sub) | (with_reducible apply ix_upd) | (with_reducible apply ix_div) | omega)
               · omega
               conv => whnf)
            | (with_reducible apply br_ge0
               · repeat (first | with_reducible exact ix_nI | assumption | with_reducible apply ix_add | with_reducible apply ix_mul | (with_reducible apply ix_sub) | (with_reducible apply ix_upd) | (with_reducible apply ix_div) | omega)
               · omega
               conv => whnf)
            | (with_reducible apply br_tab
               · repeat (first | with_reducible exact ix_nI | assumption | with_reducible apply ix_add | with_reducible apply ix_mul | (with_reducible apply ix_sub) | (with_reducible apply ix_upd) | (with_reducible apply ix_div) | omega)
               · omega
               all_goals (intro hc; (try dsimp only at hc); first | omega | (conv => whnf)))
            | (refine cl_use hC (c_wrongByShift (hA.2.1.pg hp) eq fun r hr => ?_); rw [hws] at hr; subst hr; conv => whnf)
            | (refine And.intro (fun hc => ?_) (fun hc => ?_) <;> conv => whnf)
            | (refine And.intro (by decide) ?_; conv => whnf)
            | fail)
          · refine wp_use hW ?_
            have h0 : ¬ 0 < (shL A.1 p (2 * k)).2 := by
              rw [ef0, hc]
              decide
            rw [← shL_stays h0 (120 - 2 * k), show 2 * k + (120 - 2 * k) = 120 by omega]
            exact key3.le (by repeat' (first | exact trivial | refine And.intro rfl ?_))
          · refine wp_use hW ?_
            rw [if_neg (Int32.not_lt.mpr hc)] at s1
            rw [s1] at keyB
            exact keyB.le (by repeat' (first | exact trivial | refine And.intro rfl ?_))
          · refine wp_use hW ?_
            rw [if_pos (Int32.not_le.mp hc)] at s1
            rw [s1] at keyB
            exact keyB.le (by repeat' (first | exact trivial | refine And.intro rfl ?_))
      · rw [if_pos hc] at h9
        exact h9
    repeat' (first
      | (refine ⟨_, rfl, ?_⟩; conv => whnf)
      | (refine ⟨_, _, rfl, ⟨_, rfl, rfl⟩, ?_⟩; conv => whnf)
      | (refine ⟨_, _, rfl, ?_⟩
         with_reducible apply ix_ex
         · repeat (first | with_reducible exact ix_nI | assumption | with_reducible apply ix_add | with_reducible apply ix_mul | (with_reducible apply ix_sub) | (with_reducible apply ix_upd) | (with_reducible apply ix_div) | omega)
         (refine ⟨⟨by omega, by decide⟩, ?_⟩; conv => whnf))
      | (with_reducible apply br_le
         · repeat (first | with_reducible exact ix_nI | assumption | with_reducible apply ix_add | with_reducible apply ix_mul | (with_reducible apply ix_sub) | (with_reducible apply ix_upd) | (with_reducible apply ix_div) | omega)
         · repeat (first | with_reducible exact ix_nI | assumption | with_reducible apply ix_add | with_reducible apply ix_mul | (with_reducible apply ix_sub) | (with_reducible apply ix_upd) | (with_reducible apply ix_div) | omega)
         · omega
         · omega
         all_goals (intro hc; first | omega | (conv => whnf)))
      | (with_reducible apply br_lt
         · repeat (first | with_reducible exact ix_nI | assumption | with_reducible apply ix_add | with_reducible apply ix_mul | (with_reducible apply ix_sub) | (with_reducible apply ix_upd) | (with_reducible apply ix_div) | omega)
         · repeat (first | with_reducible exact ix_nI | assumption | with_reducible apply ix_add | with_reducible apply ix_mul | (with_reducible apply ix_sub) | (with_reducible apply ix_upd) | (with_reducible apply ix_div) | omega)
         · omega
         · omega
         all_goals (intro hc; first | omega | (conv => whnf)))
      | (with_reducible apply br_eq
         · repeat (first | with_reducible exact ix_nI | assumption | with_reducible apply ix_add | with_reducible apply ix_mul | (with_reducible apply ix_sub) | (with_reducible apply ix_upd) | (with_reducible apply ix_div) | omega)
         · repeat (first | with_reducible exact ix_nI | assumption | with_reducible apply ix_add | with_reducible apply ix_mul | (with_reducible apply ix_sub) | (with_reducible apply ix_upd) | (with_reducible apply ix_div) | omega)
         · omega
         · omega
         all_goals (intro hc; first | omega | (conv => whnf)))
      | (with_reducible apply br_ne
         · repeat (first | with_reducible exact ix_nI | assumption | with_reducible apply ix_add | with_reducible apply ix_mul | (with_reducible apply ix_sub) | (with_reducible apply ix_upd) | (with_reducible apply ix_div) | omega)
         · repeat (first | with_reducible exact ix_nI | assumption | with_reducible apply ix_add | with_reducible apply ix_mul | (with_reducible apply ix_sub) | (with_reducible apply ix_upd) | (with_reducible apply ix_div) | omega)
         · omega
         · omega
         all_goals (intro hc; first | omega | (conv => whnf)))
      | (with_reducible apply br_eq0
         · repeat (first | with_reducible exact ix_nI | assumption | with_reducible apply ix_add | with_reducible apply ix_mul | (with_reducible apply ix_sub) | (with_reducible apply ix_upd) | (with_reducible apply ix_div) | omega)
         · omega
         all_goals (intro hc; first | omega | (conv => whnf)))
      | (with_reducible apply br_ne0
         · repeat (first | with_reducible exact ix_nI | assumption | with_reducible apply ix_add | with_reducible apply ix_mul | (with_reducible apply ix_sub) | (with_reducible apply ix_upd) | (with_reducible apply ix_div) | omega)
         · omega
         all_goals (intro hc; first | omega | (conv => whnf)))
      | (with_reducible apply br_le0
         · repeat (first | with_reducible exact ix_nI | assumption | with_reducible apply ix_add | with_reducible apply ix_mul | (with_reducible apply ix_sub) | (with_reducible apply ix_upd) | (with_reducible apply ix_div) | omega)
         · omega
         all_goals (intro hc; first | omega | (conv => whnf)))
      | (with_reducible apply br_gt0
         · repeat (first | with_reducible exact ix_nI | assumption | with_reducible apply ix_add | with_reducible apply ix_mul | (with_reducible apply ix_sub) | (with_reducible apply ix_upd) | (with_reducible apply ix_div) | omega)
         · omega
         all_goals (intro hc; first | omega | (conv => whnf)))
      | (with_reducible apply br_lt0
         · repeat (first | with_reducible exact ix_nI | assumption | with_reducible apply ix_add | with_reducible apply ix_mul | (with_reducible apply ix_sub) | (with_reducible apply ix_upd) | (with_reducible apply ix_div) | omega)
         · omega
         conv => whnf)
      | (with_reducible apply br_ge0
         · repeat (first | with_reducible exact ix_nI | assumption | with_reducible apply ix_add | with_reducible apply ix_mul | (with_reducible apply ix_sub) | (with_reducible apply ix_upd) | (with_reducible apply ix_div) | omega)
         · omega
         conv => whnf)
      | (with_reducible apply br_tab
         · repeat (first | with_reducible exact ix_nI | assumption | with_reducible apply ix_add | with_reducible apply ix_mul | (with_reducible apply ix_sub) | (with_reducible apply ix_upd) | (with_reducible apply ix_div) | omega)
         · omega
         all_goals (intro hc; (try dsimp only at hc); first | omega | (conv => whnf)))
      | (refine And.intro (by omega) ?_; conv => whnf)
      | (refine And.intro (fun hc => ?_) (fun hc => ?_) <;> conv => whnf)
      | (refine And.intro (by decide) ?_; conv => whnf)
      | fail)
    · refine wp_use hW ?_
      exact (key 0 (by omega) hc).le (by repeat' (first | exact trivial | refine And.intro rfl ?_))
    · refine wp_use hW ?_
      exact (key 1 (by omega) hc).le (by repeat' (first | exact trivial | refine And.intro rfl ?_))
    · rename_i hc0
      rw [if_neg (fun q => by
        obtain ⟨k, hk, e⟩ := inN_of (n := 2) (by omega) q.1 q.2
        rcases (show k = 0 ∨ k = 1 by omega) with g | g
        · exact hc0 (by rw [e, g]; rfl)
        · exact hc (by rw [e, g]))] at hK
      exact hK.2.2 rfl
  · rw [if_neg g] at hK
    exact hK.2.1 rfl
end C12
