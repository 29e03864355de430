/-! ===== the model: pure helpers ===== -/
section M1
variable {G : GG} {d : Nat} {h0 h : AH} {u : MS} {w : W3} {K : AO → AH → W3 → Prop}
theorem m_within {x lo hi : Int32} (hK : ∀ r, r = (if x < lo then nI 0 else if hi < x then nI 0 else nI 1) → K (.inl (some (.int r))) h w) : Cl G d kX5_within [.int x, .int lo, .int hi] h w K := by
  refine Cl.of (by decide) rfl ?_
  refine wp_vc [] 40 rfl fun W' C hW hC => ?_
  conv => whnf
  refine ⟨fun h1 => ?_, fun h1 => ?_⟩ <;> conv => whnf
  · exact ⟨Or.inl rfl, hK _ (by rw [if_pos h1])⟩
  · refine ⟨fun h2 => ?_, fun h2 => ?_⟩ <;> conv => whnf
    · exact ⟨Or.inl rfl, hK _ (by rw [if_neg h1, if_pos h2])⟩
    · exact ⟨Or.inr rfl, hK _ (by rw [if_neg h1, if_neg h2])⟩
theorem m_levelOf {x : Int32} (hK : ∀ r, r = lvO x → K (.inl (some (.int r))) h w) : Cl G d kX5_levelOf [.int x] h w K := by
  refine Cl.of (by decide) rfl ?_
  refine wp_vc [] 40 rfl fun W' C hW hC => ?_
  conv => whnf
  repeat' (first
    | (refine ⟨_, rfl, ?_⟩; conv => whnf)
    | (refine ⟨_, _, rfl, ⟨_, rfl, rfl⟩, ?_⟩; conv => whnf)
    | (refine ⟨_, _, rfl, ?_⟩
       with_reducible apply ix_ex
       · repeat (first | with_reducible exact ix_nI | assumption | with_reducible apply ix_add | with_reducible apply ix_mul | (with_reducible apply ix_sub) | (with_reducible apply ix_upd) | (with_reducible apply ix_div) | omega)
       (refine ⟨⟨by omega, by decide⟩, ?_⟩; conv => whnf))
    | (with_reducible apply br_le
       · repeat (first | with_reducible exact ix_nI | assumption | with_reducible apply ix_add | with_reducible apply ix_mul | (with_reducible apply ix_sub) | (with_reducible apply ix_upd) | (with_reducible apply ix_div) | omega)
       · repeat (first | with_reducible exact ix_nI | assumption | with_reducible apply ix_add | with_reducible apply ix_mul | (with_reducible apply ix_sub) | (with_reducible apply ix_upd) | (with_reducible apply ix_div) | omega)
       · omega
       · omega
       all_goals (intro hc; first | omega | (conv => whnf)))
    | (with_reducible apply br_lt
       · repeat (first | with_reducible exact ix_nI | assumption | with_reducible apply ix_add | with_reducible apply ix_mul | (with_reducible apply ix_sub) | (with_reducible apply ix_upd) | (with_reducible apply ix_div) | omega)
       · repeat (first | with_reducible exact ix_nI | assumption | with_reducible apply ix_add | with_reducible apply ix_mul | (with_reducible apply ix_sub) | (with_reducible apply ix_upd) | (with_reducible apply ix_div) | omega)
       · omega
       · omega
       all_goals (intro hc; first | omega | (conv => whnf)))
    | (with_reducible apply br_eq
       · repeat (first | with_reducible exact ix_nI | assumption | with_reducible apply ix_add | with_reducible apply ix_mul | (with_reducible apply ix_sub) | (with_reducible apply ix_upd) | (with_reducible apply ix_div) | omega)
       · repeat (first | with_reducible exact ix_nI | assumption | with_reducible apply ix_add | with_reducible apply ix_mul | (with_reducible apply ix_sub) | (with_reducible apply ix_upd) | (with_reducible apply ix_div) | omega)
       · omega
       · omega
       all_goals (intro hc; first | omega | (conv => whnf)))
    | (with_reducible apply br_ne
       · repeat (first | with_reducible exact ix_nI | assumption | with_reducible apply ix_add | with_reducible apply ix_mul | (with_reducible apply ix_sub) | (with_reducible apply ix_upd) | (with_reducible apply ix_div) | omega)
       · repeat (first | with_reducible exact ix_nI | assumption | with_reducible apply ix_add | with_reducible apply ix_mul | (with_reducible apply ix_sub) | (with_reducible apply ix_upd) | (with_reducible apply ix_div) | omega)
       · omega
       · omega
       all_goals (intro hc; first | omega | (conv => whnf)))
    | (with_reducible apply br_eq0
       · repeat (first | with_reducible exact ix_nI | assumption | with_reducible apply ix_add | with_reducible apply ix_mul | (with_reducible apply ix_sub) | (with_reducible apply ix_upd) | (with_reducible apply ix_div) | omega)
       · omega
       all_goals (intro hc; first | omega | (conv => whnf)))
    | (with_reducible apply br_ne0
       · repeat (first | with_reducible exact ix_nI | assumption | with_reducible apply ix_add | with_reducible apply ix_mul | (with_reducible apply ix_sub) | (with_reducible apply ix_upd) | (with_reducible apply ix_div) | omega)
       · omega
       all_goals (intro hc; first | omega | (conv => whnf)))
    | (with_reducible apply br_le0
       · repeat (first | with_reducible exact ix_nI | assumption | with_reducible apply ix_add | with_reducible apply ix_mul | (with_reducible apply ix_sub) | (with_reducible apply ix_upd) | (with_reducible apply ix_div) | omega)
       · omega
       all_goals (intro hc; first | omega | (conv => whnf)))
    | (with_reducible apply br_gt0
       · repeat (first | with_reducible exact ix_nI | assumption | with_reducible apply ix_add | with_reducible apply ix_mul | (with_reducible apply ix_sub) | (with_reducible apply ix_upd) | (with_reducible apply ix_div) | omega)
       · omega
       all_goals (intro hc; first | omega | (conv => whnf)))
    | (with_reducible apply br_lt0
       · repeat (first | with_reducible exact ix_nI | assumption | with_reducible apply ix_add | with_reducible apply ix_mul | (with_reducible apply ix_sub) | (with_reducible apply ix_upd) | (with_reducible apply ix_div) | omega)
       · omega
       conv => whnf)
    | (with_reducible apply br_ge0
       · repeat (first | with_reducible exact ix_nI | assumption | with_reducible apply ix_add | with_reducible apply ix_mul | (with_reducible apply ix_sub) | (with_reducible apply ix_upd) | (with_reducible apply ix_div) | omega)
       · omega
       conv => whnf)
    | (with_reducible apply br_tab
       · repeat (first | with_reducible exact ix_nI | assumption | with_reducible apply ix_add | with_reducible apply ix_mul | (with_reducible apply ix_sub) | (with_reducible apply ix_upd) | (with_reducible apply ix_div) | omega)
       · omega
       all_goals (intro hc; first | omega | (conv => whnf)))
    | (refine And.intro (fun hc => ?_) (fun hc => ?_) <;> conv => whnf)
    | (refine And.intro (by decide) ?_; conv => whnf)
    | fail)
  all_goals ((refine hK _ ?_; unfold lvO; repeat' split) <;> first | rfl | contradiction)
theorem m_bitsOf {x : Int32} (hK : ∀ r, r = btO x → K (.inl (some (.int r))) h w) : Cl G d kX5_bitsOf [.int x] h w K := by
  refine Cl.of (by decide) rfl ?_
  refine wp_vc [] 40 rfl fun W' C hW hC => ?_
  conv => whnf
  repeat' (first
    | (refine ⟨_, rfl, ?_⟩; conv => whnf)
    | (refine ⟨_, _, rfl, ⟨_, rfl, rfl⟩, ?_⟩; conv => whnf)
    | (refine ⟨_, _, rfl, ?_⟩
       with_reducible apply ix_ex
       · repeat (first | with_reducible exact ix_nI | assumption | with_reducible apply ix_add | with_reducible apply ix_mul | (with_reducible apply ix_sub) | (with_reducible apply ix_upd) | (with_reducible apply ix_div) | omega)
       (refine ⟨⟨by omega, by decide⟩, ?_⟩; conv => whnf))
    | (with_reducible apply br_le
       · repeat (first | with_reducible exact ix_nI | assumption | with_reducible apply ix_add | with_reducible apply ix_mul | (with_reducible apply ix_sub) | (with_reducible apply ix_upd) | (with_reducible apply ix_div) | omega)
       · repeat (first | with_reducible exact ix_nI | assumption | with_reducible apply ix_add | with_reducible apply ix_mul | (with_reducible apply ix_sub) | (with_reducible apply ix_upd) | (with_reducible apply ix_div) | omega)
       · omega
       · omega
       all_goals (intro hc; first | omega | (conv => whnf)))
    | (with_reducible apply br_lt
       · repeat (first | with_reducible exact ix_nI | assumption | with_reducible apply ix_add | with_reducible apply ix_mul | (with_reducible apply ix_sub) | (with_reducible apply ix_upd) | (with_reducible apply ix_div) | omega)
       · repeat (first | with_reducible exact ix_nI | assumption | with_reducible apply ix_add | with_reducible apply ix_mul | (with_reducible apply ix_sub) | (with_reducible apply ix_upd) | (with_reducible apply ix_div) | omega)
       · omega
       · omega
       all_goals (intro hc; first | omega | (conv => whnf)))
    | (with_reducible apply br_eq
       · repeat (first | with_reducible exact ix_nI | assumption | with_reducible apply ix_add | with_reducible apply ix_mul | (with_reducible apply ix_sub) | (with_reducible apply ix_upd) | (with_reducible apply ix_div) | omega)
       · repeat (first | with_reducible exact ix_nI | assumption | with_reducible apply ix_add | with_reducible apply ix_mul | (with_reducible apply ix_sub) | (with_reducible apply ix_upd) | (with_reducible apply ix_div) | omega)
       · omega
       · omega
       all_goals (intro hc; first | omega | (conv => whnf)))
    | (with_reducible apply br_ne
       · repeat (first | with_reducible exact ix_nI | assumption | with_reducible apply ix_add | with_reducible apply ix_mul | (with_reducible apply ix_sub) | (with_reducible apply ix_upd) | (with_reducible apply ix_div) | omega)
       · repeat (first | with_reducible exact ix_nI | assumption | with_reducible apply ix_add | with_reducible apply ix_mul | (with_reducible apply ix_sub) | (with_reducible apply ix_upd) | (with_reducible apply ix_div) | omega)
       · omega
       · omega
       all_goals (intro hc; first | omega | (conv => whnf)))
    | (with_reducible apply br_eq0
       · repeat (first | with_reducible exact ix_nI | assumption | with_reducible apply ix_add | with_reducible apply ix_mul | (with_reducible apply ix_sub) | (with_reducible apply ix_upd) | (with_reducible apply ix_div) | omega)
       · omega
       all_goals (intro hc; first | omega | (conv => whnf)))
    | (with_reducible apply br_ne0
       · repeat (first | with_reducible exact ix_nI | assumption | with_reducible apply ix_add | with_reducible apply ix_mul | (with_reducible apply ix_sub) | (with_reducible apply ix_upd) | (with_reducible apply ix_div) | omega)
       · omega
       all_goals (intro hc; first | omega | (conv => whnf)))
    | (with_reducible apply br_le0
       · repeat (first | with_reducible exact ix_nI | assumption | with_reducible apply ix_add | with_reducible apply ix_mul | (with_reducible apply ix_sub) | (with_reducible apply ix_upd) | (with_reducible apply ix_div) | omega)
       · omega
       all_goals (intro hc; first | omega | (conv => whnf)))
    | (with_reducible apply br_gt0
       · repeat (first | with_reducible exact ix_nI | assumption | with_reducible apply ix_add | with_reducible apply ix_mul | (with_reducible apply ix_sub) | (with_reducible apply ix_upd) | (with_reducible apply ix_div) | omega)
       · omega
       all_goals (intro hc; first | omega | (conv => whnf)))
    | (with_reducible apply br_lt0
       · repeat (first | with_reducible exact ix_nI | assumption | with_reducible apply ix_add | with_reducible apply ix_mul | (with_reducible apply ix_sub) | (with_reducible apply ix_upd) | (with_reducible apply ix_div) | omega)
       · omega
       conv => whnf)
    | (with_reducible apply br_ge0
       · repeat (first | with_reducible exact ix_nI | assumption | with_reducible apply ix_add | with_reducible apply ix_mul | (with_reducible apply ix_sub) | (with_reducible apply ix_upd) | (with_reducible apply ix_div) | omega)
       · omega
       conv => whnf)
    | (with_reducible apply br_tab
       · repeat (first | with_reducible exact ix_nI | assumption | with_reducible apply ix_add | with_reducible apply ix_mul | (with_reducible apply ix_sub) | (with_reducible apply ix_upd) | (with_reducible apply ix_div) | omega)
       · omega
       all_goals (intro hc; first | omega | (conv => whnf)))
    | (refine And.intro (fun hc => ?_) (fun hc => ?_) <;> conv => whnf)
    | (refine And.intro (by decide) ?_; conv => whnf)
    | fail)
  all_goals ((refine hK _ ?_; unfold btO; repeat' split) <;> first | rfl | contradiction)
theorem m_held {x : Int32} (hK : ∀ r, r = heldI x → K (.inl (some (.int r))) h w) : Cl G d kX5_held [.int x] h w K := by
  refine Cl.of (by decide) rfl ?_
  refine wp_vc [] 40 rfl fun W' C hW hC => ?_
  conv => whnf
  repeat' (first
    | (refine ⟨_, rfl, ?_⟩; conv => whnf)
    | (refine ⟨_, _, rfl, ⟨_, rfl, rfl⟩, ?_⟩; conv => whnf)
    | (refine ⟨_, _, rfl, ?_⟩
       with_reducible apply ix_ex
       · repeat (first | with_reducible exact ix_nI | assumption | with_reducible apply ix_add | with_reducible apply ix_mul | (with_reducible apply ix_sub) | (with_reducible apply ix_upd) | (with_reducible apply ix_div) | omega)
       (refine ⟨⟨by omega, by decide⟩, ?_⟩; conv => whnf))
    | (with_reducible apply br_le
       · repeat (first | with_reducible exact ix_nI | assumption | with_reducible apply ix_add | with_reducible apply ix_mul | (with_reducible apply ix_sub) | (with_reducible apply ix_upd) | (with_reducible apply ix_div) | omega)
       · repeat (first | with_reducible exact ix_nI | assumption | with_reducible apply ix_add | with_reducible apply ix_mul | (with_reducible apply ix_sub) | (with_reducible apply ix_upd) | (with_reducible apply ix_div) | omega)
       · omega
       · omega
       all_goals (intro hc; first | omega | (conv => whnf)))
    | (with_reducible apply br_lt
       · repeat (first | with_reducible exact ix_nI | assumption | with_reducible apply ix_add | with_reducible apply ix_mul | (with_reducible apply ix_sub) | (with_reducible apply ix_upd) | (with_reducible apply ix_div) | omega)
       · repeat (first | with_reducible exact ix_nI | assumption | with_reducible apply ix_add | with_reducible apply ix_mul | (with_reducible apply ix_sub) | (with_reducible apply ix_upd) | (with_reducible apply ix_div) | omega)
       · omega
       · omega
       all_goals (intro hc; first | omega | (conv => whnf)))
    | (with_reducible apply br_eq
       · repeat (first | with_reducible exact ix_nI | assumption | with_reducible apply ix_add | with_reducible apply ix_mul | (with_reducible apply ix_sub) | (with_reducible apply ix_upd) | (with_reducible apply ix_div) | omega)
       · repeat (first | with_reducible exact ix_nI | assumption | with_reducible apply ix_add | with_reducible apply ix_mul | (with_reducible apply ix_sub) | (with_reducible apply ix_upd) | (with_reducible apply ix_div) | omega)
       · omega
       · omega
       all_goals (intro hc; first | omega | (conv => whnf)))
    | (with_reducible apply br_ne
       · repeat (first | with_reducible exact ix_nI | assumption | with_reducible apply ix_add | with_reducible apply ix_mul | (with_reducible apply ix_sub) | (with_reducible apply ix_upd) | (with_reducible apply ix_div) | omega)
       · repeat (first | with_reducible exact ix_nI | assumption | with_reducible apply ix_add | with_reducible apply ix_mul | (with_reducible apply ix_sub) | (with_reducible apply ix_upd) | (with_reducible apply ix_div) | omega)
       · omega
       · omega
       all_goals (intro hc; first | omega | (conv => whnf)))
    | (with_reducible apply br_eq0
       · repeat (first | with_reducible exact ix_nI | assumption | with_reducible apply ix_add | with_reducible apply ix_mul | (with_reducible apply ix_sub) | (with_reducible apply ix_upd) | (with_reducible apply ix_div) | omega)
       · omega
       all_goals (intro hc; first | omega | (conv => whnf)))
    | (with_reducible apply br_ne0
       · repeat (first | with_reducible exact ix_nI | assumption | with_reducible apply ix_add | with_reducible apply ix_mul | (with_reducible apply ix_sub) | (with_reducible apply ix_upd) | (with_reducible apply ix_div) | omega)
       · omega
       all_goals (intro hc; first | omega | (conv => whnf)))
    | (with_reducible apply br_le0
       · repeat (first | with_reducible exact ix_nI | assumption | with_reducible apply ix_add | with_reducible apply ix_mul | (with_reducible apply ix_sub) | (with_reducible apply ix_upd) | (with_reducible apply ix_div) | omega)
       · omega
       all_goals (intro hc; first | omega | (conv => whnf)))
    | (with_reducible apply br_gt0
       · repeat (first | with_reducible exact ix_nI | assumption | with_reducible apply ix_add | with_reducible apply ix_mul | (with_reducible apply ix_sub) | (with_reducible apply ix_upd) | (with_reducible apply ix_div) | omega)
       · omega
       all_goals (intro hc; first | omega | (conv => whnf)))
    | (with_reducible apply br_lt0
       · repeat (first | with_reducible exact ix_nI | assumption | with_reducible apply ix_add | with_reducible apply ix_mul | (with_reducible apply ix_sub) | (with_reducible apply ix_upd) | (with_reducible apply ix_div) | omega)
       · omega
       conv => whnf)
    | (with_reducible apply br_ge0
       · repeat (first | with_reducible exact ix_nI | assumption | with_reducible apply ix_add | with_reducible apply ix_mul | (with_reducible apply ix_sub) | (with_reducible apply ix_upd) | (with_reducible apply ix_div) | omega)
       · omega
       conv => whnf)
    | (with_reducible apply br_tab
       · repeat (first | with_reducible exact ix_nI | assumption | with_reducible apply ix_add | with_reducible apply ix_mul | (with_reducible apply ix_sub) | (with_reducible apply ix_upd) | (with_reducible apply ix_div) | omega)
       · omega
       all_goals (intro hc; first | omega | (conv => whnf)))
    | (refine And.intro (fun hc => ?_) (fun hc => ?_) <;> conv => whnf)
    | (refine And.intro (by decide) ?_; conv => whnf)
    | fail)
  all_goals ((refine hK _ ?_; unfold heldI; repeat' split) <;> first | rfl | contradiction)
theorem m_readAs {q a b c : Int32} (hK : ∀ r, r = rdAs q a b c → K (.inl (some (.int r))) h w) : Cl G d kX5_readAs [.int q, .int a, .int b, .int c] h w K := by
  refine Cl.of (by decide) rfl ?_
  refine wp_vc [] 60 rfl fun W' C hW hC => ?_
  conv => whnf
  repeat' (first
    | (refine ⟨_, rfl, ?_⟩; conv => whnf)
    | (refine ⟨_, _, rfl, ⟨_, rfl, rfl⟩, ?_⟩; conv => whnf)
    | (refine ⟨_, _, rfl, ?_⟩
       with_reducible apply ix_ex
       · repeat (first | with_reducible exact ix_nI | assumption | with_reducible apply ix_add | with_reducible apply ix_mul | (with_reducible apply ix_sub) | (with_reducible apply ix_upd) | (with_reducible apply ix_div) | omega)
       (refine ⟨⟨by omega, by decide⟩, ?_⟩; conv => whnf))
    | (with_reducible apply br_le
       · repeat (first | with_reducible exact ix_nI | assumption | with_reducible apply ix_add | with_reducible apply ix_mul | (with_reducible apply ix_sub) | (with_reducible apply ix_upd) | (with_reducible apply ix_div) | omega)
       · repeat (first | with_reducible exact ix_nI | assumption | with_reducible apply ix_add | with_reducible apply ix_mul | (with_reducible apply ix_sub) | (with_reducible apply ix_upd) | (with_reducible apply ix_div) | omega)
       · omega
       · omega
       all_goals (intro hc; first | omega | (conv => whnf)))
    | (with_reducible apply br_lt
       · repeat (first | with_reducible exact ix_nI | assumption | with_reducible apply ix_add | with_reducible apply ix_mul | (with_reducible apply ix_sub) | (with_reducible apply ix_upd) | (with_reducible apply ix_div) | omega)
       · repeat (first | with_reducible exact ix_nI | assumption | with_reducible apply ix_add | with_reducible apply ix_mul | (with_reducible apply ix_sub) | (with_reducible apply ix_upd) | (with_reducible apply ix_div) | omega)
       · omega
       · omega
       all_goals (intro hc; first | omega | (conv => whnf)))
    | (with_reducible apply br_eq
       · repeat (first | with_reducible exact ix_nI | assumption | with_reducible apply ix_add | with_reducible apply ix_mul | (with_reducible apply ix_sub) | (with_reducible apply ix_upd) | (with_reducible apply ix_div) | omega)
       · repeat (first | with_reducible exact ix_nI | assumption | with_reducible apply ix_add | with_reducible apply ix_mul | (with_reducible apply ix_sub) | (with_reducible apply ix_upd) | (with_reducible apply ix_div) | omega)
       · omega
       · omega
       all_goals (intro hc; first | omega | (conv => whnf)))
    | (with_reducible apply br_ne
       · repeat (first | with_reducible exact ix_nI | assumption | with_reducible apply ix_add | with_reducible apply ix_mul | (with_reducible apply ix_sub) | (with_reducible apply ix_upd) | (with_reducible apply ix_div) | omega)
       · repeat (first | with_reducible exact ix_nI | assumption | with_reducible apply ix_add | with_reducible apply ix_mul | (with_reducible apply ix_sub) | (with_reducible apply ix_upd) | (with_reducible apply ix_div) | omega)
       · omega
       · omega
       all_goals (intro hc; first | omega | (conv => whnf)))
    | (with_reducible apply br_eq0
       · repeat (first | with_reducible exact ix_nI | assumption | with_reducible apply ix_add | with_reducible apply ix_mul | (with_reducible apply ix_sub) | (with_reducible apply ix_upd) | (with_reducible apply ix_div) | omega)
       · omega
       all_goals (intro hc; first | omega | (conv => whnf)))
    | (with_reducible apply br_ne0
       · repeat (first | with_reducible exact ix_nI | assumption | with_reducible apply ix_add | with_reducible apply ix_mul | (with_reducible apply ix_sub) | (with_reducible apply ix_upd) | (with_reducible apply ix_div) | omega)
       · omega
       all_goals (intro hc; first | omega | (conv => whnf)))
    | (with_reducible apply br_le0
       · repeat (first | with_reducible exact ix_nI | assumption | with_reducible apply ix_add | with_reducible apply ix_mul | (with_reducible apply ix_sub) | (with_reducible apply ix_upd) | (with_reducible apply ix_div) | omega)
       · omega
       all_goals (intro hc; first | omega | (conv => whnf)))
    | (with_reducible apply br_gt0
       · repeat (first | with_reducible exact ix_nI | assumption | with_reducible apply ix_add | with_reducible apply ix_mul | (with_reducible apply ix_sub) | (with_reducible apply ix_upd) | (with_reducible apply ix_div) | omega)
       · omega
       all_goals (intro hc; first | omega | (conv => whnf)))
    | (with_reducible apply br_lt0
       · repeat (first | with_reducible exact ix_nI | assumption | with_reducible apply ix_add | with_reducible apply ix_mul | (with_reducible apply ix_sub) | (with_reducible apply ix_upd) | (with_reducible apply ix_div) | omega)
       · omega
       conv => whnf)
    | (with_reducible apply br_ge0
       · repeat (first | with_reducible exact ix_nI | assumption | with_reducible apply ix_add | with_reducible apply ix_mul | (with_reducible apply ix_sub) | (with_reducible apply ix_upd) | (with_reducible apply ix_div) | omega)
       · omega
       conv => whnf)
    | (with_reducible apply br_tab
       · repeat (first | with_reducible exact ix_nI | assumption | with_reducible apply ix_add | with_reducible apply ix_mul | (with_reducible apply ix_sub) | (with_reducible apply ix_upd) | (with_reducible apply ix_div) | omega)
       · omega
       all_goals (intro hc; first | omega | (conv => whnf)))
    | (refine And.intro (fun hc => ?_) (fun hc => ?_) <;> conv => whnf)
    | (refine And.intro (by decide) ?_; conv => whnf)
    | fail)
  all_goals ((refine hK _ ?_; unfold rdAs; repeat' split) <;> first | rfl | contradiction)
theorem m_ones {x : Int32} (hK : ∀ r, r = onesB x → K (.inl (some (.int r))) h w) : Cl G d kX5_ones [.int x] h w K := by
  refine Cl.of (by decide) rfl ?_
  refine wp_vc [] 40 rfl fun W' C hW hC => ?_
  conv => whnf
  exact hK _ rfl
theorem m_written {p c : Nat} {xp xc : Int32} (ep : xp = nI p) (ec : xc = nI c) (hp : p < 8) (hc : c < 16) (hK : ∀ r, r = wrt u.1 p c → K (.inl (some (.int r))) (setM h0 u) w) : Cl G d kX5_written [.ref 154, .int xp, .int xc] (setM h0 u) w K := by
  subst ep ec
  refine Cl.of (by decide) rfl ?_
  refine wp_vc [] 40 rfl fun W' C hW hC => ?_
  conv => whnf
  repeat' (first
    | (refine ⟨_, rfl, ?_⟩; conv => whnf)
    | (refine ⟨_, _, rfl, ⟨_, rfl, rfl⟩, ?_⟩; conv => whnf)
    | (refine ⟨_, _, rfl, ?_⟩
       with_reducible apply ix_ex
       · repeat (first | with_reducible exact ix_nI | assumption | with_reducible apply ix_add | with_reducible apply ix_mul | (with_reducible apply ix_sub) | (with_reducible apply ix_upd) | (with_reducible apply ix_div) | omega)
       (refine ⟨⟨by omega, by decide⟩, ?_⟩; conv => whnf))
    | (with_reducible apply br_le
       · repeat (first | with_reducible exact ix_nI | assumption | with_reducible apply ix_add | with_reducible apply ix_mul | (with_reducible apply ix_sub) | (with_reducible apply ix_upd) | (with_reducible apply ix_div) | omega)
       · repeat (first | with_reducible exact ix_nI | assumption | with_reducible apply ix_add | with_reducible apply ix_mul | (with_reducible apply ix_sub) | (with_reducible apply ix_upd) | (with_reducible apply ix_div) | omega)
       · omega
       · omega
       all_goals (intro hc; first | omega | (conv => whnf)))
    | (with_reducible apply br_lt
       · repeat (first | with_reducible exact ix_nI | assumption | with_reducible apply ix_add | with_reducible apply ix_mul | (with_reducible apply ix_sub) | (with_reducible apply ix_upd) | (with_reducible apply ix_div) | omega)
       · repeat (first | with_reducible exact ix_nI | assumption | with_reducible apply ix_add | with_reducible apply ix_mul | (with_reducible apply ix_sub) | (with_reducible apply ix_upd) | (with_reducible apply ix_div) | omega)
       · omega
       · omega
       all_goals (intro hc; first | omega | (conv => whnf)))
    | (with_reducible apply br_eq
       · repeat (first | with_reducible exact ix_nI | assumption | with_reducible apply ix_add | with_reducible apply ix_mul | (with_reducible apply ix_sub) | (with_reducible apply ix_upd) | (with_reducible apply ix_div) | omega)
       · repeat (first | with_reducible exact ix_nI | assumption | with_reducible apply ix_add | with_reducible apply ix_mul | (with_reducible apply ix_sub) | (with_reducible apply ix_upd) | (with_reducible apply ix_div) | omega)
       · omega
       · omega
       all_goals (intro hc; first | omega | (conv => whnf)))
    | (with_reducible apply br_ne
       · repeat (first | with_reducible exact ix_nI | assumption | with_reducible apply ix_add | with_reducible apply ix_mul | (with_reducible apply ix_sub) | (with_reducible apply ix_upd) | (with_reducible apply ix_div) | omega)
       · repeat (first | with_reducible exact ix_nI | assumption | with_reducible apply ix_add | with_reducible apply ix_mul | (with_reducible apply ix_sub) | (with_reducible apply ix_upd) | (with_reducible apply ix_div) | omega)
       · omega
       · omega
       all_goals (intro hc; first | omega | (conv => whnf)))
    | (with_reducible apply br_eq0
       · repeat (first | with_reducible exact ix_nI | assumption | with_reducible apply ix_add | with_reducible apply ix_mul | (with_reducible apply ix_sub) | (with_reducible apply ix_upd) | (with_reducible apply ix_div) | omega)
       · omega
       all_goals (intro hc; first | omega | (conv => whnf)))
    | (with_reducible apply br_ne0
       · repeat (first | with_reducible exact ix_nI | assumption | with_reducible apply ix_add | with_reducible apply ix_mul | (with_reducible apply ix_sub) | (with_reducible apply ix_upd) | (with_reducible apply ix_div) | omega)
       · omega
       all_goals (intro hc; first | omega | (conv => whnf)))
    | (with_reducible apply br_le0
       · repeat (first | with_reducible exact ix_nI | assumption | with_reducible apply ix_add | with_reducible apply ix_mul | (with_reducible apply ix_sub) | (with_reducible apply ix_upd) | (with_reducible apply ix_div) | omega)
       · omega
       all_goals (intro hc; first | omega | (conv => whnf)))
    | (with_reducible apply br_gt0
       · repeat (first | with_reducible exact ix_nI | assumption | with_reducible apply ix_add | with_reducible apply ix_mul | (with_reducible apply ix_sub) | (with_reducible apply ix_upd) | (with_reducible apply ix_div) | omega)
       · omega
       all_goals (intro hc; first | omega | (conv => whnf)))
    | (with_reducible apply br_lt0
       · repeat (first | with_reducible exact ix_nI | assumption | with_reducible apply ix_add | with_reducible apply ix_mul | (with_reducible apply ix_sub) | (with_reducible apply ix_upd) | (with_reducible apply ix_div) | omega)
       · omega
       conv => whnf)
    | (with_reducible apply br_ge0
       · repeat (first | with_reducible exact ix_nI | assumption | with_reducible apply ix_add | with_reducible apply ix_mul | (with_reducible apply ix_sub) | (with_reducible apply ix_upd) | (with_reducible apply ix_div) | omega)
       · omega
       conv => whnf)
    | (with_reducible apply br_tab
       · repeat (first | with_reducible exact ix_nI | assumption | with_reducible apply ix_add | with_reducible apply ix_mul | (with_reducible apply ix_sub) | (with_reducible apply ix_upd) | (with_reducible apply ix_div) | omega)
       · omega
       all_goals (intro hc; first | omega | (conv => whnf)))
    | (refine And.intro (fun hc => ?_) (fun hc => ?_) <;> conv => whnf)
    | (refine And.intro (by decide) ?_; conv => whnf)
    | fail)
  exact hK _ rfl
theorem m_readBy {m : Nat} {q xm : Int32} (em : xm = nI m) (hm : m < 6) (hK : ∀ r, r = rdBy u.1 q m → K (.inl (some (.int r))) (setM h0 u) w) : Cl G (d + 1) kX5_readBy [.ref 154, .int q, .int xm] (setM h0 u) w K := by
  subst em
  refine Cl.of (by decide) rfl ?_
  refine wp_vc [] 40 rfl fun W' C hW hC => ?_
  conv => whnf
  repeat' (first
    | (refine ⟨_, rfl, ?_⟩; conv => whnf)
    | (refine ⟨_, _, rfl, ⟨_, rfl, rfl⟩, ?_⟩; conv => whnf)
    | (refine ⟨_, _, rfl, ?_⟩
       with_reducible apply ix_ex
       · repeat (first | with_reducible exact ix_nI | assumption | with_reducible apply ix_add | with_reducible apply ix_mul | (with_reducible apply ix_sub) | (with_reducible apply ix_upd) | (with_reducible apply ix_div) | omega)
       (refine ⟨⟨by omega, by decide⟩, ?_⟩; conv => whnf))
    | (with_reducible apply br_le
       · repeat (first | with_reducible exact ix_nI | assumption | with_reducible apply ix_add | with_reducible apply ix_mul | (with_reducible apply ix_sub) | (with_reducible apply ix_upd) | (with_reducible apply ix_div) | omega)
       · repeat (first | with_reducible exact ix_nI | assumption | with_reducible apply ix_add | with_reducible apply ix_mul | (with_reducible apply ix_sub) | (with_reducible apply ix_upd) | (with_reducible apply ix_div) | omega)
       · omega
       · omega
       all_goals (intro hc; first | omega | (conv => whnf)))
    | (with_reducible apply br_lt
       · repeat (first | with_reducible exact ix_nI | assumption | with_reducible apply ix_add | with_reducible apply ix_mul | (with_reducible apply ix_sub) | (with_reducible apply ix_upd) | (with_reducible apply ix_div) | omega)
       · repeat (first | with_reducible exact ix_nI | assumption | with_reducible apply ix_add | with_reducible apply ix_mul | (with_reducible apply ix_sub) | (with_reducible apply ix_upd) | (with_reducible apply ix_div) | omega)
       · omega
       · omega
       all_goals (intro hc; first | omega | (conv => whnf)))
    | (with_reducible apply br_eq
       · repeat (first | with_reducible exact ix_nI | assumption | with_reducible apply ix_add | with_reducible apply ix_mul | (with_reducible apply ix_sub) | (with_reducible apply ix_upd) | (with_reducible apply ix_div) | omega)
       · repeat (first | with_reducible exact ix_nI | assumption | with_reducible apply ix_add | with_reducible apply ix_mul | (with_reducible apply ix_sub) | (with_reducible apply ix_upd) | (with_reducible apply ix_div) | omega)
       · omega
       · omega
       all_goals (intro hc; first | omega | (conv => whnf)))
    | (with_reducible apply br_ne
       · repeat (first | with_reducible exact ix_nI | assumption | with_reducible apply ix_add | with_reducible apply ix_mul | (with_reducible apply ix_sub) | (with_reducible apply ix_upd) | (with_reducible apply ix_div) | omega)
       · repeat (first | with_reducible exact ix_nI | assumption | with_reducible apply ix_add | with_reducible apply ix_mul | (with_reducible apply ix_sub) | (with_reducible apply ix_upd) | (with_reducible apply ix_div) | omega)
       · omega
       · omega
       all_goals (intro hc; first | omega | (conv => whnf)))
    | (with_reducible apply br_eq0
       · repeat (first | with_reducible exact ix_nI | assumption | with_reducible apply ix_add | with_reducible apply ix_mul | (with_reducible apply ix_sub) | (with_reducible apply ix_upd) | (with_reducible apply ix_div) | omega)
       · omega
       all_goals (intro hc; first | omega | (conv => whnf)))
    | (with_reducible apply br_ne0
       · repeat (first | with_reducible exact ix_nI | assumption | with_reducible apply ix_add | with_reducible apply ix_mul | (with_reducible apply ix_sub) | (with_reducible apply ix_upd) | (with_reducible apply ix_div) | omega)
       · omega
       all_goals (intro hc; first | omega | (conv => whnf)))
    | (with_reducible apply br_le0
       · repeat (first | with_reducible exact ix_nI | assumption | with_reducible apply ix_add | with_reducible apply ix_mul | (with_reducible apply ix_sub) | (with_reducible apply ix_upd) | (with_reducible apply ix_div) | omega)
       · omega
       all_goals (intro hc; first | omega | (conv => whnf)))
    | (with_reducible apply br_gt0
       · repeat (first | with_reducible exact ix_nI | assumption | with_reducible apply ix_add | with_reducible apply ix_mul | (with_reducible apply ix_sub) | (with_reducible apply ix_upd) | (with_reducible apply ix_div) | omega)
       · omega
       all_goals (intro hc; first | omega | (conv => whnf)))
    | (with_reducible apply br_lt0
       · repeat (first | with_reducible exact ix_nI | assumption | with_reducible apply ix_add | with_reducible apply ix_mul | (with_reducible apply ix_sub) | (with_reducible apply ix_upd) | (with_reducible apply ix_div) | omega)
       · omega
       conv => whnf)
    | (with_reducible apply br_ge0
       · repeat (first | with_reducible exact ix_nI | assumption | with_reducible apply ix_add | with_reducible apply ix_mul | (with_reducible apply ix_sub) | (with_reducible apply ix_upd) | (with_reducible apply ix_div) | omega)
       · omega
       conv => whnf)
    | (with_reducible apply br_tab
       · repeat (first | with_reducible exact ix_nI | assumption | with_reducible apply ix_add | with_reducible apply ix_mul | (with_reducible apply ix_sub) | (with_reducible apply ix_upd) | (with_reducible apply ix_div) | omega)
       · omega
       all_goals (intro hc; first | omega | (conv => whnf)))
    | (refine cl_use hC (m_readAs fun r hr => ?_); conv => whnf)
    | (refine And.intro (fun hc => ?_) (fun hc => ?_) <;> conv => whnf)
    | (refine And.intro (by decide) ?_; conv => whnf)
    | fail)
  exact hK _ hr
theorem m_wearOf {p : Nat} {xp : Int32} (ep : xp = nI p) (hp : p < 8) (hK : ∀ r, r = u.1 (28 + p / 4) → K (.inl (some (.int r))) (setM h0 u) w) : Cl G d kX5_wearOf [.ref 154, .int xp] (setM h0 u) w K := by
  subst ep
  refine Cl.of (by decide) rfl ?_
  refine wp_vc [] 40 rfl fun W' C hW hC => ?_
  conv => whnf
  refine ⟨_, rfl, ?_⟩
  conv => whnf
  refine ⟨by decide, ?_⟩
  conv => whnf
  refine ⟨_, _, rfl, _, ix_add ix_nI (ix_div ix_nI ix_nI (by omega) (by omega) (by omega)), ⟨by omega, by decide⟩, ?_⟩
  conv => whnf
  exact hK _ rfl
theorem m_isErased {p : Nat} {xp : Int32} (ep : xp = nI p) (hp : p < 8) (hK : ∀ r, r = (if u.1 (30 + p) = 0 then nI 1 else nI 0) → K (.inl (some (.int r))) (setM h0 u) w) : Cl G d kX5_isErased [.ref 154, .int xp] (setM h0 u) w K := by
  subst ep
  refine Cl.of (by decide) rfl ?_
  refine wp_vc [] 40 rfl fun W' C hW hC => ?_
  conv => whnf
  repeat' (first
    | (refine ⟨_, rfl, ?_⟩; conv => whnf)
    | (refine ⟨_, _, rfl, ⟨_, rfl, rfl⟩, ?_⟩; conv => whnf)
    | (refine ⟨_, _, rfl, ?_⟩
       with_reducible apply ix_ex
       · repeat (first | with_reducible exact ix_nI | assumption | with_reducible apply ix_add | with_reducible apply ix_mul | (with_reducible apply ix_sub) | (with_reducible apply ix_upd) | (with_reducible apply ix_div) | omega)
       (refine ⟨⟨by omega, by decide⟩, ?_⟩; conv => whnf))
    | (with_reducible apply br_le
       · repeat (first | with_reducible exact ix_nI | assumption | with_reducible apply ix_add | with_reducible apply ix_mul | (with_reducible apply ix_sub) | (with_reducible apply ix_upd) | (with_reducible apply ix_div) | omega)
       · repeat (first | with_reducible exact ix_nI | assumption | with_reducible apply ix_add | with_reducible apply ix_mul | (with_reducible apply ix_sub) | (with_reducible apply ix_upd) | (with_reducible apply ix_div) | omega)
       · omega
       · omega
       all_goals (intro hc; first | omega | (conv => whnf)))
    | (with_reducible apply br_lt
       · repeat (first | with_reducible exact ix_nI | assumption | with_reducible apply ix_add | with_reducible apply ix_mul | (with_reducible apply ix_sub) | (with_reducible apply ix_upd) | (with_reducible apply ix_div) | omega)
       · repeat (first | with_reducible exact ix_nI | assumption | with_reducible apply ix_add | with_reducible apply ix_mul | (with_reducible apply ix_sub) | (with_reducible apply ix_upd) | (with_reducible apply ix_div) | omega)
       · omega
       · omega
       all_goals (intro hc; first | omega | (conv => whnf)))
    | (with_reducible apply br_eq
       · repeat (first | with_reducible exact ix_nI | assumption | with_reducible apply ix_add | with_reducible apply ix_mul | (with_reducible apply ix_sub) | (with_reducible apply ix_upd) | (with_reducible apply ix_div) | omega)
       · repeat (first | with_reducible exact ix_nI | assumption | with_reducible apply ix_add | with_reducible apply ix_mul | (with_reducible apply ix_sub) | (with_reducible apply ix_upd) | (with_reducible apply ix_div) | omega)
       · omega
       · omega
       all_goals (intro hc; first | omega | (conv => whnf)))
    | (with_reducible apply br_ne
       · repeat (first | with_reducible exact ix_nI | assumption | with_reducible apply ix_add | with_reducible apply ix_mul | (with_reducible apply ix_sub) | (with_reducible apply ix_upd) | (with_reducible apply ix_div) | omega)
       · repeat (first | with_reducible exact ix_nI | assumption | with_reducible apply ix_add | with_reducible apply ix_mul | (with_reducible apply ix_sub) | (with_reducible apply ix_upd) | (with_reducible apply ix_div) | omega)
       · omega
       · omega
       all_goals (intro hc; first | omega | (conv => whnf)))
    | (with_reducible apply br_eq0
       · repeat (first | with_reducible exact ix_nI | assumption | with_reducible apply ix_add | with_reducible apply ix_mul | (with_reducible apply ix_sub) | (with_reducible apply ix_upd) | (with_reducible apply ix_div) | omega)
       · omega
       all_goals (intro hc; first | omega | (conv => whnf)))
    | (with_reducible apply br_ne0
       · repeat (first | with_reducible exact ix_nI | assumption | with_reducible apply ix_add | with_reducible apply ix_mul | (with_reducible apply ix_sub) | (with_reducible apply ix_upd) | (with_reducible apply ix_div) | omega)
       · omega
       all_goals (intro hc; first | omega | (conv => whnf)))
    | (with_reducible apply br_le0
       · repeat (first | with_reducible exact ix_nI | assumption | with_reducible apply ix_add | with_reducible apply ix_mul | (with_reducible apply ix_sub) | (with_reducible apply ix_upd) | (with_reducible apply ix_div) | omega)
       · omega
       all_goals (intro hc; first | omega | (conv => whnf)))
    | (with_reducible apply br_gt0
       · repeat (first | with_reducible exact ix_nI | assumption | with_reducible apply ix_add | with_reducible apply ix_mul | (with_reducible apply ix_sub) | (with_reducible apply ix_upd) | (with_reducible apply ix_div) | omega)
       · omega
       all_goals (intro hc; first | omega | (conv => whnf)))
    | (with_reducible apply br_lt0
       · repeat (first | with_reducible exact ix_nI | assumption | with_reducible apply ix_add | with_reducible apply ix_mul | (with_reducible apply ix_sub) | (with_reducible apply ix_upd) | (with_reducible apply ix_div) | omega)
       · omega
       conv => whnf)
    | (with_reducible apply br_ge0
       · repeat (first | with_reducible exact ix_nI | assumption | with_reducible apply ix_add | with_reducible apply ix_mul | (with_reducible apply ix_sub) | (with_reducible apply ix_upd) | (with_reducible apply ix_div) | omega)
       · omega
       conv => whnf)
    | (with_reducible apply br_tab
       · repeat (first | with_reducible exact ix_nI | assumption | with_reducible apply ix_add | with_reducible apply ix_mul | (with_reducible apply ix_sub) | (with_reducible apply ix_upd) | (with_reducible apply ix_div) | omega)
       · omega
       all_goals (intro hc; first | omega | (conv => whnf)))
    | (refine And.intro (fun hc => ?_) (fun hc => ?_) <;> conv => whnf)
    | (refine And.intro (by decide) ?_; conv => whnf)
    | fail)
  · exact hK _ (by rw [if_neg hc])
  · exact hK _ (by rw [if_pos hc])
theorem m_isWritten {p : Nat} {xp : Int32} (ep : xp = nI p) (hp : p < 8) (hK : ∀ r, r = (if u.1 (30 + p) = nI 1 then nI 1 else nI 0) → K (.inl (some (.int r))) (setM h0 u) w) : Cl G d kX5_isWritten [.ref 154, .int xp] (setM h0 u) w K := by
  subst ep
  refine Cl.of (by decide) rfl ?_
  refine wp_vc [] 40 rfl fun W' C hW hC => ?_
  conv => whnf
  repeat' (first
    | (refine ⟨_, rfl, ?_⟩; conv => whnf)
    | (refine ⟨_, _, rfl, ⟨_, rfl, rfl⟩, ?_⟩; conv => whnf)
    | (refine ⟨_, _, rfl, ?_⟩
       with_reducible apply ix_ex
       · repeat (first | with_reducible exact ix_nI | assumption | with_reducible apply ix_add | with_reducible apply ix_mul | (with_reducible apply ix_sub) | (with_reducible apply ix_upd) | (with_reducible apply ix_div) | omega)
       (refine ⟨⟨by omega, by decide⟩, ?_⟩; conv => whnf))
    | (with_reducible apply br_le
       · repeat (first | with_reducible exact ix_nI | assumption | with_reducible apply ix_add | with_reducible apply ix_mul | (with_reducible apply ix_sub) | (with_reducible apply ix_upd) | (with_reducible apply ix_div) | omega)
       · repeat (first | with_reducible exact ix_nI | assumption | with_reducible apply ix_add | with_reducible apply ix_mul | (with_reducible apply ix_sub) | (with_reducible apply ix_upd) | (with_reducible apply ix_div) | omega)
       · omega
       · omega
       all_goals (intro hc; first | omega | (conv => whnf)))
    | (with_reducible apply br_lt
       · repeat (first | with_reducible exact ix_nI | assumption | with_reducible apply ix_add | with_reducible apply ix_mul | (with_reducible apply ix_sub) | (with_reducible apply ix_upd) | (with_reducible apply ix_div) | omega)
       · repeat (first | with_reducible exact ix_nI | assumption | with_reducible apply ix_add | with_reducible apply ix_mul | (with_reducible apply ix_sub) | (with_reducible apply ix_upd) | (with_reducible apply ix_div) | omega)
       · omega
       · omega
       all_goals (intro hc; first | omega | (conv => whnf)))
    | (with_reducible apply br_eq
       · repeat (first | with_reducible exact ix_nI | assumption | with_reducible apply ix_add | with_reducible apply ix_mul | (with_reducible apply ix_sub) | (with_reducible apply ix_upd) | (with_reducible apply ix_div) | omega)
       · repeat (first | with_reducible exact ix_nI | assumption | with_reducible apply ix_add | with_reducible apply ix_mul | (with_reducible apply ix_sub) | (with_reducible apply ix_upd) | (with_reducible apply ix_div) | omega)
       · omega
       · omega
       all_goals (intro hc; first | omega | (conv => whnf)))
    | (with_reducible apply br_ne
       · repeat (first | with_reducible exact ix_nI | assumption | with_reducible apply ix_add | with_reducible apply ix_mul | (with_reducible apply ix_sub) | (with_reducible apply ix_upd) | (with_reducible apply ix_div) | omega)
       · repeat (first | with_reducible exact ix_nI | assumption | with_reducible apply ix_add | with_reducible apply ix_mul | (with_reducible apply ix_sub) | (with_reducible apply ix_upd) | (with_reducible apply ix_div) | omega)
       · omega
       · omega
       all_goals (intro hc; first | omega | (conv => whnf)))
    | (with_reducible apply br_eq0
       · repeat (first | with_reducible exact ix_nI | assumption | with_reducible apply ix_add | with_reducible apply ix_mul | (with_reducible apply ix_sub) | (with_reducible apply ix_upd) | (with_reducible apply ix_div) | omega)
       · omega
       all_goals (intro hc; first | omega | (conv => whnf)))
    | (with_reducible apply br_ne0
       · repeat (first | with_reducible exact ix_nI | assumption | with_reducible apply ix_add | with_reducible apply ix_mul | (with_reducible apply ix_sub) | (with_reducible apply ix_upd) | (with_reducible apply ix_div) | omega)
       · omega
       all_goals (intro hc; first | omega | (conv => whnf)))
    | (with_reducible apply br_le0
       · repeat (first | with_reducible exact ix_nI | assumption | with_reducible apply ix_add | with_reducible apply ix_mul | (with_reducible apply ix_sub) | (with_reducible apply ix_upd) | (with_reducible apply ix_div) | omega)
       · omega
       all_goals (intro hc; first | omega | (conv => whnf)))
    | (with_reducible apply br_gt0
       · repeat (first | with_reducible exact ix_nI | assumption | with_reducible apply ix_add | with_reducible apply ix_mul | (with_reducible apply ix_sub) | (with_reducible apply ix_upd) | (with_reducible apply ix_div) | omega)
       · omega
       all_goals (intro hc; first | omega | (conv => whnf)))
    | (with_reducible apply br_lt0
       · repeat (first | with_reducible exact ix_nI | assumption | with_reducible apply ix_add | with_reducible apply ix_mul | (with_reducible apply ix_sub) | (with_reducible apply ix_upd) | (with_reducible apply ix_div) | omega)
       · omega
       conv => whnf)
    | (with_reducible apply br_ge0
       · repeat (first | with_reducible exact ix_nI | assumption | with_reducible apply ix_add | with_reducible apply ix_mul | (with_reducible apply ix_sub) | (with_reducible apply ix_upd) | (with_reducible apply ix_div) | omega)
       · omega
       conv => whnf)
    | (with_reducible apply br_tab
       · repeat (first | with_reducible exact ix_nI | assumption | with_reducible apply ix_add | with_reducible apply ix_mul | (with_reducible apply ix_sub) | (with_reducible apply ix_upd) | (with_reducible apply ix_div) | omega)
       · omega
       all_goals (intro hc; first | omega | (conv => whnf)))
    | (refine And.intro (fun hc => ?_) (fun hc => ?_) <;> conv => whnf)
    | (refine And.intro (by decide) ?_; conv => whnf)
    | fail)
  · exact hK _ (by rw [if_neg hc])
  · exact hK _ (by rw [if_pos hc])
theorem m_sumOf {p : Nat} {xp : Int32} (ep : xp = nI p) (hp : p < 8) (hK : ∀ r, r = sumN (chg u.1 p) 16 → K (.inl (some (.int r))) (setM h0 u) w) : Cl G d kX5_sumOf [.ref 154, .int xp] (setM h0 u) w K := by
  subst ep
  refine Cl.of (by decide) rfl ?_
  refine wp_vc [4] 40 rfl fun W' C hW hC => ?_
  conv => whnf
  refine wp_use hW ?_
  refine upto (W := fun i => wp G d kX5_sumOf w.2.1 w.2.2 K 4 [some (.ref 154), some (.int (nI p)), some (.int (sumN (chg u.1 p) i)), some (.int (nI i))] [] (setM h0 u) w) 16 ?_ ?_
  · refine wp_vc [4] 40 rfl fun W' C hW hC => ?_
    conv => whnf
    repeat' (first
      | (refine ⟨_, rfl, ?_⟩; conv => whnf)
      | (refine ⟨_, _, rfl, ⟨_, rfl, rfl⟩, ?_⟩; conv => whnf)
      | (refine ⟨_, _, rfl, ?_⟩
         with_reducible apply ix_ex
         · repeat (first | with_reducible exact ix_nI | assumption | with_reducible apply ix_add | with_reducible apply ix_mul | (with_reducible apply ix_sub) | (with_reducible apply ix_upd) | (with_reducible apply ix_div) | omega)
         (refine ⟨⟨by omega, by decide⟩, ?_⟩; conv => whnf))
      | (with_reducible apply br_le
         · repeat (first | with_reducible exact ix_nI | assumption | with_reducible apply ix_add | with_reducible apply ix_mul | (with_reducible apply ix_sub) | (with_reducible apply ix_upd) | (with_reducible apply ix_div) | omega)
         · repeat (first | with_reducible exact ix_nI | assumption | with_reducible apply ix_add | with_reducible apply ix_mul | (with_reducible apply ix_sub) | (with_reducible apply ix_upd) | (with_reducible apply ix_div) | omega)
         · omega
         · omega
         all_goals (intro hc; first | omega | (conv => whnf)))
      | (with_reducible apply br_lt
         · repeat (first | with_reducible exact ix_nI | assumption | with_reducible apply ix_add | with_reducible apply ix_mul | (with_reducible apply ix_sub) | (with_reducible apply ix_upd) | (with_reducible apply ix_div) | omega)
         · repeat (first | with_reducible exact ix_nI | assumption | with_reducible apply ix_add | with_reducible apply ix_mul | (with_reducible apply ix_sub) | (with_reducible apply ix_upd) | (with_reducible apply ix_div) | omega)
         · omega
         · omega
         all_goals (intro hc; first | omega | (conv => whnf)))
      | (with_reducible apply br_eq
         · repeat (first | with_reducible exact ix_nI | assumption | with_reducible apply ix_add | with_reducible apply ix_mul | (with_reducible apply ix_sub) | (with_reducible apply ix_upd) | (with_reducible apply ix_div) | omega)
         · repeat (first | with_reducible exact ix_nI | assumption | with_reducible apply ix_add | with_reducible apply ix_mul | (with_reducible apply ix_sub) | (with_reducible apply ix_upd) | (with_reducible apply ix_div) | omega)
         · omega
         · omega
         all_goals (intro hc; first | omega | (conv => whnf)))
      | (with_reducible apply br_ne
         · repeat (first | with_reducible exact ix_nI | assumption | with_reducible apply ix_add | with_reducible apply ix_mul | (with_reducible apply ix_sub) | (with_reducible apply ix_upd) | (with_reducible apply ix_div) | omega)
         · repeat (first | with_reducible exact ix_nI | assumption | with_reducible apply ix_add | with_reducible apply ix_mul | (with_reducible apply ix_sub) | (with_reducible apply ix_upd) | (with_reducible apply ix_div) | omega)
         · omega
         · omega
         all_goals (intro hc; first | omega | (conv => whnf)))
      | (with_reducible apply br_eq0
         · repeat (first | with_reducible exact ix_nI | assumption | with_reducible apply ix_add | with_reducible apply ix_mul | (with_reducible apply ix_sub) | (with_reducible apply ix_upd) | (with_reducible apply ix_div) | omega)
         · omega
         all_goals (intro hc; first | omega | (conv => whnf)))
      | (with_reducible apply br_ne0
         · repeat (first | with_reducible exact ix_nI | assumption | with_reducible apply ix_add | with_reducible apply ix_mul | (with_reducible apply ix_sub) | (with_reducible apply ix_upd) | (with_reducible apply ix_div) | omega)
         · omega
         all_goals (intro hc; first | omega | (conv => whnf)))
      | (with_reducible apply br_le0
         · repeat (first | with_reducible exact ix_nI | assumption | with_reducible apply ix_add | with_reducible apply ix_mul | (with_reducible apply ix_sub) | (with_reducible apply ix_upd) | (with_reducible apply ix_div) | omega)
         · omega
         all_goals (intro hc; first | omega | (conv => whnf)))
      | (with_reducible apply br_gt0
         · repeat (first | with_reducible exact ix_nI | assumption | with_reducible apply ix_add | with_reducible apply ix_mul | (with_reducible apply ix_sub) | (with_reducible apply ix_upd) | (with_reducible apply ix_div) | omega)
         · omega
         all_goals (intro hc; first | omega | (conv => whnf)))
      | (with_reducible apply br_lt0
         · repeat (first | with_reducible exact ix_nI | assumption | with_reducible apply ix_add | with_reducible apply ix_mul | (with_reducible apply ix_sub) | (with_reducible apply ix_upd) | (with_reducible apply ix_div) | omega)
         · omega
         conv => whnf)
      | (with_reducible apply br_ge0
         · repeat (first | with_reducible exact ix_nI | assumption | with_reducible apply ix_add | with_reducible apply ix_mul | (with_reducible apply ix_sub) | (with_reducible apply ix_upd) | (with_reducible apply ix_div) | omega)
         · omega
         conv => whnf)
      | (with_reducible apply br_tab
         · repeat (first | with_reducible exact ix_nI | assumption | with_reducible apply ix_add | with_reducible apply ix_mul | (with_reducible apply ix_sub) | (with_reducible apply ix_upd) | (with_reducible apply ix_div) | omega)
         · omega
         all_goals (intro hc; first | omega | (conv => whnf)))
      | (refine And.intro (fun hc => ?_) (fun hc => ?_) <;> conv => whnf)
      | (refine And.intro (by decide) ?_; conv => whnf)
      | fail)
    exact hK _ rfl
  · intro i hi ih
    refine wp_vc [4] 40 rfl fun W' C hW hC => ?_
    conv => whnf
    repeat' (first
      | (refine ⟨_, rfl, ?_⟩; conv => whnf)
      | (refine ⟨_, _, rfl, ⟨_, rfl, rfl⟩, ?_⟩; conv => whnf)
      | (refine ⟨_, _, rfl, ?_⟩
         with_reducible apply ix_ex
         · repeat (first | with_reducible exact ix_nI | assumption | with_reducible apply ix_add | with_reducible apply ix_mul | (with_reducible apply ix_sub) | (with_reducible apply ix_upd) | (with_reducible apply ix_div) | omega)
         (refine ⟨⟨by omega, by decide⟩, ?_⟩; conv => whnf))
      | (with_reducible apply br_le
         · repeat (first | with_reducible exact ix_nI | assumption | with_reducible apply ix_add | with_reducible apply ix_mul | (with_reducible apply ix_sub) | (with_reducible apply ix_upd) | (with_reducible apply ix_div) | omega)
         · repeat (first | with_reducible exact ix_nI | assumption | with_reducible apply ix_add | with_reducible apply ix_mul | (with_reducible apply ix_sub) | (with_reducible apply ix_upd) | (with_reducible apply ix_div) | omega)
         · omega
         · omega
         all_goals (intro hc; first | omega | (conv => whnf)))
      | (with_reducible apply br_lt
         · repeat (first | with_reducible exact ix_nI | assumption | with_reducible apply ix_add | with_reducible apply ix_mul | (with_reducible apply ix_sub) | (with_reducible apply ix_upd) | (with_reducible apply ix_div) | omega)
         · repeat (first | with_reducible exact ix_nI | assumption | with_reducible apply ix_add | with_reducible apply ix_mul | (with_reducible apply ix_sub) | (with_reducible apply ix_upd) | (with_reducible apply ix_div) | omega)
         · omega
         · omega
         all_goals (intro hc; first | omega | (conv => whnf)))
      | (with_reducible apply br_eq
         · repeat (first | with_reducible exact ix_nI | assumption | with_reducible apply ix_add | with_reducible apply ix_mul | (with_reducible apply ix_sub) | (with_reducible apply ix_upd) | (with_reducible apply ix_div) | omega)
         · repeat (first | with_reducible exact ix_nI | assumption | with_reducible apply ix_add | with_reducible apply ix_mul | (with_reducible apply ix_sub) | (with_reducible apply ix_upd) | (with_reducible apply ix_div) | omega)
         · omega
         · omega
         all_goals (intro hc; first | omega | (conv => whnf)))
      | (with_reducible apply br_ne
         · repeat (first | with_reducible exact ix_nI | assumption | with_reducible apply ix_add | with_reducible apply ix_mul | (with_reducible apply ix_sub) | (with_reducible apply ix_upd) | (with_reducible apply ix_div) | omega)
         · repeat (first | with_reducible exact ix_nI | assumption | with_reducible apply ix_add | with_reducible apply ix_mul | (with_reducible apply ix_sub) | (with_reducible apply ix_upd) | (with_reducible apply ix_div) | omega)
         · omega
         · omega
         all_goals (intro hc; first | omega | (conv => whnf)))
      | (with_reducible apply br_eq0
         · repeat (first | with_reducible exact ix_nI | assumption | with_reducible apply ix_add | with_reducible apply ix_mul | (with_reducible apply ix_sub) | (with_reducible apply ix_upd) | (with_reducible apply ix_div) | omega)
         · omega
         all_goals (intro hc; first | omega | (conv => whnf)))
      | (with_reducible apply br_ne0
         · repeat (first | with_reducible exact ix_nI | assumption | with_reducible apply ix_add | with_reducible apply ix_mul | (with_reducible apply ix_sub) | (with_reducible apply ix_upd) | (with_reducible apply ix_div) | omega)
         · omega
         all_goals (intro hc; first | omega | (conv => whnf)))
      | (with_reducible apply br_le0
         · repeat (first | with_reducible exact ix_nI | assumption | with_reducible apply ix_add | with_reducible apply ix_mul | (with_reducible apply ix_sub) | (with_reducible apply ix_upd) | (with_reducible apply ix_div) | omega)
         · omega
         all_goals (intro hc; first | omega | (conv => whnf)))
      | (with_reducible apply br_gt0
         · repeat (first | with_reducible exact ix_nI | assumption | with_reducible apply ix_add | with_reducible apply ix_mul | (with_reducible apply ix_sub) | (with_reducible apply ix_upd) | (with_reducible apply ix_div) | omega)
         · omega
         all_goals (intro hc; first | omega | (conv => whnf)))
      | (with_reducible apply br_lt0
         · repeat (first | with_reducible exact ix_nI | assumption | with_reducible apply ix_add | with_reducible apply ix_mul | (with_reducible apply ix_sub) | (with_reducible apply ix_upd) | (with_reducible apply ix_div) | omega)
         · omega
         conv => whnf)
      | (with_reducible apply br_ge0
         · repeat (first | with_reducible exact ix_nI | assumption | with_reducible apply ix_add | with_reducible apply ix_mul | (with_reducible apply ix_sub) | (with_reducible apply ix_upd) | (with_reducible apply ix_div) | omega)
         · omega
         conv => whnf)
      | (with_reducible apply br_tab
         · repeat (first | with_reducible exact ix_nI | assumption | with_reducible apply ix_add | with_reducible apply ix_mul | (with_reducible apply ix_sub) | (with_reducible apply ix_upd) | (with_reducible apply ix_div) | omega)
         · omega
         all_goals (intro hc; first | omega | (conv => whnf)))
      | (refine And.intro (fun hc => ?_) (fun hc => ?_) <;> conv => whnf)
      | (refine And.intro (by decide) ?_; conv => whnf)
      | fail)
    refine wp_use hW ?_
    rw [nI_add]
    exact ih
end M1
