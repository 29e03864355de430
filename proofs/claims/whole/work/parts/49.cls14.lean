/-! ===== the class: texts ===== -/
theorem br_lsw {x : Int32} {k : Nat} {lo : Int} {A B : Prop} (hlo : lo = k) (hk : k < 2 ^ 31) (f : x = nI k → A) (g : ¬ x = nI k → B) : (x.toInt = lo → A) ∧ (¬ x.toInt = lo → B) := by
  subst hlo
  refine ⟨fun e => f ?_, fun e => g fun q => e (by rw [q, tI_nI hk])⟩
  apply Int32.toInt_inj.mp
  rw [e, tI_nI hk]
theorem nx_0 {c : Int32} : nxN 0 c = if c = nI 101 then nI 4 else if c = nI 104 then nI 5 else if c = nI 114 then nI 3 else if c = nI 119 then nI 1 else -nI 1 := rfl
theorem nx_1 {c : Int32} : nxN 1 c = if inW c (nI 48) (nI 55) then nI 2 else -nI 1 := rfl
theorem nx_2 {c : Int32} : nxN 2 c = if c = nI 61 then nI 10 else -nI 1 := rfl
theorem nx_3 {c : Int32} : nxN 3 c = if inW c (nI 48) (nI 55) then nI 9 else -nI 1 := rfl
theorem nx_4 {c : Int32} : nxN 4 c = if inW c (nI 48) (nI 49) then nI 9 else -nI 1 := rfl
theorem nx_5 {c : Int32} : nxN 5 c = if c = nI 49 then nI 6 else if inW c (nI 50) (nI 57) then nI 7 else -nI 1 := rfl
theorem nx_6 {c : Int32} : nxN 6 c = if c = nI 48 then nI 8 else if inW c (nI 49) (nI 57) then nI 9 else acN c := rfl
theorem nx_7 {c : Int32} : nxN 7 c = if inW c (nI 48) (nI 57) then nI 9 else acN c := rfl
theorem nx_8 {c : Int32} : nxN 8 c = if c = nI 48 then nI 9 else acN c := rfl
theorem nx_9 {c : Int32} : nxN 9 c = acN c := rfl
theorem nx_x {a : Nat} {c : Int32} (h : 10 ≤ a) : nxN a c = if dgO c = -nI 1 then -nI 1 else if a < 17 then nI (a + 1) else nI 9 := by
  unfold nxN
  rw [if_neg (show ¬ a = 0 by omega), if_neg (show ¬ a = 1 by omega), if_neg (show ¬ a = 2 by omega), if_neg (show ¬ a = 3 by omega), if_neg (show ¬ a = 4 by omega), if_neg (show ¬ a = 5 by omega), if_neg (show ¬ a = 6 by omega), if_neg (show ¬ a = 7 by omega), if_neg (show ¬ a = 8 by omega), if_neg (show ¬ a = 9 by omega)]
section C16
variable {G : GG} {d n p : Nat} {A : AS} {h0 h : AH} {w : W3} {K : AO → AH → W3 → Prop} {T : List Int32}
theorem c_isIn {c lo hi : Int32} (h1 : inW c lo hi → K (.inl (some (.int (nI 1)))) h w) (h0 : ¬ inW c lo hi → K (.inl (some (.int (nI 0)))) h w) : Cl G d kX0_isIn [.int c, .int lo, .int hi] h w K := by
  refine Cl.of (by decide) rfl ?_
  refine wp_vc [] 40 rfl fun W' C hW hC => ?_
  conv => whnf
  repeat' (first
    | (refine ⟨_, rfl, ?_⟩; conv => whnf)
    | (refine ⟨_, _, rfl, ⟨_, rfl, rfl⟩, ?_⟩; conv => whnf)
    | (refine ⟨_, _, rfl, ?_⟩
       with_reducible apply ix_ex
       · repeat (first | with_reducible exact ix_nI | assumption | with_reducible apply ix_add | with_reducible apply ix_mul | (with_reducible apply ix_sub) | (with_reducible apply ix_upd) | (with_reducible apply ix_div) | omega)
       (refine ⟨⟨by omega, by decide⟩, ?_⟩; conv => whnf))
    | (with_reducible apply br_le
       · repeat (first | with_reducible exact ix_nI | assumption | with_reducible apply ix_add | with_reducible apply ix_mul | (with_reducible apply ix_sub) | (with_reducible apply ix_upd) | (with_reducible apply ix_div) | omega)
       · repeat (first | with_reducible exact ix_nI | assumption | with_reducible apply ix_add | with_reducible apply ix_mul | (with_reducible apply ix_sub) | (with_reducible apply ix_upd) | (with_reducible apply ix_div) | omega)
       · omega
       · omega
       all_goals (intro hc; first | omega | (conv => whnf)))
    | (with_reducible apply br_lt
       · repeat (first | with_reducible exact ix_nI | assumption | with_reducible apply ix_add | with_reducible apply ix_mul | (with_reducible apply ix_sub) | (with_reducible apply ix_upd) | (with_reducible apply ix_div) | omega)
       · repeat (first | with_reducible exact ix_nI | assumption | with_reducible apply ix_add | with_reducible apply ix_mul | (with_reducible apply ix_sub) | (with_reducible apply ix_upd) | (with_reducible apply ix_div) | omega)
       · omega
       · omega
       all_goals (intro hc; first | omega | (conv => whnf)))
    | (with_reducible apply br_eq
       · repeat (first | with_reducible exact ix_nI | assumption | with_reducible apply ix_add | with_reducible apply ix_mul | (with_reducible apply ix_sub) | (with_reducible apply ix_upd) | (with_reducible apply ix_div) | omega)
       · repeat (first | with_reducible exact ix_nI | assumption | with_reducible apply ix_add | with_reducible apply ix_mul | (with_reducible apply ix_sub) | (with_reducible apply ix_upd) | (with_reducible apply ix_div) | omega)
       · omega
       · omega
       all_goals (intro hc; first | omega | (conv => whnf)))
    | (with_reducible apply br_ne
       · repeat (first | with_reducible exact ix_nI | assumption | with_reducible apply ix_add | with_reducible apply ix_mul | (with_reducible apply ix_sub) | (with_reducible apply ix_upd) | (with_reducible apply ix_div) | omega)
       · repeat (first | with_reducible exact ix_nI | assumption | with_reducible apply ix_add | with_reducible apply ix_mul | (with_reducible apply ix_sub) | (with_reducible apply ix_upd) | (with_reducible apply ix_div) | omega)
       · omega
       · omega
       all_goals (intro hc; first | omega | (conv => whnf)))
    | (with_reducible apply br_eq0
       · repeat (first | with_reducible exact ix_nI | assumption | with_reducible apply ix_add | with_reducible apply ix_mul | (with_reducible apply ix_sub) | (with_reducible apply ix_upd) | (with_reducible apply ix_div) | omega)
       · omega
       all_goals (intro hc; first | omega | (conv => whnf)))
    | (with_reducible apply br_ne0
       · repeat (first | with_reducible exact ix_nI | assumption | with_reducible apply ix_add | with_reducible apply ix_mul | (with_reducible apply ix_sub) | (with_reducible apply ix_upd) | (with_reducible apply ix_div) | omega)
       · omega
       all_goals (intro hc; first | omega | (conv => whnf)))
    | (with_reducible apply br_le0
       · repeat (first | with_reducible exact ix_nI | assumption | with_reducible apply ix_add | with_reducible apply ix_mul | (with_reducible apply ix_sub) | (with_reducible apply ix_upd) | (with_reducible apply ix_div) | omega)
       · omega
       all_goals (intro hc; first | omega | (conv => whnf)))
    | (with_reducible apply br_gt0
       · repeat (first | with_reducible exact ix_nI | assumption | with_reducible apply ix_add | with_reducible apply ix_mul | (with_reducible apply ix_sub) | (with_reducible apply ix_upd) | (with_reducible apply ix_div) | omega)
       · omega
       all_goals (intro hc; first | omega | (conv => whnf)))
    | (with_reducible apply br_lt0
       · repeat (first | with_reducible exact ix_nI | assumption | with_reducible apply ix_add | with_reducible apply ix_mul | (with_reducible apply ix_sub) | (with_reducible apply ix_upd) | (with_reducible apply ix_div) | omega)
       · omega
       conv => whnf)
    | (with_reducible apply br_ge0
       · repeat (first | with_reducible exact ix_nI | assumption | with_reducible apply ix_add | with_reducible apply ix_mul | (with_reducible apply ix_sub) | (with_reducible apply ix_upd) | (with_reducible apply ix_div) | omega)
       · omega
       conv => whnf)
    | (with_reducible apply br_tab
       · repeat (first | with_reducible exact ix_nI | assumption | with_reducible apply ix_add | with_reducible apply ix_mul | (with_reducible apply ix_sub) | (with_reducible apply ix_upd) | (with_reducible apply ix_div) | omega)
       · omega
       all_goals (intro hc; (try dsimp only at hc); first | omega | (conv => whnf)))
    | (refine And.intro (fun hc => ?_) (fun hc => ?_) <;> conv => whnf)
    | (refine And.intro (by decide) ?_; conv => whnf)
    | fail)
  · exact h0 fun q => q.1 hc
  · exact h0 fun q => q.2 hc
  · rename_i hc0
    exact h1 ⟨hc0, hc⟩
theorem c_hexDigit {c : Int32} (hK : K (.inl (some (.int (dgO c)))) h w) : Cl G (d + 1) kX0_hexDigit [.int c] h w K := by
  unfold dgO at hK
  refine Cl.of (by decide) rfl ?_
  refine wp_vc [] 40 rfl fun W' C hW hC => ?_
  conv => whnf
  repeat' (first
    | (refine ⟨_, rfl, ?_⟩; conv => whnf)
    | (refine ⟨_, _, rfl, ⟨_, rfl, rfl⟩, ?_⟩; conv => whnf)
    | (refine ⟨_, _, rfl, ?_⟩
       with_reducible apply ix_ex
       · repeat (first | with_reducible exact ix_nI | assumption | with_reducible apply ix_add | with_reducible apply ix_mul | (with_reducible apply ix_sub) | (with_reducible apply ix_upd) | (with_reducible apply ix_div) | omega)
       (refine ⟨⟨by omega, by decide⟩, ?_⟩; conv => whnf))
    | (with_reducible apply br_le
       · repeat (first | with_reducible exact ix_nI | assumption | with_reducible apply ix_add | with_reducible apply ix_mul | (with_reducible apply ix_sub) | (with_reducible apply ix_upd) | (with_reducible apply ix_div) | omega)
       · repeat (first | with_reducible exact ix_nI | assumption | with_reducible apply ix_add | with_reducible apply ix_mul | (with_reducible apply ix_sub) | (with_reducible apply ix_upd) | (with_reducible apply ix_div) | omega)
       · omega
       · omega
       all_goals (intro hc; first | omega | (conv => whnf)))
    | (with_reducible apply br_lt
       · repeat (first | with_reducible exact ix_nI | assumption | with_reducible apply ix_add | with_reducible apply ix_mul | (with_reducible apply ix_sub) | (with_reducible apply ix_upd) | (with_reducible apply ix_div) | omega)
       · repeat (first | with_reducible exact ix_nI | assumption | with_reducible apply ix_add | with_reducible apply ix_mul | (with_reducible apply ix_sub) | (with_reducible apply ix_upd) | (with_reducible apply ix_div) | omega)
       · omega
       · omega
       all_goals (intro hc; first | omega | (conv => whnf)))
    | (with_reducible apply br_eq
       · repeat (first | with_reducible exact ix_nI | assumption | with_reducible apply ix_add | with_reducible apply ix_mul | (with_reducible apply ix_sub) | (with_reducible apply ix_upd) | (with_reducible apply ix_div) | omega)
       · repeat (first | with_reducible exact ix_nI | assumption | with_reducible apply ix_add | with_reducible apply ix_mul | (with_reducible apply ix_sub) | (with_reducible apply ix_upd) | (with_reducible apply ix_div) | omega)
       · omega
       · omega
       all_goals (intro hc; first | omega | (conv => whnf)))
    | (with_reducible apply br_ne
       · repeat (first | with_reducible exact ix_nI | assumption | with_reducible apply ix_add | with_reducible apply ix_mul | (with_reducible apply ix_sub) | (with_reducible apply ix_upd) | (with_reducible apply ix_div) | omega)
       · repeat (first | with_reducible exact ix_nI | assumption | with_reducible apply ix_add | with_reducible apply ix_mul | (with_reducible apply ix_sub) | (with_reducible apply ix_upd) | (with_reducible apply ix_div) | omega)
       · omega
       · omega
       all_goals (intro hc; first | omega | (conv => whnf)))
    | (with_reducible apply br_eq0
       · repeat (first | with_reducible exact ix_nI | assumption | with_reducible apply ix_add | with_reducible apply ix_mul | (with_reducible apply ix_sub) | (with_reducible apply ix_upd) | (with_reducible apply ix_div) | omega)
       · omega
       all_goals (intro hc; first | omega | (conv => whnf)))
    | (with_reducible apply br_ne0
       · repeat (first | with_reducible exact ix_nI | assumption | with_reducible apply ix_add | with_reducible apply ix_mul | (with_reducible apply ix_sub) | (with_reducible apply ix_upd) | (with_reducible apply ix_div) | omega)
       · omega
       all_goals (intro hc; first | omega | (conv => whnf)))
    | (with_reducible apply br_le0
       · repeat (first | with_reducible exact ix_nI | assumption | with_reducible apply ix_add | with_reducible apply ix_mul | (with_reducible apply ix_sub) | (with_reducible apply ix_upd) | (with_reducible apply ix_div) | omega)
       · omega
       all_goals (intro hc; first | omega | (conv => whnf)))
    | (with_reducible apply br_gt0
       · repeat (first | with_reducible exact ix_nI | assumption | with_reducible apply ix_add | with_reducible apply ix_mul | (with_reducible apply ix_sub) | (with_reducible apply ix_upd) | (with_reducible apply ix_div) | omega)
       · omega
       all_goals (intro hc; first | omega | (conv => whnf)))
    | (with_reducible apply br_lt0
       · repeat (first | with_reducible exact ix_nI | assumption | with_reducible apply ix_add | with_reducible apply ix_mul | (with_reducible apply ix_sub) | (with_reducible apply ix_upd) | (with_reducible apply ix_div) | omega)
       · omega
       conv => whnf)
    | (with_reducible apply br_ge0
       · repeat (first | with_reducible exact ix_nI | assumption | with_reducible apply ix_add | with_reducible apply ix_mul | (with_reducible apply ix_sub) | (with_reducible apply ix_upd) | (with_reducible apply ix_div) | omega)
       · omega
       conv => whnf)
    | (with_reducible apply br_tab
       · repeat (first | with_reducible exact ix_nI | assumption | with_reducible apply ix_add | with_reducible apply ix_mul | (with_reducible apply ix_sub) | (with_reducible apply ix_upd) | (with_reducible apply ix_div) | omega)
       · omega
       all_goals (intro hc; (try dsimp only at hc); first | omega | (conv => whnf)))
    | (refine cl_use hC (c_isIn (c := c) (lo := nI 48) (hi := nI 57) (fun g1 => ?_) (fun g1 => ?_)) <;> conv => whnf)
    | (refine cl_use hC (c_isIn (c := c) (lo := nI 97) (hi := nI 102) (fun g2 => ?_) (fun g2 => ?_)) <;> conv => whnf)
    | (refine And.intro (fun hc => ?_) (fun hc => ?_) <;> conv => whnf)
    | (refine And.intro (by decide) ?_; conv => whnf)
    | fail)
  · rw [if_pos g1] at hK; exact hK
  · rw [if_neg g1, if_pos g2] at hK; exact hK
  · rw [if_neg g1, if_neg g2] at hK; exact hK
theorem c_afterCommand {c : Int32} (hK : K (.inl (some (.int (acN c)))) h w) : Cl G d kX0_afterCommand [.int c] h w K := by
  unfold acN at hK
  refine Cl.of (by decide) rfl ?_
  refine wp_vc [] 40 rfl fun W' C hW hC => ?_
  conv => whnf
  repeat' (first
    | (refine ⟨_, rfl, ?_⟩; conv => whnf)
    | (refine ⟨_, _, rfl, ⟨_, rfl, rfl⟩, ?_⟩; conv => whnf)
    | (refine ⟨_, _, rfl, ?_⟩
       with_reducible apply ix_ex
       · repeat (first | with_reducible exact ix_nI | assumption | with_reducible apply ix_add | with_reducible apply ix_mul | (with_reducible apply ix_sub) | (with_reducible apply ix_upd) | (with_reducible apply ix_div) | omega)
       (refine ⟨⟨by omega, by decide⟩, ?_⟩; conv => whnf))
    | (with_reducible apply br_le
       · repeat (first | with_reducible exact ix_nI | assumption | with_reducible apply ix_add | with_reducible apply ix_mul | (with_reducible apply ix_sub) | (with_reducible apply ix_upd) | (with_reducible apply ix_div) | omega)
       · repeat (first | with_reducible exact ix_nI | assumption | with_reducible apply ix_add | with_reducible apply ix_mul | (with_reducible apply ix_sub) | (with_reducible apply ix_upd) | (with_reducible apply ix_div) | omega)
       · omega
       · omega
       all_goals (intro hc; first | omega | (conv => whnf)))
    | (with_reducible apply br_lt
       · repeat (first | with_reducible exact ix_nI | assumption | with_reducible apply ix_add | with_reducible apply ix_mul | (with_reducible apply ix_sub) | (with_reducible apply ix_upd) | (with_reducible apply ix_div) | omega)
       · repeat (first | with_reducible exact ix_nI | assumption | with_reducible apply ix_add | with_reducible apply ix_mul | (with_reducible apply ix_sub) | (with_reducible apply ix_upd) | (with_reducible apply ix_div) | omega)
       · omega
       · omega
       all_goals (intro hc; first | omega | (conv => whnf)))
    | (with_reducible apply br_eq
       · repeat (first | with_reducible exact ix_nI | assumption | with_reducible apply ix_add | with_reducible apply ix_mul | (with_reducible apply ix_sub) | (with_reducible apply ix_upd) | (with_reducible apply ix_div) | omega)
       · repeat (first | with_reducible exact ix_nI | assumption | with_reducible apply ix_add | with_reducible apply ix_mul | (with_reducible apply ix_sub) | (with_reducible apply ix_upd) | (with_reducible apply ix_div) | omega)
       · omega
       · omega
       all_goals (intro hc; first | omega | (conv => whnf)))
    | (with_reducible apply br_ne
       · repeat (first | with_reducible exact ix_nI | assumption | with_reducible apply ix_add | with_reducible apply ix_mul | (with_reducible apply ix_sub) | (with_reducible apply ix_upd) | (with_reducible apply ix_div) | omega)
       · repeat (first | with_reducible exact ix_nI | assumption | with_reducible apply ix_add | with_reducible apply ix_mul | (with_reducible apply ix_sub) | (with_reducible apply ix_upd) | (with_reducible apply ix_div) | omega)
       · omega
       · omega
       all_goals (intro hc; first | omega | (conv => whnf)))
    | (with_reducible apply br_eq0
       · repeat (first | with_reducible exact ix_nI | assumption | with_reducible apply ix_add | with_reducible apply ix_mul | (with_reducible apply ix_sub) | (with_reducible apply ix_upd) | (with_reducible apply ix_div) | omega)
       · omega
       all_goals (intro hc; first | omega | (conv => whnf)))
    | (with_reducible apply br_ne0
       · repeat (first | with_reducible exact ix_nI | assumption | with_reducible apply ix_add | with_reducible apply ix_mul | (with_reducible apply ix_sub) | (with_reducible apply ix_upd) | (with_reducible apply ix_div) | omega)
       · omega
       all_goals (intro hc; first | omega | (conv => whnf)))
    | (with_reducible apply br_le0
       · repeat (first | with_reducible exact ix_nI | assumption | with_reducible apply ix_add | with_reducible apply ix_mul | (with_reducible apply ix_sub) | (with_reducible apply ix_upd) | (with_reducible apply ix_div) | omega)
       · omega
       all_goals (intro hc; first | omega | (conv => whnf)))
    | (with_reducible apply br_gt0
       · repeat (first | with_reducible exact ix_nI | assumption | with_reducible apply ix_add | with_reducible apply ix_mul | (with_reducible apply ix_sub) | (with_reducible apply ix_upd) | (with_reducible apply ix_div) | omega)
       · omega
       all_goals (intro hc; first | omega | (conv => whnf)))
    | (with_reducible apply br_lt0
       · repeat (first | with_reducible exact ix_nI | assumption | with_reducible apply ix_add | with_reducible apply ix_mul | (with_reducible apply ix_sub) | (with_reducible apply ix_upd) | (with_reducible apply ix_div) | omega)
       · omega
       conv => whnf)
    | (with_reducible apply br_ge0
       · repeat (first | with_reducible exact ix_nI | assumption | with_reducible apply ix_add | with_reducible apply ix_mul | (with_reducible apply ix_sub) | (with_reducible apply ix_upd) | (with_reducible apply ix_div) | omega)
       · omega
       conv => whnf)
    | (with_reducible apply br_tab
       · repeat (first | with_reducible exact ix_nI | assumption | with_reducible apply ix_add | with_reducible apply ix_mul | (with_reducible apply ix_sub) | (with_reducible apply ix_upd) | (with_reducible apply ix_div) | omega)
       · omega
       all_goals (intro hc; (try dsimp only at hc); first | omega | (conv => whnf)))
    | (refine And.intro (fun hc => ?_) (fun hc => ?_) <;> conv => whnf)
    | (refine And.intro (by decide) ?_; conv => whnf)
    | fail)
  · rw [if_neg hc] at hK; exact hK
  · rw [if_pos hc] at hK; exact hK
theorem c_afterFirstHour {c : Int32} (hK : K (.inl (some (.int (nxN 5 c)))) h w) : Cl G (d + 1) kX0_afterFirstHour [.int c] h w K := by
  rw [nx_5] at hK
  refine Cl.of (by decide) rfl ?_
  refine wp_vc [] 40 rfl fun W' C hW hC => ?_
  conv => whnf
  repeat' (first
    | (refine ⟨_, rfl, ?_⟩; conv => whnf)
    | (refine ⟨_, _, rfl, ⟨_, rfl, rfl⟩, ?_⟩; conv => whnf)
    | (refine ⟨_, _, rfl, ?_⟩
       with_reducible apply ix_ex
       · repeat (first | with_reducible exact ix_nI | assumption | with_reducible apply ix_add | with_reducible apply ix_mul | (with_reducible apply ix_sub) | (with_reducible apply ix_upd) | (with_reducible apply ix_div) | omega)
       (refine ⟨⟨by omega, by decide⟩, ?_⟩; conv => whnf))
    | (with_reducible apply br_le
       · repeat (first | with_reducible exact ix_nI | assumption | with_reducible apply ix_add | with_reducible apply ix_mul | (with_reducible apply ix_sub) | (with_reducible apply ix_upd) | (with_reducible apply ix_div) | omega)
       · repeat (first | with_reducible exact ix_nI | assumption | with_reducible apply ix_add | with_reducible apply ix_mul | (with_reducible apply ix_sub) | (with_reducible apply ix_upd) | (with_reducible apply ix_div) | omega)
       · omega
       · omega
       all_goals (intro hc; first | omega | (conv => whnf)))
    | (with_reducible apply br_lt
       · repeat (first | with_reducible exact ix_nI | assumption | with_reducible apply ix_add | with_reducible apply ix_mul | (with_reducible apply ix_sub) | (with_reducible apply ix_upd) | (with_reducible apply ix_div) | omega)
       · repeat (first | with_reducible exact ix_nI | assumption | with_reducible apply ix_add | with_reducible apply ix_mul | (with_reducible apply ix_sub) | (with_reducible apply ix_upd) | (with_reducible apply ix_div) | omega)
       · omega
       · omega
       all_goals (intro hc; first | omega | (conv => whnf)))
    | (with_reducible apply br_eq
       · repeat (first | with_reducible exact ix_nI | assumption | with_reducible apply ix_add | with_reducible apply ix_mul | (with_reducible apply ix_sub) | (with_reducible apply ix_upd) | (with_reducible apply ix_div) | omega)
       · repeat (first | with_reducible exact ix_nI | assumption | with_reducible apply ix_add | with_reducible apply ix_mul | (with_reducible apply ix_sub) | (with_reducible apply ix_upd) | (with_reducible apply ix_div) | omega)
       · omega
       · omega
       all_goals (intro hc; first | omega | (conv => whnf)))
    | (with_reducible apply br_ne
       · repeat (first | with_reducible exact ix_nI | assumption | with_reducible apply ix_add | with_reducible apply ix_mul | (with_reducible apply ix_sub) | (with_reducible apply ix_upd) | (with_reducible apply ix_div) | omega)
       · repeat (first | with_reducible exact ix_nI | assumption | with_reducible apply ix_add | with_reducible apply ix_mul | (with_reducible apply ix_sub) | (with_reducible apply ix_upd) | (with_reducible apply ix_div) | omega)
       · omega
       · omega
       all_goals (intro hc; first | omega | (conv => whnf)))
    | (with_reducible apply br_eq0
       · repeat (first | with_reducible exact ix_nI | assumption | with_reducible apply ix_add | with_reducible apply ix_mul | (with_reducible apply ix_sub) | (with_reducible apply ix_upd) | (with_reducible apply ix_div) | omega)
       · omega
       all_goals (intro hc; first | omega | (conv => whnf)))
    | (with_reducible apply br_ne0
       · repeat (first | with_reducible exact ix_nI | assumption | with_reducible apply ix_add | with_reducible apply ix_mul | (with_reducible apply ix_sub) | (with_reducible apply ix_upd) | (with_reducible apply ix_div) | omega)
       · omega
       all_goals (intro hc; first | omega | (conv => whnf)))
    | (with_reducible apply br_le0
       · repeat (first | with_reducible exact ix_nI | assumption | with_reducible apply ix_add | with_reducible apply ix_mul | (with_reducible apply ix_sub) | (with_reducible apply ix_upd) | (with_reducible apply ix_div) | omega)
       · omega
       all_goals (intro hc; first | omega | (conv => whnf)))
    | (with_reducible apply br_gt0
       · repeat (first | with_reducible exact ix_nI | assumption | with_reducible apply ix_add | with_reducible apply ix_mul | (with_reducible apply ix_sub) | (with_reducible apply ix_upd) | (with_reducible apply ix_div) | omega)
       · omega
       all_goals (intro hc; first | omega | (conv => whnf)))
    | (with_reducible apply br_lt0
       · repeat (first | with_reducible exact ix_nI | assumption | with_reducible apply ix_add | with_reducible apply ix_mul | (with_reducible apply ix_sub) | (with_reducible apply ix_upd) | (with_reducible apply ix_div) | omega)
       · omega
       conv => whnf)
    | (with_reducible apply br_ge0
       · repeat (first | with_reducible exact ix_nI | assumption | with_reducible apply ix_add | with_reducible apply ix_mul | (with_reducible apply ix_sub) | (with_reducible apply ix_upd) | (with_reducible apply ix_div) | omega)
       · omega
       conv => whnf)
    | (with_reducible apply br_tab
       · repeat (first | with_reducible exact ix_nI | assumption | with_reducible apply ix_add | with_reducible apply ix_mul | (with_reducible apply ix_sub) | (with_reducible apply ix_upd) | (with_reducible apply ix_div) | omega)
       · omega
       all_goals (intro hc; (try dsimp only at hc); first | omega | (conv => whnf)))
    | (refine cl_use hC (c_isIn (fun g1 => ?_) (fun g1 => ?_)) <;> conv => whnf)
    | (refine And.intro (fun hcc => ?_) (fun hcc => ?_) <;> conv => whnf)
    | (refine And.intro (fun hc => ?_) (fun hc => ?_) <;> conv => whnf)
    | (refine And.intro (by decide) ?_; conv => whnf)
    | fail)
  · rw [if_neg hcc, if_pos g1] at hK; exact hK
  · rw [if_neg hcc, if_neg g1] at hK; exact hK
  · rw [if_pos hcc] at hK; exact hK
theorem c_afterLetter {c : Int32} (hK : K (.inl (some (.int (nxN 0 c)))) h w) : Cl G d kX0_afterLetter [.int c] h w K := by
  rw [nx_0] at hK
  refine Cl.of (by decide) rfl ?_
  refine wp_vc [] 40 rfl fun W' C hW hC => ?_
  conv => whnf
  repeat' (first
    | (refine ⟨_, rfl, ?_⟩; conv => whnf)
    | (refine ⟨_, _, rfl, ⟨_, rfl, rfl⟩, ?_⟩; conv => whnf)
    | (refine ⟨_, _, rfl, ?_⟩
       with_reducible apply ix_ex
       · repeat (first | with_reducible exact ix_nI | assumption | with_reducible apply ix_add | with_reducible apply ix_mul | (with_reducible apply ix_sub) | (with_reducible apply ix_upd) | (with_reducible apply ix_div) | omega)
       (refine ⟨⟨by omega, by decide⟩, ?_⟩; conv => whnf))
    | (with_reducible apply br_le
       · repeat (first | with_reducible exact ix_nI | assumption | with_reducible apply ix_add | with_reducible apply ix_mul | (with_reducible apply ix_sub) | (with_reducible apply ix_upd) | (with_reducible apply ix_div) | omega)
       · repeat (first | with_reducible exact ix_nI | assumption | with_reducible apply ix_add | with_reducible apply ix_mul | (with_reducible apply ix_sub) | (with_reducible apply ix_upd) | (with_reducible apply ix_div) | omega)
       · omega
       · omega
       all_goals (intro hc; first | omega | (conv => whnf)))
    | (with_reducible apply br_lt
       · repeat (first | with_reducible exact ix_nI | assumption | with_reducible apply ix_add | with_reducible apply ix_mul | (with_reducible apply ix_sub) | (with_reducible apply ix_upd) | (with_reducible apply ix_div) | omega)
       · repeat (first | with_reducible exact ix_nI | assumption | with_reducible apply ix_add | with_reducible apply ix_mul | (with_reducible apply ix_sub) | (with_reducible apply ix_upd) | (with_reducible apply ix_div) | omega)
       · omega
       · omega
       all_goals (intro hc; first | omega | (conv => whnf)))
    | (with_reducible apply br_eq
       · repeat (first | with_reducible exact ix_nI | assumption | with_reducible apply ix_add | with_reducible apply ix_mul | (with_reducible apply ix_sub) | (with_reducible apply ix_upd) | (with_reducible apply ix_div) | omega)
       · repeat (first | with_reducible exact ix_nI | assumption | with_reducible apply ix_add | with_reducible apply ix_mul | (with_reducible apply ix_sub) | (with_reducible apply ix_upd) | (with_reducible apply ix_div) | omega)
       · omega
       · omega
       all_goals (intro hc; first | omega | (conv => whnf)))
    | (with_reducible apply br_ne
       · repeat (first | with_reducible exact ix_nI | assumption | with_reducible apply ix_add | with_reducible apply ix_mul | (with_reducible apply ix_sub) | (with_reducible apply ix_upd) | (with_reducible apply ix_div) | omega)
       · repeat (first | with_reducible exact ix_nI | assumption | with_reducible apply ix_add | with_reducible apply ix_mul | (with_reducible apply ix_sub) | (with_reducible apply ix_upd) | (with_reducible apply ix_div) | omega)
       · omega
       · omega
       all_goals (intro hc; first | omega | (conv => whnf)))
    | (with_reducible apply br_eq0
       · repeat (first | with_reducible exact ix_nI | assumption | with_reducible apply ix_add | with_reducible apply ix_mul | (with_reducible apply ix_sub) | (with_reducible apply ix_upd) | (with_reducible apply ix_div) | omega)
       · omega
       all_goals (intro hc; first | omega | (conv => whnf)))
    | (with_reducible apply br_ne0
       · repeat (first | with_reducible exact ix_nI | assumption | with_reducible apply ix_add | with_reducible apply ix_mul | (with_reducible apply ix_sub) | (with_reducible apply ix_upd) | (with_reducible apply ix_div) | omega)
       · omega
       all_goals (intro hc; first | omega | (conv => whnf)))
    | (with_reducible apply br_le0
       · repeat (first | with_reducible exact ix_nI | assumption | with_reducible apply ix_add | with_reducible apply ix_mul | (with_reducible apply ix_sub) | (with_reducible apply ix_upd) | (with_reducible apply ix_div) | omega)
       · omega
       all_goals (intro hc; first | omega | (conv => whnf)))
    | (with_reducible apply br_gt0
       · repeat (first | with_reducible exact ix_nI | assumption | with_reducible apply ix_add | with_reducible apply ix_mul | (with_reducible apply ix_sub) | (with_reducible apply ix_upd) | (with_reducible apply ix_div) | omega)
       · omega
       all_goals (intro hc; first | omega | (conv => whnf)))
    | (with_reducible apply br_lt0
       · repeat (first | with_reducible exact ix_nI | assumption | with_reducible apply ix_add | with_reducible apply ix_mul | (with_reducible apply ix_sub) | (with_reducible apply ix_upd) | (with_reducible apply ix_div) | omega)
       · omega
       conv => whnf)
    | (with_reducible apply br_ge0
       · repeat (first | with_reducible exact ix_nI | assumption | with_reducible apply ix_add | with_reducible apply ix_mul | (with_reducible apply ix_sub) | (with_reducible apply ix_upd) | (with_reducible apply ix_div) | omega)
       · omega
       conv => whnf)
    | (with_reducible apply br_tab
       · repeat (first | with_reducible exact ix_nI | assumption | with_reducible apply ix_add | with_reducible apply ix_mul | (with_reducible apply ix_sub) | (with_reducible apply ix_upd) | (with_reducible apply ix_div) | omega)
       · omega
       all_goals (intro hc; (try dsimp only at hc); first | omega | (conv => whnf)))
    | (refine br_lsw (k := 101) (by decide) (by decide) (fun hc1 => ?_) (fun hc1 => ?_) <;> conv => whnf)
    | (refine br_lsw (k := 104) (by decide) (by decide) (fun hc2 => ?_) (fun hc2 => ?_) <;> conv => whnf)
    | (refine br_lsw (k := 114) (by decide) (by decide) (fun hc3 => ?_) (fun hc3 => ?_) <;> conv => whnf)
    | (refine br_lsw (k := 119) (by decide) (by decide) (fun hc4 => ?_) (fun hc4 => ?_) <;> conv => whnf)
    | (refine And.intro (fun hc => ?_) (fun hc => ?_) <;> conv => whnf)
    | (refine And.intro (by decide) ?_; conv => whnf)
    | fail)
  · rw [if_pos hc1] at hK; exact hK
  · rw [if_neg hc1, if_pos hc2] at hK; exact hK
  · rw [if_neg hc1, if_neg hc2, if_pos hc3] at hK; exact hK
  · rw [if_neg hc1, if_neg hc2, if_neg hc3, if_pos hc4] at hK; exact hK
  · rw [if_neg hc1, if_neg hc2, if_neg hc3, if_neg hc4] at hK; exact hK
theorem c_afterHex {a : Nat} {c : Int32} (ha : 10 ≤ a) (ha2 : a < 18) (hK : K (.inl (some (.int (nxN a c)))) h w) : Cl G (d + 2) kX0_afterHex [.int (nI a), .int c] h w K := by
  rw [nx_x ha] at hK
  refine Cl.of (by decide) rfl ?_
  refine wp_vc [] 40 rfl fun W' C hW hC => ?_
  conv => whnf
  repeat' (first
    | (refine ⟨_, rfl, ?_⟩; conv => whnf)
    | (refine ⟨_, _, rfl, ⟨_, rfl, rfl⟩, ?_⟩; conv => whnf)
    | (refine ⟨_, _, rfl, ?_⟩
       with_reducible apply ix_ex
       · repeat (first | with_reducible exact ix_nI | assumption | with_reducible apply ix_add | with_reducible apply ix_mul | (with_reducible apply ix_sub) | (with_reducible apply ix_upd) | (with_reducible apply ix_div) | omega)
       (refine ⟨⟨by omega, by decide⟩, ?_⟩; conv => whnf))
    | (with_reducible apply br_le
       · repeat (first | with_reducible exact ix_nI | assumption | with_reducible apply ix_add | with_reducible apply ix_mul | (with_reducible apply ix_sub) | (with_reducible apply ix_upd) | (with_reducible apply ix_div) | omega)
       · repeat (first | with_reducible exact ix_nI | assumption | with_reducible apply ix_add | with_reducible apply ix_mul | (with_reducible apply ix_sub) | (with_reducible apply ix_upd) | (with_reducible apply ix_div) | omega)
       · omega
       · omega
       all_goals (intro hc; first | omega | (conv => whnf)))
    | (with_reducible apply br_lt
       · repeat (first | with_reducible exact ix_nI | assumption | with_reducible apply ix_add | with_reducible apply ix_mul | (with_reducible apply ix_sub) | (with_reducible apply ix_upd) | (with_reducible apply ix_div) | omega)
       · repeat (first | with_reducible exact ix_nI | assumption | with_reducible apply ix_add | with_reducible apply ix_mul | (with_reducible apply ix_sub) | (with_reducible apply ix_upd) | (with_reducible apply ix_div) | omega)
       · omega
       · omega
       all_goals (intro hc; first | omega | (conv => whnf)))
    | (with_reducible apply br_eq
       · repeat (first | with_reducible exact ix_nI | assumption | with_reducible apply ix_add | with_reducible apply ix_mul | (with_reducible apply ix_sub) | (with_reducible apply ix_upd) | (with_reducible apply ix_div) | omega)
       · repeat (first | with_reducible exact ix_nI | assumption | with_reducible apply ix_add | with_reducible apply ix_mul | (with_reducible apply ix_sub) | (with_reducible apply ix_upd) | (with_reducible apply ix_div) | omega)
       · omega
       · omega
       all_goals (intro hc; first | omega | (conv => whnf)))
    | (with_reducible apply br_ne
       · repeat (first | with_reducible exact ix_nI | assumption | with_reducible apply ix_add | with_reducible apply ix_mul | (with_reducible apply ix_sub) | (with_reducible apply ix_upd) | (with_reducible apply ix_div) | omega)
       · repeat (first | with_reducible exact ix_nI | assumption | with_reducible apply ix_add | with_reducible apply ix_mul | (with_reducible apply ix_sub) | (with_reducible apply ix_upd) | (with_reducible apply ix_div) | omega)
       · omega
       · omega
       all_goals (intro hc; first | omega | (conv => whnf)))
    | (with_reducible apply br_eq0
       · repeat (first | with_reducible exact ix_nI | assumption | with_reducible apply ix_add | with_reducible apply ix_mul | (with_reducible apply ix_sub) | (with_reducible apply ix_upd) | (with_reducible apply ix_div) | omega)
       · omega
       all_goals (intro hc; first | omega | (conv => whnf)))
    | (with_reducible apply br_ne0
       · repeat (first | with_reducible exact ix_nI | assumption | with_reducible apply ix_add | with_reducible apply ix_mul | (with_reducible apply ix_sub) | (with_reducible apply ix_upd) | (with_reducible apply ix_div) | omega)
       · omega
       all_goals (intro hc; first | omega | (conv => whnf)))
    | (with_reducible apply br_le0
       · repeat (first | with_reducible exact ix_nI | assumption | with_reducible apply ix_add | with_reducible apply ix_mul | (with_reducible apply ix_sub) | (with_reducible apply ix_upd) | (with_reducible apply ix_div) | omega)
       · omega
       all_goals (intro hc; first | omega | (conv => whnf)))
    | (with_reducible apply br_gt0
       · repeat (first | with_reducible exact ix_nI | assumption | with_reducible apply ix_add | with_reducible apply ix_mul | (with_reducible apply ix_sub) | (with_reducible apply ix_upd) | (with_reducible apply ix_div) | omega)
       · omega
       all_goals (intro hc; first | omega | (conv => whnf)))
    | (with_reducible apply br_lt0
       · repeat (first | with_reducible exact ix_nI | assumption | with_reducible apply ix_add | with_reducible apply ix_mul | (with_reducible apply ix_sub) | (with_reducible apply ix_upd) | (with_reducible apply ix_div) | omega)
       · omega
       conv => whnf)
    | (with_reducible apply br_ge0
       · repeat (first | with_reducible exact ix_nI | assumption | with_reducible apply ix_add | with_reducible apply ix_mul | (with_reducible apply ix_sub) | (with_reducible apply ix_upd) | (with_reducible apply ix_div) | omega)
       · omega
       conv => whnf)
    | (with_reducible apply br_tab
       · repeat (first | with_reducible exact ix_nI | assumption | with_reducible apply ix_add | with_reducible apply ix_mul | (with_reducible apply ix_sub) | (with_reducible apply ix_upd) | (with_reducible apply ix_div) | omega)
       · omega
       all_goals (intro hc; (try dsimp only at hc); first | omega | (conv => whnf)))
    | (refine cl_use hC (c_hexDigit ?_); conv => whnf)
    | (refine And.intro (fun hc => ?_) (fun hc => ?_) <;> conv => whnf)
    | (refine And.intro (by decide) ?_; conv => whnf)
    | fail)
  · rename_i hc1
    rw [if_neg hc1, if_neg (by omega)] at hK
    exact hK
  · rename_i hc1
    rw [if_neg hc1, if_pos (by omega)] at hK
    rw [nI_add]
    exact hK
  · rw [if_pos hc] at hK; exact hK
theorem c_nx0 {c : Int32} (hK : K (.inl (some (.int (nxN 0 c)))) h w) : Cl G (d + 3) kX0_next [.int (nI 0), .int c] h w K := by
  refine Cl.of (by decide) rfl ?_
  refine wp_vc [] 40 rfl fun W' C hW hC => ?_
  conv => whnf
  repeat' (first
    | (refine ⟨_, rfl, ?_⟩; conv => whnf)
    | (refine ⟨_, _, rfl, ⟨_, rfl, rfl⟩, ?_⟩; conv => whnf)
    | (refine ⟨_, _, rfl, ?_⟩
       with_reducible apply ix_ex
       · repeat (first | with_reducible exact ix_nI | assumption | with_reducible apply ix_add | with_reducible apply ix_mul | (with_reducible apply ix_sub) | (with_reducible apply ix_upd) | (with_reducible apply ix_div) | omega)
       (refine ⟨⟨by omega, by decide⟩, ?_⟩; conv => whnf))
    | (with_reducible apply br_le
       · repeat (first | with_reducible exact ix_nI | assumption | with_reducible apply ix_add | with_reducible apply ix_mul | (with_reducible apply ix_sub) | (with_reducible apply ix_upd) | (with_reducible apply ix_div) | omega)
       · repeat (first | with_reducible exact ix_nI | assumption | with_reducible apply ix_add | with_reducible apply ix_mul | (with_reducible apply ix_sub) | (with_reducible apply ix_upd) | (with_reducible apply ix_div) | omega)
       · omega
       · omega
       all_goals (intro hc; first | omega | (conv => whnf)))
    | (with_reducible apply br_lt
       · repeat (first | with_reducible exact ix_nI | assumption | with_reducible apply ix_add | with_reducible apply ix_mul | (with_reducible apply ix_sub) | (with_reducible apply ix_upd) | (with_reducible apply ix_div) | omega)
       · repeat (first | with_reducible exact ix_nI | assumption | with_reducible apply ix_add | with_reducible apply ix_mul | (with_reducible apply ix_sub) | (with_reducible apply ix_upd) | (with_reducible apply ix_div) | omega)
       · omega
       · omega
       all_goals (intro hc; first | omega | (conv => whnf)))
    | (with_reducible apply br_eq
       · repeat (first | with_reducible exact ix_nI | assumption | with_reducible apply ix_add | with_reducible apply ix_mul | (with_reducible apply ix_sub) | (with_reducible apply ix_upd) | (with_reducible apply ix_div) | omega)
       · repeat (first | with_reducible exact ix_nI | assumption | with_reducible apply ix_add | with_reducible apply ix_mul | (with_reducible apply ix_sub) | (with_reducible apply ix_upd) | (with_reducible apply ix_div) | omega)
       · omega
       · omega
       all_goals (intro hc; first | omega | (conv => whnf)))
    | (with_reducible apply br_ne
       · repeat (first | with_reducible exact ix_nI | assumption | with_reducible apply ix_add | with_reducible apply ix_mul | (with_reducible apply ix_sub) | (with_reducible apply ix_upd) | (with_reducible apply ix_div) | omega)
       · repeat (first | with_reducible exact ix_nI | assumption | with_reducible apply ix_add | with_reducible apply ix_mul | (with_reducible apply ix_sub) | (with_reducible apply ix_upd) | (with_reducible apply ix_div) | omega)
       · omega
       · omega
       all_goals (intro hc; first | omega | (conv => whnf)))
    | (with_reducible apply br_eq0
       · repeat (first | with_reducible exact ix_nI | assumption | with_reducible apply ix_add | with_reducible apply ix_mul | (with_reducible apply ix_sub) | (with_reducible apply ix_upd) | (with_reducible apply ix_div) | omega)
       · omega
       all_goals (intro hc; first | omega | (conv => whnf)))
    | (with_reducible apply br_ne0
       · repeat (first | with_reducible exact ix_nI | assumption | with_reducible apply ix_add | with_reducible apply ix_mul | (with_reducible apply ix_sub) | (with_reducible apply ix_upd) | (with_reducible apply ix_div) | omega)
       · omega
       all_goals (intro hc; first | omega | (conv => whnf)))
    | (with_reducible apply br_le0
       · repeat (first | with_reducible exact ix_nI | assumption | with_reducible apply ix_add | with_reducible apply ix_mul | (with_reducible apply ix_sub) | (with_reducible apply ix_upd) | (with_reducible apply ix_div) | omega)
       · omega
       all_goals (intro hc; first | omega | (conv => whnf)))
    | (with_reducible apply br_gt0
       · repeat (first | with_reducible exact ix_nI | assumption | with_reducible apply ix_add | with_reducible apply ix_mul | (with_reducible apply ix_sub) | (with_reducible apply ix_upd) | (with_reducible apply ix_div) | omega)
       · omega
       all_goals (intro hc; first | omega | (conv => whnf)))
    | (with_reducible apply br_lt0
       · repeat (first | with_reducible exact ix_nI | assumption | with_reducible apply ix_add | with_reducible apply ix_mul | (with_reducible apply ix_sub) | (with_reducible apply ix_upd) | (with_reducible apply ix_div) | omega)
       · omega
       conv => whnf)
    | (with_reducible apply br_ge0
       · repeat (first | with_reducible exact ix_nI | assumption | with_reducible apply ix_add | with_reducible apply ix_mul | (with_reducible apply ix_sub) | (with_reducible apply ix_upd) | (with_reducible apply ix_div) | omega)
       · omega
       conv => whnf)
    | (with_reducible apply br_tab
       · repeat (first | with_reducible exact ix_nI | assumption | with_reducible apply ix_add | with_reducible apply ix_mul | (with_reducible apply ix_sub) | (with_reducible apply ix_upd) | (with_reducible apply ix_div) | omega)
       · omega
       all_goals (intro hc; (try dsimp only at hc); first | omega | (conv => whnf)))
    | (refine cl_use hC (c_afterLetter ?_); conv => whnf)
    | (refine And.intro (fun hc => ?_) (fun hc => ?_) <;> conv => whnf)
    | (refine And.intro (by decide) ?_; conv => whnf)
    | fail)
  · exact hK
theorem c_nx1 {c : Int32} (hK : K (.inl (some (.int (nxN 1 c)))) h w) : Cl G (d + 3) kX0_next [.int (nI 1), .int c] h w K := by
  refine Cl.of (by decide) rfl ?_
  refine wp_vc [] 40 rfl fun W' C hW hC => ?_
  conv => whnf
  repeat' (first
    | (refine ⟨_, rfl, ?_⟩; conv => whnf)
    | (refine ⟨_, _, rfl, ⟨_, rfl, rfl⟩, ?_⟩; conv => whnf)
    | (refine ⟨_, _, rfl, ?_⟩
       with_reducible apply ix_ex
       · repeat (first | with_reducible exact ix_nI | assumption | with_reducible apply ix_add | with_reducible apply ix_mul | (with_reducible apply ix_sub) | (with_reducible apply ix_upd) | (with_reducible apply ix_div) | omega)
       (refine ⟨⟨by omega, by decide⟩, ?_⟩; conv => whnf))
    | (with_reducible apply br_le
       · repeat (first | with_reducible exact ix_nI | assumption | with_reducible apply ix_add | with_reducible apply ix_mul | (with_reducible apply ix_sub) | (with_reducible apply ix_upd) | (with_reducible apply ix_div) | omega)
       · repeat (first | with_reducible exact ix_nI | assumption | with_reducible apply ix_add | with_reducible apply ix_mul | (with_reducible apply ix_sub) | (with_reducible apply ix_upd) | (with_reducible apply ix_div) | omega)
       · omega
       · omega
       all_goals (intro hc; first | omega | (conv => whnf)))
    | (with_reducible apply br_lt
       · repeat (first | with_reducible exact ix_nI | assumption | with_reducible apply ix_add | with_reducible apply ix_mul | (with_reducible apply ix_sub) | (with_reducible apply ix_upd) | (with_reducible apply ix_div) | omega)
       · repeat (first | with_reducible exact ix_nI | assumption | with_reducible apply ix_add | with_reducible apply ix_mul | (with_reducible apply ix_sub) | (with_reducible apply ix_upd) | (with_reducible apply ix_div) | omega)
       · omega
       · omega
       all_goals (intro hc; first | omega | (conv => whnf)))
    | (with_reducible apply br_eq
       · repeat (first | with_reducible exact ix_nI | assumption | with_reducible apply ix_add | with_reducible apply ix_mul | (with_reducible apply ix_sub) | (with_reducible apply ix_upd) | (with_reducible apply ix_div) | omega)
       · repeat (first | with_reducible exact ix_nI | assumption | with_reducible apply ix_add | with_reducible apply ix_mul | (with_reducible apply ix_sub) | (with_reducible apply ix_upd) | (with_reducible apply ix_div) | omega)
       · omega
       · omega
       all_goals (intro hc; first | omega | (conv => whnf)))
    | (with_reducible apply br_ne
       · repeat (first | with_reducible exact ix_nI | assumption | with_reducible apply ix_add | with_reducible apply ix_mul | (with_reducible apply ix_sub) | (with_reducible apply ix_upd) | (with_reducible apply ix_div) | omega)
       · repeat (first | with_reducible exact ix_nI | assumption | with_reducible apply ix_add | with_reducible apply ix_mul | (with_reducible apply ix_sub) | (with_reducible apply ix_upd) | (with_reducible apply ix_div) | omega)
       · omega
       · omega
       all_goals (intro hc; first | omega | (conv => whnf)))
    | (with_reducible apply br_eq0
       · repeat (first | with_reducible exact ix_nI | assumption | with_reducible apply ix_add | with_reducible apply ix_mul | (with_reducible apply ix_sub) | (with_reducible apply ix_upd) | (with_reducible apply ix_div) | omega)
       · omega
       all_goals (intro hc; first | omega | (conv => whnf)))
    | (with_reducible apply br_ne0
       · repeat (first | with_reducible exact ix_nI | assumption | with_reducible apply ix_add | with_reducible apply ix_mul | (with_reducible apply ix_sub) | (with_reducible apply ix_upd) | (with_reducible apply ix_div) | omega)
       · omega
       all_goals (intro hc; first | omega | (conv => whnf)))
    | (with_reducible apply br_le0
       · repeat (first | with_reducible exact ix_nI | assumption | with_reducible apply ix_add | with_reducible apply ix_mul | (with_reducible apply ix_sub) | (with_reducible apply ix_upd) | (with_reducible apply ix_div) | omega)
       · omega
       all_goals (intro hc; first | omega | (conv => whnf)))
    | (with_reducible apply br_gt0
       · repeat (first | with_reducible exact ix_nI | assumption | with_reducible apply ix_add | with_reducible apply ix_mul | (with_reducible apply ix_sub) | (with_reducible apply ix_upd) | (with_reducible apply ix_div) | omega)
       · omega
       all_goals (intro hc; first | omega | (conv => whnf)))
    | (with_reducible apply br_lt0
       · repeat (first | with_reducible exact ix_nI | assumption | with_reducible apply ix_add | with_reducible apply ix_mul | (with_reducible apply ix_sub) | (with_reducible apply ix_upd) | (with_reducible apply ix_div) | omega)
       · omega
       conv => whnf)
    | (with_reducible apply br_ge0
       · repeat (first | with_reducible exact ix_nI | assumption | with_reducible apply ix_add | with_reducible apply ix_mul | (with_reducible apply ix_sub) | (with_reducible apply ix_upd) | (with_reducible apply ix_div) | omega)
       · omega
       conv => whnf)
    | (with_reducible apply br_tab
       · repeat (first | with_reducible exact ix_nI | assumption | with_reducible apply ix_add | with_reducible apply ix_mul | (with_reducible apply ix_sub) | (with_reducible apply ix_upd) | (with_reducible apply ix_div) | omega)
       · omega
       all_goals (intro hc; (try dsimp only at hc); first | omega | (conv => whnf)))
    | (refine cl_use hC (c_isIn (fun g1 => ?_) (fun g1 => ?_)) <;> conv => whnf)
    | (refine And.intro (fun hc => ?_) (fun hc => ?_) <;> conv => whnf)
    | (refine And.intro (by decide) ?_; conv => whnf)
    | fail)
  · rw [nx_1, if_pos g1] at hK; exact hK
  · rw [nx_1, if_neg g1] at hK; exact hK
theorem c_nx2 {c : Int32} (hK : K (.inl (some (.int (nxN 2 c)))) h w) : Cl G (d + 3) kX0_next [.int (nI 2), .int c] h w K := by
  refine Cl.of (by decide) rfl ?_
  refine wp_vc [] 40 rfl fun W' C hW hC => ?_
  conv => whnf
  repeat' (first
    | (refine ⟨_, rfl, ?_⟩; conv => whnf)
    | (refine ⟨_, _, rfl, ⟨_, rfl, rfl⟩, ?_⟩; conv => whnf)
    | (refine ⟨_, _, rfl, ?_⟩
       with_reducible apply ix_ex
       · repeat (first | with_reducible exact ix_nI | assumption | with_reducible apply ix_add | with_reducible apply ix_mul | (with_reducible apply ix_sub) | (with_reducible apply ix_upd) | (with_reducible apply ix_div) | omega)
       (refine ⟨⟨by omega, by decide⟩, ?_⟩; conv => whnf))
    | (with_reducible apply br_le
       · repeat (first | with_reducible exact ix_nI | assumption | with_reducible apply ix_add | with_reducible apply ix_mul | (with_reducible apply ix_sub) | (with_reducible apply ix_upd) | (with_reducible apply ix_div) | omega)
       · repeat (first | with_reducible exact ix_nI | assumption | with_reducible apply ix_add | with_reducible apply ix_mul | (with_reducible apply ix_sub) | (with_reducible apply ix_upd) | (with_reducible apply ix_div) | omega)
       · omega
       · omega
       all_goals (intro hc; first | omega | (conv => whnf)))
    | (with_reducible apply br_lt
       · repeat (first | with_reducible exact ix_nI | assumption | with_reducible apply ix_add | with_reducible apply ix_mul | (with_reducible apply ix_sub) | (with_reducible apply ix_upd) | (with_reducible apply ix_div) | omega)
       · repeat (first | with_reducible exact ix_nI | assumption | with_reducible apply ix_add | with_reducible apply ix_mul | (with_reducible apply ix_sub) | (with_reducible apply ix_upd) | (with_reducible apply ix_div) | omega)
       · omega
       · omega
       all_goals (intro hc; first | omega | (conv => whnf)))
    | (with_reducible apply br_eq
       · repeat (first | with_reducible exact ix_nI | assumption | with_reducible apply ix_add | with_reducible apply ix_mul | (with_reducible apply ix_sub) | (with_reducible apply ix_upd) | (with_reducible apply ix_div) | omega)
       · repeat (first | with_reducible exact ix_nI | assumption | with_reducible apply ix_add | with_reducible apply ix_mul | (with_reducible apply ix_sub) | (with_reducible apply ix_upd) | (with_reducible apply ix_div) | omega)
       · omega
       · omega
       all_goals (intro hc; first | omega | (conv => whnf)))
    | (with_reducible apply br_ne
       · repeat (first | with_reducible exact ix_nI | assumption | with_reducible apply ix_add | with_reducible apply ix_mul | (with_reducible apply ix_sub) | (with_reducible apply ix_upd) | (with_reducible apply ix_div) | omega)
       · repeat (first | with_reducible exact ix_nI | assumption | with_reducible apply ix_add | with_reducible apply ix_mul | (with_reducible apply ix_sub) | (with_reducible apply ix_upd) | (with_reducible apply ix_div) | omega)
       · omega
       · omega
       all_goals (intro hc; first | omega | (conv => whnf)))
    | (with_reducible apply br_eq0
       · repeat (first | with_reducible exact ix_nI | assumption | with_reducible apply ix_add | with_reducible apply ix_mul | (with_reducible apply ix_sub) | (with_reducible apply ix_upd) | (with_reducible apply ix_div) | omega)
       · omega
       all_goals (intro hc; first | omega | (conv => whnf)))
    | (with_reducible apply br_ne0
       · repeat (first | with_reducible exact ix_nI | assumption | with_reducible apply ix_add | with_reducible apply ix_mul | (with_reducible apply ix_sub) | (with_reducible apply ix_upd) | (with_reducible apply ix_div) | omega)
       · omega
       all_goals (intro hc; first | omega | (conv => whnf)))
    | (with_reducible apply br_le0
       · repeat (first | with_reducible exact ix_nI | assumption | with_reducible apply ix_add | with_reducible apply ix_mul | (with_reducible apply ix_sub) | (with_reducible apply ix_upd) | (with_reducible apply ix_div) | omega)
       · omega
       all_goals (intro hc; first | omega | (conv => whnf)))
    | (with_reducible apply br_gt0
       · repeat (first | with_reducible exact ix_nI | assumption | with_reducible apply ix_add | with_reducible apply ix_mul | (with_reducible apply ix_sub) | (with_reducible apply ix_upd) | (with_reducible apply ix_div) | omega)
       · omega
       all_goals (intro hc; first | omega | (conv => whnf)))
    | (with_reducible apply br_lt0
       · repeat (first | with_reducible exact ix_nI | assumption | with_reducible apply ix_add | with_reducible apply ix_mul | (with_reducible apply ix_sub) | (with_reducible apply ix_upd) | (with_reducible apply ix_div) | omega)
       · omega
       conv => whnf)
    | (with_reducible apply br_ge0
       · repeat (first | with_reducible exact ix_nI | assumption | with_reducible apply ix_add | with_reducible apply ix_mul | (with_reducible apply ix_sub) | (with_reducible apply ix_upd) | (with_reducible apply ix_div) | omega)
       · omega
       conv => whnf)
    | (with_reducible apply br_tab
       · repeat (first | with_reducible exact ix_nI | assumption | with_reducible apply ix_add | with_reducible apply ix_mul | (with_reducible apply ix_sub) | (with_reducible apply ix_upd) | (with_reducible apply ix_div) | omega)
       · omega
       all_goals (intro hc; (try dsimp only at hc); first | omega | (conv => whnf)))
    | (refine And.intro (fun hcc => ?_) (fun hcc => ?_) <;> conv => whnf)
    | (refine And.intro (fun hc => ?_) (fun hc => ?_) <;> conv => whnf)
    | (refine And.intro (by decide) ?_; conv => whnf)
    | fail)
  · rw [nx_2, if_neg hcc] at hK; exact hK
  · rw [nx_2, if_pos hcc] at hK; exact hK
theorem c_nx3 {c : Int32} (hK : K (.inl (some (.int (nxN 3 c)))) h w) : Cl G (d + 3) kX0_next [.int (nI 3), .int c] h w K := by
  refine Cl.of (by decide) rfl ?_
  refine wp_vc [] 40 rfl fun W' C hW hC => ?_
  conv => whnf
  repeat' (first
    | (refine ⟨_, rfl, ?_⟩; conv => whnf)
    | (refine ⟨_, _, rfl, ⟨_, rfl, rfl⟩, ?_⟩; conv => whnf)
    | (refine ⟨_, _, rfl, ?_⟩
       with_reducible apply ix_ex
       · repeat (first | with_reducible exact ix_nI | assumption | with_reducible apply ix_add | with_reducible apply ix_mul | (with_reducible apply ix_sub) | (with_reducible apply ix_upd) | (with_reducible apply ix_div) | omega)
       (refine ⟨⟨by omega, by decide⟩, ?_⟩; conv => whnf))
    | (with_reducible apply br_le
       · repeat (first | with_reducible exact ix_nI | assumption | with_reducible apply ix_add | with_reducible apply ix_mul | (with_reducible apply ix_sub) | (with_reducible apply ix_upd) | (with_reducible apply ix_div) | omega)
       · repeat (first | with_reducible exact ix_nI | assumption | with_reducible apply ix_add | with_reducible apply ix_mul | (with_reducible apply ix_sub) | (with_reducible apply ix_upd) | (with_reducible apply ix_div) | omega)
       · omega
       · omega
       all_goals (intro hc; first | omega | (conv => whnf)))
    | (with_reducible apply br_lt
       · repeat (first | with_reducible exact ix_nI | assumption | with_reducible apply ix_add | with_reducible apply ix_mul | (with_reducible apply ix_sub) | (with_reducible apply ix_upd) | (with_reducible apply ix_div) | omega)
       · repeat (first | with_reducible exact ix_nI | assumption | with_reducible apply ix_add | with_reducible apply ix_mul | (with_reducible apply ix_sub) | (with_reducible apply ix_upd) | (with_reducible apply ix_div) | omega)
       · omega
       · omega
       all_goals (intro hc; first | omega | (conv => whnf)))
    | (with_reducible apply br_eq
       · repeat (first | with_reducible exact ix_nI | assumption | with_reducible apply ix_add | with_reducible apply ix_mul | (with_reducible apply ix_sub) | (with_reducible apply ix_upd) | (with_reducible apply ix_div) | omega)
       · repeat (first | with_reducible exact ix_nI | assumption | with_reducible apply ix_add | with_reducible apply ix_mul | (with_reducible apply ix_sub) | (with_reducible apply ix_upd) | (with_reducible apply ix_div) | omega)
       · omega
       · omega
       all_goals (intro hc; first | omega | (conv => whnf)))
    | (with_reducible apply br_ne
       · repeat (first | with_reducible exact ix_nI | assumption | with_reducible apply ix_add | with_reducible apply ix_mul | (with_reducible apply ix_sub) | (with_reducible apply ix_upd) | (with_reducible apply ix_div) | omega)
       · repeat (first | with_reducible exact ix_nI | assumption | with_reducible apply ix_add | with_reducible apply ix_mul | (with_reducible apply ix_sub) | (with_reducible apply ix_upd) | (with_reducible apply ix_div) | omega)
       · omega
       · omega
       all_goals (intro hc; first | omega | (conv => whnf)))
    | (with_reducible apply br_eq0
       · repeat (first | with_reducible exact ix_nI | assumption | with_reducible apply ix_add | with_reducible apply ix_mul | (with_reducible apply ix_sub) | (with_reducible apply ix_upd) | (with_reducible apply ix_div) | omega)
       · omega
       all_goals (intro hc; first | omega | (conv => whnf)))
    | (with_reducible apply br_ne0
       · repeat (first | with_reducible exact ix_nI | assumption | with_reducible apply ix_add | with_reducible apply ix_mul | (with_reducible apply ix_sub) | (with_reducible apply ix_upd) | (with_reducible apply ix_div) | omega)
       · omega
       all_goals (intro hc; first | omega | (conv => whnf)))
    | (with_reducible apply br_le0
       · repeat (first | with_reducible exact ix_nI | assumption | with_reducible apply ix_add | with_reducible apply ix_mul | (with_reducible apply ix_sub) | (with_reducible apply ix_upd) | (with_reducible apply ix_div) | omega)
       · omega
       all_goals (intro hc; first | omega | (conv => whnf)))
    | (with_reducible apply br_gt0
       · repeat (first | with_reducible exact ix_nI | assumption | with_reducible apply ix_add | with_reducible apply ix_mul | (with_reducible apply ix_sub) | (with_reducible apply ix_upd) | (with_reducible apply ix_div) | omega)
       · omega
       all_goals (intro hc; first | omega | (conv => whnf)))
    | (with_reducible apply br_lt0
       · repeat (first | with_reducible exact ix_nI | assumption | with_reducible apply ix_add | with_reducible apply ix_mul | (with_reducible apply ix_sub) | (with_reducible apply ix_upd) | (with_reducible apply ix_div) | omega)
       · omega
       conv => whnf)
    | (with_reducible apply br_ge0
       · repeat (first | with_reducible exact ix_nI | assumption | with_reducible apply ix_add | with_reducible apply ix_mul | (with_reducible apply ix_sub) | (with_reducible apply ix_upd) | (with_reducible apply ix_div) | omega)
       · omega
       conv => whnf)
    | (with_reducible apply br_tab
       · repeat (first | with_reducible exact ix_nI | assumption | with_reducible apply ix_add | with_reducible apply ix_mul | (with_reducible apply ix_sub) | (with_reducible apply ix_upd) | (with_reducible apply ix_div) | omega)
       · omega
       all_goals (intro hc; (try dsimp only at hc); first | omega | (conv => whnf)))
    | (refine cl_use hC (c_isIn (fun g1 => ?_) (fun g1 => ?_)) <;> conv => whnf)
    | (refine And.intro (fun hc => ?_) (fun hc => ?_) <;> conv => whnf)
    | (refine And.intro (by decide) ?_; conv => whnf)
    | fail)
  · rw [nx_3, if_pos g1] at hK; exact hK
  · rw [nx_3, if_neg g1] at hK; exact hK
theorem c_nx4 {c : Int32} (hK : K (.inl (some (.int (nxN 4 c)))) h w) : Cl G (d + 3) kX0_next [.int (nI 4), .int c] h w K := by
  refine Cl.of (by decide) rfl ?_
  refine wp_vc [] 40 rfl fun W' C hW hC => ?_
  conv => whnf
  repeat' (first
    | (refine ⟨_, rfl, ?_⟩; conv => whnf)
    | (refine ⟨_, _, rfl, ⟨_, rfl, rfl⟩, ?_⟩; conv => whnf)
    | (refine ⟨_, _, rfl, ?_⟩
       with_reducible apply ix_ex
       · repeat (first | with_reducible exact ix_nI | assumption | with_reducible apply ix_add | with_reducible apply ix_mul | (with_reducible apply ix_sub) | (with_reducible apply ix_upd) | (with_reducible apply ix_div) | omega)
       (refine ⟨⟨by omega, by decide⟩, ?_⟩; conv => whnf))
    | (with_reducible apply br_le
       · repeat (first | with_reducible exact ix_nI | assumption | with_reducible apply ix_add | with_reducible apply ix_mul | (with_reducible apply ix_sub) | (with_reducible apply ix_upd) | (with_reducible apply ix_div) | omega)
       · repeat (first | with_reducible exact ix_nI | assumption | with_reducible apply ix_add | with_reducible apply ix_mul | (with_reducible apply ix_sub) | (with_reducible apply ix_upd) | (with_reducible apply ix_div) | omega)
       · omega
       · omega
       all_goals (intro hc; first | omega | (conv => whnf)))
    | (with_reducible apply br_lt
       · repeat (first | with_reducible exact ix_nI | assumption | with_reducible apply ix_add | with_reducible apply ix_mul | (with_reducible apply ix_sub) | (with_reducible apply ix_upd) | (with_reducible apply ix_div) | omega)
       · repeat (first | with_reducible exact ix_nI | assumption | with_reducible apply ix_add | with_reducible apply ix_mul | (with_reducible apply ix_sub) | (with_reducible apply ix_upd) | (with_reducible apply ix_div) | omega)
       · omega
       · omega
       all_goals (intro hc; first | omega | (conv => whnf)))
    | (with_reducible apply br_eq
       · repeat (first | with_reducible exact ix_nI | assumption | with_reducible apply ix_add | with_reducible apply ix_mul | (with_reducible apply ix_sub) | (with_reducible apply ix_upd) | (with_reducible apply ix_div) | omega)
       · repeat (first | with_reducible exact ix_nI | assumption | with_reducible apply ix_add | with_reducible apply ix_mul | (with_reducible apply ix_sub) | (with_reducible apply ix_upd) | (with_reducible apply ix_div) | omega)
       · omega
       · omega
       all_goals (intro hc; first | omega | (conv => whnf)))
    | (with_reducible apply br_ne
       · repeat (first | with_reducible exact ix_nI | assumption | with_reducible apply ix_add | with_reducible apply ix_mul | (with_reducible apply ix_sub) | (with_reducible apply ix_upd) | (with_reducible apply ix_div) | omega)
       · repeat (first | with_reducible exact ix_nI | assumption | with_reducible apply ix_add | with_reducible apply ix_mul | (with_reducible apply ix_sub) | (with_reducible apply ix_upd) | (with_reducible apply ix_div) | omega)
       · omega
       · omega
       all_goals (intro hc; first | omega | (conv => whnf)))
    | (with_reducible apply br_eq0
       · repeat (first | with_reducible exact ix_nI | assumption | with_reducible apply ix_add | with_reducible apply ix_mul | (with_reducible apply ix_sub) | (with_reducible apply ix_upd) | (with_reducible apply ix_div) | omega)
       · omega
       all_goals (intro hc; first | omega | (conv => whnf)))
    | (with_reducible apply br_ne0
       · repeat (first | with_reducible exact ix_nI | assumption | with_reducible apply ix_add | with_reducible apply ix_mul | (with_reducible apply ix_sub) | (with_reducible apply ix_upd) | (with_reducible apply ix_div) | omega)
       · omega
       all_goals (intro hc; first | omega | (conv => whnf)))
    | (with_reducible apply br_le0
       · repeat (first | with_reducible exact ix_nI | assumption | with_reducible apply ix_add | with_reducible apply ix_mul | (with_reducible apply ix_sub) | (with_reducible apply ix_upd) | (with_reducible apply ix_div) | omega)
       · omega
       all_goals (intro hc; first | omega | (conv => whnf)))
    | (with_reducible apply br_gt0
       · repeat (first | with_reducible exact ix_nI | assumption | with_reducible apply ix_add | with_reducible apply ix_mul | (with_reducible apply ix_sub) | (with_reducible apply ix_upd) | (with_reducible apply ix_div) | omega)
       · omega
       all_goals (intro hc; first | omega | (conv => whnf)))
    | (with_reducible apply br_lt0
       · repeat (first | with_reducible exact ix_nI | assumption | with_reducible apply ix_add | with_reducible apply ix_mul | (with_reducible apply ix_sub) | (with_reducible apply ix_upd) | (with_reducible apply ix_div) | omega)
       · omega
       conv => whnf)
    | (with_reducible apply br_ge0
       · repeat (first | with_reducible exact ix_nI | assumption | with_reducible apply ix_add | with_reducible apply ix_mul | (with_reducible apply ix_sub) | (with_reducible apply ix_upd) | (with_reducible apply ix_div) | omega)
       · omega
       conv => whnf)
    | (with_reducible apply br_tab
       · repeat (first | with_reducible exact ix_nI | assumption | with_reducible apply ix_add | with_reducible apply ix_mul | (with_reducible apply ix_sub) | (with_reducible apply ix_upd) | (with_reducible apply ix_div) | omega)
       · omega
       all_goals (intro hc; (try dsimp only at hc); first | omega | (conv => whnf)))
    | (refine cl_use hC (c_isIn (fun g1 => ?_) (fun g1 => ?_)) <;> conv => whnf)
    | (refine And.intro (fun hc => ?_) (fun hc => ?_) <;> conv => whnf)
    | (refine And.intro (by decide) ?_; conv => whnf)
    | fail)
  · rw [nx_4, if_pos g1] at hK; exact hK
  · rw [nx_4, if_neg g1] at hK; exact hK
theorem c_nx5 {c : Int32} (hK : K (.inl (some (.int (nxN 5 c)))) h w) : Cl G (d + 3) kX0_next [.int (nI 5), .int c] h w K := by
  refine Cl.of (by decide) rfl ?_
  refine wp_vc [] 40 rfl fun W' C hW hC => ?_
  conv => whnf
  repeat' (first
    | (refine ⟨_, rfl, ?_⟩; conv => whnf)
    | (refine ⟨_, _, rfl, ⟨_, rfl, rfl⟩, ?_⟩; conv => whnf)
    | (refine ⟨_, _, rfl, ?_⟩
       with_reducible apply ix_ex
       · repeat (first | with_reducible exact ix_nI | assumption | with_reducible apply ix_add | with_reducible apply ix_mul | (with_reducible apply ix_sub) | (with_reducible apply ix_upd) | (with_reducible apply ix_div) | omega)
       (refine ⟨⟨by omega, by decide⟩, ?_⟩; conv => whnf))
    | (with_reducible apply br_le
       · repeat (first | with_reducible exact ix_nI | assumption | with_reducible apply ix_add | with_reducible apply ix_mul | (with_reducible apply ix_sub) | (with_reducible apply ix_upd) | (with_reducible apply ix_div) | omega)
       · repeat (first | with_reducible exact ix_nI | assumption | with_reducible apply ix_add | with_reducible apply ix_mul | (with_reducible apply ix_sub) | (with_reducible apply ix_upd) | (with_reducible apply ix_div) | omega)
       · omega
       · omega
       all_goals (intro hc; first | omega | (conv => whnf)))
    | (with_reducible apply br_lt
       · repeat (first | with_reducible exact ix_nI | assumption | with_reducible apply ix_add | with_reducible apply ix_mul | (with_reducible apply ix_sub) | (with_reducible apply ix_upd) | (with_reducible apply ix_div) | omega)
       · repeat (first | with_reducible exact ix_nI | assumption | with_reducible apply ix_add | with_reducible apply ix_mul | (with_reducible apply ix_sub) | (with_reducible apply ix_upd) | (with_reducible apply ix_div) | omega)
       · omega
       · omega
       all_goals (intro hc; first | omega | (conv => whnf)))
    | (with_reducible apply br_eq
       · repeat (first | with_reducible exact ix_nI | assumption | with_reducible apply ix_add | with_reducible apply ix_mul | (with_reducible apply ix_sub) | (with_reducible apply ix_upd) | (with_reducible apply ix_div) | omega)
       · repeat (first | with_reducible exact ix_nI | assumption | with_reducible apply ix_add | with_reducible apply ix_mul | (with_reducible apply ix_sub) | (with_reducible apply ix_upd) | (with_reducible apply ix_div) | omega)
       · omega
       · omega
       all_goals (intro hc; first | omega | (conv => whnf)))
    | (with_reducible apply br_ne
       · repeat (first | with_reducible exact ix_nI | assumption | with_reducible apply ix_add | with_reducible apply ix_mul | (with_reducible apply ix_sub) | (with_reducible apply ix_upd) | (with_reducible apply ix_div) | omega)
       · repeat (first | with_reducible exact ix_nI | assumption | with_reducible apply ix_add | with_reducible apply ix_mul | (with_reducible apply ix_sub) | (with_reducible apply ix_upd) | (with_reducible apply ix_div) | omega)
       · omega
       · omega
       all_goals (intro hc; first | omega | (conv => whnf)))
    | (with_reducible apply br_eq0
       · repeat (first | with_reducible exact ix_nI | assumption | with_reducible apply ix_add | with_reducible apply ix_mul | (with_reducible apply ix_sub) | (with_reducible apply ix_upd) | (with_reducible apply ix_div) | omega)
       · omega
       all_goals (intro hc; first | omega | (conv => whnf)))
    | (with_reducible apply br_ne0
       · repeat (first | with_reducible exact ix_nI | assumption | with_reducible apply ix_add | with_reducible apply ix_mul | (with_reducible apply ix_sub) | (with_reducible apply ix_upd) | (with_reducible apply ix_div) | omega)
       · omega
       all_goals (intro hc; first | omega | (conv => whnf)))
    | (with_reducible apply br_le0
       · repeat (first | with_reducible exact ix_nI | assumption | with_reducible apply ix_add | with_reducible apply ix_mul | (with_reducible apply ix_sub) | (with_reducible apply ix_upd) | (with_reducible apply ix_div) | omega)
       · omega
       all_goals (intro hc; first | omega | (conv => whnf)))
    | (with_reducible apply br_gt0
       · repeat (first | with_reducible exact ix_nI | assumption | with_reducible apply ix_add | with_reducible apply ix_mul | (with_reducible apply ix_sub) | (with_reducible apply ix_upd) | (with_reducible apply ix_div) | omega)
       · omega
       all_goals (intro hc; first | omega | (conv => whnf)))
    | (with_reducible apply br_lt0
       · repeat (first | with_reducible exact ix_nI | assumption | with_reducible apply ix_add | with_reducible apply ix_mul | (with_reducible apply ix_sub) | (with_reducible apply ix_upd) | (with_reducible apply ix_div) | omega)
       · omega
       conv => whnf)
    | (with_reducible apply br_ge0
       · repeat (first | with_reducible exact ix_nI | assumption | with_reducible apply ix_add | with_reducible apply ix_mul | (with_reducible apply ix_sub) | (with_reducible apply ix_upd) | (with_reducible apply ix_div) | omega)
       · omega
       conv => whnf)
    | (with_reducible apply br_tab
       · repeat (first | with_reducible exact ix_nI | assumption | with_reducible apply ix_add | with_reducible apply ix_mul | (with_reducible apply ix_sub) | (with_reducible apply ix_upd) | (with_reducible apply ix_div) | omega)
       · omega
       all_goals (intro hc; (try dsimp only at hc); first | omega | (conv => whnf)))
    | (refine cl_use hC (c_afterFirstHour ?_); conv => whnf)
    | (refine And.intro (fun hc => ?_) (fun hc => ?_) <;> conv => whnf)
    | (refine And.intro (by decide) ?_; conv => whnf)
    | fail)
  · exact hK
theorem c_nx6 {c : Int32} (hK : K (.inl (some (.int (nxN 6 c)))) h w) : Cl G (d + 3) kX0_next [.int (nI 6), .int c] h w K := by
  refine Cl.of (by decide) rfl ?_
  refine wp_vc [] 40 rfl fun W' C hW hC => ?_
  conv => whnf
  repeat' (first
    | (refine ⟨_, rfl, ?_⟩; conv => whnf)
    | (refine ⟨_, _, rfl, ⟨_, rfl, rfl⟩, ?_⟩; conv => whnf)
    | (refine ⟨_, _, rfl, ?_⟩
       with_reducible apply ix_ex
       · repeat (first | with_reducible exact ix_nI | assumption | with_reducible apply ix_add | with_reducible apply ix_mul | (with_reducible apply ix_sub) | (with_reducible apply ix_upd) | (with_reducible apply ix_div) | omega)
       (refine ⟨⟨by omega, by decide⟩, ?_⟩; conv => whnf))
    | (with_reducible apply br_le
       · repeat (first | with_reducible exact ix_nI | assumption | with_reducible apply ix_add | with_reducible apply ix_mul | (with_reducible apply ix_sub) | (with_reducible apply ix_upd) | (with_reducible apply ix_div) | omega)
       · repeat (first | with_reducible exact ix_nI | assumption | with_reducible apply ix_add | with_reducible apply ix_mul | (with_reducible apply ix_sub) | (with_reducible apply ix_upd) | (with_reducible apply ix_div) | omega)
       · omega
       · omega
       all_goals (intro hc; first | omega | (conv => whnf)))
    | (with_reducible apply br_lt
       · repeat (first | with_reducible exact ix_nI | assumption | with_reducible apply ix_add | with_reducible apply ix_mul | (with_reducible apply ix_sub) | (with_reducible apply ix_upd) | (with_reducible apply ix_div) | omega)
       · repeat (first | with_reducible exact ix_nI | assumption | with_reducible apply ix_add | with_reducible apply ix_mul | (with_reducible apply ix_sub) | (with_reducible apply ix_upd) | (with_reducible apply ix_div) | omega)
       · omega
       · omega
       all_goals (intro hc; first | omega | (conv => whnf)))
    | (with_reducible apply br_eq
       · repeat (first | with_reducible exact ix_nI | assumption | with_reducible apply ix_add | with_reducible apply ix_mul | (with_reducible apply ix_sub) | (with_reducible apply ix_upd) | (with_reducible apply ix_div) | omega)
       · repeat (first | with_reducible exact ix_nI | assumption | with_reducible apply ix_add | with_reducible apply ix_mul | (with_reducible apply ix_sub) | (with_reducible apply ix_upd) | (with_reducible apply ix_div) | omega)
       · omega
       · omega
       all_goals (intro hc; first | omega | (conv => whnf)))
    | (with_reducible apply br_ne
       · repeat (first | with_reducible exact ix_nI | assumption | with_reducible apply ix_add | with_reducible apply ix_mul | (with_reducible apply ix_sub) | (with_reducible apply ix_upd) | (with_reducible apply ix_div) | omega)
       · repeat (first | with_reducible exact ix_nI | assumption | with_reducible apply ix_add | with_reducible apply ix_mul | (with_reducible apply ix_sub) | (with_reducible apply ix_upd) | (with_reducible apply ix_div) | omega)
       · omega
       · omega
       all_goals (intro hc; first | omega | (conv => whnf)))
    | (with_reducible apply br_eq0
       · repeat (first | with_reducible exact ix_nI | assumption | with_reducible apply ix_add | with_reducible apply ix_mul | (with_reducible apply ix_sub) | (with_reducible apply ix_upd) | (with_reducible apply ix_div) | omega)
       · omega
       all_goals (intro hc; first | omega | (conv => whnf)))
    | (with_reducible apply br_ne0
       · repeat (first | with_reducible exact ix_nI | assumption | with_reducible apply ix_add | with_reducible apply ix_mul | (with_reducible apply ix_sub) | (with_reducible apply ix_upd) | (with_reducible apply ix_div) | omega)
       · omega
       all_goals (intro hc; first | omega | (conv => whnf)))
    | (with_reducible apply br_le0
       · repeat (first | with_reducible exact ix_nI | assumption | with_reducible apply ix_add | with_reducible apply ix_mul | (with_reducible apply ix_sub) | (with_reducible apply ix_upd) | (with_reducible apply ix_div) | omega)
       · omega
       all_goals (intro hc; first | omega | (conv => whnf)))
    | (with_reducible apply br_gt0
       · repeat (first | with_reducible exact ix_nI | assumption | with_reducible apply ix_add | with_reducible apply ix_mul | (with_reducible apply ix_sub) | (with_reducible apply ix_upd) | (with_reducible apply ix_div) | omega)
       · omega
       all_goals (intro hc; first | omega | (conv => whnf)))
    | (with_reducible apply br_lt0
       · repeat (first | with_reducible exact ix_nI | assumption | with_reducible apply ix_add | with_reducible apply ix_mul | (with_reducible apply ix_sub) | (with_reducible apply ix_upd) | (with_reducible apply ix_div) | omega)
       · omega
       conv => whnf)
    | (with_reducible apply br_ge0
       · repeat (first | with_reducible exact ix_nI | assumption | with_reducible apply ix_add | with_reducible apply ix_mul | (with_reducible apply ix_sub) | (with_reducible apply ix_upd) | (with_reducible apply ix_div) | omega)
       · omega
       conv => whnf)
    | (with_reducible apply br_tab
       · repeat (first | with_reducible exact ix_nI | assumption | with_reducible apply ix_add | with_reducible apply ix_mul | (with_reducible apply ix_sub) | (with_reducible apply ix_upd) | (with_reducible apply ix_div) | omega)
       · omega
       all_goals (intro hc; (try dsimp only at hc); first | omega | (conv => whnf)))
    | (refine cl_use hC (c_isIn (fun g1 => ?_) (fun g1 => ?_)) <;> conv => whnf)
    | (refine cl_use hC (c_afterCommand ?_); conv => whnf)
    | (refine And.intro (fun hcc => ?_) (fun hcc => ?_) <;> conv => whnf)
    | (refine And.intro (fun hc => ?_) (fun hc => ?_) <;> conv => whnf)
    | (refine And.intro (by decide) ?_; conv => whnf)
    | fail)
  · rw [nx_6, if_neg hcc, if_pos g1] at hK; exact hK
  · rw [nx_6, if_neg hcc, if_neg g1] at hK; exact hK
  · rw [nx_6, if_pos hcc] at hK; exact hK
theorem c_nx7 {c : Int32} (hK : K (.inl (some (.int (nxN 7 c)))) h w) : Cl G (d + 3) kX0_next [.int (nI 7), .int c] h w K := by
  refine Cl.of (by decide) rfl ?_
  refine wp_vc [] 40 rfl fun W' C hW hC => ?_
  conv => whnf
  repeat' (first
    | (refine ⟨_, rfl, ?_⟩; conv => whnf)
    | (refine ⟨_, _, rfl, ⟨_, rfl, rfl⟩, ?_⟩; conv => whnf)
    | (refine ⟨_, _, rfl, ?_⟩
       with_reducible apply ix_ex
       · repeat (first | with_reducible exact ix_nI | assumption | with_reducible apply ix_add | with_reducible apply ix_mul | (with_reducible apply ix_sub) | (with_reducible apply ix_upd) | (with_reducible apply ix_div) | omega)
       (refine ⟨⟨by omega, by decide⟩, ?_⟩; conv => whnf))
    | (with_reducible apply br_le
       · repeat (first | with_reducible exact ix_nI | assumption | with_reducible apply ix_add | with_reducible apply ix_mul | (with_reducible apply ix_sub) | (with_reducible apply ix_upd) | (with_reducible apply ix_div) | omega)
       · repeat (first | with_reducible exact ix_nI | assumption | with_reducible apply ix_add | with_reducible apply ix_mul | (with_reducible apply ix_sub) | (with_reducible apply ix_upd) | (with_reducible apply ix_div) | omega)
       · omega
       · omega
       all_goals (intro hc; first | omega | (conv => whnf)))
    | (with_reducible apply br_lt
       · repeat (first | with_reducible exact ix_nI | assumption | with_reducible apply ix_add | with_reducible apply ix_mul | (with_reducible apply ix_sub) | (with_reducible apply ix_upd) | (with_reducible apply ix_div) | omega)
       · repeat (first | with_reducible exact ix_nI | assumption | with_reducible apply ix_add | with_reducible apply ix_mul | (with_reducible apply ix_sub) | (with_reducible apply ix_upd) | (with_reducible apply ix_div) | omega)
       · omega
       · omega
       all_goals (intro hc; first | omega | (conv => whnf)))
    | (with_reducible apply br_eq
       · repeat (first | with_reducible exact ix_nI | assumption | with_reducible apply ix_add | with_reducible apply ix_mul | (with_reducible apply ix_sub) | (with_reducible apply ix_upd) | (with_reducible apply ix_div) | omega)
       · repeat (first | with_reducible exact ix_nI | assumption | with_reducible apply ix_add | with_reducible apply ix_mul | (with_reducible apply ix_sub) | (with_reducible apply ix_upd) | (with_reducible apply ix_div) | omega)
       · omega
       · omega
       all_goals (intro hc; first | omega | (conv => whnf)))
    | (with_reducible apply br_ne
       · repeat (first | with_reducible exact ix_nI | assumption | with_reducible apply ix_add | with_reducible apply ix_mul | (with_reducible apply ix_sub) | (with_reducible apply ix_upd) | (with_reducible apply ix_div) | omega)
       · repeat (first | with_reducible exact ix_nI | assumption | with_reducible apply ix_add | with_reducible apply ix_mul | (with_reducible apply ix_sub) | (with_reducible apply ix_upd) | (with_reducible apply ix_div) | omega)
       · omega
       · omega
       all_goals (intro hc; first | omega | (conv => whnf)))
    | (with_reducible apply br_eq0
       · repeat (first | with_reducible exact ix_nI | assumption | with_reducible apply ix_add | with_reducible apply ix_mul | (with_reducible apply ix_sub) | (with_reducible apply ix_upd) | (with_reducible apply ix_div) | omega)
       · omega
       all_goals (intro hc; first | omega | (conv => whnf)))
    | (with_reducible apply br_ne0
       · repeat (first | with_reducible exact ix_nI | assumption | with_reducible apply ix_add | with_reducible apply ix_mul | (with_reducible apply ix_sub) | (with_reducible apply ix_upd) | (with_reducible apply ix_div) | omega)
       · omega
       all_goals (intro hc; first | omega | (conv => whnf)))
    | (with_reducible apply br_le0
       · repeat (first | with_reducible exact ix_nI | assumption | with_reducible apply ix_add | with_reducible apply ix_mul | (with_reducible apply ix_sub) | (with_reducible apply ix_upd) | (with_reducible apply ix_div) | omega)
       · omega
       all_goals (intro hc; first | omega | (conv => whnf)))
    | (with_reducible apply br_gt0
       · repeat (first | with_reducible exact ix_nI | assumption | with_reducible apply ix_add | with_reducible apply ix_mul | (with_reducible apply ix_sub) | (with_reducible apply ix_upd) | (with_reducible apply ix_div) | omega)
       · omega
       all_goals (intro hc; first | omega | (conv => whnf)))
    | (with_reducible apply br_lt0
       · repeat (first | with_reducible exact ix_nI | assumption | with_reducible apply ix_add | with_reducible apply ix_mul | (with_reducible apply ix_sub) | (with_reducible apply ix_upd) | (with_reducible apply ix_div) | omega)
       · omega
       conv => whnf)
    | (with_reducible apply br_ge0
       · repeat (first | with_reducible exact ix_nI | assumption | with_reducible apply ix_add | with_reducible apply ix_mul | (with_reducible apply ix_sub) | (with_reducible apply ix_upd) | (with_reducible apply ix_div) | omega)
       · omega
       conv => whnf)
    | (with_reducible apply br_tab
       · repeat (first | with_reducible exact ix_nI | assumption | with_reducible apply ix_add | with_reducible apply ix_mul | (with_reducible apply ix_sub) | (with_reducible apply ix_upd) | (with_reducible apply ix_div) | omega)
       · omega
       all_goals (intro hc; (try dsimp only at hc); first | omega | (conv => whnf)))
    | (refine cl_use hC (c_isIn (fun g1 => ?_) (fun g1 => ?_)) <;> conv => whnf)
    | (refine cl_use hC (c_afterCommand ?_); conv => whnf)
    | (refine And.intro (fun hc => ?_) (fun hc => ?_) <;> conv => whnf)
    | (refine And.intro (by decide) ?_; conv => whnf)
    | fail)
  · rw [nx_7, if_pos g1] at hK; exact hK
  · rw [nx_7, if_neg g1] at hK; exact hK
theorem c_nx8 {c : Int32} (hK : K (.inl (some (.int (nxN 8 c)))) h w) : Cl G (d + 3) kX0_next [.int (nI 8), .int c] h w K := by
  refine Cl.of (by decide) rfl ?_
  refine wp_vc [] 40 rfl fun W' C hW hC => ?_
  conv => whnf
  repeat' (first
    | (refine ⟨_, rfl, ?_⟩; conv => whnf)
    | (refine ⟨_, _, rfl, ⟨_, rfl, rfl⟩, ?_⟩; conv => whnf)
    | (refine ⟨_, _, rfl, ?_⟩
       with_reducible apply ix_ex
       · repeat (first | with_reducible exact ix_nI | assumption | with_reducible apply ix_add | with_reducible apply ix_mul | (with_reducible apply ix_sub) | (with_reducible apply ix_upd) | (with_reducible apply ix_div) | omega)
       (refine ⟨⟨by omega, by decide⟩, ?_⟩; conv => whnf))
    | (with_reducible apply br_le
       · repeat (first | with_reducible exact ix_nI | assumption | with_reducible apply ix_add | with_reducible apply ix_mul | (with_reducible apply ix_sub) | (with_reducible apply ix_upd) | (with_reducible apply ix_div) | omega)
       · repeat (first | with_reducible exact ix_nI | assumption | with_reducible apply ix_add | with_reducible apply ix_mul | (with_reducible apply ix_sub) | (with_reducible apply ix_upd) | (with_reducible apply ix_div) | omega)
       · omega
       · omega
       all_goals (intro hc; first | omega | (conv => whnf)))
    | (with_reducible apply br_lt
       · repeat (first | with_reducible exact ix_nI | assumption | with_reducible apply ix_add | with_reducible apply ix_mul | (with_reducible apply ix_sub) | (with_reducible apply ix_upd) | (with_reducible apply ix_div) | omega)
       · repeat (first | with_reducible exact ix_nI | assumption | with_reducible apply ix_add | with_reducible apply ix_mul | (with_reducible apply ix_sub) | (with_reducible apply ix_upd) | (with_reducible apply ix_div) | omega)
       · omega
       · omega
       all_goals (intro hc; first | omega | (conv => whnf)))
    | (with_reducible apply br_eq
       · repeat (first | with_reducible exact ix_nI | assumption | with_reducible apply ix_add | with_reducible apply ix_mul | (with_reducible apply ix_sub) | (with_reducible apply ix_upd) | (with_reducible apply ix_div) | omega)
       · repeat (first | with_reducible exact ix_nI | assumption | with_reducible apply ix_add | with_reducible apply ix_mul | (with_reducible apply ix_sub) | (with_reducible apply ix_upd) | (with_reducible apply ix_div) | omega)
       · omega
       · omega
       all_goals (intro hc; first | omega | (conv => whnf)))
    | (with_reducible apply br_ne
       · repeat (first | with_reducible exact ix_nI | assumption | with_reducible apply ix_add | with_reducible apply ix_mul | (with_reducible apply ix_sub) | (with_reducible apply ix_upd) | (with_reducible apply ix_div) | omega)
       · repeat (first | with_reducible exact ix_nI | assumption | with_reducible apply ix_add | with_reducible apply ix_mul | (with_reducible apply ix_sub) | (with_reducible apply ix_upd) | (with_reducible apply ix_div) | omega)
       · omega
       · omega
       all_goals (intro hc; first | omega | (conv => whnf)))
    | (with_reducible apply br_eq0
       · repeat (first | with_reducible exact ix_nI | assumption | with_reducible apply ix_add | with_reducible apply ix_mul | (with_reducible apply ix_sub) | (with_reducible apply ix_upd) | (with_reducible apply ix_div) | omega)
       · omega
       all_goals (intro hc; first | omega | (conv => whnf)))
    | (with_reducible apply br_ne0
       · repeat (first | with_reducible exact ix_nI | assumption | with_reducible apply ix_add | with_reducible apply ix_mul | (with_reducible apply ix_sub) | (with_reducible apply ix_upd) | (with_reducible apply ix_div) | omega)
       · omega
       all_goals (intro hc; first | omega | (conv => whnf)))
    | (with_reducible apply br_le0
       · repeat (first | with_reducible exact ix_nI | assumption | with_reducible apply ix_add | with_reducible apply ix_mul | (with_reducible apply ix_sub) | (with_reducible apply ix_upd) | (with_reducible apply ix_div) | omega)
       · omega
       all_goals (intro hc; first | omega | (conv => whnf)))
    | (with_reducible apply br_gt0
       · repeat (first | with_reducible exact ix_nI | assumption | with_reducible apply ix_add | with_reducible apply ix_mul | (with_reducible apply ix_sub) | (with_reducible apply ix_upd) | (with_reducible apply ix_div) | omega)
       · omega
       all_goals (intro hc; first | omega | (conv => whnf)))
    | (with_reducible apply br_lt0
       · repeat (first | with_reducible exact ix_nI | assumption | with_reducible apply ix_add | with_reducible apply ix_mul | (with_reducible apply ix_sub) | (with_reducible apply ix_upd) | (with_reducible apply ix_div) | omega)
       · omega
       conv => whnf)
    | (with_reducible apply br_ge0
       · repeat (first | with_reducible exact ix_nI | assumption | with_reducible apply ix_add | with_reducible apply ix_mul | (with_reducible apply ix_sub) | (with_reducible apply ix_upd) | (with_reducible apply ix_div) | omega)
       · omega
       conv => whnf)
    | (with_reducible apply br_tab
       · repeat (first | with_reducible exact ix_nI | assumption | with_reducible apply ix_add | with_reducible apply ix_mul | (with_reducible apply ix_sub) | (with_reducible apply ix_upd) | (with_reducible apply ix_div) | omega)
       · omega
       all_goals (intro hc; (try dsimp only at hc); first | omega | (conv => whnf)))
    | (refine cl_use hC (c_afterCommand ?_); conv => whnf)
    | (refine And.intro (fun hcc => ?_) (fun hcc => ?_) <;> conv => whnf)
    | (refine And.intro (fun hc => ?_) (fun hc => ?_) <;> conv => whnf)
    | (refine And.intro (by decide) ?_; conv => whnf)
    | fail)
  · rw [nx_8, if_neg hcc] at hK; exact hK
  · rw [nx_8, if_pos hcc] at hK; exact hK
theorem c_nx9 {c : Int32} (hK : K (.inl (some (.int (nxN 9 c)))) h w) : Cl G (d + 3) kX0_next [.int (nI 9), .int c] h w K := by
  refine Cl.of (by decide) rfl ?_
  refine wp_vc [] 40 rfl fun W' C hW hC => ?_
  conv => whnf
  repeat' (first
    | (refine ⟨_, rfl, ?_⟩; conv => whnf)
    | (refine ⟨_, _, rfl, ⟨_, rfl, rfl⟩, ?_⟩; conv => whnf)
    | (refine ⟨_, _, rfl, ?_⟩
       with_reducible apply ix_ex
       · repeat (first | with_reducible exact ix_nI | assumption | with_reducible apply ix_add | with_reducible apply ix_mul | (with_reducible apply ix_sub) | (with_reducible apply ix_upd) | (with_reducible apply ix_div) | omega)
       (refine ⟨⟨by omega, by decide⟩, ?_⟩; conv => whnf))
    | (with_reducible apply br_le
       · repeat (first | with_reducible exact ix_nI | assumption | with_reducible apply ix_add | with_reducible apply ix_mul | (with_reducible apply ix_sub) | (with_reducible apply ix_upd) | (with_reducible apply ix_div) | omega)
       · repeat (first | with_reducible exact ix_nI | assumption | with_reducible apply ix_add | with_reducible apply ix_mul | (with_reducible apply ix_sub) | (with_reducible apply ix_upd) | (with_reducible apply ix_div) | omega)
       · omega
       · omega
       all_goals (intro hc; first | omega | (conv => whnf)))
    | (with_reducible apply br_lt
       · repeat (first | with_reducible exact ix_nI | assumption | with_reducible apply ix_add | with_reducible apply ix_mul | (with_reducible apply ix_sub) | (with_reducible apply ix_upd) | (with_reducible apply ix_div) | omega)
       · repeat (first | with_reducible exact ix_nI | assumption | with_reducible apply ix_add | with_reducible apply ix_mul | (with_reducible apply ix_sub) | (with_reducible apply ix_upd) | (with_reducible apply ix_div) | omega)
       · omega
       · omega
       all_goals (intro hc; first | omega | (conv => whnf)))
    | (with_reducible apply br_eq
       · repeat (first | with_reducible exact ix_nI | assumption | with_reducible apply ix_add | with_reducible apply ix_mul | (with_reducible apply ix_sub) | (with_reducible apply ix_upd) | (with_reducible apply ix_div) | omega)
       · repeat (first | with_reducible exact ix_nI | assumption | with_reducible apply ix_add | with_reducible apply ix_mul | (with_reducible apply ix_sub) | (with_reducible apply ix_upd) | (with_reducible apply ix_div) | omega)
       · omega
       · omega
       all_goals (intro hc; first | omega | (conv => whnf)))
    | (with_reducible apply br_ne
       · repeat (first | with_reducible exact ix_nI | assumption | with_reducible apply ix_add | with_reducible apply ix_mul | (with_reducible apply ix_sub) | (with_reducible apply ix_upd) | (with_reducible apply ix_div) | omega)
       · repeat (first | with_reducible exact ix_nI | assumption | with_reducible apply ix_add | with_reducible apply ix_mul | (with_reducible apply ix_sub) | (with_reducible apply ix_upd) | (with_reducible apply ix_div) | omega)
       · omega
       · omega
       all_goals (intro hc; first | omega | (conv => whnf)))
    | (with_reducible apply br_eq0
       · repeat (first | with_reducible exact ix_nI | assumption | with_reducible apply ix_add | with_reducible apply ix_mul | (with_reducible apply ix_sub) | (with_reducible apply ix_upd) | (with_reducible apply ix_div) | omega)
       · omega
       all_goals (intro hc; first | omega | (conv => whnf)))
    | (with_reducible apply br_ne0
       · repeat (first | with_reducible exact ix_nI | assumption | with_reducible apply ix_add | with_reducible apply ix_mul | (with_reducible apply ix_sub) | (with_reducible apply ix_upd) | (with_reducible apply ix_div) | omega)
       · omega
       all_goals (intro hc; first | omega | (conv => whnf)))
    | (with_reducible apply br_le0
       · repeat (first | with_reducible exact ix_nI | assumption | with_reducible apply ix_add | with_reducible apply ix_mul | (with_reducible apply ix_sub) | (with_reducible apply ix_upd) | (with_reducible apply ix_div) | omega)
       · omega
       all_goals (intro hc; first | omega | (conv => whnf)))
    | (with_reducible apply br_gt0
       · repeat (first | with_reducible exact ix_nI | assumption | with_reducible apply ix_add | with_reducible apply ix_mul | (with_reducible apply ix_sub) | (with_reducible apply ix_upd) | (with_reducible apply ix_div) | omega)
       · omega
       all_goals (intro hc; first | omega | (conv => whnf)))
    | (with_reducible apply br_lt0
       · repeat (first | with_reducible exact ix_nI | assumption | with_reducible apply ix_add | with_reducible apply ix_mul | (with_reducible apply ix_sub) | (with_reducible apply ix_upd) | (with_reducible apply ix_div) | omega)
       · omega
       conv => whnf)
    | (with_reducible apply br_ge0
       · repeat (first | with_reducible exact ix_nI | assumption | with_reducible apply ix_add | with_reducible apply ix_mul | (with_reducible apply ix_sub) | (with_reducible apply ix_upd) | (with_reducible apply ix_div) | omega)
       · omega
       conv => whnf)
    | (with_reducible apply br_tab
       · repeat (first | with_reducible exact ix_nI | assumption | with_reducible apply ix_add | with_reducible apply ix_mul | (with_reducible apply ix_sub) | (with_reducible apply ix_upd) | (with_reducible apply ix_div) | omega)
       · omega
       all_goals (intro hc; (try dsimp only at hc); first | omega | (conv => whnf)))
    | (refine cl_use hC (c_afterCommand ?_); conv => whnf)
    | (refine And.intro (fun hc => ?_) (fun hc => ?_) <;> conv => whnf)
    | (refine And.intro (by decide) ?_; conv => whnf)
    | fail)
  · exact hK
theorem c_nxx {a : Nat} {c : Int32} (ha : 10 ≤ a) (ha2 : a < 18) (hK : K (.inl (some (.int (nxN a c)))) h w) : Cl G (d + 3) kX0_next [.int (nI a), .int c] h w K := by
  refine Cl.of (by decide) rfl ?_
  refine wp_vc [] 40 rfl fun W' C hW hC => ?_
  conv => whnf
  repeat' (first
    | (refine ⟨_, rfl, ?_⟩; conv => whnf)
    | (refine ⟨_, _, rfl, ⟨_, rfl, rfl⟩, ?_⟩; conv => whnf)
    | (refine ⟨_, _, rfl, ?_⟩
       with_reducible apply ix_ex
       · repeat (first | with_reducible exact ix_nI | assumption | with_reducible apply ix_add | with_reducible apply ix_mul | (with_reducible apply ix_sub) | (with_reducible apply ix_upd) | (with_reducible apply ix_div) | omega)
       (refine ⟨⟨by omega, by decide⟩, ?_⟩; conv => whnf))
    | (with_reducible apply br_le
       · repeat (first | with_reducible exact ix_nI | assumption | with_reducible apply ix_add | with_reducible apply ix_mul | (with_reducible apply ix_sub) | (with_reducible apply ix_upd) | (with_reducible apply ix_div) | omega)
       · repeat (first | with_reducible exact ix_nI | assumption | with_reducible apply ix_add | with_reducible apply ix_mul | (with_reducible apply ix_sub) | (with_reducible apply ix_upd) | (with_reducible apply ix_div) | omega)
       · omega
       · omega
       all_goals (intro hc; first | omega | (conv => whnf)))
    | (with_reducible apply br_lt
       · repeat (first | with_reducible exact ix_nI | assumption | with_reducible apply ix_add | with_reducible apply ix_mul | (with_reducible apply ix_sub) | (with_reducible apply ix_upd) | (with_reducible apply ix_div) | omega)
       · repeat (first | with_reducible exact ix_nI | assumption | with_reducible apply ix_add | with_reducible apply ix_mul | (with_reducible apply ix_sub) | (with_reducible apply ix_upd) | (with_reducible apply ix_div) | omega)
       · omega
       · omega
       all_goals (intro hc; first | omega | (conv => whnf)))
    | (with_reducible apply br_eq
       · repeat (first | with_reducible exact ix_nI | assumption | with_reducible apply ix_add | with_reducible apply ix_mul | (with_reducible apply ix_sub) | (with_reducible apply ix_upd) | (with_reducible apply ix_div) | omega)
       · repeat (first | with_reducible exact ix_nI | assumption | with_reducible apply ix_add | with_reducible apply ix_mul | (with_reducible apply ix_sub) | (with_reducible apply ix_upd) | (with_reducible apply ix_div) | omega)
       · omega
       · omega
       all_goals (intro hc; first | omega | (conv => whnf)))
    | (with_reducible apply br_ne
       · repeat (first | with_reducible exact ix_nI | assumption | with_reducible apply ix_add | with_reducible apply ix_mul | (with_reducible apply ix_sub) | (with_reducible apply ix_upd) | (with_reducible apply ix_div) | omega)
       · repeat (first | with_reducible exact ix_nI | assumption | with_reducible apply ix_add | with_reducible apply ix_mul | (with_reducible apply ix_sub) | (with_reducible apply ix_upd) | (with_reducible apply ix_div) | omega)
       · omega
       · omega
       all_goals (intro hc; first | omega | (conv => whnf)))
    | (with_reducible apply br_eq0
       · repeat (first | with_reducible exact ix_nI | assumption | with_reducible apply ix_add | with_reducible apply ix_mul | (with_reducible apply ix_sub) | (with_reducible apply ix_upd) | (with_reducible apply ix_div) | omega)
       · omega
       all_goals (intro hc; first | omega | (conv => whnf)))
    | (with_reducible apply br_ne0
       · repeat (first | with_reducible exact ix_nI | assumption | with_reducible apply ix_add | with_reducible apply ix_mul | (with_reducible apply ix_sub) | (with_reducible apply ix_upd) | (with_reducible apply ix_div) | omega)
       · omega
       all_goals (intro hc; first | omega | (conv => whnf)))
    | (with_reducible apply br_le0
       · repeat (first | with_reducible exact ix_nI | assumption | with_reducible apply ix_add | with_reducible apply ix_mul | (with_reducible apply ix_sub) | (with_reducible apply ix_upd) | (with_reducible apply ix_div) | omega)
       · omega
       all_goals (intro hc; first | omega | (conv => whnf)))
    | (with_reducible apply br_gt0
       · repeat (first | with_reducible exact ix_nI | assumption | with_reducible apply ix_add | with_reducible apply ix_mul | (with_reducible apply ix_sub) | (with_reducible apply ix_upd) | (with_reducible apply ix_div) | omega)
       · omega
       all_goals (intro hc; first | omega | (conv => whnf)))
    | (with_reducible apply br_lt0
       · repeat (first | with_reducible exact ix_nI | assumption | with_reducible apply ix_add | with_reducible apply ix_mul | (with_reducible apply ix_sub) | (with_reducible apply ix_upd) | (with_reducible apply ix_div) | omega)
       · omega
       conv => whnf)
    | (with_reducible apply br_ge0
       · repeat (first | with_reducible exact ix_nI | assumption | with_reducible apply ix_add | with_reducible apply ix_mul | (with_reducible apply ix_sub) | (with_reducible apply ix_upd) | (with_reducible apply ix_div) | omega)
       · omega
       conv => whnf)
    | (with_reducible apply br_tab
       · repeat (first | with_reducible exact ix_nI | assumption | with_reducible apply ix_add | with_reducible apply ix_mul | (with_reducible apply ix_sub) | (with_reducible apply ix_upd) | (with_reducible apply ix_div) | omega)
       · omega
       all_goals (intro hc; (try dsimp only at hc); first | omega | (conv => whnf)))
    | (refine cl_use hC (c_afterHex ha ha2 ?_); conv => whnf)
    | (refine And.intro (fun hc => ?_) (fun hc => ?_) <;> conv => whnf)
    | (refine And.intro (by decide) ?_; conv => whnf)
    | fail)
  exact hK
theorem c_next {a : Nat} {c x : Int32} (ea : x = nI a) (ha : a < 18) (hK : K (.inl (some (.int (nxN a c)))) h w) : Cl G (d + 3) kX0_next [.int x, .int c] h w K := by
  subst ea
  match a, ha, hK with
  | 0, _, hK => exact c_nx0 hK
  | 1, _, hK => exact c_nx1 hK
  | 2, _, hK => exact c_nx2 hK
  | 3, _, hK => exact c_nx3 hK
  | 4, _, hK => exact c_nx4 hK
  | 5, _, hK => exact c_nx5 hK
  | 6, _, hK => exact c_nx6 hK
  | 7, _, hK => exact c_nx7 hK
  | 8, _, hK => exact c_nx8 hK
  | 9, _, hK => exact c_nx9 hK
  | a + 10, ha, hK => exact c_nxx (by omega) ha hK
theorem c_afterHexStuck {c : Int32} (hK : K (.inl (some (.int (-nI 1)))) h w) : Cl G d kX0_afterHex [.int (-nI 1), .int c] h w K := by
  refine Cl.of (by decide) rfl ?_
  refine wp_vc [] 40 rfl fun W' C hW hC => ?_
  conv => whnf
  refine And.intro (fun _ => ?_) (fun hcc => absurd (show (-nI 1 : Int32) < nI 10 by decide) hcc)
  conv => whnf
  exact hK
theorem c_nextStuck {c : Int32} (hK : K (.inl (some (.int (-nI 1)))) h w) : Cl G (d + 3) kX0_next [.int (-nI 1), .int c] h w K := by
  have hne : ∀ lo : Int, 0 ≤ lo → ¬ (-nI 1 : Int32).toInt = lo := fun lo h0 e => by
    have : (-nI 1 : Int32).toInt = -1 := by decide
    omega
  refine Cl.of (by decide) rfl ?_
  refine wp_vc [] 40 rfl fun W' C hW hC => ?_
  conv => whnf
  repeat' (first
    | (refine ⟨_, rfl, ?_⟩; conv => whnf)
    | (refine ⟨_, _, rfl, ⟨_, rfl, rfl⟩, ?_⟩; conv => whnf)
    | (refine ⟨_, _, rfl, ?_⟩
       with_reducible apply ix_ex
       · repeat (first | with_reducible exact ix_nI | assumption | with_reducible apply ix_add | with_reducible apply ix_mul | (with_reducible apply ix_sub) | (with_reducible apply ix_upd) | (with_reducible apply ix_div) | omega)
       (refine ⟨⟨by omega, by decide⟩, ?_⟩; conv => whnf))
    | (with_reducible apply br_le
       · repeat (first | with_reducible exact ix_nI | assumption | with_reducible apply ix_add | with_reducible apply ix_mul | (with_reducible apply ix_sub) | (with_reducible apply ix_upd) | (with_reducible apply ix_div) | omega)
       · repeat (first | with_reducible exact ix_nI | assumption | with_reducible apply ix_add | with_reducible apply ix_mul | (with_reducible apply ix_sub) | (with_reducible apply ix_upd) | (with_reducible apply ix_div) | omega)
       · omega
       · omega
       all_goals (intro hc; first | omega | (conv => whnf)))
    | (with_reducible apply br_lt
       · repeat (first | with_reducible exact ix_nI | assumption | with_reducible apply ix_add | with_reducible apply ix_mul | (with_reducible apply ix_sub) | (with_reducible apply ix_upd) | (with_reducible apply ix_div) | omega)
       · repeat (first | with_reducible exact ix_nI | assumption | with_reducible apply ix_add | with_reducible apply ix_mul | (with_reducible apply ix_sub) | (with_reducible apply ix_upd) | (with_reducible apply ix_div) | omega)
       · omega
       · omega
       all_goals (intro hc; first | omega | (conv => whnf)))
    | (with_reducible apply br_eq
       · repeat (first | with_reducible exact ix_nI | assumption | with_reducible apply ix_add | with_reducible apply ix_mul | (with_reducible apply ix_sub) | (with_reducible apply ix_upd) | (with_reducible apply ix_div) | omega)
       · repeat (first | with_reducible exact ix_nI | assumption | with_reducible apply ix_add | with_reducible apply ix_mul | (with_reducible apply ix_sub) | (with_reducible apply ix_upd) | (with_reducible apply ix_div) | omega)
       · omega
       · omega
       all_goals (intro hc; first | omega | (conv => whnf)))
    | (with_reducible apply br_ne
       · repeat (first | with_reducible exact ix_nI | assumption | with_reducible apply ix_add | with_reducible apply ix_mul | (with_reducible apply ix_sub) | (with_reducible apply ix_upd) | (with_reducible apply ix_div) | omega)
       · repeat (first | with_reducible exact ix_nI | assumption | with_reducible apply ix_add | with_reducible apply ix_mul | (with_reducible apply ix_sub) | (with_reducible apply ix_upd) | (with_reducible apply ix_div) | omega)
       · omega
       · omega
       all_goals (intro hc; first | omega | (conv => whnf)))
    | (with_reducible apply br_eq0
       · repeat (first | with_reducible exact ix_nI | assumption | with_reducible apply ix_add | with_reducible apply ix_mul | (with_reducible apply ix_sub) | (with_reducible apply ix_upd) | (with_reducible apply ix_div) | omega)
       · omega
       all_goals (intro hc; first | omega | (conv => whnf)))
    | (with_reducible apply br_ne0
       · repeat (first | with_reducible exact ix_nI | assumption | with_reducible apply ix_add | with_reducible apply ix_mul | (with_reducible apply ix_sub) | (with_reducible apply ix_upd) | (with_reducible apply ix_div) | omega)
       · omega
       all_goals (intro hc; first | omega | (conv => whnf)))
    | (with_reducible apply br_le0
       · repeat (first | with_reducible exact ix_nI | assumption | with_reducible apply ix_add | with_reducible apply ix_mul | (with_reducible apply ix_sub) | (with_reducible apply ix_upd) | (with_reducible apply ix_div) | omega)
       · omega
       all_goals (intro hc; first | omega | (conv => whnf)))
    | (with_reducible apply br_gt0
       · repeat (first | with_reducible exact ix_nI | assumption | with_reducible apply ix_add | with_reducible apply ix_mul | (with_reducible apply ix_sub) | (with_reducible apply ix_upd) | (with_reducible apply ix_div) | omega)
       · omega
       all_goals (intro hc; first | omega | (conv => whnf)))
    | (with_reducible apply br_lt0
       · repeat (first | with_reducible exact ix_nI | assumption | with_reducible apply ix_add | with_reducible apply ix_mul | (with_reducible apply ix_sub) | (with_reducible apply ix_upd) | (with_reducible apply ix_div) | omega)
       · omega
       conv => whnf)
    | (with_reducible apply br_ge0
       · repeat (first | with_reducible exact ix_nI | assumption | with_reducible apply ix_add | with_reducible apply ix_mul | (with_reducible apply ix_sub) | (with_reducible apply ix_upd) | (with_reducible apply ix_div) | omega)
       · omega
       conv => whnf)
    | (with_reducible apply br_tab
       · repeat (first | with_reducible exact ix_nI | assumption | with_reducible apply ix_add | with_reducible apply ix_mul | (with_reducible apply ix_sub) | (with_reducible apply ix_upd) | (with_reducible apply ix_div) | omega)
       · omega
       all_goals (intro hc; (try dsimp only at hc); first | omega | (conv => whnf)))
    | (refine And.intro (fun hcc => absurd hcc (hne _ (by decide))) (fun hcc => ?_); conv => whnf)
    | (refine cl_use hC (c_afterHexStuck ?_); conv => whnf)
    | (refine And.intro (fun hc => ?_) (fun hc => ?_) <;> conv => whnf)
    | (refine And.intro (by decide) ?_; conv => whnf)
    | fail)
  exact hK
end C16
