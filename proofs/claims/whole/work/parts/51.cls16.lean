/-! ===== the class: run ===== -/
theorem CS.clear {A : AS} {h h' : AH} (hA : CS A h) (h1 : h' 150 = .inr (0, [.ref 151, .int (nI 0)])) (hO : ∀ a, a ≠ 150 → h' a = h a) : CS (A.1, A.2.1, []) h' := by
  obtain ⟨t1, t2, f, t3, t4⟩ := hA.2.2.2.1
  exact hA.text (T' := []) ⟨Nat.zero_le _, h1, f, (hO _ (by omega)).trans t3, fun i c hi => (by cases hi)⟩ (fun a ha => hO a (by omega))
section C18
variable {G : GG} {d n p : Nat} {A : AS} {h0 h : AH} {w : W3} {K : AO → AH → W3 → Prop}
theorem c_carry0 {i : Nat} {cmd : CMD} {z : ZZ} {L : List ZZ} {T : List Int32} (hA : CS (z, L, T) h) (hI : Ivz n z) (hi : i < T.length) (hx : T[i]? = some cmd.1) (hn : numR (T.drop (i + 1)) (nI 0) = cmd.2.1) (hw : cmd.1 = nI 119 → wdN (T.drop (i + 3)) (nI 0) 8 = cmd.2.2) (hc : okC cmd) (gc : canC z cmd = false) (h1 : K (.inl (some (.int (nI 0)))) h w) : Cl G (d + 5) kX4_carryOut [.ref 0, .int (nI i)] h w K :=
  c_carryOut (cmd := cmd) hA hI hi hx hn hw hc (fun _ => h1) (fun q => absurd (gc.symm.trans q) (by decide))
theorem c_carry1 {i : Nat} {cmd : CMD} {z : ZZ} {L : List ZZ} {T : List Int32} (hA : CS (z, L, T) h) (hI : Ivz n z) (hi : i < T.length) (hx : T[i]? = some cmd.1) (hn : numR (T.drop (i + 1)) (nI 0) = cmd.2.1) (hw : cmd.1 = nI 119 → wdN (T.drop (i + 3)) (nI 0) 8 = cmd.2.2) (hc : okC cmd) (gc : canC z cmd = true) (gl : lsC z cmd = false) (h1 : ∀ h', CS (doC z cmd, L, T) h' → FrC h h' → K (.inl (some (.int (nI 1)))) h' w) : Cl G (d + 5) kX4_carryOut [.ref 0, .int (nI i)] h w K :=
  c_carryOut (cmd := cmd) hA hI hi hx hn hw hc (fun q => absurd (gc.symm.trans q) (by decide)) (fun _ h' hA' hF' => by
    show K (.inl (some (.int (if lsC z cmd = true then nI 2 else nI 1)))) h' w
    rw [gl]
    exact h1 h' hA' hF')
theorem c_carry2 {i : Nat} {cmd : CMD} {z : ZZ} {L : List ZZ} {T : List Int32} (hA : CS (z, L, T) h) (hI : Ivz n z) (hi : i < T.length) (hx : T[i]? = some cmd.1) (hn : numR (T.drop (i + 1)) (nI 0) = cmd.2.1) (hw : cmd.1 = nI 119 → wdN (T.drop (i + 3)) (nI 0) 8 = cmd.2.2) (hc : okC cmd) (gc : canC z cmd = true) (gl : lsC z cmd = true) (h1 : ∀ h', CS (doC z cmd, L, T) h' → FrC h h' → K (.inl (some (.int (nI 2)))) h' w) : Cl G (d + 5) kX4_carryOut [.ref 0, .int (nI i)] h w K :=
  c_carryOut (cmd := cmd) hA hI hi hx hn hw hc (fun q => absurd (gc.symm.trans q) (by decide)) (fun _ h' hA' hF' => by
    show K (.inl (some (.int (if lsC z cmd = true then nI 2 else nI 1)))) h' w
    rw [gl]
    exact h1 h' hA' hF')
theorem c_run (hA : CS A h) (hI : Ivz n A.1) (hK : CKc h w K 2 2 (aRun A)) : Cl G (d + 7) kX4_run [.ref 0] h w K := by
  have hT := hA.2.2.2.1
  have hT2 := hT.2.1
  have hl6 := hT.1
  refine Cl.of (by decide) rfl ?_
  refine wp_vc [37] 95 rfl fun W' C hW hC => ?_
  conv => whnf
  repeat' (first
    | (refine ⟨_, rfl, ?_⟩; conv => whnf)
    | (refine ⟨_, _, rfl, ⟨_, rfl, rfl⟩, ?_⟩; conv => whnf)
    | (refine ⟨_, _, rfl, ?_⟩
       with_reducible apply ix_ex
       · repeat (first | with_reducible exact ix_nI | assumption | with_reducible apply ix_add | with_reducible apply ix_mul | (with_reducible apply ix_sub) | (with_reducible apply ix_upd) | (with_reducible apply ix_div) | omega)
       (refine ⟨⟨by omega, by decide⟩, ?_⟩; conv => whnf))
    | (with_reducible apply br_le
       · repeat (first | with_reducible exact ix_nI | assumption | with_reducible apply ix_add | with_reducible apply ix_mul | (with_reducible apply ix_sub) | (with_reducible apply ix_upd) | (with_reducible apply ix_div) | omega)
       · repeat (first | with_reducible exact ix_nI | assumption | with_reducible apply ix_add | with_reducible apply ix_mul | (with_reducible apply ix_sub) | (with_reducible apply ix_upd) | (with_reducible apply ix_div) | omega)
       · omega
       · omega
       all_goals (intro hc; first | omega | (conv => whnf)))
    | (with_reducible apply br_lt
       · repeat (first | with_reducible exact ix_nI | assumption | with_reducible apply ix_add | with_reducible apply ix_mul | (with_reducible apply ix_sub) | (with_reducible apply ix_upd) | (with_reducible apply ix_div) | omega)
       · repeat (first | with_reducible exact ix_nI | assumption | with_reducible apply ix_add | with_reducible apply ix_mul | (with_reducible apply ix_sub) | (with_reducible apply ix_upd) | (with_reducible apply ix_div) | omega)
       · omega
       · omega
       all_goals (intro hc; first | omega | (conv => whnf)))
    | (with_reducible apply br_eq
       · repeat (first | with_reducible exact ix_nI | assumption | with_reducible apply ix_add | with_reducible apply ix_mul | (with_reducible apply ix_sub) | (with_reducible apply ix_upd) | (with_reducible apply ix_div) | omega)
       · repeat (first | with_reducible exact ix_nI | assumption | with_reducible apply ix_add | with_reducible apply ix_mul | (with_reducible apply ix_sub) | (with_reducible apply ix_upd) | (with_reducible apply ix_div) | omega)
       · omega
       · omega
       all_goals (intro hc; first | omega | (conv => whnf)))
    | (with_reducible apply br_ne
       · repeat (first | with_reducible exact ix_nI | assumption | with_reducible apply ix_add | with_reducible apply ix_mul | (with_reducible apply ix_sub) | (with_reducible apply ix_upd) | (with_reducible apply ix_div) | omega)
       · repeat (first | with_reducible exact ix_nI | assumption | with_reducible apply ix_add | with_reducible apply ix_mul | (with_reducible apply ix_sub) | (with_reducible apply ix_upd) | (with_reducible apply ix_div) | omega)
       · omega
       · omega
       all_goals (intro hc; first | omega | (conv => whnf)))
    | (with_reducible apply br_eq0
       · repeat (first | with_reducible exact ix_nI | assumption | with_reducible apply ix_add | with_reducible apply ix_mul | (with_reducible apply ix_sub) | (with_reducible apply ix_upd) | (with_reducible apply ix_div) | omega)
       · omega
       all_goals (intro hc; first | omega | (conv => whnf)))
    | (with_reducible apply br_ne0
       · repeat (first | with_reducible exact ix_nI | assumption | with_reducible apply ix_add | with_reducible apply ix_mul | (with_reducible apply ix_sub) | (with_reducible apply ix_upd) | (with_reducible apply ix_div) | omega)
       · omega
       all_goals (intro hc; first | omega | (conv => whnf)))
    | (with_reducible apply br_le0
       · repeat (first | with_reducible exact ix_nI | assumption | with_reducible apply ix_add | with_reducible apply ix_mul | (with_reducible apply ix_sub) | (with_reducible apply ix_upd) | (with_reducible apply ix_div) | omega)
       · omega
       all_goals (intro hc; first | omega | (conv => whnf)))
    | (with_reducible apply br_gt0
       · repeat (first | with_reducible exact ix_nI | assumption | with_reducible apply ix_add | with_reducible apply ix_mul | (with_reducible apply ix_sub) | (with_reducible apply ix_upd) | (with_reducible apply ix_div) | omega)
       · omega
       all_goals (intro hc; first | omega | (conv => whnf)))
    | (with_reducible apply br_lt0
       · repeat (first | with_reducible exact ix_nI | assumption | with_reducible apply ix_add | with_reducible apply ix_mul | (with_reducible apply ix_sub) | (with_reducible apply ix_upd) | (with_reducible apply ix_div) | omega)
       · omega
       conv => whnf)
    | (with_reducible apply br_ge0
       · repeat (first | with_reducible exact ix_nI | assumption | with_reducible apply ix_add | with_reducible apply ix_mul | (with_reducible apply ix_sub) | (with_reducible apply ix_upd) | (with_reducible apply ix_div) | omega)
       · omega
       conv => whnf)
    | (with_reducible apply br_tab
       · repeat (first | with_reducible exact ix_nI | assumption | with_reducible apply ix_add | with_reducible apply ix_mul | (with_reducible apply ix_sub) | (with_reducible apply ix_upd) | (with_reducible apply ix_div) | omega)
       · omega
       all_goals (intro hc; (try dsimp only at hc); first | omega | (conv => whnf)))
    | (refine ⟨_, hA.1, ?_⟩; conv => whnf)
    | (refine ⟨_, _, hT2, ⟨_, rfl, rfl⟩, ?_⟩; conv => whnf)
    | (refine cl_use hC (c_isComplete hT (fun s hs he => ?_) (fun hs => ?_)) <;> conv => whnf)
    | (refine And.intro (by omega) ?_; conv => whnf)
    | (refine ⟨_, hA.1, ?_⟩; conv => whnf)
    | (refine ⟨_, _, hA.1, ⟨_, rfl, rfl⟩, ?_⟩; conv => whnf)
    | (refine ⟨_, hA.2.1.obj, ?_⟩; conv => whnf)
    | (refine ⟨_, _, hA.2.1.obj, ⟨_, rfl, rfl⟩, ?_⟩; conv => whnf)
    | (obtain ⟨t9, hh9⟩ := hA.hist; refine ⟨_, _, hh9, ⟨_, rfl, rfl⟩, ?_⟩; conv => whnf)
    | (obtain ⟨t9, hh9⟩ := hA.hist; refine ⟨_, hh9, ?_⟩; conv => whnf)
    | (obtain ⟨fp9, ep9, eq9⟩ := hA.2.1.pgs
       refine ⟨_, _, _, ep9, Or.inl rfl, ?_⟩
       with_reducible apply ix_ex2
       · repeat (first | with_reducible exact ix_nI | assumption | with_reducible apply ix_add | with_reducible apply ix_mul | (with_reducible apply ix_sub) | (with_reducible apply ix_upd) | (with_reducible apply ix_div) | omega)
       (refine ⟨⟨by omega, by decide⟩, eq9 _ (by omega), ?_⟩; conv => whnf))
    | (refine ⟨_, hA.2.1.pg hp, ?_⟩; conv => whnf)
    | (refine ⟨_, _, hA.2.1.pg hp, ⟨_, rfl, rfl⟩, ?_⟩; conv => whnf)
    | (obtain ⟨q9, e9, f9⟩ := hA.2.1.st
       refine ⟨_, _, e9, ?_⟩
       with_reducible apply ix_ex
       · repeat (first | with_reducible exact ix_nI | assumption | with_reducible apply ix_add | with_reducible apply ix_mul | (with_reducible apply ix_sub) | (with_reducible apply ix_upd) | (with_reducible apply ix_div) | omega)
       (refine ⟨⟨by omega, by decide⟩, ?_⟩; rw [f9 _ (by omega)]; conv => whnf))
    | (obtain ⟨q9, e9, f9⟩ := hA.2.1.wr
       refine ⟨_, _, e9, ?_⟩
       with_reducible apply ix_ex
       · repeat (first | with_reducible exact ix_nI | assumption | with_reducible apply ix_add | with_reducible apply ix_mul | (with_reducible apply ix_sub) | (with_reducible apply ix_upd) | (with_reducible apply ix_div) | omega)
       (refine ⟨⟨by omega, by decide⟩, ?_⟩; rw [f9 _ (by omega)]; conv => whnf))
    | (obtain ⟨q9, e9, f9⟩ := hA.2.1.of
       refine ⟨_, _, e9, ?_⟩
       with_reducible apply ix_ex
       · repeat (first | with_reducible exact ix_nI | assumption | with_reducible apply ix_add | with_reducible apply ix_mul | (with_reducible apply ix_sub) | (with_reducible apply ix_upd) | (with_reducible apply ix_div) | omega)
       (refine ⟨⟨by omega, by decide⟩, ?_⟩; rw [f9 _ (by omega)]; conv => whnf))
    | (refine cl_use hC (c_save hA fun h1 hA1 hF1 => ?_); conv => whnf)
    | (refine And.intro (fun hc => ?_) (fun hc => ?_) <;> conv => whnf)
    | (refine And.intro (by decide) ?_; conv => whnf)
    | fail)
  · refine wp_use hW ?_
    have ea : aRun A = (0, nI (runL A.1 (s.2.2 ++ [s.2.1])).2, ((runL A.1 (s.2.2 ++ [s.2.1])).1, pushL A.2.1 A.1, [])) := by
      unfold aRun
      rw [hs]
      exact if_pos he
    rw [ea] at hK
    have hK1 := hK.1 rfl
    dsimp only at hK1
    have hok := cmds_ok hs he
    generalize hcs : s.2.2 ++ [s.2.1] = cs at *
    have hcl : cs.length = s.2.2.length + 1 := by rw [← hcs, List.length_append]; rfl
    generalize hT0 : A.2.2 = T at *
    generalize hL0 : pushL A.2.1 A.1 = L at *
    have keyE : ∀ H z k, CS (z, L, T) H → FrC h H → runL A.1 cs = (z, k) → wp G (d + 7) kX4_run w.2.1 w.2.2 K 88 [some (.ref 0), some (.int (nI k)), none, none] [] H w := by
      intro H z k hAH hFH hr
      have hT2 : H 150 = .inr (0, [.ref 151, .int (nI T.length)]) := hAH.2.2.2.1.2.1
      refine wp_vc [] 60 rfl fun W' C hW hC => ?_
      conv => whnf
      repeat' (first
        | (refine ⟨_, rfl, ?_⟩; conv => whnf)
        | (refine ⟨_, _, rfl, ⟨_, rfl, rfl⟩, ?_⟩; conv => whnf)
        | (refine ⟨_, _, rfl, ?_⟩
           with_reducible apply ix_ex
           · repeat (first | with_reducible exact ix_nI | assumption | with_reducible apply ix_add | with_reducible apply ix_mul | (with_reducible apply ix_sub) | (with_reducible apply ix_upd) | (with_reducible apply ix_div) | omega)
           (refine ⟨⟨by omega, by decide⟩, ?_⟩; conv => whnf))
        | (with_reducible apply br_le
           · repeat (first | with_reducible exact ix_nI | assumption | with_reducible apply ix_add | with_reducible apply ix_mul | (with_reducible apply ix_sub) | (with_reducible apply ix_upd) | (with_reducible apply ix_div) | omega)
           · repeat (first | with_reducible exact ix_nI | assumption | with_reducible apply ix_add | with_reducible apply ix_mul | (with_reducible apply ix_sub) | (with_reducible apply ix_upd) | (with_reducible apply ix_div) | omega)
           · omega
           · omega
           all_goals (intro hc; first | omega | (conv => whnf)))
        | (with_reducible apply br_lt
           · repeat (first | with_reducible exact ix_nI | assumption | with_reducible apply ix_add | with_reducible apply ix_mul | (with_reducible apply ix_sub) | (with_reducible apply ix_upd) | (with_reducible apply ix_div) | omega)
           · repeat (first | with_reducible exact ix_nI | assumption | with_reducible apply ix_add | with_reducible apply ix_mul | (with_reducible apply ix_sub) | (with_reducible apply ix_upd) | (with_reducible apply ix_div) | omega)
           · omega
           · omega
           all_goals (intro hc; first | omega | (conv => whnf)))
        | (with_reducible apply br_eq
           · repeat (first | with_reducible exact ix_nI | assumption | with_reducible apply ix_add | with_reducible apply ix_mul | (with_reducible apply ix_sub) | (with_reducible apply ix_upd) | (with_reducible apply ix_div) | omega)
           · repeat (first | with_reducible exact ix_nI | assumption | with_reducible apply ix_add | with_reducible apply ix_mul | (with_reducible apply ix_sub) | (with_reducible apply ix_upd) | (with_reducible apply ix_div) | omega)
           · omega
           · omega
           all_goals (intro hc; first | omega | (conv => whnf)))
        | (with_reducible apply br_ne
           · repeat (first | with_reducible exact ix_nI | assumption | with_reducible apply ix_add | with_reducible apply ix_mul | (with_reducible apply ix_sub) | (with_reducible apply ix_upd) | (with_reducible apply ix_div) | omega)
           · repeat (first | with_reducible exact ix_nI | assumption | with_reducible apply ix_add | with_reducible apply ix_mul | (with_reducible apply ix_sub) | (with_reducible apply ix_upd) | (with_reducible apply ix_div) | omega)
           · omega
           · omega
           all_goals (intro hc; first | omega | (conv => whnf)))
        | (with_reducible apply br_eq0
           · repeat (first | with_reducible exact ix_nI | assumption | with_reducible apply ix_add | with_reducible apply ix_mul | (with_reducible apply ix_sub) | (with_reducible apply ix_upd) | (with_reducible apply ix_div) | omega)
           · omega
           all_goals (intro hc; first | omega | (conv => whnf)))
        | (with_reducible apply br_ne0
           · repeat (first | with_reducible exact ix_nI | assumption | with_reducible apply ix_add | with_reducible apply ix_mul | (with_reducible apply ix_sub) | (with_reducible apply ix_upd) | (with_reducible apply ix_div) | omega)
           · omega
           all_goals (intro hc; first | omega | (conv => whnf)))
        | (with_reducible apply br_le0
           · repeat (first | with_reducible exact ix_nI | assumption | with_reducible apply ix_add | with_reducible apply ix_mul | (with_reducible apply ix_sub) | (with_reducible apply ix_upd) | (with_reducible apply ix_div) | omega)
           · omega
           all_goals (intro hc; first | omega | (conv => whnf)))
        | (with_reducible apply br_gt0
           · repeat (first | with_reducible exact ix_nI | assumption | with_reducible apply ix_add | with_reducible apply ix_mul | (with_reducible apply ix_sub) | (with_reducible apply ix_upd) | (with_reducible apply ix_div) | omega)
           · omega
           all_goals (intro hc; first | omega | (conv => whnf)))
        | (with_reducible apply br_lt0
           · repeat (first | with_reducible exact ix_nI | assumption | with_reducible apply ix_add | with_reducible apply ix_mul | (with_reducible apply ix_sub) | (with_reducible apply ix_upd) | (with_reducible apply ix_div) | omega)
           · omega
           conv => whnf)
        | (with_reducible apply br_ge0
           · repeat (first | with_reducible exact ix_nI | assumption | with_reducible apply ix_add | with_reducible apply ix_mul | (with_reducible apply ix_sub) | (with_reducible apply ix_upd) | (with_reducible apply ix_div) | omega)
           · omega
           conv => whnf)
        | (with_reducible apply br_tab
           · repeat (first | with_reducible exact ix_nI | assumption | with_reducible apply ix_add | with_reducible apply ix_mul | (with_reducible apply ix_sub) | (with_reducible apply ix_upd) | (with_reducible apply ix_div) | omega)
           · omega
           all_goals (intro hc; (try dsimp only at hc); first | omega | (conv => whnf)))
        | (refine ⟨_, hAH.1, ?_⟩; conv => whnf)
            | (refine ⟨_, hT2, ?_⟩; conv => whnf)
        | (refine And.intro (fun hc => ?_) (fun hc => ?_) <;> conv => whnf)
        | (refine And.intro (by decide) ?_; conv => whnf)
        | fail)
      rw [hr] at hK1
      exact hK1 _ (hAH.clear upA_eq fun a ha => upA_ne ha rfl) (hFH.trans fun a ha => upA_ne (by omega) rfl)
    have keyX : ∀ H z k o i, i ≤ 100 → (o = nI 0 ∨ o = nI 2) → CS (z, L, T) H → FrC h H → runL A.1 cs = (z, k) → wp G (d + 7) kX4_run w.2.1 w.2.2 K 37 [some (.ref 0), some (.int (nI k)), some (.int o), some (.int (nI i))] [] H w := by
      intro H z k o i hi ho hAH hFH hr
      have hT2 : H 150 = .inr (0, [.ref 151, .int (nI T.length)]) := hAH.2.2.2.1.2.1
      have ho1 : ¬ o = nI 1 := by rcases ho with e | e <;> (rw [e]; decide)
      refine wp_vc [37,88] 60 rfl fun W' C hW hC => ?_
      conv => whnf
      repeat' (first
        | (refine ⟨_, rfl, ?_⟩; conv => whnf)
        | (refine ⟨_, _, rfl, ⟨_, rfl, rfl⟩, ?_⟩; conv => whnf)
        | (refine ⟨_, _, rfl, ?_⟩
           with_reducible apply ix_ex
           · repeat (first | with_reducible exact ix_nI | assumption | with_reducible apply ix_add | with_reducible apply ix_mul | (with_reducible apply ix_sub) | (with_reducible apply ix_upd) | (with_reducible apply ix_div) | omega)
           (refine ⟨⟨by omega, by decide⟩, ?_⟩; conv => whnf))
        | (with_reducible apply br_le
           · repeat (first | with_reducible exact ix_nI | assumption | with_reducible apply ix_add | with_reducible apply ix_mul | (with_reducible apply ix_sub) | (with_reducible apply ix_upd) | (with_reducible apply ix_div) | omega)
           · repeat (first | with_reducible exact ix_nI | assumption | with_reducible apply ix_add | with_reducible apply ix_mul | (with_reducible apply ix_sub) | (with_reducible apply ix_upd) | (with_reducible apply ix_div) | omega)
           · omega
           · omega
           all_goals (intro hc; first | omega | (conv => whnf)))
        | (with_reducible apply br_lt
           · repeat (first | with_reducible exact ix_nI | assumption | with_reducible apply ix_add | with_reducible apply ix_mul | (with_reducible apply ix_sub) | (with_reducible apply ix_upd) | (with_reducible apply ix_div) | omega)
           · repeat (first | with_reducible exact ix_nI | assumption | with_reducible apply ix_add | with_reducible apply ix_mul | (with_reducible apply ix_sub) | (with_reducible apply ix_upd) | (with_reducible apply ix_div) | omega)
           · omega
           · omega
           all_goals (intro hc; first | omega | (conv => whnf)))
        | (with_reducible apply br_eq
           · repeat (first | with_reducible exact ix_nI | assumption | with_reducible apply ix_add | with_reducible apply ix_mul | (with_reducible apply ix_sub) | (with_reducible apply ix_upd) | (with_reducible apply ix_div) | omega)
           · repeat (first | with_reducible exact ix_nI | assumption | with_reducible apply ix_add | with_reducible apply ix_mul | (with_reducible apply ix_sub) | (with_reducible apply ix_upd) | (with_reducible apply ix_div) | omega)
           · omega
           · omega
           all_goals (intro hc; first | omega | (conv => whnf)))
        | (with_reducible apply br_ne
           · repeat (first | with_reducible exact ix_nI | assumption | with_reducible apply ix_add | with_reducible apply ix_mul | (with_reducible apply ix_sub) | (with_reducible apply ix_upd) | (with_reducible apply ix_div) | omega)
           · repeat (first | with_reducible exact ix_nI | assumption | with_reducible apply ix_add | with_reducible apply ix_mul | (with_reducible apply ix_sub) | (with_reducible apply ix_upd) | (with_reducible apply ix_div) | omega)
           · omega
           · omega
           all_goals (intro hc; first | omega | (conv => whnf)))
        | (with_reducible apply br_eq0
           · repeat (first | with_reducible exact ix_nI | assumption | with_reducible apply ix_add | with_reducible apply ix_mul | (with_reducible apply ix_sub) | (with_reducible apply ix_upd) | (with_reducible apply ix_div) | omega)
           · omega
           all_goals (intro hc; first | omega | (conv => whnf)))
        | (with_reducible apply br_ne0
           · repeat (first | with_reducible exact ix_nI | assumption | with_reducible apply ix_add | with_reducible apply ix_mul | (with_reducible apply ix_sub) | (with_reducible apply ix_upd) | (with_reducible apply ix_div) | omega)
           · omega
           all_goals (intro hc; first | omega | (conv => whnf)))
        | (with_reducible apply br_le0
           · repeat (first | with_reducible exact ix_nI | assumption | with_reducible apply ix_add | with_reducible apply ix_mul | (with_reducible apply ix_sub) | (with_reducible apply ix_upd) | (with_reducible apply ix_div) | omega)
           · omega
           all_goals (intro hc; first | omega | (conv => whnf)))
        | (with_reducible apply br_gt0
           · repeat (first | with_reducible exact ix_nI | assumption | with_reducible apply ix_add | with_reducible apply ix_mul | (with_reducible apply ix_sub) | (with_reducible apply ix_upd) | (with_reducible apply ix_div) | omega)
           · omega
           all_goals (intro hc; first | omega | (conv => whnf)))
        | (with_reducible apply br_lt0
           · repeat (first | with_reducible exact ix_nI | assumption | with_reducible apply ix_add | with_reducible apply ix_mul | (with_reducible apply ix_sub) | (with_reducible apply ix_upd) | (with_reducible apply ix_div) | omega)
           · omega
           conv => whnf)
        | (with_reducible apply br_ge0
           · repeat (first | with_reducible exact ix_nI | assumption | with_reducible apply ix_add | with_reducible apply ix_mul | (with_reducible apply ix_sub) | (with_reducible apply ix_upd) | (with_reducible apply ix_div) | omega)
           · omega
           conv => whnf)
        | (with_reducible apply br_tab
           · repeat (first | with_reducible exact ix_nI | assumption | with_reducible apply ix_add | with_reducible apply ix_mul | (with_reducible apply ix_sub) | (with_reducible apply ix_upd) | (with_reducible apply ix_div) | omega)
           · omega
           all_goals (intro hc; (try dsimp only at hc); first | omega | (conv => whnf)))
        | (refine ⟨_, hAH.1, ?_⟩; conv => whnf)
            | (refine ⟨_, hT2, ?_⟩; conv => whnf)
            | (refine And.intro (fun _ => ?_) (fun hcc => absurd hcc ho1); conv => whnf)
        | (refine And.intro (fun hc => ?_) (fun hc => ?_) <;> conv => whnf)
        | (refine And.intro (by decide) ?_; conv => whnf)
        | fail)
      all_goals (refine wp_use hW ?_; exact (keyE H z k hAH hFH hr).le (by repeat' (first | exact trivial | refine And.intro rfl ?_)))
    have key := upto (W := fun i => ∀ H z k si m, CS (z, L, T) H → FrC h H → Ivz m z → prsS ps0 (T.take i) = some si → k = si.2.2.length + (if si.1 = 0 then 0 else 1) → runL A.1 cs = ((runL z (cs.drop k)).1, k + (runL z (cs.drop k)).2) → wp G (d + 7) kX4_run w.2.1 w.2.2 K 37 [some (.ref 0), some (.int (nI k)), some (.int (nI 1)), some (.int (nI i))] [] H w) T.length ?_ ?_
    · have hr0 : runL A.1 cs = ((runL A.1 (cs.drop 0)).1, 0 + (runL A.1 (cs.drop 0)).2) := by
        rw [List.drop_zero, Nat.zero_add]
      exact (key h1 A.1 0 ps0 n hA1 hF1 hI rfl rfl hr0).le (by repeat' (first | exact trivial | refine And.intro rfl ?_))
    · intro H z k si m hAH hFH hIz hsi hk hr
      rw [List.take_length, hs] at hsi
      cases hsi
      have h10 : ¬ s.1 = 0 := by
        rcases he with e | e
        · omega
        · omega
      rw [if_neg h10] at hk
      have hdr : cs.drop k = [] := List.drop_eq_nil_of_le (by omega)
      rw [hdr] at hr
      have hr2 : runL A.1 cs = (z, k) := hr
      have hT2 : H 150 = .inr (0, [.ref 151, .int (nI T.length)]) := hAH.2.2.2.1.2.1
      refine wp_vc [37,88] 60 rfl fun W' C hW hC => ?_
      conv => whnf
      repeat' (first
        | (refine ⟨_, rfl, ?_⟩; conv => whnf)
        | (refine ⟨_, _, rfl, ⟨_, rfl, rfl⟩, ?_⟩; conv => whnf)
        | (refine ⟨_, _, rfl, ?_⟩
           with_reducible apply ix_ex
           · repeat (first | with_reducible exact ix_nI | assumption | with_reducible apply ix_add | with_reducible apply ix_mul | (with_reducible apply ix_sub) | (with_reducible apply ix_upd) | (with_reducible apply ix_div) | omega)
           (refine ⟨⟨by omega, by decide⟩, ?_⟩; conv => whnf))
        | (with_reducible apply br_le
           · repeat (first | with_reducible exact ix_nI | assumption | with_reducible apply ix_add | with_reducible apply ix_mul | (with_reducible apply ix_sub) | (with_reducible apply ix_upd) | (with_reducible apply ix_div) | omega)
           · repeat (first | with_reducible exact ix_nI | assumption | with_reducible apply ix_add | with_reducible apply ix_mul | (with_reducible apply ix_sub) | (with_reducible apply ix_upd) | (with_reducible apply ix_div) | omega)
           · omega
           · omega
           all_goals (intro hc; first | omega | (conv => whnf)))
        | (with_reducible apply br_lt
           · repeat (first | with_reducible exact ix_nI | assumption | with_reducible apply ix_add | with_reducible apply ix_mul | (with_reducible apply ix_sub) | (with_reducible apply ix_upd) | (with_reducible apply ix_div) | omega)
           · repeat (first | with_reducible exact ix_nI | assumption | with_reducible apply ix_add | with_reducible apply ix_mul | (with_reducible apply ix_sub) | (with_reducible apply ix_upd) | (with_reducible apply ix_div) | omega)
           · omega
           · omega
           all_goals (intro hc; first | omega | (conv => whnf)))
        | (with_reducible apply br_eq
           · repeat (first | with_reducible exact ix_nI | assumption | with_reducible apply ix_add | with_reducible apply ix_mul | (with_reducible apply ix_sub) | (with_reducible apply ix_upd) | (with_reducible apply ix_div) | omega)
           · repeat (first | with_reducible exact ix_nI | assumption | with_reducible apply ix_add | with_reducible apply ix_mul | (with_reducible apply ix_sub) | (with_reducible apply ix_upd) | (with_reducible apply ix_div) | omega)
           · omega
           · omega
           all_goals (intro hc; first | omega | (conv => whnf)))
        | (with_reducible apply br_ne
           · repeat (first | with_reducible exact ix_nI | assumption | with_reducible apply ix_add | with_reducible apply ix_mul | (with_reducible apply ix_sub) | (with_reducible apply ix_upd) | (with_reducible apply ix_div) | omega)
           · repeat (first | with_reducible exact ix_nI | assumption | with_reducible apply ix_add | with_reducible apply ix_mul | (with_reducible apply ix_sub) | (with_reducible apply ix_upd) | (with_reducible apply ix_div) | omega)
           · omega
           · omega
           all_goals (intro hc; first | omega | (conv => whnf)))
        | (with_reducible apply br_eq0
           · repeat (first | with_reducible exact ix_nI | assumption | with_reducible apply ix_add | with_reducible apply ix_mul | (with_reducible apply ix_sub) | (with_reducible apply ix_upd) | (with_reducible apply ix_div) | omega)
           · omega
           all_goals (intro hc; first | omega | (conv => whnf)))
        | (with_reducible apply br_ne0
           · repeat (first | with_reducible exact ix_nI | assumption | with_reducible apply ix_add | with_reducible apply ix_mul | (with_reducible apply ix_sub) | (with_reducible apply ix_upd) | (with_reducible apply ix_div) | omega)
           · omega
           all_goals (intro hc; first | omega | (conv => whnf)))
        | (with_reducible apply br_le0
           · repeat (first | with_reducible exact ix_nI | assumption | with_reducible apply ix_add | with_reducible apply ix_mul | (with_reducible apply ix_sub) | (with_reducible apply ix_upd) | (with_reducible apply ix_div) | omega)
           · omega
           all_goals (intro hc; first | omega | (conv => whnf)))
        | (with_reducible apply br_gt0
           · repeat (first | with_reducible exact ix_nI | assumption | with_reducible apply ix_add | with_reducible apply ix_mul | (with_reducible apply ix_sub) | (with_reducible apply ix_upd) | (with_reducible apply ix_div) | omega)
           · omega
           all_goals (intro hc; first | omega | (conv => whnf)))
        | (with_reducible apply br_lt0
           · repeat (first | with_reducible exact ix_nI | assumption | with_reducible apply ix_add | with_reducible apply ix_mul | (with_reducible apply ix_sub) | (with_reducible apply ix_upd) | (with_reducible apply ix_div) | omega)
           · omega
           conv => whnf)
        | (with_reducible apply br_ge0
           · repeat (first | with_reducible exact ix_nI | assumption | with_reducible apply ix_add | with_reducible apply ix_mul | (with_reducible apply ix_sub) | (with_reducible apply ix_upd) | (with_reducible apply ix_div) | omega)
           · omega
           conv => whnf)
        | (with_reducible apply br_tab
           · repeat (first | with_reducible exact ix_nI | assumption | with_reducible apply ix_add | with_reducible apply ix_mul | (with_reducible apply ix_sub) | (with_reducible apply ix_upd) | (with_reducible apply ix_div) | omega)
           · omega
           all_goals (intro hc; (try dsimp only at hc); first | omega | (conv => whnf)))
        | (refine ⟨_, hAH.1, ?_⟩; conv => whnf)
            | (refine ⟨_, hT2, ?_⟩; conv => whnf)
        | (refine And.intro (fun hc => ?_) (fun hc => ?_) <;> conv => whnf)
        | (refine And.intro (by decide) ?_; conv => whnf)
        | fail)
      refine wp_use hW ?_
      exact (keyE H z k hAH hFH hr2).le (by repeat' (first | exact trivial | refine And.intro rfl ?_))
    · intro i hi ih H z k si m hAH hFH hIz hsi hk hr
      have hT3 : TX T H := hAH.2.2.2.1
      have hT2 := hT3.2.1
      have hx : T[i]? = some T[i] := List.getElem?_eq_getElem hi
      have hIs := prs_ip hsi ip0
      have hbi := beg_iff (T := T) (by omega) hsi
      have hrest : prsS si (T.drop i) = some s := by
        have e : T = T.take i ++ T.drop i := (List.take_append_drop i T).symm
        rw [e, prs_app, hsi] at hs
        exact hs
      have htk : ∃ s1, tkR si T[i] = some s1 := by
        cases hk9 : tkR si T[i] with
        | none => rw [prs_not hi hsi hk9] at hs; cases hs
        | some s1 => exact ⟨s1, rfl⟩
      obtain ⟨s1, htk⟩ := htk
      have hs1 := prs_take hi hsi htk
      by_cases h10 : si.1 = 0
      · rw [if_pos h10, Nat.add_zero] at hk
        obtain ⟨D, mm, dn⟩ := si
        have h10 : D = 0 := h10
        subst h10
        dsimp only at hk
        rw [List.drop_eq_getElem_cons hi] at hrest
        obtain ⟨cmd, g1, g2, g3, g4⟩ := cmd_of hIs hrest he
        rw [hcs, ← hk] at g1
        have hkc : k < cs.length := (List.getElem?_eq_some_iff.mp g1).1
        have hdr : cs.drop k = cmd :: cs.drop (k + 1) := by
          rw [List.drop_eq_getElem_cons hkc, (List.getElem?_eq_some_iff.mp g1).2]
        have hokc := hok cmd (List.mem_of_getElem? g1)
        rw [hdr, runL] at hr
        have hs10 : s1.1 ≠ 0 ∧ s1.2.2 = dn := by
          rcases tk_dn hIs htk with ⟨_, _, q, _⟩ | ⟨q1, _, q2⟩
          · rcases q with q | q
            · cases q
            · cases q.1
          · exact ⟨q1, q2⟩
        rw [List.drop_drop] at g4
        cases gc : canC z cmd with
        | false =>
          rw [gc, if_neg (by decide)] at hr
          refine wp_vc [37] 60 rfl fun W' C hW hC => ?_
          conv => whnf
          repeat' (first
            | (refine ⟨_, rfl, ?_⟩; conv => whnf)
            | (refine ⟨_, _, rfl, ⟨_, rfl, rfl⟩, ?_⟩; conv => whnf)
            | (refine ⟨_, _, rfl, ?_⟩
               with_reducible apply ix_ex
               · repeat (first | with_reducible exact ix_nI | assumption | with_reducible apply ix_add | with_reducible apply ix_mul | (with_reducible apply ix_sub) | (with_reducible apply ix_upd) | (with_reducible apply ix_div) | omega)
               (refine ⟨⟨by omega, by decide⟩, ?_⟩; conv => whnf))
            | (with_reducible apply br_le
               · repeat (first | with_reducible exact ix_nI | assumption | with_reducible apply ix_add | with_reducible apply ix_mul | (with_reducible apply ix_sub) | (with_reducible apply ix_upd) | (with_reducible apply ix_div) | omega)
               · repeat (first | with_reducible exact ix_nI | assumption | with_reducible apply ix_add | with_reducible apply ix_mul | (with_reducible apply ix_sub) | (with_reducible apply ix_upd) | (with_reducible apply ix_div) | omega)
               · omega
               · omega
               all_goals (intro hc; first | omega | (conv => whnf)))
            | (with_reducible apply br_lt
               · repeat (first | with_reducible exact ix_nI | assumption | with_reducible apply ix_add | with_reducible apply ix_mul | (with_reducible apply ix_sub) | (with_reducible apply ix_upd) | (with_reducible apply ix_div) | omega)
               · repeat (first | with_reducible exact ix_nI | assumption | with_reducible apply ix_add | with_reducible apply ix_mul | (with_reducible apply ix_sub) | (with_reducible apply ix_upd) | (with_reducible apply ix_div) | omega)
               · omega
               · omega
               all_goals (intro hc; first | omega | (conv => whnf)))
            | (with_reducible apply br_eq
               · repeat (first | with_reducible exact ix_nI | assumption | with_reducible apply ix_add | with_reducible apply ix_mul | (with_reducible apply ix_sub) | (with_reducible apply ix_upd) | (with_reducible apply ix_div) | omega)
               · repeat (first | with_reducible exact ix_nI | assumption | with_reducible apply ix_add | with_reducible apply ix_mul | (with_reducible apply ix_sub) | (with_reducible apply ix_upd) | (with_reducible apply ix_div) | omega)
               · omega
               · omega
               all_goals (intro hc; first | omega | (conv => whnf)))
            | (with_reducible apply br_ne
               · repeat (first | with_reducible exact ix_nI | assumption | with_reducible apply ix_add | with_reducible apply ix_mul | (with_reducible apply ix_sub) | (with_reducible apply ix_upd) | (with_reducible apply ix_div) | omega)
               · repeat (first | with_reducible exact ix_nI | assumption | with_reducible apply ix_add | with_reducible apply ix_mul | (with_reducible apply ix_sub) | (with_reducible apply ix_upd) | (with_reducible apply ix_div) | omega)
               · omega
               · omega
               all_goals (intro hc; first | omega | (conv => whnf)))
            | (with_reducible apply br_eq0
               · repeat (first | with_reducible exact ix_nI | assumption | with_reducible apply ix_add | with_reducible apply ix_mul | (with_reducible apply ix_sub) | (with_reducible apply ix_upd) | (with_reducible apply ix_div) | omega)
               · omega
               all_goals (intro hc; first | omega | (conv => whnf)))
            | (with_reducible apply br_ne0
               · repeat (first | with_reducible exact ix_nI | assumption | with_reducible apply ix_add | with_reducible apply ix_mul | (with_reducible apply ix_sub) | (with_reducible apply ix_upd) | (with_reducible apply ix_div) | omega)
               · omega
               all_goals (intro hc; first | omega | (conv => whnf)))
            | (with_reducible apply br_le0
               · repeat (first | with_reducible exact ix_nI | assumption | with_reducible apply ix_add | with_reducible apply ix_mul | (with_reducible apply ix_sub) | (with_reducible apply ix_upd) | (with_reducible apply ix_div) | omega)
               · omega
               all_goals (intro hc; first | omega | (conv => whnf)))
            | (with_reducible apply br_gt0
               · repeat (first | with_reducible exact ix_nI | assumption | with_reducible apply ix_add | with_reducible apply ix_mul | (with_reducible apply ix_sub) | (with_reducible apply ix_upd) | (with_reducible apply ix_div) | omega)
               · omega
               all_goals (intro hc; first | omega | (conv => whnf)))
            | (with_reducible apply br_lt0
               · repeat (first | with_reducible exact ix_nI | assumption | with_reducible apply ix_add | with_reducible apply ix_mul | (with_reducible apply ix_sub) | (with_reducible apply ix_upd) | (with_reducible apply ix_div) | omega)
               · omega
               conv => whnf)
            | (with_reducible apply br_ge0
               · repeat (first | with_reducible exact ix_nI | assumption | with_reducible apply ix_add | with_reducible apply ix_mul | (with_reducible apply ix_sub) | (with_reducible apply ix_upd) | (with_reducible apply ix_div) | omega)
               · omega
               conv => whnf)
            | (with_reducible apply br_tab
               · repeat (first | with_reducible exact ix_nI | assumption | with_reducible apply ix_add | with_reducible apply ix_mul | (with_reducible apply ix_sub) | (with_reducible apply ix_upd) | (with_reducible apply ix_div) | omega)
               · omega
               all_goals (intro hc; (try dsimp only at hc); first | omega | (conv => whnf)))
            | (refine ⟨_, hAH.1, ?_⟩; conv => whnf)
                    | (refine ⟨_, hT2, ?_⟩; conv => whnf)
                    | (refine ⟨_, _, hT2, ⟨_, rfl, rfl⟩, ?_⟩; conv => whnf)
                    | (refine cl_use hC (c_beginsCommand hi hT3 (fun _ => ?_) (fun q => absurd (hbi.mp rfl) q)); conv => whnf)
                    | (refine ⟨_, _, hAH.1, ⟨_, rfl, rfl⟩, ?_⟩; conv => whnf)
                    | (refine cl_use hC (c_carry0 (cmd := cmd) hAH hIz hi (by rw [g2]; exact hx) g3.symm (fun q => (g4 (g2.symm.trans q)).symm) hokc gc ?_); conv => whnf)
            | (refine And.intro (fun hc => ?_) (fun hc => ?_) <;> conv => whnf)
            | (refine And.intro (by decide) ?_; conv => whnf)
            | fail)
          refine wp_use hW ?_
          rw [nI_add, nI_add]
          exact (keyX H z k (nI 0) (i + 1) (by omega) (Or.inl rfl) hAH hFH hr).le (by repeat' (first | exact trivial | refine And.intro rfl ?_))
        | true =>
          rw [gc, if_pos rfl] at hr
          cases gl : lsC z cmd with
          | true =>
            rw [gl, if_pos rfl] at hr
            refine wp_vc [37] 60 rfl fun W' C hW hC => ?_
            conv => whnf
            repeat' (first
              | (refine ⟨_, rfl, ?_⟩; conv => whnf)
              | (refine ⟨_, _, rfl, ⟨_, rfl, rfl⟩, ?_⟩; conv => whnf)
              | (refine ⟨_, _, rfl, ?_⟩
                 with_reducible apply ix_ex
                 · repeat (first | with_reducible exact ix_nI | assumption | with_reducible apply ix_add | with_reducible apply ix_mul | (with_reducible apply ix_sub) | (with_reducible apply ix_upd) | (with_reducible apply ix_div) | omega)
                 (refine ⟨⟨by omega, by decide⟩, ?_⟩; conv => whnf))
              | (with_reducible apply br_le
                 · repeat (first | with_reducible exact ix_nI | assumption | with_reducible apply ix_add | with_reducible apply ix_mul | (with_reducible apply ix_sub) | (with_reducible apply ix_upd) | (with_reducible apply ix_div) | omega)
                 · repeat (first | with_reducible exact ix_nI | assumption | with_reducible apply ix_add | with_reducible apply ix_mul | (with_reducible apply ix_sub) | (with_reducible apply ix_upd) | (with_reducible apply ix_div) | omega)
                 · omega
                 · omega
                 all_goals (intro hc; first | omega | (conv => whnf)))
              | (with_reducible apply br_lt
                 · repeat (first | with_reducible exact ix_nI | assumption | with_reducible apply ix_add | with_reducible apply ix_mul | (with_reducible apply ix_sub) | (with_reducible apply ix_upd) | (with_reducible apply ix_div) | omega)
                 · repeat (first | with_reducible exact ix_nI | assumption | with_reducible apply ix_add | with_reducible apply ix_mul | (with_reducible apply ix_sub) | (with_reducible apply ix_upd) | (with_reducible apply ix_div) | omega)
                 · omega
                 · omega
                 all_goals (intro hc; first | omega | (conv => whnf)))
              | (with_reducible apply br_eq
                 · repeat (first | with_reducible exact ix_nI | assumption | with_reducible apply ix_add | with_reducible apply ix_mul | (with_reducible apply ix_sub) | (with_reducible apply ix_upd) | (with_reducible apply ix_div) | omega)
                 · repeat (first | with_reducible exact ix_nI | assumption | with_reducible apply ix_add | with_reducible apply ix_mul | (with_reducible apply ix_sub) | (with_reducible apply ix_upd) | (with_reducible apply ix_div) | omega)
                 · omega
                 · omega
                 all_goals (intro hc; first | omega | (conv => whnf)))
              | (with_reducible apply br_ne
                 · repeat (first | with_reducible exact ix_nI | assumption | with_reducible apply ix_add | with_reducible apply ix_mul | (with_reducible apply ix_sub) | (with_reducible apply ix_upd) | (with_reducible apply ix_div) | omega)
                 · repeat (first | with_reducible exact ix_nI | assumption | with_reducible apply ix_add | with_reducible apply ix_mul | (with_reducible apply ix_sub) | (with_reducible apply ix_upd) | (with_reducible apply ix_div) | omega)
                 · omega
                 · omega
                 all_goals (intro hc; first | omega | (conv => whnf)))
              | (with_reducible apply br_eq0
                 · repeat (first | with_reducible exact ix_nI | assumption | with_reducible apply ix_add | with_reducible apply ix_mul | (with_reducible apply ix_sub) | (with_reducible apply ix_upd) | (with_reducible apply ix_div) | omega)
                 · omega
                 all_goals (intro hc; first | omega | (conv => whnf)))
              | (with_reducible apply br_ne0
                 · repeat (first | with_reducible exact ix_nI | assumption | with_reducible apply ix_add | with_reducible apply ix_mul | (with_reducible apply ix_sub) | (with_reducible apply ix_upd) | (with_reducible apply ix_div) | omega)
                 · omega
                 all_goals (intro hc; first | omega | (conv => whnf)))
              | (with_reducible apply br_le0
                 · repeat (first | with_reducible exact ix_nI | assumption | with_reducible apply ix_add | with_reducible apply ix_mul | (with_reducible apply ix_sub) | (with_reducible apply ix_upd) | (with_reducible apply ix_div) | omega)
                 · omega
                 all_goals (intro hc; first | omega | (conv => whnf)))
              | (with_reducible apply br_gt0
                 · repeat (first | with_reducible exact ix_nI | assumption | with_reducible apply ix_add | with_reducible apply ix_mul | (with_reducible apply ix_sub) | (with_reducible apply ix_upd) | (with_reducible apply ix_div) | omega)
                 · omega
                 all_goals (intro hc; first | omega | (conv => whnf)))
              | (with_reducible apply br_lt0
                 · repeat (first | with_reducible exact ix_nI | assumption | with_reducible apply ix_add | with_reducible apply ix_mul | (with_reducible apply ix_sub) | (with_reducible apply ix_upd) | (with_reducible apply ix_div) | omega)
                 · omega
                 conv => whnf)
              | (with_reducible apply br_ge0
                 · repeat (first | with_reducible exact ix_nI | assumption | with_reducible apply ix_add | with_reducible apply ix_mul | (with_reducible apply ix_sub) | (with_reducible apply ix_upd) | (with_reducible apply ix_div) | omega)
                 · omega
                 conv => whnf)
              | (with_reducible apply br_tab
                 · repeat (first | with_reducible exact ix_nI | assumption | with_reducible apply ix_add | with_reducible apply ix_mul | (with_reducible apply ix_sub) | (with_reducible apply ix_upd) | (with_reducible apply ix_div) | omega)
                 · omega
                 all_goals (intro hc; (try dsimp only at hc); first | omega | (conv => whnf)))
              | (refine ⟨_, hAH.1, ?_⟩; conv => whnf)
                        | (refine ⟨_, hT2, ?_⟩; conv => whnf)
                        | (refine ⟨_, _, hT2, ⟨_, rfl, rfl⟩, ?_⟩; conv => whnf)
                        | (refine cl_use hC (c_beginsCommand hi hT3 (fun _ => ?_) (fun q => absurd (hbi.mp rfl) q)); conv => whnf)
                        | (refine ⟨_, _, hAH.1, ⟨_, rfl, rfl⟩, ?_⟩; conv => whnf)
                        | (refine cl_use hC (c_carry2 (cmd := cmd) hAH hIz hi (by rw [g2]; exact hx) g3.symm (fun q => (g4 (g2.symm.trans q)).symm) hokc gc gl fun H1 hA1 hF1 => ?_); conv => whnf)
              | (refine And.intro (fun hc => ?_) (fun hc => ?_) <;> conv => whnf)
              | (refine And.intro (by decide) ?_; conv => whnf)
              | fail)
            refine wp_use hW ?_
            rw [nI_add, nI_add]
            exact (keyX H1 _ (k + 1) (nI 2) (i + 1) (by omega) (Or.inr rfl) hA1 (hFH.trans hF1) hr).le (by repeat' (first | exact trivial | refine And.intro rfl ?_))
          | false =>
            rw [gl, if_neg (by decide)] at hr
            refine wp_vc [37] 60 rfl fun W' C hW hC => ?_
            conv => whnf
            repeat' (first
              | (refine ⟨_, rfl, ?_⟩; conv => whnf)
              | (refine ⟨_, _, rfl, ⟨_, rfl, rfl⟩, ?_⟩; conv => whnf)
              | (refine ⟨_, _, rfl, ?_⟩
                 with_reducible apply ix_ex
                 · repeat (first | with_reducible exact ix_nI | assumption | with_reducible apply ix_add | with_reducible apply ix_mul | (with_reducible apply ix_sub) | (with_reducible apply ix_upd) | (with_reducible apply ix_div) | omega)
                 (refine ⟨⟨by omega, by decide⟩, ?_⟩; conv => whnf))
              | (with_reducible apply br_le
                 · repeat (first | with_reducible exact ix_nI | assumption | with_reducible apply ix_add | with_reducible apply ix_mul | (with_reducible apply ix_sub) | (with_reducible apply ix_upd) | (with_reducible apply ix_div) | omega)
                 · repeat (first | with_reducible exact ix_nI | assumption | with_reducible apply ix_add | with_reducible apply ix_mul | (with_reducible apply ix_sub) | (with_reducible apply ix_upd) | (with_reducible apply ix_div) | omega)
                 · omega
                 · omega
                 all_goals (intro hc; first | omega | (conv => whnf)))
              | (with_reducible apply br_lt
                 · repeat (first | with_reducible exact ix_nI | assumption | with_reducible apply ix_add | with_reducible apply ix_mul | (with_reducible apply ix_sub) | (with_reducible apply ix_upd) | (with_reducible apply ix_div) | omega)
                 · repeat (first | with_reducible exact ix_nI | assumption | with_reducible apply ix_add | with_reducible apply ix_mul | (with_reducible apply ix_sub) | (with_reducible apply ix_upd) | (with_reducible apply ix_div) | omega)
                 · omega
                 · omega
                 all_goals (intro hc; first | omega | (conv => whnf)))
              | (with_reducible apply br_eq
                 · repeat (first | with_reducible exact ix_nI | assumption | with_reducible apply ix_add | with_reducible apply ix_mul | (with_reducible apply ix_sub) | (with_reducible apply ix_upd) | (with_reducible apply ix_div) | omega)
                 · repeat (first | with_reducible exact ix_nI | assumption | with_reducible apply ix_add | with_reducible apply ix_mul | (with_reducible apply ix_sub) | (with_reducible apply ix_upd) | (with_reducible apply ix_div) | omega)
                 · omega
                 · omega
                 all_goals (intro hc; first | omega | (conv => whnf)))
              | (with_reducible apply br_ne
                 · repeat (first | with_reducible exact ix_nI | assumption | with_reducible apply ix_add | with_reducible apply ix_mul | (with_reducible apply ix_sub) | (with_reducible apply ix_upd) | (with_reducible apply ix_div) | omega)
                 · repeat (first | with_reducible exact ix_nI | assumption | with_reducible apply ix_add | with_reducible apply ix_mul | (with_reducible apply ix_sub) | (with_reducible apply ix_upd) | (with_reducible apply ix_div) | omega)
                 · omega
                 · omega
                 all_goals (intro hc; first | omega | (conv => whnf)))
              | (with_reducible apply br_eq0
                 · repeat (first | with_reducible exact ix_nI | assumption | with_reducible apply ix_add | with_reducible apply ix_mul | (with_reducible apply ix_sub) | (with_reducible apply ix_upd) | (with_reducible apply ix_div) | omega)
                 · omega
                 all_goals (intro hc; first | omega | (conv => whnf)))
              | (with_reducible apply br_ne0
                 · repeat (first | with_reducible exact ix_nI | assumption | with_reducible apply ix_add | with_reducible apply ix_mul | (with_reducible apply ix_sub) | (with_reducible apply ix_upd) | (with_reducible apply ix_div) | omega)
                 · omega
                 all_goals (intro hc; first | omega | (conv => whnf)))
              | (with_reducible apply br_le0
                 · repeat (first | with_reducible exact ix_nI | assumption | with_reducible apply ix_add | with_reducible apply ix_mul | (with_reducible apply ix_sub) | (with_reducible apply ix_upd) | (with_reducible apply ix_div) | omega)
                 · omega
                 all_goals (intro hc; first | omega | (conv => whnf)))
              | (with_reducible apply br_gt0
                 · repeat (first | with_reducible exact ix_nI | assumption | with_reducible apply ix_add | with_reducible apply ix_mul | (with_reducible apply ix_sub) | (with_reducible apply ix_upd) | (with_reducible apply ix_div) | omega)
                 · omega
                 all_goals (intro hc; first | omega | (conv => whnf)))
              | (with_reducible apply br_lt0
                 · repeat (first | with_reducible exact ix_nI | assumption | with_reducible apply ix_add | with_reducible apply ix_mul | (with_reducible apply ix_sub) | (with_reducible apply ix_upd) | (with_reducible apply ix_div) | omega)
                 · omega
                 conv => whnf)
              | (with_reducible apply br_ge0
                 · repeat (first | with_reducible exact ix_nI | assumption | with_reducible apply ix_add | with_reducible apply ix_mul | (with_reducible apply ix_sub) | (with_reducible apply ix_upd) | (with_reducible apply ix_div) | omega)
                 · omega
                 conv => whnf)
              | (with_reducible apply br_tab
                 · repeat (first | with_reducible exact ix_nI | assumption | with_reducible apply ix_add | with_reducible apply ix_mul | (with_reducible apply ix_sub) | (with_reducible apply ix_upd) | (with_reducible apply ix_div) | omega)
                 · omega
                 all_goals (intro hc; (try dsimp only at hc); first | omega | (conv => whnf)))
              | (refine ⟨_, hAH.1, ?_⟩; conv => whnf)
                        | (refine ⟨_, hT2, ?_⟩; conv => whnf)
                        | (refine ⟨_, _, hT2, ⟨_, rfl, rfl⟩, ?_⟩; conv => whnf)
                        | (refine cl_use hC (c_beginsCommand hi hT3 (fun _ => ?_) (fun q => absurd (hbi.mp rfl) q)); conv => whnf)
                        | (refine ⟨_, _, hAH.1, ⟨_, rfl, rfl⟩, ?_⟩; conv => whnf)
                        | (refine cl_use hC (c_carry1 (cmd := cmd) hAH hIz hi (by rw [g2]; exact hx) g3.symm (fun q => (g4 (g2.symm.trans q)).symm) hokc gc gl fun H1 hA1 hF1 => ?_); conv => whnf)
              | (refine And.intro (fun hc => ?_) (fun hc => ?_) <;> conv => whnf)
              | (refine And.intro (by decide) ?_; conv => whnf)
              | fail)
            refine wp_use hW ?_
            rw [nI_add, nI_add]
            refine (ih H1 (doC z cmd) (k + 1) s1 (m + 1) hA1 (hFH.trans hF1) (ivz_do hIz hokc gc) hs1 (by rw [if_neg hs10.1, hs10.2, hk]) ?_).le (by repeat' (first | exact trivial | refine And.intro rfl ?_))
            rw [hr]
            dsimp only
            rw [Nat.add_assoc k 1, Nat.add_comm 1]
      · rw [if_neg h10] at hk
        refine wp_vc [37] 60 rfl fun W' C hW hC => ?_
        conv => whnf
        repeat' (first
          | (refine ⟨_, rfl, ?_⟩; conv => whnf)
          | (refine ⟨_, _, rfl, ⟨_, rfl, rfl⟩, ?_⟩; conv => whnf)
          | (refine ⟨_, _, rfl, ?_⟩
             with_reducible apply ix_ex
             · repeat (first | with_reducible exact ix_nI | assumption | with_reducible apply ix_add | with_reducible apply ix_mul | (with_reducible apply ix_sub) | (with_reducible apply ix_upd) | (with_reducible apply ix_div) | omega)
             (refine ⟨⟨by omega, by decide⟩, ?_⟩; conv => whnf))
          | (with_reducible apply br_le
             · repeat (first | with_reducible exact ix_nI | assumption | with_reducible apply ix_add | with_reducible apply ix_mul | (with_reducible apply ix_sub) | (with_reducible apply ix_upd) | (with_reducible apply ix_div) | omega)
             · repeat (first | with_reducible exact ix_nI | assumption | with_reducible apply ix_add | with_reducible apply ix_mul | (with_reducible apply ix_sub) | (with_reducible apply ix_upd) | (with_reducible apply ix_div) | omega)
             · omega
             · omega
             all_goals (intro hc; first | omega | (conv => whnf)))
          | (with_reducible apply br_lt
             · repeat (first | with_reducible exact ix_nI | assumption | with_reducible apply ix_add | with_reducible apply ix_mul | (with_reducible apply ix_sub) | (with_reducible apply ix_upd) | (with_reducible apply ix_div) | omega)
             · repeat (first | with_reducible exact ix_nI | assumption | with_reducible apply ix_add | with_reducible apply ix_mul | (with_reducible apply ix_sub) | (with_reducible apply ix_upd) | (with_reducible apply ix_div) | omega)
             · omega
             · omega
             all_goals (intro hc; first | omega | (conv => whnf)))
          | (with_reducible apply br_eq
             · repeat (first | with_reducible exact ix_nI | assumption | with_reducible apply ix_add | with_reducible apply ix_mul | (with_reducible apply ix_sub) | (with_reducible apply ix_upd) | (with_reducible apply ix_div) | omega)
             · repeat (first | with_reducible exact ix_nI | assumption | with_reducible apply ix_add | with_reducible apply ix_mul | (with_reducible apply ix_sub) | (with_reducible apply ix_upd) | (with_reducible apply ix_div) | omega)
             · omega
             · omega
             all_goals (intro hc; first | omega | (conv => whnf)))
          | (with_reducible apply br_ne
             · repeat (first | with_reducible exact ix_nI | assumption | with_reducible apply ix_add | with_reducible apply ix_mul | (with_reducible apply ix_sub) | (with_reducible apply ix_upd) | (with_reducible apply ix_div) | omega)
             · repeat (first | with_reducible exact ix_nI | assumption | with_reducible apply ix_add | with_reducible apply ix_mul | (with_reducible apply ix_sub) | (with_reducible apply ix_upd) | (with_reducible apply ix_div) | omega)
             · omega
             · omega
             all_goals (intro hc; first | omega | (conv => whnf)))
          | (with_reducible apply br_eq0
             · repeat (first | with_reducible exact ix_nI | assumption | with_reducible apply ix_add | with_reducible apply ix_mul | (with_reducible apply ix_sub) | (with_reducible apply ix_upd) | (with_reducible apply ix_div) | omega)
             · omega
             all_goals (intro hc; first | omega | (conv => whnf)))
          | (with_reducible apply br_ne0
             · repeat (first | with_reducible exact ix_nI | assumption | with_reducible apply ix_add | with_reducible apply ix_mul | (with_reducible apply ix_sub) | (with_reducible apply ix_upd) | (with_reducible apply ix_div) | omega)
             · omega
             all_goals (intro hc; first | omega | (conv => whnf)))
          | (with_reducible apply br_le0
             · repeat (first | with_reducible exact ix_nI | assumption | with_reducible apply ix_add | with_reducible apply ix_mul | (with_reducible apply ix_sub) | (with_reducible apply ix_upd) | (with_reducible apply ix_div) | omega)
             · omega
             all_goals (intro hc; first | omega | (conv => whnf)))
          | (with_reducible apply br_gt0
             · repeat (first | with_reducible exact ix_nI | assumption | with_reducible apply ix_add | with_reducible apply ix_mul | (with_reducible apply ix_sub) | (with_reducible apply ix_upd) | (with_reducible apply ix_div) | omega)
             · omega
             all_goals (intro hc; first | omega | (conv => whnf)))
          | (with_reducible apply br_lt0
             · repeat (first | with_reducible exact ix_nI | assumption | with_reducible apply ix_add | with_reducible apply ix_mul | (with_reducible apply ix_sub) | (with_reducible apply ix_upd) | (with_reducible apply ix_div) | omega)
             · omega
             conv => whnf)
          | (with_reducible apply br_ge0
             · repeat (first | with_reducible exact ix_nI | assumption | with_reducible apply ix_add | with_reducible apply ix_mul | (with_reducible apply ix_sub) | (with_reducible apply ix_upd) | (with_reducible apply ix_div) | omega)
             · omega
             conv => whnf)
          | (with_reducible apply br_tab
             · repeat (first | with_reducible exact ix_nI | assumption | with_reducible apply ix_add | with_reducible apply ix_mul | (with_reducible apply ix_sub) | (with_reducible apply ix_upd) | (with_reducible apply ix_div) | omega)
             · omega
             all_goals (intro hc; (try dsimp only at hc); first | omega | (conv => whnf)))
          | (refine ⟨_, hAH.1, ?_⟩; conv => whnf)
                | (refine ⟨_, hT2, ?_⟩; conv => whnf)
                | (refine ⟨_, _, hT2, ⟨_, rfl, rfl⟩, ?_⟩; conv => whnf)
                | (refine cl_use hC (c_beginsCommand hi hT3 (fun q => absurd (hbi.mpr q) h10) (fun _ => ?_)); conv => whnf)
          | (refine And.intro (fun hc => ?_) (fun hc => ?_) <;> conv => whnf)
          | (refine And.intro (by decide) ?_; conv => whnf)
          | fail)
        refine wp_use hW ?_
        rw [nI_add]
        refine ih H z k s1 m hAH hFH hIz hs1 ?_ hr
        rcases tk_dn hIs htk with ⟨q1, _, _, q2⟩ | ⟨q1, _, q2⟩
        · rw [if_pos q1, q2, List.length_append, hk]
          rfl
        · rw [if_neg q1, q2, hk]
  · have ea : aRun A = no A 1 := by
      unfold aRun
      cases hp : prsS ps0 A.2.2 with
      | none => rfl
      | some s => exact if_neg (hs s hp)
    rw [ea] at hK
    exact hK.2.1 rfl
end C18
