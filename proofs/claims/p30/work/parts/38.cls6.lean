/-! ===== the class: a memory reads a page, takes another over ===== -/
theorem fails_ok {z q : ZZ} {p : Nat} (hq : ∀ c, c < 16 → q c = z (86 + 16 * p + c)) : (fun m => decide (wN z q (z (78 + p)) m ≤ z 2)) = okN z (chg z p) p := by
  funext m
  unfold okN
  rw [wN_congr (q' := chg z p) (fun c hc => hq c hc), wN_wrong]
theorem feesI_congr {z z' : ZZ} {F : Nat} (h4 : z' 4 = z 4) (h8 : z' 8 = z 8) : feesI z' F = feesI z F := by
  unfold feesI mN'
  rw [h4, h8]
section C8
variable {G : GG} {d n b p : Nat} {z : ZZ} {h0 h : AH} {w : W3} {K : AO → AH → W3 → Prop}
theorem c_readPage (hM : Mem b z h) (hMF : MF z) (hp : p < 8) (hK : ∀ h', Mem b (readsZ z p) h' → Off b h h' → K (.inl (some (.int (readsR z p)))) h' w) : Cl G (d + 4) kX2_readPage [.ref b, .ref (b + 5 + 2 * p)] h w K := by
  obtain ⟨⟨h8, hM1, hM6⟩, hF⟩ := id hMF
  obtain ⟨hf, hfM⟩ := hF p hp
  obtain ⟨q, eq, eq'⟩ := hM.ch hp
  have hpg := hM.pg hp
  have hFle := failsN_le (z := z) (p := p)
  rw [hf] at hpg
  have h1 : Mem b (pgZ z p (z (30 + p)) (z (78 + p)) (z (38 + p)) (nI (favN z p)) (z (54 + p)) (z (62 + p) + nI (failsN z p)) (z (70 + p))) (upA h (b + 5 + 2 * p) (.inr (3, [.ref (b + 6 + 2 * p), .int (z (30 + p)), .int (z (78 + p)), .int (z (38 + p)), .int (nI (favN z p)), .int (z (54 + p)), .int (z (62 + p) + nI (failsN z p)), .int (z (70 + p))]))) := hM.upP hp
  have e4 : pgZ z p (z (30 + p)) (z (78 + p)) (z (38 + p)) (nI (favN z p)) (z (54 + p)) (z (62 + p) + nI (failsN z p)) (z (70 + p)) 4 = z 4 := pgZ_ne (by omega) (by omega) (by omega) (by omega) (by omega) (by omega) (by omega)
  have e8 : pgZ z p (z (30 + p)) (z (78 + p)) (z (38 + p)) (nI (favN z p)) (z (54 + p)) (z (62 + p) + nI (failsN z p)) (z (70 + p)) 8 = z 8 := pgZ_ne (by omega) (by omega) (by omega) (by omega) (by omega) (by omega) (by omega)
  refine Cl.of (by decide) rfl ?_
  refine wp_vc [] 95 rfl fun W' C hW hC => ?_
  conv => whnf
  repeat' (first
    | (refine ⟨_, rfl, ?_⟩; conv => whnf)
    | (refine ⟨_, _, rfl, ⟨_, rfl, rfl⟩, ?_⟩; conv => whnf)
    | (refine ⟨_, _, rfl, ?_⟩
       with_reducible apply ix_ex
       · repeat (first | with_reducible exact ix_nI | assumption | with_reducible apply ix_add | with_reducible apply ix_mul | (with_reducible apply ix_sub) | (with_reducible apply ix_upd) | (with_reducible apply ix_div) | omega)
       (refine ⟨⟨by omega, by decide⟩, ?_⟩; conv => whnf))
    | (with_reducible apply br_le
       · repeat (first | with_reducible exact ix_nI | assumption | with_reducible apply ix_add | with_reducible apply ix_mul | (with_reducible apply ix_sub) | (with_reducible apply ix_upd) | (with_reducible apply ix_div) | omega)
       · repeat (first | with_reducible exact ix_nI | assumption | with_reducible apply ix_add | with_reducible apply ix_mul | (with_reducible apply ix_sub) | (with_reducible apply ix_upd) | (with_reducible apply ix_div) | omega)
       · omega
       · omega
       all_goals (intro hc; first | omega | (conv => whnf)))
    | (with_reducible apply br_lt
       · repeat (first | with_reducible exact ix_nI | assumption | with_reducible apply ix_add | with_reducible apply ix_mul | (with_reducible apply ix_sub) | (with_reducible apply ix_upd) | (with_reducible apply ix_div) | omega)
       · repeat (first | with_reducible exact ix_nI | assumption | with_reducible apply ix_add | with_reducible apply ix_mul | (with_reducible apply ix_sub) | (with_reducible apply ix_upd) | (with_reducible apply ix_div) | omega)
       · omega
       · omega
       all_goals (intro hc; first | omega | (conv => whnf)))
    | (with_reducible apply br_eq
       · repeat (first | with_reducible exact ix_nI | assumption | with_reducible apply ix_add | with_reducible apply ix_mul | (with_reducible apply ix_sub) | (with_reducible apply ix_upd) | (with_reducible apply ix_div) | omega)
       · repeat (first | with_reducible exact ix_nI | assumption | with_reducible apply ix_add | with_reducible apply ix_mul | (with_reducible apply ix_sub) | (with_reducible apply ix_upd) | (with_reducible apply ix_div) | omega)
       · omega
       · omega
       all_goals (intro hc; first | omega | (conv => whnf)))
    | (with_reducible apply br_ne
       · repeat (first | with_reducible exact ix_nI | assumption | with_reducible apply ix_add | with_reducible apply ix_mul | (with_reducible apply ix_sub) | (with_reducible apply ix_upd) | (with_reducible apply ix_div) | omega)
       · repeat (first | with_reducible exact ix_nI | assumption | with_reducible apply ix_add | with_reducible apply ix_mul | (with_reducible apply ix_sub) | (with_reducible apply ix_upd) | (with_reducible apply ix_div) | omega)
       · omega
       · omega
       all_goals (intro hc; first | omega | (conv => whnf)))
    | (with_reducible apply br_eq0
       · repeat (first | with_reducible exact ix_nI | assumption | with_reducible apply ix_add | with_reducible apply ix_mul | (with_reducible apply ix_sub) | (with_reducible apply ix_upd) | (with_reducible apply ix_div) | omega)
       · omega
       all_goals (intro hc; first | omega | (conv => whnf)))
    | (with_reducible apply br_ne0
       · repeat (first | with_reducible exact ix_nI | assumption | with_reducible apply ix_add | with_reducible apply ix_mul | (with_reducible apply ix_sub) | (with_reducible apply ix_upd) | (with_reducible apply ix_div) | omega)
       · omega
       all_goals (intro hc; first | omega | (conv => whnf)))
    | (with_reducible apply br_le0
       · repeat (first | with_reducible exact ix_nI | assumption | with_reducible apply ix_add | with_reducible apply ix_mul | (with_reducible apply ix_sub) | (with_reducible apply ix_upd) | (with_reducible apply ix_div) | omega)
       · omega
       all_goals (intro hc; first | omega | (conv => whnf)))
    | (with_reducible apply br_gt0
       · repeat (first | with_reducible exact ix_nI | assumption | with_reducible apply ix_add | with_reducible apply ix_mul | (with_reducible apply ix_sub) | (with_reducible apply ix_upd) | (with_reducible apply ix_div) | omega)
       · omega
       all_goals (intro hc; first | omega | (conv => whnf)))
    | (with_reducible apply br_lt0
       · repeat (first | with_reducible exact ix_nI | assumption | with_reducible apply ix_add | with_reducible apply ix_mul | (with_reducible apply ix_sub) | (with_reducible apply ix_upd) | (with_reducible apply ix_div) | omega)
       · omega
       conv => whnf)
    | (with_reducible apply br_ge0
       · repeat (first | with_reducible exact ix_nI | assumption | with_reducible apply ix_add | with_reducible apply ix_mul | (with_reducible apply ix_sub) | (with_reducible apply ix_upd) | (with_reducible apply ix_div) | omega)
       · omega
       conv => whnf)
    | (with_reducible apply br_tab
       · repeat (first | with_reducible exact ix_nI | assumption | with_reducible apply ix_add | with_reducible apply ix_mul | (with_reducible apply ix_sub) | (with_reducible apply ix_upd) | (with_reducible apply ix_div) | omega)
       · omega
       all_goals (intro hc; (try dsimp only at hc); first | omega | (conv => whnf)))
    | (refine ⟨_, _, hM.obj, ⟨_, rfl, rfl⟩, ?_⟩; conv => whnf)
    | (refine cl_use hC (c_failingTries hM h8 hM6 hfM hpg eq fun r hr => ?_); rw [fails_ok eq'] at hr; change r = nI (failsN z p) at hr; subst hr; conv => whnf)
    | (refine ⟨_, hpg, ?_⟩; conv => whnf)
    | (refine ⟨_, upA_eq, ?_⟩; conv => whnf)
    | (refine ⟨_, _, upA_ne (by omega) hM.obj, ⟨_, rfl, rfl⟩, ?_⟩; conv => whnf)
    | (refine cl_use hC (c_feesOfTries h1 rfl (e8.trans h8) hM1 hM6 hFle fun r hr => ?_); rw [feesI_congr e4 e8] at hr; subst hr; conv => whnf)
    | (simp only [upA_upA]; refine ⟨_, upA_ne (by omega) hM.obj, ?_⟩; conv => whnf)
    | (simp only [upA_upA]; refine ⟨_, upA_eq, ?_⟩; conv => whnf)
    | (refine cl_use hC (c_matchOfTry rfl upA_eq (by omega) (by omega) fun r hr => ?_); subst hr; conv => whnf)
    | (refine And.intro (fun hc => ?_) (fun hc => ?_) <;> conv => whnf)
    | (refine And.intro (by decide) ?_; conv => whnf)
    | fail)
  · simp only [upA_upA]
    unfold readsR at hK
    rw [if_neg hc] at hK
    refine hK _ ((hM.upP' hp rfl rfl).same fun i hi => ?_) (Off.up' (k := 5 + 2 * p) (by omega) (by omega) Off.refl)
    unfold readsZ pgZ
    (try dsimp only)
    rw [if_neg hc]
    by_cases e1 : i = 46 + p
    · rw [e1, upd_eq, if_neg (by omega), if_neg (by omega), if_neg (by omega), if_pos rfl]
    · rw [upd_ne e1]
      by_cases e2 : i = 54 + p
      · rw [e2, upd_eq, if_neg (by omega), if_neg (by omega), if_neg (by omega), if_neg (by omega), if_pos rfl]
      · rw [upd_ne e2]
        by_cases e3 : i = 70 + p
        · rw [e3, upd_eq, if_neg (by omega), if_neg (by omega), if_neg (by omega), if_neg (by omega), if_neg (by omega), if_neg (by omega), if_pos rfl]
        · rw [upd_ne e3]
          by_cases e4 : i = 62 + p
          · rw [e4, upd_eq, if_neg (by omega), if_neg (by omega), if_neg (by omega), if_neg (by omega), if_neg (by omega), if_pos rfl]
          · rw [upd_ne e4]
            (repeat' split) <;> first | rfl | (exfalso; omega) | (subst_vars; first | rfl | exact hf)
  · unfold readsR at hK
    rw [if_pos hc] at hK
    refine hK _ (((hM.upP' hp rfl rfl).upM' (m := z 8) (hr := z 6) (sd := z 7) (bl := z 27 + nI 1) rfl).same fun i hi => ?_) (Off.up' (k := 0) rfl (by omega) (Off.up' (k := 5 + 2 * p) (by omega) (by omega) Off.refl))
    unfold readsZ pgZ obZ
    (try dsimp only)
    rw [if_pos hc]
    by_cases e0 : i = 27
    · rw [e0, upd_eq, if_neg (by omega), if_neg (by omega), if_neg (by omega), if_pos rfl]
    · rw [upd_ne e0]
      by_cases e2 : i = 30 + p
      · rw [e2, upd_eq, if_neg (by omega), if_neg (by omega), if_neg (by omega), if_neg (by omega), if_pos rfl]
      · rw [upd_ne e2]
        by_cases e3 : i = 70 + p
        · rw [e3, upd_eq, if_neg (by omega), if_neg (by omega), if_neg (by omega), if_neg (by omega), if_neg (by omega), if_neg (by omega), if_neg (by omega), if_neg (by omega), if_neg (by omega), if_neg (by omega), if_pos rfl]
        · rw [upd_ne e3]
          by_cases e4 : i = 62 + p
          · rw [e4, upd_eq, if_neg (by omega), if_neg (by omega), if_neg (by omega), if_neg (by omega), if_neg (by omega), if_neg (by omega), if_neg (by omega), if_neg (by omega), if_neg (by omega), if_pos rfl]
          · rw [upd_ne e4]
            (repeat' split) <;> first | rfl | (exfalso; omega) | (subst_vars; first | rfl | exact hf)
/-- the first P pages of z, the rest of y -/
def mixZ (y z : ZZ) (P : Nat) : ZZ := fun i => if (30 ≤ i ∧ i < 86 ∧ (i - 30) % 8 < P) ∨ (86 ≤ i ∧ (i - 86) / 16 < P) then z i else y i
theorem c_takeMem {b2 : Nat} {y : ZZ} (hd : b2 + 21 ≤ b ∨ b + 21 ≤ b2) (hM : Mem b y h) (hM2 : Mem b2 z h) (hK : ∀ h', Mem b z h' → Off b h h' → K (.inl none) h' w) : Cl G (d + 2) kX2_takeFrom [.ref b, .ref b2] h w K := by
  refine Cl.of (by decide) rfl ?_
  refine wp_vc [2] 95 rfl fun W' C hW hC => ?_
  conv => whnf
  repeat' (first
    | (refine ⟨_, rfl, ?_⟩; conv => whnf)
    | (refine ⟨_, _, rfl, ⟨_, rfl, rfl⟩, ?_⟩; conv => whnf)
    | (refine ⟨_, _, rfl, ?_⟩
       with_reducible apply ix_ex
       · repeat (first | with_reducible exact ix_nI | assumption | with_reducible apply ix_add | with_reducible apply ix_mul | (with_reducible apply ix_sub) | (with_reducible apply ix_upd) | (with_reducible apply ix_div) | omega)
       (refine ⟨⟨by omega, by decide⟩, ?_⟩; conv => whnf))
    | (with_reducible apply br_le
       · repeat (first | with_reducible exact ix_nI | assumption | with_reducible apply ix_add | with_reducible apply ix_mul | (with_reducible apply ix_sub) | (with_reducible apply ix_upd) | (with_reducible apply ix_div) | omega)
       · repeat (first | with_reducible exact ix_nI | assumption | with_reducible apply ix_add | with_reducible apply ix_mul | (with_reducible apply ix_sub) | (with_reducible apply ix_upd) | (with_reducible apply ix_div) | omega)
       · omega
       · omega
       all_goals (intro hc; first | omega | (conv => whnf)))
    | (with_reducible apply br_lt
       · repeat (first | with_reducible exact ix_nI | assumption | with_reducible apply ix_add | with_reducible apply ix_mul | (with_reducible apply ix_sub) | (with_reducible apply ix_upd) | (with_reducible apply ix_div) | omega)
       · repeat (first | with_reducible exact ix_nI | assumption | with_reducible apply ix_add | with_reducible apply ix_mul | (with_reducible apply ix_sub) | (with_reducible apply ix_upd) | (with_reducible apply ix_div) | omega)
       · omega
       · omega
       all_goals (intro hc; first | omega | (conv => whnf)))
    | (with_reducible apply br_eq
       · repeat (first | with_reducible exact ix_nI | assumption | with_reducible apply ix_add | with_reducible apply ix_mul | (with_reducible apply ix_sub) | (with_reducible apply ix_upd) | (with_reducible apply ix_div) | omega)
       · repeat (first | with_reducible exact ix_nI | assumption | with_reducible apply ix_add | with_reducible apply ix_mul | (with_reducible apply ix_sub) | (with_reducible apply ix_upd) | (with_reducible apply ix_div) | omega)
       · omega
       · omega
       all_goals (intro hc; first | omega | (conv => whnf)))
    | (with_reducible apply br_ne
       · repeat (first | with_reducible exact ix_nI | assumption | with_reducible apply ix_add | with_reducible apply ix_mul | (with_reducible apply ix_sub) | (with_reducible apply ix_upd) | (with_reducible apply ix_div) | omega)
       · repeat (first | with_reducible exact ix_nI | assumption | with_reducible apply ix_add | with_reducible apply ix_mul | (with_reducible apply ix_sub) | (with_reducible apply ix_upd) | (with_reducible apply ix_div) | omega)
       · omega
       · omega
       all_goals (intro hc; first | omega | (conv => whnf)))
    | (with_reducible apply br_eq0
       · repeat (first | with_reducible exact ix_nI | assumption | with_reducible apply ix_add | with_reducible apply ix_mul | (with_reducible apply ix_sub) | (with_reducible apply ix_upd) | (with_reducible apply ix_div) | omega)
       · omega
       all_goals (intro hc; first | omega | (conv => whnf)))
    | (with_reducible apply br_ne0
       · repeat (first | with_reducible exact ix_nI | assumption | with_reducible apply ix_add | with_reducible apply ix_mul | (with_reducible apply ix_sub) | (with_reducible apply ix_upd) | (with_reducible apply ix_div) | omega)
       · omega
       all_goals (intro hc; first | omega | (conv => whnf)))
    | (with_reducible apply br_le0
       · repeat (first | with_reducible exact ix_nI | assumption | with_reducible apply ix_add | with_reducible apply ix_mul | (with_reducible apply ix_sub) | (with_reducible apply ix_upd) | (with_reducible apply ix_div) | omega)
       · omega
       all_goals (intro hc; first | omega | (conv => whnf)))
    | (with_reducible apply br_gt0
       · repeat (first | with_reducible exact ix_nI | assumption | with_reducible apply ix_add | with_reducible apply ix_mul | (with_reducible apply ix_sub) | (with_reducible apply ix_upd) | (with_reducible apply ix_div) | omega)
       · omega
       all_goals (intro hc; first | omega | (conv => whnf)))
    | (with_reducible apply br_lt0
       · repeat (first | with_reducible exact ix_nI | assumption | with_reducible apply ix_add | with_reducible apply ix_mul | (with_reducible apply ix_sub) | (with_reducible apply ix_upd) | (with_reducible apply ix_div) | omega)
       · omega
       conv => whnf)
    | (with_reducible apply br_ge0
       · repeat (first | with_reducible exact ix_nI | assumption | with_reducible apply ix_add | with_reducible apply ix_mul | (with_reducible apply ix_sub) | (with_reducible apply ix_upd) | (with_reducible apply ix_div) | omega)
       · omega
       conv => whnf)
    | (with_reducible apply br_tab
       · repeat (first | with_reducible exact ix_nI | assumption | with_reducible apply ix_add | with_reducible apply ix_mul | (with_reducible apply ix_sub) | (with_reducible apply ix_upd) | (with_reducible apply ix_div) | omega)
       · omega
       all_goals (intro hc; (try dsimp only at hc); first | omega | (conv => whnf)))
    | (refine And.intro (fun hc => ?_) (fun hc => ?_) <;> conv => whnf)
    | (refine And.intro (by decide) ?_; conv => whnf)
    | fail)
  refine wp_use hW ?_
  have key := upto (W := fun i => ∀ H, Mem b (mixZ y z i) H → Off b h H → wp G (d + 2) kX2_takeFrom w.2.1 w.2.2 K 2 [some (.ref b), some (.ref b2), some (.int (nI i))] [] H w) 8 ?_ ?_
  · refine key _ (hM.same fun i hi => ?_) Off.refl
    unfold mixZ
    rw [if_neg (by omega)]
  · intro H hMH hOH
    have hM3 : Mem b2 z H := hM2.moved fun a h1 h2 => hOH a (by omega)
    obtain ⟨qs, es, es'⟩ := hMH.st
    obtain ⟨qw, ew, ew'⟩ := hMH.wr
    obtain ⟨qo, eo, eo'⟩ := hMH.of
    obtain ⟨rs, fs, fs'⟩ := hM3.st
    obtain ⟨rw', fw, fw'⟩ := hM3.wr
    obtain ⟨ro, fo, fo'⟩ := hM3.of
    have o1 := hMH.obj
    have o2 := hM3.obj
    refine wp_vc [2] 160 rfl fun W' C hW hC => ?_
    conv => whnf
    repeat' (first
      | (refine ⟨_, rfl, ?_⟩; conv => whnf)
      | (refine ⟨_, _, rfl, ⟨_, rfl, rfl⟩, ?_⟩; conv => whnf)
      | (refine ⟨_, _, rfl, ?_⟩
         with_reducible apply ix_ex
         · repeat (first | with_reducible exact ix_nI | assumption | with_reducible apply ix_add | with_reducible apply ix_mul | (with_reducible apply ix_sub) | (with_reducible apply ix_upd) | (with_reducible apply ix_div) | omega)
         (refine ⟨⟨by omega, by decide⟩, ?_⟩; conv => whnf))
      | (with_reducible apply br_le
         · repeat (first | with_reducible exact ix_nI | assumption | with_reducible apply ix_add | with_reducible apply ix_mul | (with_reducible apply ix_sub) | (with_reducible apply ix_upd) | (with_reducible apply ix_div) | omega)
         · repeat (first | with_reducible exact ix_nI | assumption | with_reducible apply ix_add | with_reducible apply ix_mul | (with_reducible apply ix_sub) | (with_reducible apply ix_upd) | (with_reducible apply ix_div) | omega)
         · omega
         · omega
         all_goals (intro hc; first | omega | (conv => whnf)))
      | (with_reducible apply br_lt
         · repeat (first | with_reducible exact ix_nI | assumption | with_reducible apply ix_add | with_reducible apply ix_mul | (with_reducible apply ix_sub) | (with_reducible apply ix_upd) | (with_reducible apply ix_div) | omega)
         · repeat (first | with_reducible exact ix_nI | assumption | with_reducible apply ix_add | with_reducible apply ix_mul | (with_reducible apply ix_sub) | (with_reducible apply ix_upd) | (with_reducible apply ix_div) | omega)
         · omega
         · omega
         all_goals (intro hc; first | omega | (conv => whnf)))
      | (with_reducible apply br_eq
         · repeat (first | with_reducible exact ix_nI | assumption | with_reducible apply ix_add | with_reducible apply ix_mul | (with_reducible apply ix_sub) | (with_reducible apply ix_upd) | (with_reducible apply ix_div) | omega)
         · repeat (first | with_reducible exact ix_nI | assumption | with_reducible apply ix_add | with_reducible apply ix_mul | (with_reducible apply ix_sub) | (with_reducible apply ix_upd) | (with_reducible apply ix_div) | omega)
         · omega
         · omega
         all_goals (intro hc; first | omega | (conv => whnf)))
      | (with_reducible apply br_ne
         · repeat (first | with_reducible exact ix_nI | assumption | with_reducible apply ix_add | with_reducible apply ix_mul | (with_reducible apply ix_sub) | (with_reducible apply ix_upd) | (with_reducible apply ix_div) | omega)
         · repeat (first | with_reducible exact ix_nI | assumption | with_reducible apply ix_add | with_reducible apply ix_mul | (with_reducible apply ix_sub) | (with_reducible apply ix_upd) | (with_reducible apply ix_div) | omega)
         · omega
         · omega
         all_goals (intro hc; first | omega | (conv => whnf)))
      | (with_reducible apply br_eq0
         · repeat (first | with_reducible exact ix_nI | assumption | with_reducible apply ix_add | with_reducible apply ix_mul | (with_reducible apply ix_sub) | (with_reducible apply ix_upd) | (with_reducible apply ix_div) | omega)
         · omega
         all_goals (intro hc; first | omega | (conv => whnf)))
      | (with_reducible apply br_ne0
         · repeat (first | with_reducible exact ix_nI | assumption | with_reducible apply ix_add | with_reducible apply ix_mul | (with_reducible apply ix_sub) | (with_reducible apply ix_upd) | (with_reducible apply ix_div) | omega)
         · omega
         all_goals (intro hc; first | omega | (conv => whnf)))
      | (with_reducible apply br_le0
         · repeat (first | with_reducible exact ix_nI | assumption | with_reducible apply ix_add | with_reducible apply ix_mul | (with_reducible apply ix_sub) | (with_reducible apply ix_upd) | (with_reducible apply ix_div) | omega)
         · omega
         all_goals (intro hc; first | omega | (conv => whnf)))
      | (with_reducible apply br_gt0
         · repeat (first | with_reducible exact ix_nI | assumption | with_reducible apply ix_add | with_reducible apply ix_mul | (with_reducible apply ix_sub) | (with_reducible apply ix_upd) | (with_reducible apply ix_div) | omega)
         · omega
         all_goals (intro hc; first | omega | (conv => whnf)))
      | (with_reducible apply br_lt0
         · repeat (first | with_reducible exact ix_nI | assumption | with_reducible apply ix_add | with_reducible apply ix_mul | (with_reducible apply ix_sub) | (with_reducible apply ix_upd) | (with_reducible apply ix_div) | omega)
         · omega
         conv => whnf)
      | (with_reducible apply br_ge0
         · repeat (first | with_reducible exact ix_nI | assumption | with_reducible apply ix_add | with_reducible apply ix_mul | (with_reducible apply ix_sub) | (with_reducible apply ix_upd) | (with_reducible apply ix_div) | omega)
         · omega
         conv => whnf)
      | (with_reducible apply br_tab
         · repeat (first | with_reducible exact ix_nI | assumption | with_reducible apply ix_add | with_reducible apply ix_mul | (with_reducible apply ix_sub) | (with_reducible apply ix_upd) | (with_reducible apply ix_div) | omega)
         · omega
         all_goals (intro hc; (try dsimp only at hc); first | omega | (conv => whnf)))
      | (refine ⟨_, o1, ?_⟩; conv => whnf)
        | (refine ⟨_, o2, ?_⟩; conv => whnf)
        | (refine ⟨_, upA_ne (by omega) o1, ?_⟩; conv => whnf)
        | (refine ⟨_, upA_ne (by omega) o2, ?_⟩; conv => whnf)
        | (refine ⟨_, upA_ne (by omega) (upA_ne (by omega) o1), ?_⟩; conv => whnf)
        | (refine ⟨_, upA_ne (by omega) (upA_ne (by omega) o2), ?_⟩; conv => whnf)
        | (refine ⟨_, upA_ne (by omega) (upA_ne (by omega) (upA_ne (by omega) o1)), ?_⟩; conv => whnf)
        | (refine ⟨_, upA_ne (by omega) (upA_ne (by omega) (upA_ne (by omega) o2)), ?_⟩; conv => whnf)
        | (simp only [upA_upA]; refine ⟨_, upA_eq, ?_⟩; conv => whnf)
        | (refine ⟨_, upA_eq, ?_⟩; conv => whnf)
        | (simp only [upA_upA]; refine ⟨_, upA_ne (by omega) (upA_ne (by omega) (upA_ne (by omega) (upA_ne (by omega) o2))), ?_⟩; conv => whnf)
        | (refine ⟨_, upA_ne (by omega) (upA_ne (by omega) (upA_ne (by omega) (upA_ne (by omega) o2))), ?_⟩; conv => whnf)
        | (refine ⟨2, 0, 0, rfl, rfl, rfl, 2, rw', 2, qw, fw, ew, ⟨by decide, by decide, by decide, by decide⟩, ?_⟩; conv => whnf)
        | (refine ⟨6, 0, 0, rfl, rfl, rfl, 6, rs, 6, qs, upA_ne (by omega) fs, upA_ne (by omega) es, ⟨by decide, by decide, by decide, by decide⟩, ?_⟩; conv => whnf)
        | (refine ⟨18, 0, 0, rfl, rfl, rfl, 18, ro, 18, qo, upA_ne (by omega) (upA_ne (by omega) fo), upA_ne (by omega) (upA_ne (by omega) eo), ⟨by decide, by decide, by decide, by decide⟩, ?_⟩; conv => whnf)
      | (refine And.intro (fun hc => ?_) (fun hc => ?_) <;> conv => whnf)
      | (refine And.intro (by decide) ?_; conv => whnf)
      | fail)
    have cw : ∀ i, i < 2 → va_cpy rw' qw 0 0 2 i = z (28 + i) := fun i hi => by
      rw [← fw' i hi]; unfold va_cpy; simp [hi]
    have cs : ∀ i, i < 6 → va_cpy rs qs 0 0 6 i = z i := fun i hi => by
      rw [← fs' i hi]; unfold va_cpy; simp [hi]
    have co : ∀ i, i < 18 → va_cpy ro qo 0 0 18 i = z (9 + i) := fun i hi => by
      rw [← fo' i hi]; unfold va_cpy; simp [hi]
    generalize va_cpy rw' qw 0 0 2 = v1 at *
    generalize va_cpy rs qs 0 0 6 = v2 at *
    generalize va_cpy ro qo 0 0 18 = v3 at *
    refine hK _ ((((hMH.upW2 (q := v1)).upS2 (q := v2)).upO2 (q := v3)).upM' rfl |>.same fun i hi => ?_) (Off.up' (k := 0) rfl (by omega) (Off.up' (k := 4) rfl (by omega) (Off.up' (k := 3) rfl (by omega) (Off.up' (k := 2) rfl (by omega) hOH))))
    unfold obZ mixZ
    dsimp only
    (repeat' split) <;> first | rfl | (exfalso; omega) | (subst_vars; rfl) | (rw [cs _ (by omega)]) | (rw [co _ (by omega)]; congr 1; omega) | (rw [cw _ (by omega)]; congr 1; omega)
  · intro i hi ih H hMH hOH
    have hM3 : Mem b2 z H := hM2.moved fun a h1 h2 => hOH a (by omega)
    obtain ⟨fp, ep, ep'⟩ := hMH.pgs
    obtain ⟨fp2, gp, gp'⟩ := hM3.pgs
    obtain ⟨q, eq, eq'⟩ := hMH.ch hi
    obtain ⟨q2, gq, gq'⟩ := hM3.ch hi
    have o1 := hMH.obj
    have o2 := hM3.obj
    refine wp_vc [2] 60 rfl fun W' C hW hC => ?_
    conv => whnf
    repeat' (first
      | (refine ⟨_, rfl, ?_⟩; conv => whnf)
      | (refine ⟨_, _, rfl, ⟨_, rfl, rfl⟩, ?_⟩; conv => whnf)
      | (refine ⟨_, _, rfl, ?_⟩
         with_reducible apply ix_ex
         · repeat (first | with_reducible exact ix_nI | assumption | with_reducible apply ix_add | with_reducible apply ix_mul | (with_reducible apply ix_sub) | (with_reducible apply ix_upd) | (with_reducible apply ix_div) | omega)
         (refine ⟨⟨by omega, by decide⟩, ?_⟩; conv => whnf))
      | (with_reducible apply br_le
         · repeat (first | with_reducible exact ix_nI | assumption | with_reducible apply ix_add | with_reducible apply ix_mul | (with_reducible apply ix_sub) | (with_reducible apply ix_upd) | (with_reducible apply ix_div) | omega)
         · repeat (first | with_reducible exact ix_nI | assumption | with_reducible apply ix_add | with_reducible apply ix_mul | (with_reducible apply ix_sub) | (with_reducible apply ix_upd) | (with_reducible apply ix_div) | omega)
         · omega
         · omega
         all_goals (intro hc; first | omega | (conv => whnf)))
      | (with_reducible apply br_lt
         · repeat (first | with_reducible exact ix_nI | assumption | with_reducible apply ix_add | with_reducible apply ix_mul | (with_reducible apply ix_sub) | (with_reducible apply ix_upd) | (with_reducible apply ix_div) | omega)
         · repeat (first | with_reducible exact ix_nI | assumption | with_reducible apply ix_add | with_reducible apply ix_mul | (with_reducible apply ix_sub) | (with_reducible apply ix_upd) | (with_reducible apply ix_div) | omega)
         · omega
         · omega
         all_goals (intro hc; first | omega | (conv => whnf)))
      | (with_reducible apply br_eq
         · repeat (first | with_reducible exact ix_nI | assumption | with_reducible apply ix_add | with_reducible apply ix_mul | (with_reducible apply ix_sub) | (with_reducible apply ix_upd) | (with_reducible apply ix_div) | omega)
         · repeat (first | with_reducible exact ix_nI | assumption | with_reducible apply ix_add | with_reducible apply ix_mul | (with_reducible apply ix_sub) | (with_reducible apply ix_upd) | (with_reducible apply ix_div) | omega)
         · omega
         · omega
         all_goals (intro hc; first | omega | (conv => whnf)))
      | (with_reducible apply br_ne
         · repeat (first | with_reducible exact ix_nI | assumption | with_reducible apply ix_add | with_reducible apply ix_mul | (with_reducible apply ix_sub) | (with_reducible apply ix_upd) | (with_reducible apply ix_div) | omega)
         · repeat (first | with_reducible exact ix_nI | assumption | with_reducible apply ix_add | with_reducible apply ix_mul | (with_reducible apply ix_sub) | (with_reducible apply ix_upd) | (with_reducible apply ix_div) | omega)
         · omega
         · omega
         all_goals (intro hc; first | omega | (conv => whnf)))
      | (with_reducible apply br_eq0
         · repeat (first | with_reducible exact ix_nI | assumption | with_reducible apply ix_add | with_reducible apply ix_mul | (with_reducible apply ix_sub) | (with_reducible apply ix_upd) | (with_reducible apply ix_div) | omega)
         · omega
         all_goals (intro hc; first | omega | (conv => whnf)))
      | (with_reducible apply br_ne0
         · repeat (first | with_reducible exact ix_nI | assumption | with_reducible apply ix_add | with_reducible apply ix_mul | (with_reducible apply ix_sub) | (with_reducible apply ix_upd) | (with_reducible apply ix_div) | omega)
         · omega
         all_goals (intro hc; first | omega | (conv => whnf)))
      | (with_reducible apply br_le0
         · repeat (first | with_reducible exact ix_nI | assumption | with_reducible apply ix_add | with_reducible apply ix_mul | (with_reducible apply ix_sub) | (with_reducible apply ix_upd) | (with_reducible apply ix_div) | omega)
         · omega
         all_goals (intro hc; first | omega | (conv => whnf)))
      | (with_reducible apply br_gt0
         · repeat (first | with_reducible exact ix_nI | assumption | with_reducible apply ix_add | with_reducible apply ix_mul | (with_reducible apply ix_sub) | (with_reducible apply ix_upd) | (with_reducible apply ix_div) | omega)
         · omega
         all_goals (intro hc; first | omega | (conv => whnf)))
      | (with_reducible apply br_lt0
         · repeat (first | with_reducible exact ix_nI | assumption | with_reducible apply ix_add | with_reducible apply ix_mul | (with_reducible apply ix_sub) | (with_reducible apply ix_upd) | (with_reducible apply ix_div) | omega)
         · omega
         conv => whnf)
      | (with_reducible apply br_ge0
         · repeat (first | with_reducible exact ix_nI | assumption | with_reducible apply ix_add | with_reducible apply ix_mul | (with_reducible apply ix_sub) | (with_reducible apply ix_upd) | (with_reducible apply ix_div) | omega)
         · omega
         conv => whnf)
      | (with_reducible apply br_tab
         · repeat (first | with_reducible exact ix_nI | assumption | with_reducible apply ix_add | with_reducible apply ix_mul | (with_reducible apply ix_sub) | (with_reducible apply ix_upd) | (with_reducible apply ix_div) | omega)
         · omega
         all_goals (intro hc; (try dsimp only at hc); first | omega | (conv => whnf)))
      | (refine ⟨_, o1, ?_⟩; conv => whnf)
        | (refine ⟨_, o2, ?_⟩; conv => whnf)
        | (refine ⟨_, _, _, ep, Or.inl rfl, _, _, ix_nI, ⟨by omega, by decide⟩, ep' _ (by omega), ?_⟩; conv => whnf)
        | (refine ⟨_, _, _, gp, Or.inl rfl, _, _, ix_nI, ⟨by omega, by decide⟩, gp' _ (by omega), ?_⟩; conv => whnf)
        | (refine ⟨_, _, hMH.pg hi, ⟨_, rfl, rfl⟩, ?_⟩; conv => whnf)
        | (refine cl_use hC (c_takePage (by omega) (by omega) (by omega) (hMH.pg hi) eq (hM3.pg hi) gq fun q' g1 g2 => ?_); conv => whnf)
      | (refine And.intro (fun hc => ?_) (fun hc => ?_) <;> conv => whnf)
      | (refine And.intro (by decide) ?_; conv => whnf)
      | fail)
    refine wp_use hW ?_
    rw [nI_add]
    refine ih _ (((hMH.upC hi).upP hi).same fun j hj => ?_) (Off.up' (k := 5 + 2 * i) (by omega) (by omega) (Off.up' (k := 6 + 2 * i) (by omega) (by omega) hOH))
    unfold pgZ fillC mixZ
    (repeat' split) <;> first | rfl | (exfalso; omega) | (subst_vars; rfl) | (rw [g1 _ (by omega), gq' _ (by omega)]; congr 1; omega)
end C8
