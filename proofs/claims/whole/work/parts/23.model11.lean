/-! ===== the model: a text read through ===== -/
def prsN : PS → List Int32 → Nat
  | _, [] => 0
  | s, c :: t => match tkR s c with
    | none => 0
    | some s' => prsN s' t + 1
def prsS : PS → List Int32 → Option PS
  | s, [] => some s
  | s, c :: t => match tkR s c with
    | none => none
    | some s' => prsS s' t
def ps0 : PS := (0, (nI 0, nI 0, nI 0), [])
def pw (s : PS) : Nat := if s.1 = 0 then 0 else if s.1 = 1 ∨ (s.1 = 11 ∧ ¬ 0 < s.2.1.2.1) then 1 else 2
theorem prs_all : ∀ {t : List Int32} {s s' : PS}, prsS s t = some s' → prsN s t = t.length
  | [], _, _, _ => rfl
  | c :: t, s, s', h => by
    rw [prsS] at h
    rw [prsN]
    cases hk : tkR s c with
    | none => rw [hk] at h; cases h
    | some s1 => rw [hk] at h; simp [prs_all h]
theorem prs_less : ∀ {t : List Int32} {s : PS}, prsS s t = none → prsN s t < t.length
  | [], _, h => by cases h
  | c :: t, s, h => by
    rw [prsS] at h
    rw [prsN]
    cases hk : tkR s c with
    | none => simp
    | some s1 =>
      rw [hk] at h
      have := prs_less h
      simp
      exact this
theorem prsN_le : ∀ {t : List Int32} {s : PS}, prsN s t ≤ t.length
  | [], _ => Nat.le_refl _
  | c :: t, s => by
    rw [prsN]
    cases hk : tkR s c with
    | none => simp
    | some s1 => simp [prsN_le]
theorem tk_wt {s s' : PS} {c : Int32} (h : tkR s c = some s') : 3 * s'.2.2.length + pw s' ≤ 3 * s.2.2.length + pw s + 1 := by
  obtain ⟨D, ⟨lt, nm, wd⟩, dn⟩ := s
  unfold tkR at h
  dsimp only at h
  by_cases h59 : c = nI 59 ∧ isE (D, (lt, nm, wd), dn)
  · rw [if_pos h59] at h
    cases h
    have e : pw (D, (lt, nm, wd), dn) = 2 := by
      rcases h59.2 with e | ⟨e, e'⟩
      · dsimp only at e
        subst e
        rfl
      · dsimp only at e e'
        subst e
        simp [pw, e']
    rw [e]
    simp [pw]
    omega
  · rw [if_neg h59] at h
    by_cases h0 : D = 0
    · subst h0
      rw [if_pos rfl] at h
      split at h
      · cases h
        split <;> simp [pw, nI_0]
      · cases h
    rw [if_neg h0] at h
    by_cases h1 : D = 1
    · subst h1
      rw [if_pos rfl] at h
      by_cases hq : inW c (nI 48) (if lt = nI 101 then nI 49 else nI 55)
      · rw [if_pos hq] at h
        cases h
        split <;> simp [pw]
      · rw [if_neg hq] at h
        cases h
    rw [if_neg h1] at h
    by_cases h2 : D = 2
    · subst h2
      rw [if_pos rfl] at h
      split at h
      · cases h
        simp [pw]
      · cases h
    rw [if_neg h2] at h
    by_cases h11 : D = 11
    · subst h11
      rw [if_pos rfl] at h
      split at h
      · cases h
        simp [pw]
        split <;> split <;> omega
      · cases h
    rw [if_neg h11] at h
    by_cases h12 : D = 12
    · rw [if_pos h12] at h
      cases h
    rw [if_neg h12] at h
    split at h
    · cases h
    · cases h
      have e : pw (D, (lt, nm, wd), dn) = 2 := by
        rw [pw, if_neg h0, if_neg (by rintro (q | q); (· exact h1 q); exact h11 q.1)]
      rw [e]
      have : ∀ s : PS, pw s ≤ 2 := fun s => by unfold pw; split <;> (try split) <;> omega
      have := this (if D = 10 then 12 else D + 1, (lt, nm, wd <<< (nI 4 &&& 31) ||| dgO c), dn)
      dsimp only
      omega
def aErr (A : AS) : Ans := ok A (nI (prsN ps0 A.2.2))
section M11
variable {G : GG} {d n : Nat} {h0 h : AH} {u : MS} {A : AS} {w : W3} {K : AO → AH → W3 → Prop}
theorem m_rightUpTo {T : List Int32} (hT : u.2.2.2.2.2.2.1 = nI T.length ∧ T.length ≤ 60 ∧ ∀ i c, T[i]? = some c → u.2.2.1 i = c) (hK : ∀ p2 r2 d2, (∀ s, prsS ps0 T = some s → RP p2 r2 d2 s ∧ s.2.2.length ≤ 20) → K (.inl (some (.int (nI (prsN ps0 T))))) (setM h0 (pM u p2 r2 d2)) w) : Cl G (d + 3) kX5_rightUpTo [.ref 154] (setM h0 u) w K := by
  obtain ⟨hl, hl6, ht⟩ := hT
  refine Cl.of (by decide) rfl ?_
  refine wp_vc [12] 60 rfl fun W' C hW hC => ?_
  conv => whnf
  repeat' (first
    | (refine ⟨_, rfl, ?_⟩; conv => whnf)
    | (refine ⟨_, _, rfl, ⟨_, rfl, rfl⟩, ?_⟩; conv => whnf)
    | (refine ⟨_, _, rfl, ?_⟩
       with_reducible apply ix_ex
       · repeat (first | with_reducible exact ix_nI | assumption | with_reducible apply ix_add | with_reducible apply ix_mul | (with_reducible apply ix_sub) | (with_reducible apply ix_upd) | (with_reducible apply ix_div) | omega)
       (refine ⟨⟨by omega, by decide⟩, ?_⟩; conv => whnf))
    | (with_reducible apply br_le
       · repeat (first | with_reducible exact ix_nI | assumption | with_reducible apply ix_add | with_reducible apply ix_mul | (with_reducible apply ix_sub) | (with_reducible apply ix_upd) | (with_reducible apply ix_div) | omega)
       · repeat (first | with_reducible exact ix_nI | assumption | with_reducible apply ix_add | with_reducible apply ix_mul | (with_reducible apply ix_sub) | (with_reducible apply ix_upd) | (with_reducible apply ix_div) | omega)
       · omega
       · omega
       all_goals (intro hc; first | omega | (conv => whnf)))
    | (with_reducible apply br_lt
       · repeat (first | with_reducible exact ix_nI | assumption | with_reducible apply ix_add | with_reducible apply ix_mul | (with_reducible apply ix_sub) | (with_reducible apply ix_upd) | (with_reducible apply ix_div) | omega)
       · repeat (first | with_reducible exact ix_nI | assumption | with_reducible apply ix_add | with_reducible apply ix_mul | (with_reducible apply ix_sub) | (with_reducible apply ix_upd) | (with_reducible apply ix_div) | omega)
       · omega
       · omega
       all_goals (intro hc; first | omega | (conv => whnf)))
    | (with_reducible apply br_eq
       · repeat (first | with_reducible exact ix_nI | assumption | with_reducible apply ix_add | with_reducible apply ix_mul | (with_reducible apply ix_sub) | (with_reducible apply ix_upd) | (with_reducible apply ix_div) | omega)
       · repeat (first | with_reducible exact ix_nI | assumption | with_reducible apply ix_add | with_reducible apply ix_mul | (with_reducible apply ix_sub) | (with_reducible apply ix_upd) | (with_reducible apply ix_div) | omega)
       · omega
       · omega
       all_goals (intro hc; first | omega | (conv => whnf)))
    | (with_reducible apply br_ne
       · repeat (first | with_reducible exact ix_nI | assumption | with_reducible apply ix_add | with_reducible apply ix_mul | (with_reducible apply ix_sub) | (with_reducible apply ix_upd) | (with_reducible apply ix_div) | omega)
       · repeat (first | with_reducible exact ix_nI | assumption | with_reducible apply ix_add | with_reducible apply ix_mul | (with_reducible apply ix_sub) | (with_reducible apply ix_upd) | (with_reducible apply ix_div) | omega)
       · omega
       · omega
       all_goals (intro hc; first | omega | (conv => whnf)))
    | (with_reducible apply br_eq0
       · repeat (first | with_reducible exact ix_nI | assumption | with_reducible apply ix_add | with_reducible apply ix_mul | (with_reducible apply ix_sub) | (with_reducible apply ix_upd) | (with_reducible apply ix_div) | omega)
       · omega
       all_goals (intro hc; first | omega | (conv => whnf)))
    | (with_reducible apply br_ne0
       · repeat (first | with_reducible exact ix_nI | assumption | with_reducible apply ix_add | with_reducible apply ix_mul | (with_reducible apply ix_sub) | (with_reducible apply ix_upd) | (with_reducible apply ix_div) | omega)
       · omega
       all_goals (intro hc; first | omega | (conv => whnf)))
    | (with_reducible apply br_le0
       · repeat (first | with_reducible exact ix_nI | assumption | with_reducible apply ix_add | with_reducible apply ix_mul | (with_reducible apply ix_sub) | (with_reducible apply ix_upd) | (with_reducible apply ix_div) | omega)
       · omega
       all_goals (intro hc; first | omega | (conv => whnf)))
    | (with_reducible apply br_gt0
       · repeat (first | with_reducible exact ix_nI | assumption | with_reducible apply ix_add | with_reducible apply ix_mul | (with_reducible apply ix_sub) | (with_reducible apply ix_upd) | (with_reducible apply ix_div) | omega)
       · omega
       all_goals (intro hc; first | omega | (conv => whnf)))
    | (with_reducible apply br_lt0
       · repeat (first | with_reducible exact ix_nI | assumption | with_reducible apply ix_add | with_reducible apply ix_mul | (with_reducible apply ix_sub) | (with_reducible apply ix_upd) | (with_reducible apply ix_div) | omega)
       · omega
       conv => whnf)
    | (with_reducible apply br_ge0
       · repeat (first | with_reducible exact ix_nI | assumption | with_reducible apply ix_add | with_reducible apply ix_mul | (with_reducible apply ix_sub) | (with_reducible apply ix_upd) | (with_reducible apply ix_div) | omega)
       · omega
       conv => whnf)
    | (with_reducible apply br_tab
       · repeat (first | with_reducible exact ix_nI | assumption | with_reducible apply ix_add | with_reducible apply ix_mul | (with_reducible apply ix_sub) | (with_reducible apply ix_upd) | (with_reducible apply ix_div) | omega)
       · omega
       all_goals (intro hc; first | omega | (conv => whnf)))
    | (refine And.intro (fun hc => ?_) (fun hc => ?_) <;> conv => whnf)
    | (refine And.intro (by decide) ?_; conv => whnf)
    | fail)
  simp only [List.set_cons_succ, List.set_cons_zero, setM_obj, setM_z, setM_hist, setM_text, setM_ch, setM_parts]
  refine wp_use hW ?_
  have key : ∀ rest pre s p' rd du, T = pre ++ rest → RP p' rd du s → 3 * s.2.2.length + pw s ≤ pre.length → (∀ p2 r2 d2, (∀ s', prsS s rest = some s' → RP p2 r2 d2 s' ∧ s'.2.2.length ≤ 20) → K (.inl (some (.int (nI (pre.length + prsN s rest))))) (setM h0 (pM u p2 r2 d2)) w) → wp G (d + 3) kX5_rightUpTo w.2.1 w.2.2 K 12 [some (.ref 154), some (.int (nI pre.length))] [] (setM h0 (pM u p' rd du)) w := by
    intro rest
    induction rest with
    | nil =>
      intro pre s p' rd du hpre hs hwt hK
      have hlen : T.length = pre.length := by rw [hpre]; simp
      rw [hlen] at hl hl6
      refine wp_vc [12] 60 rfl fun W' C hW hC => ?_
      conv => whnf
      repeat' (first
        | (refine ⟨_, rfl, ?_⟩; conv => whnf)
        | (refine ⟨_, _, rfl, ⟨_, rfl, rfl⟩, ?_⟩; conv => whnf)
        | (refine ⟨_, _, rfl, ?_⟩
           with_reducible apply ix_ex
           · repeat (first | with_reducible exact ix_nI | assumption | with_reducible apply ix_add | with_reducible apply ix_mul | (with_reducible apply ix_sub) | (with_reducible apply ix_upd) | (with_reducible apply ix_div) | omega)
           (refine ⟨⟨by omega, by decide⟩, ?_⟩; conv => whnf))
        | (with_reducible apply br_le
           · repeat (first | with_reducible exact ix_nI | assumption | with_reducible apply ix_add | with_reducible apply ix_mul | (with_reducible apply ix_sub) | (with_reducible apply ix_upd) | (with_reducible apply ix_div) | omega)
           · repeat (first | with_reducible exact ix_nI | assumption | with_reducible apply ix_add | with_reducible apply ix_mul | (with_reducible apply ix_sub) | (with_reducible apply ix_upd) | (with_reducible apply ix_div) | omega)
           · omega
           · omega
           all_goals (intro hc; first | omega | (conv => whnf)))
        | (with_reducible apply br_lt
           · repeat (first | with_reducible exact ix_nI | assumption | with_reducible apply ix_add | with_reducible apply ix_mul | (with_reducible apply ix_sub) | (with_reducible apply ix_upd) | (with_reducible apply ix_div) | omega)
           · repeat (first | with_reducible exact ix_nI | assumption | with_reducible apply ix_add | with_reducible apply ix_mul | (with_reducible apply ix_sub) | (with_reducible apply ix_upd) | (with_reducible apply ix_div) | omega)
           · omega
           · omega
           all_goals (intro hc; first | omega | (conv => whnf)))
        | (with_reducible apply br_eq
           · repeat (first | with_reducible exact ix_nI | assumption | with_reducible apply ix_add | with_reducible apply ix_mul | (with_reducible apply ix_sub) | (with_reducible apply ix_upd) | (with_reducible apply ix_div) | omega)
           · repeat (first | with_reducible exact ix_nI | assumption | with_reducible apply ix_add | with_reducible apply ix_mul | (with_reducible apply ix_sub) | (with_reducible apply ix_upd) | (with_reducible apply ix_div) | omega)
           · omega
           · omega
           all_goals (intro hc; first | omega | (conv => whnf)))
        | (with_reducible apply br_ne
           · repeat (first | with_reducible exact ix_nI | assumption | with_reducible apply ix_add | with_reducible apply ix_mul | (with_reducible apply ix_sub) | (with_reducible apply ix_upd) | (with_reducible apply ix_div) | omega)
           · repeat (first | with_reducible exact ix_nI | assumption | with_reducible apply ix_add | with_reducible apply ix_mul | (with_reducible apply ix_sub) | (with_reducible apply ix_upd) | (with_reducible apply ix_div) | omega)
           · omega
           · omega
           all_goals (intro hc; first | omega | (conv => whnf)))
        | (with_reducible apply br_eq0
           · repeat (first | with_reducible exact ix_nI | assumption | with_reducible apply ix_add | with_reducible apply ix_mul | (with_reducible apply ix_sub) | (with_reducible apply ix_upd) | (with_reducible apply ix_div) | omega)
           · omega
           all_goals (intro hc; first | omega | (conv => whnf)))
        | (with_reducible apply br_ne0
           · repeat (first | with_reducible exact ix_nI | assumption | with_reducible apply ix_add | with_reducible apply ix_mul | (with_reducible apply ix_sub) | (with_reducible apply ix_upd) | (with_reducible apply ix_div) | omega)
           · omega
           all_goals (intro hc; first | omega | (conv => whnf)))
        | (with_reducible apply br_le0
           · repeat (first | with_reducible exact ix_nI | assumption | with_reducible apply ix_add | with_reducible apply ix_mul | (with_reducible apply ix_sub) | (with_reducible apply ix_upd) | (with_reducible apply ix_div) | omega)
           · omega
           all_goals (intro hc; first | omega | (conv => whnf)))
        | (with_reducible apply br_gt0
           · repeat (first | with_reducible exact ix_nI | assumption | with_reducible apply ix_add | with_reducible apply ix_mul | (with_reducible apply ix_sub) | (with_reducible apply ix_upd) | (with_reducible apply ix_div) | omega)
           · omega
           all_goals (intro hc; first | omega | (conv => whnf)))
        | (with_reducible apply br_lt0
           · repeat (first | with_reducible exact ix_nI | assumption | with_reducible apply ix_add | with_reducible apply ix_mul | (with_reducible apply ix_sub) | (with_reducible apply ix_upd) | (with_reducible apply ix_div) | omega)
           · omega
           conv => whnf)
        | (with_reducible apply br_ge0
           · repeat (first | with_reducible exact ix_nI | assumption | with_reducible apply ix_add | with_reducible apply ix_mul | (with_reducible apply ix_sub) | (with_reducible apply ix_upd) | (with_reducible apply ix_div) | omega)
           · omega
           conv => whnf)
        | (with_reducible apply br_tab
           · repeat (first | with_reducible exact ix_nI | assumption | with_reducible apply ix_add | with_reducible apply ix_mul | (with_reducible apply ix_sub) | (with_reducible apply ix_upd) | (with_reducible apply ix_div) | omega)
           · omega
           all_goals (intro hc; first | omega | (conv => whnf)))
        | (refine And.intro (fun hc => ?_) (fun hc => ?_) <;> conv => whnf)
        | (refine And.intro (by decide) ?_; conv => whnf)
        | fail)
      exact hK _ _ _ (fun s' e => by cases e; exact ⟨hs, by omega⟩)
    | cons c t ih =>
      intro pre s p' rd du hpre hs hwt hK
      have hlen : T.length = pre.length + (t.length + 1) := by rw [hpre]; simp
      rw [hlen] at hl
      have hcc : u.2.2.1 pre.length = c := ht _ _ (by rw [hpre]; simp)
      refine wp_vc [12] 60 rfl fun W' C hW hC => ?_
      conv => whnf
      repeat' (first
        | (refine ⟨_, rfl, ?_⟩; conv => whnf)
        | (refine ⟨_, _, rfl, ⟨_, rfl, rfl⟩, ?_⟩; conv => whnf)
        | (refine ⟨_, _, rfl, ?_⟩
           with_reducible apply ix_ex
           · repeat (first | with_reducible exact ix_nI | assumption | with_reducible apply ix_add | with_reducible apply ix_mul | (with_reducible apply ix_sub) | (with_reducible apply ix_upd) | (with_reducible apply ix_div) | omega)
           (refine ⟨⟨by omega, by decide⟩, ?_⟩; conv => whnf))
        | (with_reducible apply br_le
           · repeat (first | with_reducible exact ix_nI | assumption | with_reducible apply ix_add | with_reducible apply ix_mul | (with_reducible apply ix_sub) | (with_reducible apply ix_upd) | (with_reducible apply ix_div) | omega)
           · repeat (first | with_reducible exact ix_nI | assumption | with_reducible apply ix_add | with_reducible apply ix_mul | (with_reducible apply ix_sub) | (with_reducible apply ix_upd) | (with_reducible apply ix_div) | omega)
           · omega
           · omega
           all_goals (intro hc; first | omega | (conv => whnf)))
        | (with_reducible apply br_lt
           · repeat (first | with_reducible exact ix_nI | assumption | with_reducible apply ix_add | with_reducible apply ix_mul | (with_reducible apply ix_sub) | (with_reducible apply ix_upd) | (with_reducible apply ix_div) | omega)
           · repeat (first | with_reducible exact ix_nI | assumption | with_reducible apply ix_add | with_reducible apply ix_mul | (with_reducible apply ix_sub) | (with_reducible apply ix_upd) | (with_reducible apply ix_div) | omega)
           · omega
           · omega
           all_goals (intro hc; first | omega | (conv => whnf)))
        | (with_reducible apply br_eq
           · repeat (first | with_reducible exact ix_nI | assumption | with_reducible apply ix_add | with_reducible apply ix_mul | (with_reducible apply ix_sub) | (with_reducible apply ix_upd) | (with_reducible apply ix_div) | omega)
           · repeat (first | with_reducible exact ix_nI | assumption | with_reducible apply ix_add | with_reducible apply ix_mul | (with_reducible apply ix_sub) | (with_reducible apply ix_upd) | (with_reducible apply ix_div) | omega)
           · omega
           · omega
           all_goals (intro hc; first | omega | (conv => whnf)))
        | (with_reducible apply br_ne
           · repeat (first | with_reducible exact ix_nI | assumption | with_reducible apply ix_add | with_reducible apply ix_mul | (with_reducible apply ix_sub) | (with_reducible apply ix_upd) | (with_reducible apply ix_div) | omega)
           · repeat (first | with_reducible exact ix_nI | assumption | with_reducible apply ix_add | with_reducible apply ix_mul | (with_reducible apply ix_sub) | (with_reducible apply ix_upd) | (with_reducible apply ix_div) | omega)
           · omega
           · omega
           all_goals (intro hc; first | omega | (conv => whnf)))
        | (with_reducible apply br_eq0
           · repeat (first | with_reducible exact ix_nI | assumption | with_reducible apply ix_add | with_reducible apply ix_mul | (with_reducible apply ix_sub) | (with_reducible apply ix_upd) | (with_reducible apply ix_div) | omega)
           · omega
           all_goals (intro hc; first | omega | (conv => whnf)))
        | (with_reducible apply br_ne0
           · repeat (first | with_reducible exact ix_nI | assumption | with_reducible apply ix_add | with_reducible apply ix_mul | (with_reducible apply ix_sub) | (with_reducible apply ix_upd) | (with_reducible apply ix_div) | omega)
           · omega
           all_goals (intro hc; first | omega | (conv => whnf)))
        | (with_reducible apply br_le0
           · repeat (first | with_reducible exact ix_nI | assumption | with_reducible apply ix_add | with_reducible apply ix_mul | (with_reducible apply ix_sub) | (with_reducible apply ix_upd) | (with_reducible apply ix_div) | omega)
           · omega
           all_goals (intro hc; first | omega | (conv => whnf)))
        | (with_reducible apply br_gt0
           · repeat (first | with_reducible exact ix_nI | assumption | with_reducible apply ix_add | with_reducible apply ix_mul | (with_reducible apply ix_sub) | (with_reducible apply ix_upd) | (with_reducible apply ix_div) | omega)
           · omega
           all_goals (intro hc; first | omega | (conv => whnf)))
        | (with_reducible apply br_lt0
           · repeat (first | with_reducible exact ix_nI | assumption | with_reducible apply ix_add | with_reducible apply ix_mul | (with_reducible apply ix_sub) | (with_reducible apply ix_upd) | (with_reducible apply ix_div) | omega)
           · omega
           conv => whnf)
        | (with_reducible apply br_ge0
           · repeat (first | with_reducible exact ix_nI | assumption | with_reducible apply ix_add | with_reducible apply ix_mul | (with_reducible apply ix_sub) | (with_reducible apply ix_upd) | (with_reducible apply ix_div) | omega)
           · omega
           conv => whnf)
        | (with_reducible apply br_tab
           · repeat (first | with_reducible exact ix_nI | assumption | with_reducible apply ix_add | with_reducible apply ix_mul | (with_reducible apply ix_sub) | (with_reducible apply ix_upd) | (with_reducible apply ix_div) | omega)
           · omega
           all_goals (intro hc; first | omega | (conv => whnf)))
        | (refine cl_use hC (m_takes hs (by omega) (fun s' hs' p2 r2 d2 hrp => ?_) (fun hs' p2 r2 d2 => ?_)) <;> conv => whnf)
        | (refine And.intro (fun hc => ?_) (fun hc => ?_) <;> conv => whnf)
        | (refine And.intro (by decide) ?_; conv => whnf)
        | fail)
      · have hs2 : tkR s c = some s' := by rw [← hcc]; exact hs'
        refine wp_use hW ?_
        rw [nI_add]
        have hw := tk_wt hs2
        have := ih (pre ++ [c]) s' p2 r2 d2 (by rw [hpre]; simp) hrp (by simp; omega) (fun p3 r3 d3 q => ?_)
        · rw [List.length_append] at this
          exact this
        · have := hK p3 r3 d3 (by rw [prsS, hs2]; exact q)
          rw [prsN, hs2] at this
          dsimp only at this
          rw [show pre.length + (prsN s' t + 1) = (pre ++ [c]).length + prsN s' t by simp; omega] at this
          exact this
      · have hs2 : tkR s c = none := by rw [← hcc]; exact hs'
        have := hK p2 r2 d2 (by rw [prsS, hs2]; intro s' e; cases e)
        rw [prsN, hs2] at this
        exact this
  exact key T [] ps0 u.2.2.2.2.1 (nI 0) (nI 0) rfl ⟨rfl, rfl, Nat.zero_le _, (fun i cmd hi => by simp [ps0] at hi), fun q => absurd rfl q⟩ (by simp [ps0, pw]) (fun p2 r2 d2 q => by
    have := hK p2 r2 d2 q
    rw [← Nat.zero_add (prsN ps0 T)] at this
    exact this)
theorem m_firstError (hA : RM u A) (hI : Ivz n A.1) (hK : MK h0 w K (aErr A)) : Cl G (d + 4) kX5_firstError [.ref 154] (setM h0 u) w K := by
  obtain ⟨z, L, T⟩ := A; obtain ⟨hz, hS, hT⟩ := hA; dsimp only at hz hS hT hI; subst hz
  refine Cl.of (by decide) rfl ?_
  refine wp_vc [] 60 rfl fun W' C hW hC => ?_
  conv => whnf
  repeat' (first
    | (refine ⟨_, rfl, ?_⟩; conv => whnf)
    | (refine ⟨_, _, rfl, ⟨_, rfl, rfl⟩, ?_⟩; conv => whnf)
    | (refine ⟨_, _, rfl, ?_⟩
       with_reducible apply ix_ex
       · repeat (first | with_reducible exact ix_nI | assumption | with_reducible apply ix_add | with_reducible apply ix_mul | (with_reducible apply ix_sub) | (with_reducible apply ix_upd) | (with_reducible apply ix_div) | omega)
       (refine ⟨⟨by omega, by decide⟩, ?_⟩; conv => whnf))
    | (with_reducible apply br_le
       · repeat (first | with_reducible exact ix_nI | assumption | with_reducible apply ix_add | with_reducible apply ix_mul | (with_reducible apply ix_sub) | (with_reducible apply ix_upd) | (with_reducible apply ix_div) | omega)
       · repeat (first | with_reducible exact ix_nI | assumption | with_reducible apply ix_add | with_reducible apply ix_mul | (with_reducible apply ix_sub) | (with_reducible apply ix_upd) | (with_reducible apply ix_div) | omega)
       · omega
       · omega
       all_goals (intro hc; first | omega | (conv => whnf)))
    | (with_reducible apply br_lt
       · repeat (first | with_reducible exact ix_nI | assumption | with_reducible apply ix_add | with_reducible apply ix_mul | (with_reducible apply ix_sub) | (with_reducible apply ix_upd) | (with_reducible apply ix_div) | omega)
       · repeat (first | with_reducible exact ix_nI | assumption | with_reducible apply ix_add | with_reducible apply ix_mul | (with_reducible apply ix_sub) | (with_reducible apply ix_upd) | (with_reducible apply ix_div) | omega)
       · omega
       · omega
       all_goals (intro hc; first | omega | (conv => whnf)))
    | (with_reducible apply br_eq
       · repeat (first | with_reducible exact ix_nI | assumption | with_reducible apply ix_add | with_reducible apply ix_mul | (with_reducible apply ix_sub) | (with_reducible apply ix_upd) | (with_reducible apply ix_div) | omega)
       · repeat (first | with_reducible exact ix_nI | assumption | with_reducible apply ix_add | with_reducible apply ix_mul | (with_reducible apply ix_sub) | (with_reducible apply ix_upd) | (with_reducible apply ix_div) | omega)
       · omega
       · omega
       all_goals (intro hc; first | omega | (conv => whnf)))
    | (with_reducible apply br_ne
       · repeat (first | with_reducible exact ix_nI | assumption | with_reducible apply ix_add | with_reducible apply ix_mul | (with_reducible apply ix_sub) | (with_reducible apply ix_upd) | (with_reducible apply ix_div) | omega)
       · repeat (first | with_reducible exact ix_nI | assumption | with_reducible apply ix_add | with_reducible apply ix_mul | (with_reducible apply ix_sub) | (with_reducible apply ix_upd) | (with_reducible apply ix_div) | omega)
       · omega
       · omega
       all_goals (intro hc; first | omega | (conv => whnf)))
    | (with_reducible apply br_eq0
       · repeat (first | with_reducible exact ix_nI | assumption | with_reducible apply ix_add | with_reducible apply ix_mul | (with_reducible apply ix_sub) | (with_reducible apply ix_upd) | (with_reducible apply ix_div) | omega)
       · omega
       all_goals (intro hc; first | omega | (conv => whnf)))
    | (with_reducible apply br_ne0
       · repeat (first | with_reducible exact ix_nI | assumption | with_reducible apply ix_add | with_reducible apply ix_mul | (with_reducible apply ix_sub) | (with_reducible apply ix_upd) | (with_reducible apply ix_div) | omega)
       · omega
       all_goals (intro hc; first | omega | (conv => whnf)))
    | (with_reducible apply br_le0
       · repeat (first | with_reducible exact ix_nI | assumption | with_reducible apply ix_add | with_reducible apply ix_mul | (with_reducible apply ix_sub) | (with_reducible apply ix_upd) | (with_reducible apply ix_div) | omega)
       · omega
       all_goals (intro hc; first | omega | (conv => whnf)))
    | (with_reducible apply br_gt0
       · repeat (first | with_reducible exact ix_nI | assumption | with_reducible apply ix_add | with_reducible apply ix_mul | (with_reducible apply ix_sub) | (with_reducible apply ix_upd) | (with_reducible apply ix_div) | omega)
       · omega
       all_goals (intro hc; first | omega | (conv => whnf)))
    | (with_reducible apply br_lt0
       · repeat (first | with_reducible exact ix_nI | assumption | with_reducible apply ix_add | with_reducible apply ix_mul | (with_reducible apply ix_sub) | (with_reducible apply ix_upd) | (with_reducible apply ix_div) | omega)
       · omega
       conv => whnf)
    | (with_reducible apply br_ge0
       · repeat (first | with_reducible exact ix_nI | assumption | with_reducible apply ix_add | with_reducible apply ix_mul | (with_reducible apply ix_sub) | (with_reducible apply ix_upd) | (with_reducible apply ix_div) | omega)
       · omega
       conv => whnf)
    | (with_reducible apply br_tab
       · repeat (first | with_reducible exact ix_nI | assumption | with_reducible apply ix_add | with_reducible apply ix_mul | (with_reducible apply ix_sub) | (with_reducible apply ix_upd) | (with_reducible apply ix_div) | omega)
       · omega
       all_goals (intro hc; first | omega | (conv => whnf)))
    | ((try simp only [List.set_cons_succ, List.set_cons_zero, setM_obj, setM_z, setM_hist, setM_text, setM_ch, setM_parts]); refine cl_use hC (m_rightUpTo hT fun p2 r2 d2 q => ?_); conv => whnf)
    | (refine And.intro (fun hc => ?_) (fun hc => ?_) <;> conv => whnf)
    | (refine And.intro (by decide) ?_; conv => whnf)
    | fail)
  exact hK _ ⟨rfl, hS, hT⟩ rfl
end M11
