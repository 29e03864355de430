/-! ===== the model: saved states, the public methods that write ===== -/
def RowsAt (hist : ZZ) (L : List ZZ) : Prop := ∀ i r, L[i]? = some r → ∀ k, k < 214 → hist (214 * i + k) = r k
def pushL (L : List ZZ) (z : ZZ) : List ZZ := if L.length = 6 then L.tail ++ [z] else L ++ [z]
def inN (x : Int32) (n : Nat) : Prop := ∃ p, p < n ∧ x = nI p
theorem inN_of {x : Int32} {n : Nat} (hn : n < 2 ^ 31) (h1 : ¬ x < nI 0) (h2 : x < nI n) : inN x n := by
  rcases pk_ix x hn with h | h | h
  · exact absurd (by rw [nI_0]; exact h) h1
  · exact absurd h2 (Int32.not_lt.mpr h)
  · exact h
theorem inN_lt {x : Int32} {n : Nat} (hn : n < 2 ^ 31) (h : inN x n) : ¬ x < nI 0 ∧ x < nI n := by
  obtain ⟨p, hp, rfl⟩ := h
  exact ⟨by rw [nI_0]; exact nI_pos (by omega), (nI_ltI (by omega) hn).mpr hp⟩
abbrev thrM (u : MS) (t : Int32) : MS := (u.1, u.2.1, u.2.2.1, u.2.2.2.1, u.2.2.2.2.1, u.2.2.2.2.2.1, u.2.2.2.2.2.2.1, t, u.2.2.2.2.2.2.2.2)
/-- the model's saved states are the rows L -/
def SavedM (u : MS) (L : List ZZ) : Prop := u.2.2.2.2.2.1 = nI L.length ∧ L.length ≤ 6 ∧ RowsAt u.2.1 L
theorem pushL_len {L : List ZZ} {z : ZZ} (h : L.length ≤ 6) : (pushL L z).length ≤ 6 := by
  unfold pushL
  split
  · simp; omega
  · simp; omega
section M4
variable {G : GG} {d : Nat} {h0 h : AH} {u : MS} {w : W3} {K : AO → AH → W3 → Prop}
theorem m_within2 {x lo hi : Int32} (h1 : ¬ x < lo → ¬ hi < x → K (.inl (some (.int (nI 1)))) h w) (h0 : (x < lo ∨ hi < x) → K (.inl (some (.int (nI 0)))) h w) : Cl G d kX5_within [.int x, .int lo, .int hi] h w K := by
  refine m_within fun r hr => ?_
  by_cases e1 : x < lo
  · rw [if_pos e1] at hr; subst hr; exact h0 (Or.inl e1)
  · rw [if_neg e1] at hr
    by_cases e2 : hi < x
    · rw [if_pos e2] at hr; subst hr; exact h0 (Or.inr e2)
    · rw [if_neg e2] at hr; subst hr; exact h1 e1 e2
theorem m_rng {x : Int32} {n : Nat} (hn : n + 1 < 2 ^ 31) (h1 : ∀ p, p < n + 1 → x = nI p → K (.inl (some (.int (nI 1)))) h w) (h0 : ¬ inN x (n + 1) → K (.inl (some (.int (nI 0)))) h w) : Cl G d kX5_within [.int x, .int (nI 0), .int (nI n)] h w K := by
  refine m_within2 (fun e1 e2 => ?_) (fun e => ?_)
  · rcases pk_ix x hn with q | q | ⟨p, hp, hx⟩
    · exact absurd (by rw [nI_0]; exact q) e1
    · rcases pk_ix x (show n + 2 < 2 ^ 32 by omega |> fun _ => (by omega : n + 1 < 2 ^ 31)) with q' | q' | ⟨p, hp, hx⟩
      · exact absurd (by rw [nI_0]; exact q') e1
      · exact absurd (Int32.lt_of_lt_of_le ((nI_ltI (by omega) hn).mpr (Nat.lt_succ_self n)) q) e2
      · exact h1 p hp hx
    · exact h1 p hp hx
  · refine h0 fun q => ?_
    obtain ⟨p, hp, rfl⟩ := q
    rcases e with e | e
    · rw [nI_0] at e; exact nI_pos (by omega) e
    · have := (nI_ltI (by omega) (by omega)).mp e
      omega
theorem m_isPage {x : Int32} (h1 : ∀ p, p < 8 → x = nI p → K (.inl (some (.int (nI 1)))) h w) (h0 : ¬ inN x 8 → K (.inl (some (.int (nI 0)))) h w) : Cl G (d + 1) kX5_isPage [.int x] h w K := by
  refine Cl.of (by decide) rfl ?_
  refine wp_vc [] 40 rfl fun W' C hW hC => ?_
  conv => whnf
  refine cl_use hC (m_rng (by omega) (fun p hp hx => ?_) (fun hx => ?_)) <;> conv => whnf
  · exact ⟨Or.inr rfl, h1 p hp hx⟩
  · exact ⟨Or.inl rfl, h0 hx⟩
theorem m_isBlock {x : Int32} (h1 : ∀ p, p < 2 → x = nI p → K (.inl (some (.int (nI 1)))) h w) (h0 : ¬ inN x 2 → K (.inl (some (.int (nI 0)))) h w) : Cl G (d + 1) kX5_isBlock [.int x] h w K := by
  refine Cl.of (by decide) rfl ?_
  refine wp_vc [] 40 rfl fun W' C hW hC => ?_
  conv => whnf
  refine cl_use hC (m_rng (by omega) (fun p hp hx => ?_) (fun hx => ?_)) <;> conv => whnf
  · exact ⟨Or.inr rfl, h1 p hp hx⟩
  · exact ⟨Or.inl rfl, h0 hx⟩
theorem m_isSetting {x : Int32} (h1 : ∀ p, p < 6 → x = nI p → K (.inl (some (.int (nI 1)))) h w) (h0 : ¬ inN x 6 → K (.inl (some (.int (nI 0)))) h w) : Cl G (d + 1) kX5_isSetting [.int x] h w K := by
  refine Cl.of (by decide) rfl ?_
  refine wp_vc [] 40 rfl fun W' C hW hC => ?_
  conv => whnf
  refine cl_use hC (m_rng (by omega) (fun p hp hx => ?_) (fun hx => ?_)) <;> conv => whnf
  · exact ⟨Or.inr rfl, h1 p hp hx⟩
  · exact ⟨Or.inl rfl, h0 hx⟩
abbrev offOK (x : Int32) : Prop := ¬ x < -nI 80 ∧ ¬ nI 80 < x
theorem m_isOffset {x : Int32} (h1 : offOK x → K (.inl (some (.int (nI 1)))) h w) (h0 : ¬ offOK x → K (.inl (some (.int (nI 0)))) h w) : Cl G (d + 1) kX5_isOffset [.int x] h w K := by
  refine Cl.of (by decide) rfl ?_
  refine wp_vc [] 40 rfl fun W' C hW hC => ?_
  conv => whnf
  refine cl_use hC (m_within2 (fun e1 e2 => ?_) (fun e => ?_)) <;> conv => whnf
  · exact ⟨Or.inr rfl, h1 ⟨e1, e2⟩⟩
  · exact ⟨Or.inl rfl, h0 fun q => e.elim q.1 q.2⟩
theorem m_isMatch {x : Int32} {M : Nat} (hM : u.1 8 = nI M) (hM1 : 1 ≤ M) (hM6 : M ≤ 6) (h1 : ∀ p, p < M → x = nI p → K (.inl (some (.int (nI 1)))) (setM h0 u) w) (h2 : ¬ inN x M → K (.inl (some (.int (nI 0)))) (setM h0 u) w) : Cl G (d + 1) kX5_isMatch [.ref 154, .int x] (setM h0 u) w K := by
  refine Cl.of (by decide) rfl ?_
  refine wp_vc [] 40 rfl fun W' C hW hC => ?_
  conv => whnf
  refine ⟨_, rfl, ?_⟩
  conv => whnf
  refine ⟨_, _, rfl, _, ix_nI, ⟨by decide, by decide⟩, ?_⟩
  rw [hM]
  conv => whnf
  rw [pk_sub hM1]
  obtain ⟨m, rfl⟩ : ∃ m, M = m + 1 := ⟨M - 1, by omega⟩
  refine cl_use hC (m_rng (by omega) (fun p hp hx => ?_) (fun hx => ?_)) <;> conv => whnf
  · exact ⟨Or.inr rfl, h1 p hp hx⟩
  · exact ⟨Or.inl rfl, h2 hx⟩
theorem m_isErased2 {p : Nat} {xp : Int32} (ep : xp = nI p) (hp : p < 8) (h1 : u.1 (30 + p) = 0 → K (.inl (some (.int (nI 1)))) (setM h0 u) w) (h2 : ¬ u.1 (30 + p) = 0 → K (.inl (some (.int (nI 0)))) (setM h0 u) w) : Cl G d kX5_isErased [.ref 154, .int xp] (setM h0 u) w K := by
  refine m_isErased ep hp fun r hr => ?_
  by_cases e : u.1 (30 + p) = 0
  · rw [if_pos e] at hr; subst hr; exact h1 e
  · rw [if_neg e] at hr; subst hr; exact h2 e
theorem m_isWritten2 {p : Nat} {xp : Int32} (ep : xp = nI p) (hp : p < 8) (h1 : u.1 (30 + p) = nI 1 → K (.inl (some (.int (nI 1)))) (setM h0 u) w) (h2 : ¬ u.1 (30 + p) = nI 1 → K (.inl (some (.int (nI 0)))) (setM h0 u) w) : Cl G d kX5_isWritten [.ref 154, .int xp] (setM h0 u) w K := by
  refine m_isWritten ep hp fun r hr => ?_
  by_cases e : u.1 (30 + p) = nI 1
  · rw [if_pos e] at hr; subst hr; exact h1 e
  · rw [if_neg e] at hr; subst hr; exact h2 e
theorem m_canErase2 {b : Nat} {xb : Int32} (eb : xb = nI b) (hb : b < 2) (h1 : u.1 (28 + b) < nI 100 → K (.inl (some (.int (nI 1)))) (setM h0 u) w) (h2 : ¬ u.1 (28 + b) < nI 100 → K (.inl (some (.int (nI 0)))) (setM h0 u) w) : Cl G d kX5_canErase [.ref 154, .int xb] (setM h0 u) w K := by
  refine m_canErase eb hb fun r hr => ?_
  by_cases e : u.1 (28 + b) < nI 100
  · rw [if_pos e] at hr; subst hr; exact h1 e
  · rw [if_neg e] at hr; subst hr; exact h2 e
def fillH (hist z : ZZ) (S i : Nat) : ZZ := fun j => if 214 * S ≤ j ∧ j < 214 * S + i then z (j - 214 * S) else hist j
theorem fillH_0 {hist z : ZZ} {S : Nat} : fillH hist z S 0 = hist := funext fun j => if_neg (by omega)
theorem fillH_s {hist z : ZZ} {S i : Nat} : upd (fillH hist z S i) (214 * S + i) (z i) = fillH hist z S (i + 1) := by
  funext j
  by_cases hj : j = 214 * S + i
  · subst hj
    rw [upd_eq, fillH, if_pos (by omega)]
    congr 1
    omega
  · rw [upd_ne hj, fillH, fillH]
    by_cases h1 : 214 * S ≤ j ∧ j < 214 * S + i
    · rw [if_pos h1, if_pos (by omega)]
    · rw [if_neg h1, if_neg (by omega)]
/-- the second half of save: the row behind the others -/
theorem m_save2 {S : Nat} {lv : AL} (hlv : leL [some (.ref 154), none] lv) (hS : u.2.2.2.2.2.1 = nI S) (hS5 : S ≤ 5) (hK : K (.inl none) (setM h0 (u.1, fillH u.2.1 u.1 S 214, u.2.2.1, u.2.2.2.1, u.2.2.2.2.1, nI (S + 1), u.2.2.2.2.2.2)) w) : wp G d kX5_save w.2.1 w.2.2 K 52 lv [] (setM h0 u) w := by
  refine wp.le ?_ hlv
  refine wp_vc [54] 60 rfl fun W' C hW hC => ?_
  conv => whnf
  refine wp_use hW ?_
  have key := upto (W := fun i => wp G d kX5_save w.2.1 w.2.2 K 54 [some (.ref 154), some (.int (nI i))] [] (setM h0 (u.1, fillH u.2.1 u.1 S i, u.2.2)) w) 214 ?_ ?_
  · rw [fillH_0] at key
    exact key
  · refine wp_vc [54] 60 rfl fun W' C hW hC => ?_
    conv => whnf
    repeat' (first
      | (refine ⟨_, rfl, ?_⟩; conv => whnf)
      | (refine ⟨_, _, rfl, ⟨_, rfl, rfl⟩, ?_⟩; conv => whnf)
      | (refine ⟨_, _, rfl, ?_⟩
         with_reducible apply ix_ex
         · repeat (first | with_reducible exact ix_nI | assumption | with_reducible apply ix_add | with_reducible apply ix_mul | (with_reducible apply ix_sub) | (with_reducible apply ix_upd) | (with_reducible apply ix_div) | omega)
         (refine ⟨⟨by omega, by decide⟩, ?_⟩; conv => whnf))
      | (with_reducible apply br_le
         · repeat (first | with_reducible exact ix_nI | assumption | with_reducible apply ix_add | with_reducible apply ix_mul | (with_reducible apply ix_sub) | (with_reducible apply ix_upd) | (with_reducible apply ix_div) | omega)
         · repeat (first | with_reducible exact ix_nI | assumption | with_reducible apply ix_add | with_reducible apply ix_mul | (with_reducible apply ix_sub) | (with_reducible apply ix_upd) | (with_reducible apply ix_div) | omega)
         · omega
         · omega
         all_goals (intro hc; first | omega | (conv => whnf)))
      | (with_reducible apply br_lt
         · repeat (first | with_reducible exact ix_nI | assumption | with_reducible apply ix_add | with_reducible apply ix_mul | (with_reducible apply ix_sub) | (with_reducible apply ix_upd) | (with_reducible apply ix_div) | omega)
         · repeat (first | with_reducible exact ix_nI | assumption | with_reducible apply ix_add | with_reducible apply ix_mul | (with_reducible apply ix_sub) | (with_reducible apply ix_upd) | (with_reducible apply ix_div) | omega)
         · omega
         · omega
         all_goals (intro hc; first | omega | (conv => whnf)))
      | (with_reducible apply br_eq
         · repeat (first | with_reducible exact ix_nI | assumption | with_reducible apply ix_add | with_reducible apply ix_mul | (with_reducible apply ix_sub) | (with_reducible apply ix_upd) | (with_reducible apply ix_div) | omega)
         · repeat (first | with_reducible exact ix_nI | assumption | with_reducible apply ix_add | with_reducible apply ix_mul | (with_reducible apply ix_sub) | (with_reducible apply ix_upd) | (with_reducible apply ix_div) | omega)
         · omega
         · omega
         all_goals (intro hc; first | omega | (conv => whnf)))
      | (with_reducible apply br_ne
         · repeat (first | with_reducible exact ix_nI | assumption | with_reducible apply ix_add | with_reducible apply ix_mul | (with_reducible apply ix_sub) | (with_reducible apply ix_upd) | (with_reducible apply ix_div) | omega)
         · repeat (first | with_reducible exact ix_nI | assumption | with_reducible apply ix_add | with_reducible apply ix_mul | (with_reducible apply ix_sub) | (with_reducible apply ix_upd) | (with_reducible apply ix_div) | omega)
         · omega
         · omega
         all_goals (intro hc; first | omega | (conv => whnf)))
      | (with_reducible apply br_eq0
         · repeat (first | with_reducible exact ix_nI | assumption | with_reducible apply ix_add | with_reducible apply ix_mul | (with_reducible apply ix_sub) | (with_reducible apply ix_upd) | (with_reducible apply ix_div) | omega)
         · omega
         all_goals (intro hc; first | omega | (conv => whnf)))
      | (with_reducible apply br_ne0
         · repeat (first | with_reducible exact ix_nI | assumption | with_reducible apply ix_add | with_reducible apply ix_mul | (with_reducible apply ix_sub) | (with_reducible apply ix_upd) | (with_reducible apply ix_div) | omega)
         · omega
         all_goals (intro hc; first | omega | (conv => whnf)))
      | (with_reducible apply br_le0
         · repeat (first | with_reducible exact ix_nI | assumption | with_reducible apply ix_add | with_reducible apply ix_mul | (with_reducible apply ix_sub) | (with_reducible apply ix_upd) | (with_reducible apply ix_div) | omega)
         · omega
         all_goals (intro hc; first | omega | (conv => whnf)))
      | (with_reducible apply br_gt0
         · repeat (first | with_reducible exact ix_nI | assumption | with_reducible apply ix_add | with_reducible apply ix_mul | (with_reducible apply ix_sub) | (with_reducible apply ix_upd) | (with_reducible apply ix_div) | omega)
         · omega
         all_goals (intro hc; first | omega | (conv => whnf)))
      | (with_reducible apply br_lt0
         · repeat (first | with_reducible exact ix_nI | assumption | with_reducible apply ix_add | with_reducible apply ix_mul | (with_reducible apply ix_sub) | (with_reducible apply ix_upd) | (with_reducible apply ix_div) | omega)
         · omega
         conv => whnf)
      | (with_reducible apply br_ge0
         · repeat (first | with_reducible exact ix_nI | assumption | with_reducible apply ix_add | with_reducible apply ix_mul | (with_reducible apply ix_sub) | (with_reducible apply ix_upd) | (with_reducible apply ix_div) | omega)
         · omega
         conv => whnf)
      | (with_reducible apply br_tab
         · repeat (first | with_reducible exact ix_nI | assumption | with_reducible apply ix_add | with_reducible apply ix_mul | (with_reducible apply ix_sub) | (with_reducible apply ix_upd) | (with_reducible apply ix_div) | omega)
         · omega
         all_goals (intro hc; first | omega | (conv => whnf)))
      | (refine And.intro (fun hc => ?_) (fun hc => ?_) <;> conv => whnf)
      | (refine And.intro (by decide) ?_; conv => whnf)
      | fail)
    simp only [List.set_cons_succ, List.set_cons_zero, setM_obj, setM_z, setM_hist, setM_text, setM_ch, setM_parts]
    rw [hS, nI_add]
    exact hK
  · intro i hi ih
    refine wp_vc [54] 60 rfl fun W' C hW hC => ?_
    conv => whnf
    repeat' (first
      | (refine ⟨_, rfl, ?_⟩; conv => whnf)
      | (refine ⟨_, _, rfl, ⟨_, rfl, rfl⟩, ?_⟩; conv => whnf)
      | (refine ⟨_, _, rfl, ?_⟩
         with_reducible apply ix_ex
         · repeat (first | with_reducible exact ix_nI | assumption | with_reducible apply ix_add | with_reducible apply ix_mul | (with_reducible apply ix_sub) | (with_reducible apply ix_upd) | (with_reducible apply ix_div) | omega)
         (refine ⟨⟨by omega, by decide⟩, ?_⟩; conv => whnf))
      | (with_reducible apply br_le
         · repeat (first | with_reducible exact ix_nI | assumption | with_reducible apply ix_add | with_reducible apply ix_mul | (with_reducible apply ix_sub) | (with_reducible apply ix_upd) | (with_reducible apply ix_div) | omega)
         · repeat (first | with_reducible exact ix_nI | assumption | with_reducible apply ix_add | with_reducible apply ix_mul | (with_reducible apply ix_sub) | (with_reducible apply ix_upd) | (with_reducible apply ix_div) | omega)
         · omega
         · omega
         all_goals (intro hc; first | omega | (conv => whnf)))
      | (with_reducible apply br_lt
         · repeat (first | with_reducible exact ix_nI | assumption | with_reducible apply ix_add | with_reducible apply ix_mul | (with_reducible apply ix_sub) | (with_reducible apply ix_upd) | (with_reducible apply ix_div) | omega)
         · repeat (first | with_reducible exact ix_nI | assumption | with_reducible apply ix_add | with_reducible apply ix_mul | (with_reducible apply ix_sub) | (with_reducible apply ix_upd) | (with_reducible apply ix_div) | omega)
         · omega
         · omega
         all_goals (intro hc; first | omega | (conv => whnf)))
      | (with_reducible apply br_eq
         · repeat (first | with_reducible exact ix_nI | assumption | with_reducible apply ix_add | with_reducible apply ix_mul | (with_reducible apply ix_sub) | (with_reducible apply ix_upd) | (with_reducible apply ix_div) | omega)
         · repeat (first | with_reducible exact ix_nI | assumption | with_reducible apply ix_add | with_reducible apply ix_mul | (with_reducible apply ix_sub) | (with_reducible apply ix_upd) | (with_reducible apply ix_div) | omega)
         · omega
         · omega
         all_goals (intro hc; first | omega | (conv => whnf)))
      | (with_reducible apply br_ne
         · repeat (first | with_reducible exact ix_nI | assumption | with_reducible apply ix_add | with_reducible apply ix_mul | (with_reducible apply ix_sub) | (with_reducible apply ix_upd) | (with_reducible apply ix_div) | omega)
         · repeat (first | with_reducible exact ix_nI | assumption | with_reducible apply ix_add | with_reducible apply ix_mul | (with_reducible apply ix_sub) | (with_reducible apply ix_upd) | (with_reducible apply ix_div) | omega)
         · omega
         · omega
         all_goals (intro hc; first | omega | (conv => whnf)))
      | (with_reducible apply br_eq0
         · repeat (first | with_reducible exact ix_nI | assumption | with_reducible apply ix_add | with_reducible apply ix_mul | (with_reducible apply ix_sub) | (with_reducible apply ix_upd) | (with_reducible apply ix_div) | omega)
         · omega
         all_goals (intro hc; first | omega | (conv => whnf)))
      | (with_reducible apply br_ne0
         · repeat (first | with_reducible exact ix_nI | assumption | with_reducible apply ix_add | with_reducible apply ix_mul | (with_reducible apply ix_sub) | (with_reducible apply ix_upd) | (with_reducible apply ix_div) | omega)
         · omega
         all_goals (intro hc; first | omega | (conv => whnf)))
      | (with_reducible apply br_le0
         · repeat (first | with_reducible exact ix_nI | assumption | with_reducible apply ix_add | with_reducible apply ix_mul | (with_reducible apply ix_sub) | (with_reducible apply ix_upd) | (with_reducible apply ix_div) | omega)
         · omega
         all_goals (intro hc; first | omega | (conv => whnf)))
      | (with_reducible apply br_gt0
         · repeat (first | with_reducible exact ix_nI | assumption | with_reducible apply ix_add | with_reducible apply ix_mul | (with_reducible apply ix_sub) | (with_reducible apply ix_upd) | (with_reducible apply ix_div) | omega)
         · omega
         all_goals (intro hc; first | omega | (conv => whnf)))
      | (with_reducible apply br_lt0
         · repeat (first | with_reducible exact ix_nI | assumption | with_reducible apply ix_add | with_reducible apply ix_mul | (with_reducible apply ix_sub) | (with_reducible apply ix_upd) | (with_reducible apply ix_div) | omega)
         · omega
         conv => whnf)
      | (with_reducible apply br_ge0
         · repeat (first | with_reducible exact ix_nI | assumption | with_reducible apply ix_add | with_reducible apply ix_mul | (with_reducible apply ix_sub) | (with_reducible apply ix_upd) | (with_reducible apply ix_div) | omega)
         · omega
         conv => whnf)
      | (with_reducible apply br_tab
         · repeat (first | with_reducible exact ix_nI | assumption | with_reducible apply ix_add | with_reducible apply ix_mul | (with_reducible apply ix_sub) | (with_reducible apply ix_upd) | (with_reducible apply ix_div) | omega)
         · omega
         all_goals (intro hc; first | omega | (conv => whnf)))
      | (refine And.intro (fun hc => ?_) (fun hc => ?_) <;> conv => whnf)
      | (refine And.intro (by decide) ?_; conv => whnf)
      | fail)
    refine wp_use hW ?_
    rw [nI_add]
    simp only [List.set_cons_succ, List.set_cons_zero, setM_obj, setM_z, setM_hist, setM_text, setM_ch, setM_parts]
    rw [fillH_s]
    exact ih
def shH (hist : ZZ) (n : Nat) : ZZ := fun j => if j < n then hist (j + 214) else hist j
theorem shH_0 {hist : ZZ} : shH hist 0 = hist := funext fun j => if_neg (by omega)
theorem shH_s {hist : ZZ} {n : Nat} : upd (shH hist n) n (shH hist n (214 + n)) = shH hist (n + 1) := by
  funext j
  by_cases hj : j = n
  · subst hj
    rw [upd_eq, shH, shH, if_neg (by omega), if_pos (by omega), Nat.add_comm]
  · rw [upd_ne hj, shH, shH]
    by_cases h1 : j < n
    · rw [if_pos h1, if_pos (by omega)]
    · rw [if_neg h1, if_neg (by omega)]
theorem rows_push {hist z : ZZ} {L : List ZZ} (hR : RowsAt hist L) : RowsAt (fillH hist z L.length 214) (L ++ [z]) := by
  intro i r hi k hk
  rcases Nat.lt_or_ge i L.length with q | q
  · rw [List.getElem?_append_left q] at hi
    rw [fillH, if_neg (by omega)]
    exact hR i r hi k hk
  · rw [List.getElem?_append_right q] at hi
    have hi0 : i - L.length = 0 := by
      have := (List.getElem?_eq_some_iff.mp hi).1
      simp at this
      omega
    rw [hi0] at hi
    cases hi
    have e : 214 * i + k - 214 * L.length = k := by
      have : i = L.length := by omega
      rw [this]
      omega
    rw [fillH, e, if_pos (by omega)]
theorem rows_tail {hist : ZZ} {L : List ZZ} (hL : L.length = 6) (hR : RowsAt hist L) : RowsAt (shH hist 1070) L.tail := by
  intro i r hi k hk
  have hi5 : i < 5 := by
    have := (List.getElem?_eq_some_iff.mp hi).1
    simp at this
    omega
  have hi2 : L[i + 1]? = some r := by
    cases L with
    | nil => simp at hL
    | cons a t => simpa using hi
  rw [shH, if_pos (by omega), show 214 * i + k + 214 = 214 * (i + 1) + k by omega]
  exact hR (i + 1) r hi2 k hk
theorem m_save0 {N : Nat} (hN : N = 1070) (hK : wp G d kX5_save w.2.1 w.2.2 K 13 [some (.ref 154), some (.int (nI (214 + N)))] [] (setM h0 (u.1, shH u.2.1 N, u.2.2)) w) : wp G d kX5_save w.2.1 w.2.2 K 13 [some (.ref 154), some (.int (nI 214))] [] (setM h0 u) w := by
  have key := upto (W := fun n => wp G d kX5_save w.2.1 w.2.2 K 13 [some (.ref 154), some (.int (nI (214 + n)))] [] (setM h0 (u.1, shH u.2.1 n, u.2.2)) w) N ?_ ?_
  · rw [shH_0] at key
    exact key
  · exact hK
  · intro n hn ih
    refine wp_vc [13] 60 rfl fun W' C hW hC => ?_
    conv => whnf
    repeat' (first
      | (refine ⟨_, rfl, ?_⟩; conv => whnf)
      | (refine ⟨_, _, rfl, ⟨_, rfl, rfl⟩, ?_⟩; conv => whnf)
      | (refine ⟨_, _, rfl, ?_⟩
         with_reducible apply ix_ex
         · repeat (first | with_reducible exact ix_nI | assumption | with_reducible apply ix_add | with_reducible apply ix_mul | (with_reducible apply ix_sub) | (with_reducible apply ix_upd) | (with_reducible apply ix_div) | omega)
         (refine ⟨⟨by omega, by decide⟩, ?_⟩; conv => whnf))
      | (with_reducible apply br_le
         · repeat (first | with_reducible exact ix_nI | assumption | with_reducible apply ix_add | with_reducible apply ix_mul | (with_reducible apply ix_sub) | (with_reducible apply ix_upd) | (with_reducible apply ix_div) | omega)
         · repeat (first | with_reducible exact ix_nI | assumption | with_reducible apply ix_add | with_reducible apply ix_mul | (with_reducible apply ix_sub) | (with_reducible apply ix_upd) | (with_reducible apply ix_div) | omega)
         · omega
         · omega
         all_goals (intro hc; first | omega | (conv => whnf)))
      | (with_reducible apply br_lt
         · repeat (first | with_reducible exact ix_nI | assumption | with_reducible apply ix_add | with_reducible apply ix_mul | (with_reducible apply ix_sub) | (with_reducible apply ix_upd) | (with_reducible apply ix_div) | omega)
         · repeat (first | with_reducible exact ix_nI | assumption | with_reducible apply ix_add | with_reducible apply ix_mul | (with_reducible apply ix_sub) | (with_reducible apply ix_upd) | (with_reducible apply ix_div) | omega)
         · omega
         · omega
         all_goals (intro hc; first | omega | (conv => whnf)))
      | (with_reducible apply br_eq
         · repeat (first | with_reducible exact ix_nI | assumption | with_reducible apply ix_add | with_reducible apply ix_mul | (with_reducible apply ix_sub) | (with_reducible apply ix_upd) | (with_reducible apply ix_div) | omega)
         · repeat (first | with_reducible exact ix_nI | assumption | with_reducible apply ix_add | with_reducible apply ix_mul | (with_reducible apply ix_sub) | (with_reducible apply ix_upd) | (with_reducible apply ix_div) | omega)
         · omega
         · omega
         all_goals (intro hc; first | omega | (conv => whnf)))
      | (with_reducible apply br_ne
         · repeat (first | with_reducible exact ix_nI | assumption | with_reducible apply ix_add | with_reducible apply ix_mul | (with_reducible apply ix_sub) | (with_reducible apply ix_upd) | (with_reducible apply ix_div) | omega)
         · repeat (first | with_reducible exact ix_nI | assumption | with_reducible apply ix_add | with_reducible apply ix_mul | (with_reducible apply ix_sub) | (with_reducible apply ix_upd) | (with_reducible apply ix_div) | omega)
         · omega
         · omega
         all_goals (intro hc; first | omega | (conv => whnf)))
      | (with_reducible apply br_eq0
         · repeat (first | with_reducible exact ix_nI | assumption | with_reducible apply ix_add | with_reducible apply ix_mul | (with_reducible apply ix_sub) | (with_reducible apply ix_upd) | (with_reducible apply ix_div) | omega)
         · omega
         all_goals (intro hc; first | omega | (conv => whnf)))
      | (with_reducible apply br_ne0
         · repeat (first | with_reducible exact ix_nI | assumption | with_reducible apply ix_add | with_reducible apply ix_mul | (with_reducible apply ix_sub) | (with_reducible apply ix_upd) | (with_reducible apply ix_div) | omega)
         · omega
         all_goals (intro hc; first | omega | (conv => whnf)))
      | (with_reducible apply br_le0
         · repeat (first | with_reducible exact ix_nI | assumption | with_reducible apply ix_add | with_reducible apply ix_mul | (with_reducible apply ix_sub) | (with_reducible apply ix_upd) | (with_reducible apply ix_div) | omega)
         · omega
         all_goals (intro hc; first | omega | (conv => whnf)))
      | (with_reducible apply br_gt0
         · repeat (first | with_reducible exact ix_nI | assumption | with_reducible apply ix_add | with_reducible apply ix_mul | (with_reducible apply ix_sub) | (with_reducible apply ix_upd) | (with_reducible apply ix_div) | omega)
         · omega
         all_goals (intro hc; first | omega | (conv => whnf)))
      | (with_reducible apply br_lt0
         · repeat (first | with_reducible exact ix_nI | assumption | with_reducible apply ix_add | with_reducible apply ix_mul | (with_reducible apply ix_sub) | (with_reducible apply ix_upd) | (with_reducible apply ix_div) | omega)
         · omega
         conv => whnf)
      | (with_reducible apply br_ge0
         · repeat (first | with_reducible exact ix_nI | assumption | with_reducible apply ix_add | with_reducible apply ix_mul | (with_reducible apply ix_sub) | (with_reducible apply ix_upd) | (with_reducible apply ix_div) | omega)
         · omega
         conv => whnf)
      | (with_reducible apply br_tab
         · repeat (first | with_reducible exact ix_nI | assumption | with_reducible apply ix_add | with_reducible apply ix_mul | (with_reducible apply ix_sub) | (with_reducible apply ix_upd) | (with_reducible apply ix_div) | omega)
         · omega
         all_goals (intro hc; first | omega | (conv => whnf)))
      | (refine And.intro (fun hc => ?_) (fun hc => ?_) <;> conv => whnf)
      | (refine And.intro (by decide) ?_; conv => whnf)
      | fail)
    refine wp_use hW ?_
    rw [nI_add]
    simp only [setM_hist, Nat.add_sub_cancel_left, shH_s]
    exact ih
theorem m_save1 {N : Nat} (hN : N = 1070) (hS : u.2.2.2.2.2.1 = nI 6) (hK : K (.inl none) (setM h0 (u.1, fillH (shH u.2.1 N) u.1 5 214, u.2.2.1, u.2.2.2.1, u.2.2.2.2.1, nI (5 + 1), u.2.2.2.2.2.2)) w) : wp G d kX5_save w.2.1 w.2.2 K 13 [some (.ref 154), some (.int (nI 214))] [] (setM h0 u) w := by
  refine m_save0 hN ?_
  refine wp_vc [13,52] 60 rfl fun W' C hW hC => ?_
  conv => whnf
  repeat' (first
    | (refine ⟨_, rfl, ?_⟩; conv => whnf)
    | (refine ⟨_, _, rfl, ⟨_, rfl, rfl⟩, ?_⟩; conv => whnf)
    | (refine ⟨_, _, rfl, ?_⟩
       with_reducible apply ix_ex
       · repeat (first | with_reducible exact ix_nI | assumption | with_reducible apply ix_add | with_reducible apply ix_mul | (with_reducible apply ix_sub) | (with_reducible apply ix_upd) | (with_reducible apply ix_div) | omega)
       (refine ⟨⟨by omega, by decide⟩, ?_⟩; conv => whnf))
    | (with_reducible apply br_le
       · repeat (first | with_reducible exact ix_nI | assumption | with_reducible apply ix_add | with_reducible apply ix_mul | (with_reducible apply ix_sub) | (with_reducible apply ix_upd) | (with_reducible apply ix_div) | omega)
       · repeat (first | with_reducible exact ix_nI | assumption | with_reducible apply ix_add | with_reducible apply ix_mul | (with_reducible apply ix_sub) | (with_reducible apply ix_upd) | (with_reducible apply ix_div) | omega)
       · omega
       · omega
       all_goals (intro hc; first | omega | (conv => whnf)))
    | (with_reducible apply br_lt
       · repeat (first | with_reducible exact ix_nI | assumption | with_reducible apply ix_add | with_reducible apply ix_mul | (with_reducible apply ix_sub) | (with_reducible apply ix_upd) | (with_reducible apply ix_div) | omega)
       · repeat (first | with_reducible exact ix_nI | assumption | with_reducible apply ix_add | with_reducible apply ix_mul | (with_reducible apply ix_sub) | (with_reducible apply ix_upd) | (with_reducible apply ix_div) | omega)
       · omega
       · omega
       all_goals (intro hc; first | omega | (conv => whnf)))
    | (with_reducible apply br_eq
       · repeat (first | with_reducible exact ix_nI | assumption | with_reducible apply ix_add | with_reducible apply ix_mul | (with_reducible apply ix_sub) | (with_reducible apply ix_upd) | (with_reducible apply ix_div) | omega)
       · repeat (first | with_reducible exact ix_nI | assumption | with_reducible apply ix_add | with_reducible apply ix_mul | (with_reducible apply ix_sub) | (with_reducible apply ix_upd) | (with_reducible apply ix_div) | omega)
       · omega
       · omega
       all_goals (intro hc; first | omega | (conv => whnf)))
    | (with_reducible apply br_ne
       · repeat (first | with_reducible exact ix_nI | assumption | with_reducible apply ix_add | with_reducible apply ix_mul | (with_reducible apply ix_sub) | (with_reducible apply ix_upd) | (with_reducible apply ix_div) | omega)
       · repeat (first | with_reducible exact ix_nI | assumption | with_reducible apply ix_add | with_reducible apply ix_mul | (with_reducible apply ix_sub) | (with_reducible apply ix_upd) | (with_reducible apply ix_div) | omega)
       · omega
       · omega
       all_goals (intro hc; first | omega | (conv => whnf)))
    | (with_reducible apply br_eq0
       · repeat (first | with_reducible exact ix_nI | assumption | with_reducible apply ix_add | with_reducible apply ix_mul | (with_reducible apply ix_sub) | (with_reducible apply ix_upd) | (with_reducible apply ix_div) | omega)
       · omega
       all_goals (intro hc; first | omega | (conv => whnf)))
    | (with_reducible apply br_ne0
       · repeat (first | with_reducible exact ix_nI | assumption | with_reducible apply ix_add | with_reducible apply ix_mul | (with_reducible apply ix_sub) | (with_reducible apply ix_upd) | (with_reducible apply ix_div) | omega)
       · omega
       all_goals (intro hc; first | omega | (conv => whnf)))
    | (with_reducible apply br_le0
       · repeat (first | with_reducible exact ix_nI | assumption | with_reducible apply ix_add | with_reducible apply ix_mul | (with_reducible apply ix_sub) | (with_reducible apply ix_upd) | (with_reducible apply ix_div) | omega)
       · omega
       all_goals (intro hc; first | omega | (conv => whnf)))
    | (with_reducible apply br_gt0
       · repeat (first | with_reducible exact ix_nI | assumption | with_reducible apply ix_add | with_reducible apply ix_mul | (with_reducible apply ix_sub) | (with_reducible apply ix_upd) | (with_reducible apply ix_div) | omega)
       · omega
       all_goals (intro hc; first | omega | (conv => whnf)))
    | (with_reducible apply br_lt0
       · repeat (first | with_reducible exact ix_nI | assumption | with_reducible apply ix_add | with_reducible apply ix_mul | (with_reducible apply ix_sub) | (with_reducible apply ix_upd) | (with_reducible apply ix_div) | omega)
       · omega
       conv => whnf)
    | (with_reducible apply br_ge0
       · repeat (first | with_reducible exact ix_nI | assumption | with_reducible apply ix_add | with_reducible apply ix_mul | (with_reducible apply ix_sub) | (with_reducible apply ix_upd) | (with_reducible apply ix_div) | omega)
       · omega
       conv => whnf)
    | (with_reducible apply br_tab
       · repeat (first | with_reducible exact ix_nI | assumption | with_reducible apply ix_add | with_reducible apply ix_mul | (with_reducible apply ix_sub) | (with_reducible apply ix_upd) | (with_reducible apply ix_div) | omega)
       · omega
       all_goals (intro hc; first | omega | (conv => whnf)))
    | (refine And.intro (fun hc => ?_) (fun hc => ?_) <;> conv => whnf)
    | (refine And.intro (by decide) ?_; conv => whnf)
    | fail)
  simp only [List.set_cons_succ, List.set_cons_zero, setM_obj, setM_z, setM_hist, setM_text, setM_ch, setM_parts]
  refine wp_use hW ?_
  rw [hS, pk_sub (by omega)]
  generalize hS5 : 6 - 1 = S
  have hS6 : S = 5 := by omega
  rw [← hS6] at hK
  exact m_save2 (S := S) (by repeat' (first | exact trivial | refine And.intro rfl ?_)) rfl (by omega) hK
theorem m_save {L : List ZZ} (hL : SavedM u L) (hK : ∀ hist', RowsAt hist' (pushL L u.1) → K (.inl none) (setM h0 (u.1, hist', u.2.2.1, u.2.2.2.1, u.2.2.2.2.1, nI (pushL L u.1).length, u.2.2.2.2.2.2)) w) : Cl G d kX5_save [.ref 154] (setM h0 u) w K := by
  obtain ⟨hS, hS6, hR⟩ := hL
  by_cases h6 : L.length = 6
  · have e : pushL L u.1 = L.tail ++ [u.1] := by rw [pushL, if_pos h6]
    have e5 : L.tail.length = 5 := by rw [List.length_tail, h6]
    have h9 := hK (fillH (shH u.2.1 1070) u.1 5 214) (by rw [e, ← e5]; exact rows_push (rows_tail h6 hR))
    rw [e, List.length_append, e5] at h9
    refine Cl.of (by decide) rfl ?_
    refine wp_vc [13,52] 60 rfl fun W' C hW hC => ?_
    conv => whnf
    refine ⟨_, rfl, ?_⟩
    conv => whnf
    rw [hS, h6]
    repeat' (first
      | (refine ⟨_, rfl, ?_⟩; conv => whnf)
      | (refine ⟨_, _, rfl, ⟨_, rfl, rfl⟩, ?_⟩; conv => whnf)
      | (refine ⟨_, _, rfl, ?_⟩
         with_reducible apply ix_ex
         · repeat (first | with_reducible exact ix_nI | assumption | with_reducible apply ix_add | with_reducible apply ix_mul | (with_reducible apply ix_sub) | (with_reducible apply ix_upd) | (with_reducible apply ix_div) | omega)
         (refine ⟨⟨by omega, by decide⟩, ?_⟩; conv => whnf))
      | (with_reducible apply br_le
         · repeat (first | with_reducible exact ix_nI | assumption | with_reducible apply ix_add | with_reducible apply ix_mul | (with_reducible apply ix_sub) | (with_reducible apply ix_upd) | (with_reducible apply ix_div) | omega)
         · repeat (first | with_reducible exact ix_nI | assumption | with_reducible apply ix_add | with_reducible apply ix_mul | (with_reducible apply ix_sub) | (with_reducible apply ix_upd) | (with_reducible apply ix_div) | omega)
         · omega
         · omega
         all_goals (intro hc; first | omega | (conv => whnf)))
      | (with_reducible apply br_lt
         · repeat (first | with_reducible exact ix_nI | assumption | with_reducible apply ix_add | with_reducible apply ix_mul | (with_reducible apply ix_sub) | (with_reducible apply ix_upd) | (with_reducible apply ix_div) | omega)
         · repeat (first | with_reducible exact ix_nI | assumption | with_reducible apply ix_add | with_reducible apply ix_mul | (with_reducible apply ix_sub) | (with_reducible apply ix_upd) | (with_reducible apply ix_div) | omega)
         · omega
         · omega
         all_goals (intro hc; first | omega | (conv => whnf)))
      | (with_reducible apply br_eq
         · repeat (first | with_reducible exact ix_nI | assumption | with_reducible apply ix_add | with_reducible apply ix_mul | (with_reducible apply ix_sub) | (with_reducible apply ix_upd) | (with_reducible apply ix_div) | omega)
         · repeat (first | with_reducible exact ix_nI | assumption | with_reducible apply ix_add | with_reducible apply ix_mul | (with_reducible apply ix_sub) | (with_reducible apply ix_upd) | (with_reducible apply ix_div) | omega)
         · omega
         · omega
         all_goals (intro hc; first | omega | (conv => whnf)))
      | (with_reducible apply br_ne
         · repeat (first | with_reducible exact ix_nI | assumption | with_reducible apply ix_add | with_reducible apply ix_mul | (with_reducible apply ix_sub) | (with_reducible apply ix_upd) | (with_reducible apply ix_div) | omega)
         · repeat (first | with_reducible exact ix_nI | assumption | with_reducible apply ix_add | with_reducible apply ix_mul | (with_reducible apply ix_sub) | (with_reducible apply ix_upd) | (with_reducible apply ix_div) | omega)
         · omega
         · omega
         all_goals (intro hc; first | omega | (conv => whnf)))
      | (with_reducible apply br_eq0
         · repeat (first | with_reducible exact ix_nI | assumption | with_reducible apply ix_add | with_reducible apply ix_mul | (with_reducible apply ix_sub) | (with_reducible apply ix_upd) | (with_reducible apply ix_div) | omega)
         · omega
         all_goals (intro hc; first | omega | (conv => whnf)))
      | (with_reducible apply br_ne0
         · repeat (first | with_reducible exact ix_nI | assumption | with_reducible apply ix_add | with_reducible apply ix_mul | (with_reducible apply ix_sub) | (with_reducible apply ix_upd) | (with_reducible apply ix_div) | omega)
         · omega
         all_goals (intro hc; first | omega | (conv => whnf)))
      | (with_reducible apply br_le0
         · repeat (first | with_reducible exact ix_nI | assumption | with_reducible apply ix_add | with_reducible apply ix_mul | (with_reducible apply ix_sub) | (with_reducible apply ix_upd) | (with_reducible apply ix_div) | omega)
         · omega
         all_goals (intro hc; first | omega | (conv => whnf)))
      | (with_reducible apply br_gt0
         · repeat (first | with_reducible exact ix_nI | assumption | with_reducible apply ix_add | with_reducible apply ix_mul | (with_reducible apply ix_sub) | (with_reducible apply ix_upd) | (with_reducible apply ix_div) | omega)
         · omega
         all_goals (intro hc; first | omega | (conv => whnf)))
      | (with_reducible apply br_lt0
         · repeat (first | with_reducible exact ix_nI | assumption | with_reducible apply ix_add | with_reducible apply ix_mul | (with_reducible apply ix_sub) | (with_reducible apply ix_upd) | (with_reducible apply ix_div) | omega)
         · omega
         conv => whnf)
      | (with_reducible apply br_ge0
         · repeat (first | with_reducible exact ix_nI | assumption | with_reducible apply ix_add | with_reducible apply ix_mul | (with_reducible apply ix_sub) | (with_reducible apply ix_upd) | (with_reducible apply ix_div) | omega)
         · omega
         conv => whnf)
      | (with_reducible apply br_tab
         · repeat (first | with_reducible exact ix_nI | assumption | with_reducible apply ix_add | with_reducible apply ix_mul | (with_reducible apply ix_sub) | (with_reducible apply ix_upd) | (with_reducible apply ix_div) | omega)
         · omega
         all_goals (intro hc; first | omega | (conv => whnf)))
      | (refine And.intro (fun hc => ?_) (fun hc => ?_) <;> conv => whnf)
      | (refine And.intro (by decide) ?_; conv => whnf)
      | fail)
    refine wp_use hW ?_
    exact m_save1 rfl (by rw [hS, h6]) h9
  · refine Cl.of (by decide) rfl ?_
    refine wp_vc [52] 60 rfl fun W' C hW hC => ?_
    conv => whnf
    refine ⟨_, rfl, ?_⟩
    conv => whnf
    rw [hS]
    repeat' (first
      | (refine ⟨_, rfl, ?_⟩; conv => whnf)
      | (refine ⟨_, _, rfl, ⟨_, rfl, rfl⟩, ?_⟩; conv => whnf)
      | (refine ⟨_, _, rfl, ?_⟩
         with_reducible apply ix_ex
         · repeat (first | with_reducible exact ix_nI | assumption | with_reducible apply ix_add | with_reducible apply ix_mul | (with_reducible apply ix_sub) | (with_reducible apply ix_upd) | (with_reducible apply ix_div) | omega)
         (refine ⟨⟨by omega, by decide⟩, ?_⟩; conv => whnf))
      | (with_reducible apply br_le
         · repeat (first | with_reducible exact ix_nI | assumption | with_reducible apply ix_add | with_reducible apply ix_mul | (with_reducible apply ix_sub) | (with_reducible apply ix_upd) | (with_reducible apply ix_div) | omega)
         · repeat (first | with_reducible exact ix_nI | assumption | with_reducible apply ix_add | with_reducible apply ix_mul | (with_reducible apply ix_sub) | (with_reducible apply ix_upd) | (with_reducible apply ix_div) | omega)
         · omega
         · omega
         all_goals (intro hc; first | omega | (conv => whnf)))
      | (with_reducible apply br_lt
         · repeat (first | with_reducible exact ix_nI | assumption | with_reducible apply ix_add | with_reducible apply ix_mul | (with_reducible apply ix_sub) | (with_reducible apply ix_upd) | (with_reducible apply ix_div) | omega)
         · repeat (first | with_reducible exact ix_nI | assumption | with_reducible apply ix_add | with_reducible apply ix_mul | (with_reducible apply ix_sub) | (with_reducible apply ix_upd) | (with_reducible apply ix_div) | omega)
         · omega
         · omega
         all_goals (intro hc; first | omega | (conv => whnf)))
      | (with_reducible apply br_eq
         · repeat (first | with_reducible exact ix_nI | assumption | with_reducible apply ix_add | with_reducible apply ix_mul | (with_reducible apply ix_sub) | (with_reducible apply ix_upd) | (with_reducible apply ix_div) | omega)
         · repeat (first | with_reducible exact ix_nI | assumption | with_reducible apply ix_add | with_reducible apply ix_mul | (with_reducible apply ix_sub) | (with_reducible apply ix_upd) | (with_reducible apply ix_div) | omega)
         · omega
         · omega
         all_goals (intro hc; first | omega | (conv => whnf)))
      | (with_reducible apply br_ne
         · repeat (first | with_reducible exact ix_nI | assumption | with_reducible apply ix_add | with_reducible apply ix_mul | (with_reducible apply ix_sub) | (with_reducible apply ix_upd) | (with_reducible apply ix_div) | omega)
         · repeat (first | with_reducible exact ix_nI | assumption | with_reducible apply ix_add | with_reducible apply ix_mul | (with_reducible apply ix_sub) | (with_reducible apply ix_upd) | (with_reducible apply ix_div) | omega)
         · omega
         · omega
         all_goals (intro hc; first | omega | (conv => whnf)))
      | (with_reducible apply br_eq0
         · repeat (first | with_reducible exact ix_nI | assumption | with_reducible apply ix_add | with_reducible apply ix_mul | (with_reducible apply ix_sub) | (with_reducible apply ix_upd) | (with_reducible apply ix_div) | omega)
         · omega
         all_goals (intro hc; first | omega | (conv => whnf)))
      | (with_reducible apply br_ne0
         · repeat (first | with_reducible exact ix_nI | assumption | with_reducible apply ix_add | with_reducible apply ix_mul | (with_reducible apply ix_sub) | (with_reducible apply ix_upd) | (with_reducible apply ix_div) | omega)
         · omega
         all_goals (intro hc; first | omega | (conv => whnf)))
      | (with_reducible apply br_le0
         · repeat (first | with_reducible exact ix_nI | assumption | with_reducible apply ix_add | with_reducible apply ix_mul | (with_reducible apply ix_sub) | (with_reducible apply ix_upd) | (with_reducible apply ix_div) | omega)
         · omega
         all_goals (intro hc; first | omega | (conv => whnf)))
      | (with_reducible apply br_gt0
         · repeat (first | with_reducible exact ix_nI | assumption | with_reducible apply ix_add | with_reducible apply ix_mul | (with_reducible apply ix_sub) | (with_reducible apply ix_upd) | (with_reducible apply ix_div) | omega)
         · omega
         all_goals (intro hc; first | omega | (conv => whnf)))
      | (with_reducible apply br_lt0
         · repeat (first | with_reducible exact ix_nI | assumption | with_reducible apply ix_add | with_reducible apply ix_mul | (with_reducible apply ix_sub) | (with_reducible apply ix_upd) | (with_reducible apply ix_div) | omega)
         · omega
         conv => whnf)
      | (with_reducible apply br_ge0
         · repeat (first | with_reducible exact ix_nI | assumption | with_reducible apply ix_add | with_reducible apply ix_mul | (with_reducible apply ix_sub) | (with_reducible apply ix_upd) | (with_reducible apply ix_div) | omega)
         · omega
         conv => whnf)
      | (with_reducible apply br_tab
         · repeat (first | with_reducible exact ix_nI | assumption | with_reducible apply ix_add | with_reducible apply ix_mul | (with_reducible apply ix_sub) | (with_reducible apply ix_upd) | (with_reducible apply ix_div) | omega)
         · omega
         all_goals (intro hc; first | omega | (conv => whnf)))
      | (refine And.intro (fun hc => ?_) (fun hc => ?_) <;> conv => whnf)
      | (refine And.intro (by decide) ?_; conv => whnf)
      | fail)
    refine wp_use hW ?_
    refine m_save2 (S := L.length) (by repeat' (first | exact trivial | refine And.intro rfl ?_)) hS (by omega) ?_
    have e : pushL L u.1 = L ++ [u.1] := by rw [pushL, if_neg h6]
    have h9 := hK (fillH u.2.1 u.1 L.length 214) (by rw [e]; exact rows_push hR)
    rw [e, List.length_append] at h9
    exact h9
end M4
