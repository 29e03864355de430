/-! ===== the law: a page is written ===== -/
theorem upd_comm {f : ZZ} {i j : Nat} {x v : Int32} (h : i ≠ j) : upd (upd f i x) j v = upd (upd f j v) i x := by
  funext a
  by_cases h1 : a = j
  · subst h1
    rw [upd_eq, upd_ne (fun q => h q.symm), upd_eq]
  · rw [upd_ne h1]
    by_cases h2 : a = i
    · subst h2
      rw [upd_eq, upd_eq]
    · rw [upd_ne h2, upd_ne h2, upd_ne h1]
/-- the cells of a page that is being written, the word not yet laid down -/
def lwr (z : ZZ) (p : Nat) (y J : Int32) : Nat → ZZ
  | 0 => z
  | c + 1 => upd (upd (lwr z p y J c) 7 (nextSeed (lwr z p y J c 7))) (86 + 16 * p + c) (heldI (nI 50 + nI 100 * lvO (wrtW y c) + drawR (nextSeed (lwr z p y J c 7)) (nI 2 * J + nI 1) - J))
theorem lwr_wr {z : ZZ} {p : Nat} {y J : Int32} (hp : p < 8) : ∀ c, wrLoop (upd z (78 + p) y) p J c = upd (lwr z p y J c) (78 + p) y
  | 0 => rfl
  | c + 1 => by
    have e : wrt (upd (lwr z p y J c) (78 + p) y) p c = wrtW y c := by
      unfold wrt
      rw [upd_eq]
    rw [wrLoop, lwr_wr hp c, lwr, e, upd_ne (show 7 ≠ 78 + p by omega), upd_comm (show 78 + p ≠ 7 by omega), upd_comm (show 78 + p ≠ 86 + 16 * p + c by omega)]
theorem lwr_lo {z : ZZ} {p : Nat} {y J : Int32} {j : Nat} (h7 : j ≠ 7) (hj : j < 86 + 16 * p) : ∀ c, lwr z p y J c j = z j
  | 0 => rfl
  | c + 1 => by rw [lwr, upd_ne (by omega), upd_ne h7, lwr_lo h7 hj c]
theorem lwr_in {z : ZZ} {p : Nat} {y J : Int32} {j : Nat} : ∀ c i, j < c → c ≤ i → lwr z p y J i (86 + 16 * p + j) = lwr z p y J c (86 + 16 * p + j)
  | c, 0, h1, h2 => by omega
  | c, i + 1, h1, h2 => by
    by_cases e : c = i + 1
    · subst e
      rfl
    · rw [lwr, upd_ne (by omega), upd_ne (by omega), lwr_in c i h1 (by omega)]
theorem dist_upd {z : ZZ} {p o : Nat} {y : Int32} (hp : p < 8) (ho : o < 8) : distZ (upd z (78 + p) y) o = upd (distZ z o) (78 + p) y := by
  unfold distZ
  rw [upd_ne (show 30 + o ≠ 78 + p by omega), upd_ne (show 3 ≠ 78 + p by omega)]
  by_cases h : 0 < z (30 + o)
  · rw [if_pos h, if_pos h]
    funext i
    unfold fillC
    by_cases hi : 86 + 16 * o ≤ i ∧ i < 86 + 16 * o + 16
    · rw [if_pos hi, upd_ne (show i ≠ 78 + p by omega), if_pos hi]
      dsimp only
      rw [upd_ne (by omega)]
    · rw [if_neg hi]
      by_cases e : i = 78 + p
      · subst e
        rw [upd_eq, upd_eq]
      · rw [upd_ne e, upd_ne e, if_neg hi]
  · rw [if_neg h, if_neg h]
theorem dist_cell {z : ZZ} {p o c : Nat} (hne : o ≠ p) (hc : c < 16) : distZ z o (86 + 16 * p + c) = z (86 + 16 * p + c) := by
  unfold distZ
  split
  · exact fillC_out (by omega)
  · rfl
/-- what the law's writing leaves, in its order -/
def lwZ (z : ZZ) (p : Nat) (y : Int32) : ZZ :=
  let z1 := lwr z p y (jitJ z p) 16
  let z2 := if 0 < p % 4 then distZ z1 (p - 1) else z1
  let z3 := if p % 4 < 3 then distZ z2 (p + 1) else z2
  upd (upd (upd (upd z3 (30 + p) (nI 1)) (38 + p) (z3 6)) (46 + p) (nI 0)) (78 + p) y
theorem lwZ_w {z : ZZ} {p : Nat} {y : Int32} (hp : p < 8) : lwZ z p y = writesZ z p y := by
  unfold lwZ writesZ
  dsimp only
  rw [lwr_wr hp]
  generalize lwr z p y (jitJ z p) 16 = z1
  have e2 : (if 0 < p % 4 then distZ (upd z1 (78 + p) y) (p - 1) else upd z1 (78 + p) y) = upd (if 0 < p % 4 then distZ z1 (p - 1) else z1) (78 + p) y := by
    split
    · exact dist_upd hp (by omega)
    · rfl
  rw [e2]
  generalize (if 0 < p % 4 then distZ z1 (p - 1) else z1) = z2
  have e3 : (if p % 4 < 3 then distZ (upd z2 (78 + p) y) (p + 1) else upd z2 (78 + p) y) = upd (if p % 4 < 3 then distZ z2 (p + 1) else z2) (78 + p) y := by
    split
    · exact dist_upd hp (by omega)
    · rfl
  rw [e3]
  generalize (if p % 4 < 3 then distZ z2 (p + 1) else z2) = z3
  rw [upd_ne (show 6 ≠ 78 + p by omega), upd_comm (show 78 + p ≠ 30 + p by omega), upd_comm (show 78 + p ≠ 38 + p by omega), upd_comm (show 78 + p ≠ 46 + p by omega)]
theorem lwZ_cell {z : ZZ} {p c : Nat} {y : Int32} (hc : c < 16) : lwZ z p y (86 + 16 * p + c) = lwr z p y (jitJ z p) 16 (86 + 16 * p + c) := by
  unfold lwZ
  rw [upd_ne (by omega), upd_ne (by omega), upd_ne (by omega), upd_ne (by omega)]
  split
  · rw [dist_cell (by omega) hc]
    split
    · rw [dist_cell (by omega) hc]
    · rfl
  · split
    · rw [dist_cell (by omega) hc]
    · rfl
theorem lwr_ivz {n p : Nat} {z : ZZ} {y J : Int32} (h : Ivz n z) (hp : p < 8) : ∀ c, c ≤ 16 → bd (lwr z p y J c 7) 2147483647 := by
  intro c hc
  have h1 := ivz_wrLoop (J := J) (ivz_upd (k := 78 + p) (x := y) h (by omega) (by omega) (PR_free (by omega))) hp c hc
  rw [lwr_wr hp] at h1
  have h2 := h1.seed
  rw [upd_ne (by omega)] at h2
  exact h2
section P2
variable {G : GG} {d n p : Nat} {z : ZZ} {k y : Int32} {h0 h : AH} {w : W3} {K : AO → AH → W3 → Prop}
theorem l_wd {q : Nat} {sm : Int32} (hq : q < 8) (hgo : wp G (d + 1) kL_writes w.2.1 w.2.2 K 173 [some (.ref 154), some (.ref 155), some (.ref 156), some (.ref 157), some (.ref 158), some (.ref 159), some (.ref 163), some (.int (nI p)), some (.int y), none, some (.int sm), some (.int (nI q)), none] [] (setL h0 (fillC z q (fun c => heldI (z (86 + 16 * q + c) + z 3)) 16) k) w) : wp G (d + 1) kL_writes w.2.1 w.2.2 K 137 [some (.ref 154), some (.ref 155), some (.ref 156), some (.ref 157), some (.ref 158), some (.ref 159), some (.ref 163), some (.int (nI p)), some (.int y), none, some (.int sm), some (.int (nI q)), some (.int (nI 0))] [] (setL h0 z k) w := by
  have key := upto (W := fun i => wp G (d + 1) kL_writes w.2.1 w.2.2 K 137 [some (.ref 154), some (.ref 155), some (.ref 156), some (.ref 157), some (.ref 158), some (.ref 159), some (.ref 163), some (.int (nI p)), some (.int y), none, some (.int sm), some (.int (nI q)), some (.int (nI i))] [] (setL h0 (fillC z q (fun c => heldI (z (86 + 16 * q + c) + z 3)) i) k) w) 16 ?_ ?_
  · rw [fillC_0] at key
    exact key
  · refine wp_vc [137,173] 60 rfl fun W' C hW hC => ?_
    conv => whnf
    repeat' (first
      | (refine ⟨_, rfl, ?_⟩; conv => whnf)
      | (refine ⟨_, _, rfl, ⟨_, rfl, rfl⟩, ?_⟩; conv => whnf)
      | (refine ⟨_, _, rfl, ?_⟩
         with_reducible apply ix_ex
         · repeat (first | with_reducible exact ix_nI | assumption | with_reducible apply ix_add | with_reducible apply ix_mul | (with_reducible apply ix_sub) | (with_reducible apply ix_upd) | (with_reducible apply ix_div) | omega)
         (refine ⟨⟨by omega, by decide⟩, ?_⟩; conv => whnf))
      | (with_reducible apply br_le
         · repeat (first | with_reducible exact ix_nI | assumption | with_reducible apply ix_add | with_reducible apply ix_mul | (with_reducible apply ix_sub) | (with_reducible apply ix_upd) | (with_reducible apply ix_div) | omega)
         · repeat (first | with_reducible exact ix_nI | assumption | with_reducible apply ix_add | with_reducible apply ix_mul | (with_reducible apply ix_sub) | (with_reducible apply ix_upd) | (with_reducible apply ix_div) | omega)
         · omega
         · omega
         all_goals (intro hc; first | omega | (conv => whnf)))
      | (with_reducible apply br_lt
         · repeat (first | with_reducible exact ix_nI | assumption | with_reducible apply ix_add | with_reducible apply ix_mul | (with_reducible apply ix_sub) | (with_reducible apply ix_upd) | (with_reducible apply ix_div) | omega)
         · repeat (first | with_reducible exact ix_nI | assumption | with_reducible apply ix_add | with_reducible apply ix_mul | (with_reducible apply ix_sub) | (with_reducible apply ix_upd) | (with_reducible apply ix_div) | omega)
         · omega
         · omega
         all_goals (intro hc; first | omega | (conv => whnf)))
      | (with_reducible apply br_eq
         · repeat (first | with_reducible exact ix_nI | assumption | with_reducible apply ix_add | with_reducible apply ix_mul | (with_reducible apply ix_sub) | (with_reducible apply ix_upd) | (with_reducible apply ix_div) | omega)
         · repeat (first | with_reducible exact ix_nI | assumption | with_reducible apply ix_add | with_reducible apply ix_mul | (with_reducible apply ix_sub) | (with_reducible apply ix_upd) | (with_reducible apply ix_div) | omega)
         · omega
         · omega
         all_goals (intro hc; first | omega | (conv => whnf)))
      | (with_reducible apply br_ne
         · repeat (first | with_reducible exact ix_nI | assumption | with_reducible apply ix_add | with_reducible apply ix_mul | (with_reducible apply ix_sub) | (with_reducible apply ix_upd) | (with_reducible apply ix_div) | omega)
         · repeat (first | with_reducible exact ix_nI | assumption | with_reducible apply ix_add | with_reducible apply ix_mul | (with_reducible apply ix_sub) | (with_reducible apply ix_upd) | (with_reducible apply ix_div) | omega)
         · omega
         · omega
         all_goals (intro hc; first | omega | (conv => whnf)))
      | (with_reducible apply br_eq0
         · repeat (first | with_reducible exact ix_nI | assumption | with_reducible apply ix_add | with_reducible apply ix_mul | (with_reducible apply ix_sub) | (with_reducible apply ix_upd) | (with_reducible apply ix_div) | omega)
         · omega
         all_goals (intro hc; first | omega | (conv => whnf)))
      | (with_reducible apply br_ne0
         · repeat (first | with_reducible exact ix_nI | assumption | with_reducible apply ix_add | with_reducible apply ix_mul | (with_reducible apply ix_sub) | (with_reducible apply ix_upd) | (with_reducible apply ix_div) | omega)
         · omega
         all_goals (intro hc; first | omega | (conv => whnf)))
      | (with_reducible apply br_le0
         · repeat (first | with_reducible exact ix_nI | assumption | with_reducible apply ix_add | with_reducible apply ix_mul | (with_reducible apply ix_sub) | (with_reducible apply ix_upd) | (with_reducible apply ix_div) | omega)
         · omega
         all_goals (intro hc; first | omega | (conv => whnf)))
      | (with_reducible apply br_gt0
         · repeat (first | with_reducible exact ix_nI | assumption | with_reducible apply ix_add | with_reducible apply ix_mul | (with_reducible apply ix_sub) | (with_reducible apply ix_upd) | (with_reducible apply ix_div) | omega)
         · omega
         all_goals (intro hc; first | omega | (conv => whnf)))
      | (with_reducible apply br_lt0
         · repeat (first | with_reducible exact ix_nI | assumption | with_reducible apply ix_add | with_reducible apply ix_mul | (with_reducible apply ix_sub) | (with_reducible apply ix_upd) | (with_reducible apply ix_div) | omega)
         · omega
         conv => whnf)
      | (with_reducible apply br_ge0
         · repeat (first | with_reducible exact ix_nI | assumption | with_reducible apply ix_add | with_reducible apply ix_mul | (with_reducible apply ix_sub) | (with_reducible apply ix_upd) | (with_reducible apply ix_div) | omega)
         · omega
         conv => whnf)
      | (with_reducible apply br_tab
         · repeat (first | with_reducible exact ix_nI | assumption | with_reducible apply ix_add | with_reducible apply ix_mul | (with_reducible apply ix_sub) | (with_reducible apply ix_upd) | (with_reducible apply ix_div) | omega)
         · omega
         all_goals (intro hc; (try dsimp only at hc); first | omega | (conv => whnf)))
      | (refine And.intro (fun hc => ?_) (fun hc => ?_) <;> conv => whnf)
      | (refine And.intro (by decide) ?_; conv => whnf)
      | fail)
    refine wp_use hW ?_
    exact hgo.le (by repeat' (first | exact trivial | refine And.intro rfl ?_))
  · intro i hi ih
    refine wp_vc [137,173] 60 rfl fun W' C hW hC => ?_
    conv => whnf
    repeat' (first
      | (refine ⟨_, _, rfl, ?_⟩
         with_reducible apply ix_ex
         · repeat (first | with_reducible exact ix_nI | assumption | with_reducible apply ix_add | with_reducible apply ix_mul | (with_reducible apply ix_sub) | (with_reducible apply ix_upd) | (with_reducible apply ix_div) | omega)
         (refine ⟨⟨by omega, by decide⟩, ?_⟩; (first | rw [slc_in (by omega)] | rw [nZ_0] | rw [nZ_1] | rw [nZ_2] | rw [nZ_3] | rw [nZ_4] | rw [nZ_5] | rw [nZ_6] | rw [nZ_7] | rw [nZ_8] | rw [nZ_9] | rw [nZ_10] | rw [nZ_11] | rw [nZ_12] | rw [nZ_w (by omega)] | rw [nZ_s (by omega)]); conv => whnf))
      | (refine ⟨_, _, rfl, ?_⟩
         with_reducible apply ix_ex
         · repeat (first | with_reducible exact ix_nI | assumption | with_reducible apply ix_add | with_reducible apply ix_mul | (with_reducible apply ix_sub) | (with_reducible apply ix_upd) | (with_reducible apply ix_div) | omega)
         (refine ⟨⟨by omega, by decide⟩, ?_⟩; (first | rw [setL_a (by omega)] | rw [setL_b (by omega)] | rw [setL_st (by omega)] | rw [setL_si (by omega)] | rw [setL_fa (by omega)] | rw [setL_rd (by omega)] | rw [setL_fl (by omega)] | rw [setL_fe (by omega)] | rw [setL_da (by omega)] | rw [setL_ma (by omega)] | rw [setL_k] | rw [setL_n0] | rw [setL_n1] | rw [setL_n2] | rw [setL_n3] | rw [setL_n4] | rw [setL_n6] | rw [setL_n7] | rw [setL_n8] | rw [setL_n9] | rw [setL_n10] | rw [setL_n11] | rw [setL_n12] | rw [setL_w (by omega)] | rw [setL_s (by omega)]); conv => whnf))
        | (refine cl_use hC (l_get rfl rfl hq hi ?_); conv => whnf)
        | (refine cl_use hC (l_put rfl rfl hq hi ?_); conv => whnf)
      | (refine ⟨_, rfl, ?_⟩; conv => whnf)
      | (refine ⟨_, _, rfl, ⟨_, rfl, rfl⟩, ?_⟩; conv => whnf)
      | (refine ⟨_, _, rfl, ?_⟩
         with_reducible apply ix_ex
         · repeat (first | with_reducible exact ix_nI | assumption | with_reducible apply ix_add | with_reducible apply ix_mul | (with_reducible apply ix_sub) | (with_reducible apply ix_upd) | (with_reducible apply ix_div) | omega)
         (refine ⟨⟨by omega, by decide⟩, ?_⟩; conv => whnf))
      | (with_reducible apply br_le
         · repeat (first | with_reducible exact ix_nI | assumption | with_reducible apply ix_add | with_reducible apply ix_mul | (with_reducible apply ix_sub) | (with_reducible apply ix_upd) | (with_reducible apply ix_div) | omega)
         · repeat (first | with_reducible exact ix_nI | assumption | with_reducible apply ix_add | with_reducible apply ix_mul | (with_reducible apply ix_sub) | (with_reducible apply ix_upd) | (with_reducible apply ix_div) | omega)
         · omega
         · omega
         all_goals (intro hc; first | omega | (conv => whnf)))
      | (with_reducible apply br_lt
         · repeat (first | with_reducible exact ix_nI | assumption | with_reducible apply ix_add | with_reducible apply ix_mul | (with_reducible apply ix_sub) | (with_reducible apply ix_upd) | (with_reducible apply ix_div) | omega)
         · repeat (first | with_reducible exact ix_nI | assumption | with_reducible apply ix_add | with_reducible apply ix_mul | (with_reducible apply ix_sub) | (with_reducible apply ix_upd) | (with_reducible apply ix_div) | omega)
         · omega
         · omega
         all_goals (intro hc; first | omega | (conv => whnf)))
      | (with_reducible apply br_eq
         · repeat (first | with_reducible exact ix_nI | assumption | with_reducible apply ix_add | with_reducible apply ix_mul | (with_reducible apply ix_sub) | (with_reducible apply ix_upd) | (with_reducible apply ix_div) | omega)
         · repeat (first | with_reducible exact ix_nI | assumption | with_reducible apply ix_add | with_reducible apply ix_mul | (with_reducible apply ix_sub) | (with_reducible apply ix_upd) | (with_reducible apply ix_div) | omega)
         · omega
         · omega
         all_goals (intro hc; first | omega | (conv => whnf)))
      | (with_reducible apply br_ne
         · repeat (first | with_reducible exact ix_nI | assumption | with_reducible apply ix_add | with_reducible apply ix_mul | (with_reducible apply ix_sub) | (with_reducible apply ix_upd) | (with_reducible apply ix_div) | omega)
         · repeat (first | with_reducible exact ix_nI | assumption | with_reducible apply ix_add | with_reducible apply ix_mul | (with_reducible apply ix_sub) | (with_reducible apply ix_upd) | (with_reducible apply ix_div) | omega)
         · omega
         · omega
         all_goals (intro hc; first | omega | (conv => whnf)))
      | (with_reducible apply br_eq0
         · repeat (first | with_reducible exact ix_nI | assumption | with_reducible apply ix_add | with_reducible apply ix_mul | (with_reducible apply ix_sub) | (with_reducible apply ix_upd) | (with_reducible apply ix_div) | omega)
         · omega
         all_goals (intro hc; first | omega | (conv => whnf)))
      | (with_reducible apply br_ne0
         · repeat (first | with_reducible exact ix_nI | assumption | with_reducible apply ix_add | with_reducible apply ix_mul | (with_reducible apply ix_sub) | (with_reducible apply ix_upd) | (with_reducible apply ix_div) | omega)
         · omega
         all_goals (intro hc; first | omega | (conv => whnf)))
      | (with_reducible apply br_le0
         · repeat (first | with_reducible exact ix_nI | assumption | with_reducible apply ix_add | with_reducible apply ix_mul | (with_reducible apply ix_sub) | (with_reducible apply ix_upd) | (with_reducible apply ix_div) | omega)
         · omega
         all_goals (intro hc; first | omega | (conv => whnf)))
      | (with_reducible apply br_gt0
         · repeat (first | with_reducible exact ix_nI | assumption | with_reducible apply ix_add | with_reducible apply ix_mul | (with_reducible apply ix_sub) | (with_reducible apply ix_upd) | (with_reducible apply ix_div) | omega)
         · omega
         all_goals (intro hc; first | omega | (conv => whnf)))
      | (with_reducible apply br_lt0
         · repeat (first | with_reducible exact ix_nI | assumption | with_reducible apply ix_add | with_reducible apply ix_mul | (with_reducible apply ix_sub) | (with_reducible apply ix_upd) | (with_reducible apply ix_div) | omega)
         · omega
         conv => whnf)
      | (with_reducible apply br_ge0
         · repeat (first | with_reducible exact ix_nI | assumption | with_reducible apply ix_add | with_reducible apply ix_mul | (with_reducible apply ix_sub) | (with_reducible apply ix_upd) | (with_reducible apply ix_div) | omega)
         · omega
         conv => whnf)
      | (with_reducible apply br_tab
         · repeat (first | with_reducible exact ix_nI | assumption | with_reducible apply ix_add | with_reducible apply ix_mul | (with_reducible apply ix_sub) | (with_reducible apply ix_upd) | (with_reducible apply ix_div) | omega)
         · omega
         all_goals (intro hc; (try dsimp only at hc); first | omega | (conv => whnf)))
      | (refine And.intro (fun hc => ?_) (fun hc => ?_) <;> conv => whnf)
      | (refine And.intro (by decide) ?_; conv => whnf)
      | fail)
    refine wp_use hW ?_
    rw [nI_add, fillC_s (by rw [fillC_out (by omega), fillC_out (by omega)])]
    exact ih.le (by repeat' (first | exact trivial | refine And.intro rfl ?_))
theorem l_wq {q : Nat} {sm : Int32} (hp : p < 8) (hq : q ≤ p + 1) (hgo : wp G (d + 1) kL_writes w.2.1 w.2.2 K 173 [some (.ref 154), some (.ref 155), some (.ref 156), some (.ref 157), some (.ref 158), some (.ref 159), some (.ref 163), some (.int (nI p)), some (.int y), none, some (.int sm), some (.int (nI q)), none] [] (setL h0 (if q / 4 = p / 4 then distZ z q else z) k) w) : wp G (d + 1) kL_writes w.2.1 w.2.2 K 95 [some (.ref 154), some (.ref 155), some (.ref 156), some (.ref 157), some (.ref 158), some (.ref 159), some (.ref 163), some (.int (nI p)), some (.int y), none, some (.int sm), some (.int (nI q)), none] [] (setL h0 z k) w := by
  by_cases hg : q / 4 = p / 4
  · have hq8 : q < 8 := by omega
    rw [if_pos hg] at hgo
    by_cases hs : 0 < z (30 + q)
    · rw [distZ, if_pos hs] at hgo
      refine wp_vc [95,137,173] 60 rfl fun W' C hW hC => ?_
      conv => whnf
      repeat' (first
        | (refine ⟨_, _, rfl, ?_⟩
           with_reducible apply ix_ex
           · repeat (first | with_reducible exact ix_nI | assumption | with_reducible apply ix_add | with_reducible apply ix_mul | (with_reducible apply ix_sub) | (with_reducible apply ix_upd) | (with_reducible apply ix_div) | omega)
           (refine ⟨⟨by omega, by decide⟩, ?_⟩; (first | rw [slc_in (by omega)] | rw [nZ_0] | rw [nZ_1] | rw [nZ_2] | rw [nZ_3] | rw [nZ_4] | rw [nZ_5] | rw [nZ_6] | rw [nZ_7] | rw [nZ_8] | rw [nZ_9] | rw [nZ_10] | rw [nZ_11] | rw [nZ_12] | rw [nZ_w (by omega)] | rw [nZ_s (by omega)]); conv => whnf))
        | (refine ⟨_, _, rfl, ?_⟩
           with_reducible apply ix_ex
           · repeat (first | with_reducible exact ix_nI | assumption | with_reducible apply ix_add | with_reducible apply ix_mul | (with_reducible apply ix_sub) | (with_reducible apply ix_upd) | (with_reducible apply ix_div) | omega)
           (refine ⟨⟨by omega, by decide⟩, ?_⟩; (first | rw [setL_a (by omega)] | rw [setL_b (by omega)] | rw [setL_st (by omega)] | rw [setL_si (by omega)] | rw [setL_fa (by omega)] | rw [setL_rd (by omega)] | rw [setL_fl (by omega)] | rw [setL_fe (by omega)] | rw [setL_da (by omega)] | rw [setL_ma (by omega)] | rw [setL_k] | rw [setL_n0] | rw [setL_n1] | rw [setL_n2] | rw [setL_n3] | rw [setL_n4] | rw [setL_n6] | rw [setL_n7] | rw [setL_n8] | rw [setL_n9] | rw [setL_n10] | rw [setL_n11] | rw [setL_n12] | rw [setL_w (by omega)] | rw [setL_s (by omega)]); conv => whnf))
            | (refine And.intro (fun hcc => absurd hs (Int32.not_lt.mpr hcc)) (fun _ => ?_); conv => whnf)
        | (refine ⟨_, rfl, ?_⟩; conv => whnf)
        | (refine ⟨_, _, rfl, ⟨_, rfl, rfl⟩, ?_⟩; conv => whnf)
        | (refine ⟨_, _, rfl, ?_⟩
           with_reducible apply ix_ex
           · repeat (first | with_reducible exact ix_nI | assumption | with_reducible apply ix_add | with_reducible apply ix_mul | (with_reducible apply ix_sub) | (with_reducible apply ix_upd) | (with_reducible apply ix_div) | omega)
           (refine ⟨⟨by omega, by decide⟩, ?_⟩; conv => whnf))
        | (with_reducible apply br_le
           · repeat (first | with_reducible exact ix_nI | assumption | with_reducible apply ix_add | with_reducible apply ix_mul | (with_reducible apply ix_sub) | (with_reducible apply ix_upd) | (with_reducible apply ix_div) | omega)
           · repeat (first | with_reducible exact ix_nI | assumption | with_reducible apply ix_add | with_reducible apply ix_mul | (with_reducible apply ix_sub) | (with_reducible apply ix_upd) | (with_reducible apply ix_div) | omega)
           · omega
           · omega
           all_goals (intro hc; first | omega | (conv => whnf)))
        | (with_reducible apply br_lt
           · repeat (first | with_reducible exact ix_nI | assumption | with_reducible apply ix_add | with_reducible apply ix_mul | (with_reducible apply ix_sub) | (with_reducible apply ix_upd) | (with_reducible apply ix_div) | omega)
           · repeat (first | with_reducible exact ix_nI | assumption | with_reducible apply ix_add | with_reducible apply ix_mul | (with_reducible apply ix_sub) | (with_reducible apply ix_upd) | (with_reducible apply ix_div) | omega)
           · omega
           · omega
           all_goals (intro hc; first | omega | (conv => whnf)))
        | (with_reducible apply br_eq
           · repeat (first | with_reducible exact ix_nI | assumption | with_reducible apply ix_add | with_reducible apply ix_mul | (with_reducible apply ix_sub) | (with_reducible apply ix_upd) | (with_reducible apply ix_div) | omega)
           · repeat (first | with_reducible exact ix_nI | assumption | with_reducible apply ix_add | with_reducible apply ix_mul | (with_reducible apply ix_sub) | (with_reducible apply ix_upd) | (with_reducible apply ix_div) | omega)
           · omega
           · omega
           all_goals (intro hc; first | omega | (conv => whnf)))
        | (with_reducible apply br_ne
           · repeat (first | with_reducible exact ix_nI | assumption | with_reducible apply ix_add | with_reducible apply ix_mul | (with_reducible apply ix_sub) | (with_reducible apply ix_upd) | (with_reducible apply ix_div) | omega)
           · repeat (first | with_reducible exact ix_nI | assumption | with_reducible apply ix_add | with_reducible apply ix_mul | (with_reducible apply ix_sub) | (with_reducible apply ix_upd) | (with_reducible apply ix_div) | omega)
           · omega
           · omega
           all_goals (intro hc; first | omega | (conv => whnf)))
        | (with_reducible apply br_eq0
           · repeat (first | with_reducible exact ix_nI | assumption | with_reducible apply ix_add | with_reducible apply ix_mul | (with_reducible apply ix_sub) | (with_reducible apply ix_upd) | (with_reducible apply ix_div) | omega)
           · omega
           all_goals (intro hc; first | omega | (conv => whnf)))
        | (with_reducible apply br_ne0
           · repeat (first | with_reducible exact ix_nI | assumption | with_reducible apply ix_add | with_reducible apply ix_mul | (with_reducible apply ix_sub) | (with_reducible apply ix_upd) | (with_reducible apply ix_div) | omega)
           · omega
           all_goals (intro hc; first | omega | (conv => whnf)))
        | (with_reducible apply br_le0
           · repeat (first | with_reducible exact ix_nI | assumption | with_reducible apply ix_add | with_reducible apply ix_mul | (with_reducible apply ix_sub) | (with_reducible apply ix_upd) | (with_reducible apply ix_div) | omega)
           · omega
           all_goals (intro hc; first | omega | (conv => whnf)))
        | (with_reducible apply br_gt0
           · repeat (first | with_reducible exact ix_nI | assumption | with_reducible apply ix_add | with_reducible apply ix_mul | (with_reducible apply ix_sub) | (with_reducible apply ix_upd) | (with_reducible apply ix_div) | omega)
           · omega
           all_goals (intro hc; first | omega | (conv => whnf)))
        | (with_reducible apply br_lt0
           · repeat (first | with_reducible exact ix_nI | assumption | with_reducible apply ix_add | with_reducible apply ix_mul | (with_reducible apply ix_sub) | (with_reducible apply ix_upd) | (with_reducible apply ix_div) | omega)
           · omega
           conv => whnf)
        | (with_reducible apply br_ge0
           · repeat (first | with_reducible exact ix_nI | assumption | with_reducible apply ix_add | with_reducible apply ix_mul | (with_reducible apply ix_sub) | (with_reducible apply ix_upd) | (with_reducible apply ix_div) | omega)
           · omega
           conv => whnf)
        | (with_reducible apply br_tab
           · repeat (first | with_reducible exact ix_nI | assumption | with_reducible apply ix_add | with_reducible apply ix_mul | (with_reducible apply ix_sub) | (with_reducible apply ix_upd) | (with_reducible apply ix_div) | omega)
           · omega
           all_goals (intro hc; (try dsimp only at hc); first | omega | (conv => whnf)))
        | (refine And.intro (fun hc => ?_) (fun hc => ?_) <;> conv => whnf)
        | (refine And.intro (by decide) ?_; conv => whnf)
        | fail)
      refine wp_use hW ?_
      exact (l_wd hq8 hgo).le (by repeat' (first | exact trivial | refine And.intro rfl ?_))
    · rw [distZ, if_neg hs] at hgo
      refine wp_vc [95,137,173] 60 rfl fun W' C hW hC => ?_
      conv => whnf
      repeat' (first
        | (refine ⟨_, _, rfl, ?_⟩
           with_reducible apply ix_ex
           · repeat (first | with_reducible exact ix_nI | assumption | with_reducible apply ix_add | with_reducible apply ix_mul | (with_reducible apply ix_sub) | (with_reducible apply ix_upd) | (with_reducible apply ix_div) | omega)
           (refine ⟨⟨by omega, by decide⟩, ?_⟩; (first | rw [slc_in (by omega)] | rw [nZ_0] | rw [nZ_1] | rw [nZ_2] | rw [nZ_3] | rw [nZ_4] | rw [nZ_5] | rw [nZ_6] | rw [nZ_7] | rw [nZ_8] | rw [nZ_9] | rw [nZ_10] | rw [nZ_11] | rw [nZ_12] | rw [nZ_w (by omega)] | rw [nZ_s (by omega)]); conv => whnf))
        | (refine ⟨_, _, rfl, ?_⟩
           with_reducible apply ix_ex
           · repeat (first | with_reducible exact ix_nI | assumption | with_reducible apply ix_add | with_reducible apply ix_mul | (with_reducible apply ix_sub) | (with_reducible apply ix_upd) | (with_reducible apply ix_div) | omega)
           (refine ⟨⟨by omega, by decide⟩, ?_⟩; (first | rw [setL_a (by omega)] | rw [setL_b (by omega)] | rw [setL_st (by omega)] | rw [setL_si (by omega)] | rw [setL_fa (by omega)] | rw [setL_rd (by omega)] | rw [setL_fl (by omega)] | rw [setL_fe (by omega)] | rw [setL_da (by omega)] | rw [setL_ma (by omega)] | rw [setL_k] | rw [setL_n0] | rw [setL_n1] | rw [setL_n2] | rw [setL_n3] | rw [setL_n4] | rw [setL_n6] | rw [setL_n7] | rw [setL_n8] | rw [setL_n9] | rw [setL_n10] | rw [setL_n11] | rw [setL_n12] | rw [setL_w (by omega)] | rw [setL_s (by omega)]); conv => whnf))
            | (refine And.intro (fun _ => ?_) (fun hcc => absurd (Int32.not_le.mp hcc) hs); conv => whnf)
        | (refine ⟨_, rfl, ?_⟩; conv => whnf)
        | (refine ⟨_, _, rfl, ⟨_, rfl, rfl⟩, ?_⟩; conv => whnf)
        | (refine ⟨_, _, rfl, ?_⟩
           with_reducible apply ix_ex
           · repeat (first | with_reducible exact ix_nI | assumption | with_reducible apply ix_add | with_reducible apply ix_mul | (with_reducible apply ix_sub) | (with_reducible apply ix_upd) | (with_reducible apply ix_div) | omega)
           (refine ⟨⟨by omega, by decide⟩, ?_⟩; conv => whnf))
        | (with_reducible apply br_le
           · repeat (first | with_reducible exact ix_nI | assumption | with_reducible apply ix_add | with_reducible apply ix_mul | (with_reducible apply ix_sub) | (with_reducible apply ix_upd) | (with_reducible apply ix_div) | omega)
           · repeat (first | with_reducible exact ix_nI | assumption | with_reducible apply ix_add | with_reducible apply ix_mul | (with_reducible apply ix_sub) | (with_reducible apply ix_upd) | (with_reducible apply ix_div) | omega)
           · omega
           · omega
           all_goals (intro hc; first | omega | (conv => whnf)))
        | (with_reducible apply br_lt
           · repeat (first | with_reducible exact ix_nI | assumption | with_reducible apply ix_add | with_reducible apply ix_mul | (with_reducible apply ix_sub) | (with_reducible apply ix_upd) | (with_reducible apply ix_div) | omega)
           · repeat (first | with_reducible exact ix_nI | assumption | with_reducible apply ix_add | with_reducible apply ix_mul | (with_reducible apply ix_sub) | (with_reducible apply ix_upd) | (with_reducible apply ix_div) | omega)
           · omega
           · omega
           all_goals (intro hc; first | omega | (conv => whnf)))
        | (with_reducible apply br_eq
           · repeat (first | with_reducible exact ix_nI | assumption | with_reducible apply ix_add | with_reducible apply ix_mul | (with_reducible apply ix_sub) | (with_reducible apply ix_upd) | (with_reducible apply ix_div) | omega)
           · repeat (first | with_reducible exact ix_nI | assumption | with_reducible apply ix_add | with_reducible apply ix_mul | (with_reducible apply ix_sub) | (with_reducible apply ix_upd) | (with_reducible apply ix_div) | omega)
           · omega
           · omega
           all_goals (intro hc; first | omega | (conv => whnf)))
        | (with_reducible apply br_ne
           · repeat (first | with_reducible exact ix_nI | assumption | with_reducible apply ix_add | with_reducible apply ix_mul | (with_reducible apply ix_sub) | (with_reducible apply ix_upd) | (with_reducible apply ix_div) | omega)
           · repeat (first | with_reducible exact ix_nI | assumption | with_reducible apply ix_add | with_reducible apply ix_mul | (with_reducible apply ix_sub) | (with_reducible apply ix_upd) | (with_reducible apply ix_div) | omega)
           · omega
           · omega
           all_goals (intro hc; first | omega | (conv => whnf)))
        | (with_reducible apply br_eq0
           · repeat (first | with_reducible exact ix_nI | assumption | with_reducible apply ix_add | with_reducible apply ix_mul | (with_reducible apply ix_sub) | (with_reducible apply ix_upd) | (with_reducible apply ix_div) | omega)
           · omega
           all_goals (intro hc; first | omega | (conv => whnf)))
        | (with_reducible apply br_ne0
           · repeat (first | with_reducible exact ix_nI | assumption | with_reducible apply ix_add | with_reducible apply ix_mul | (with_reducible apply ix_sub) | (with_reducible apply ix_upd) | (with_reducible apply ix_div) | omega)
           · omega
           all_goals (intro hc; first | omega | (conv => whnf)))
        | (with_reducible apply br_le0
           · repeat (first | with_reducible exact ix_nI | assumption | with_reducible apply ix_add | with_reducible apply ix_mul | (with_reducible apply ix_sub) | (with_reducible apply ix_upd) | (with_reducible apply ix_div) | omega)
           · omega
           all_goals (intro hc; first | omega | (conv => whnf)))
        | (with_reducible apply br_gt0
           · repeat (first | with_reducible exact ix_nI | assumption | with_reducible apply ix_add | with_reducible apply ix_mul | (with_reducible apply ix_sub) | (with_reducible apply ix_upd) | (with_reducible apply ix_div) | omega)
           · omega
           all_goals (intro hc; first | omega | (conv => whnf)))
        | (with_reducible apply br_lt0
           · repeat (first | with_reducible exact ix_nI | assumption | with_reducible apply ix_add | with_reducible apply ix_mul | (with_reducible apply ix_sub) | (with_reducible apply ix_upd) | (with_reducible apply ix_div) | omega)
           · omega
           conv => whnf)
        | (with_reducible apply br_ge0
           · repeat (first | with_reducible exact ix_nI | assumption | with_reducible apply ix_add | with_reducible apply ix_mul | (with_reducible apply ix_sub) | (with_reducible apply ix_upd) | (with_reducible apply ix_div) | omega)
           · omega
           conv => whnf)
        | (with_reducible apply br_tab
           · repeat (first | with_reducible exact ix_nI | assumption | with_reducible apply ix_add | with_reducible apply ix_mul | (with_reducible apply ix_sub) | (with_reducible apply ix_upd) | (with_reducible apply ix_div) | omega)
           · omega
           all_goals (intro hc; (try dsimp only at hc); first | omega | (conv => whnf)))
        | (refine And.intro (fun hc => ?_) (fun hc => ?_) <;> conv => whnf)
        | (refine And.intro (by decide) ?_; conv => whnf)
        | fail)
      refine wp_use hW ?_
      exact hgo.le (by repeat' (first | exact trivial | refine And.intro rfl ?_))
  · rw [if_neg hg] at hgo
    refine wp_vc [95,137,173] 60 rfl fun W' C hW hC => ?_
    conv => whnf
    repeat' (first
      | (refine ⟨_, _, rfl, ?_⟩
         with_reducible apply ix_ex
         · repeat (first | with_reducible exact ix_nI | assumption | with_reducible apply ix_add | with_reducible apply ix_mul | (with_reducible apply ix_sub) | (with_reducible apply ix_upd) | (with_reducible apply ix_div) | omega)
         (refine ⟨⟨by omega, by decide⟩, ?_⟩; (first | rw [slc_in (by omega)] | rw [nZ_0] | rw [nZ_1] | rw [nZ_2] | rw [nZ_3] | rw [nZ_4] | rw [nZ_5] | rw [nZ_6] | rw [nZ_7] | rw [nZ_8] | rw [nZ_9] | rw [nZ_10] | rw [nZ_11] | rw [nZ_12] | rw [nZ_w (by omega)] | rw [nZ_s (by omega)]); conv => whnf))
      | (refine ⟨_, _, rfl, ?_⟩
         with_reducible apply ix_ex
         · repeat (first | with_reducible exact ix_nI | assumption | with_reducible apply ix_add | with_reducible apply ix_mul | (with_reducible apply ix_sub) | (with_reducible apply ix_upd) | (with_reducible apply ix_div) | omega)
         (refine ⟨⟨by omega, by decide⟩, ?_⟩; (first | rw [setL_a (by omega)] | rw [setL_b (by omega)] | rw [setL_st (by omega)] | rw [setL_si (by omega)] | rw [setL_fa (by omega)] | rw [setL_rd (by omega)] | rw [setL_fl (by omega)] | rw [setL_fe (by omega)] | rw [setL_da (by omega)] | rw [setL_ma (by omega)] | rw [setL_k] | rw [setL_n0] | rw [setL_n1] | rw [setL_n2] | rw [setL_n3] | rw [setL_n4] | rw [setL_n6] | rw [setL_n7] | rw [setL_n8] | rw [setL_n9] | rw [setL_n10] | rw [setL_n11] | rw [setL_n12] | rw [setL_w (by omega)] | rw [setL_s (by omega)]); conv => whnf))
      | (refine ⟨_, rfl, ?_⟩; conv => whnf)
      | (refine ⟨_, _, rfl, ⟨_, rfl, rfl⟩, ?_⟩; conv => whnf)
      | (refine ⟨_, _, rfl, ?_⟩
         with_reducible apply ix_ex
         · repeat (first | with_reducible exact ix_nI | assumption | with_reducible apply ix_add | with_reducible apply ix_mul | (with_reducible apply ix_sub) | (with_reducible apply ix_upd) | (with_reducible apply ix_div) | omega)
         (refine ⟨⟨by omega, by decide⟩, ?_⟩; conv => whnf))
      | (with_reducible apply br_le
         · repeat (first | with_reducible exact ix_nI | assumption | with_reducible apply ix_add | with_reducible apply ix_mul | (with_reducible apply ix_sub) | (with_reducible apply ix_upd) | (with_reducible apply ix_div) | omega)
         · repeat (first | with_reducible exact ix_nI | assumption | with_reducible apply ix_add | with_reducible apply ix_mul | (with_reducible apply ix_sub) | (with_reducible apply ix_upd) | (with_reducible apply ix_div) | omega)
         · omega
         · omega
         all_goals (intro hc; first | omega | (conv => whnf)))
      | (with_reducible apply br_lt
         · repeat (first | with_reducible exact ix_nI | assumption | with_reducible apply ix_add | with_reducible apply ix_mul | (with_reducible apply ix_sub) | (with_reducible apply ix_upd) | (with_reducible apply ix_div) | omega)
         · repeat (first | with_reducible exact ix_nI | assumption | with_reducible apply ix_add | with_reducible apply ix_mul | (with_reducible apply ix_sub) | (with_reducible apply ix_upd) | (with_reducible apply ix_div) | omega)
         · omega
         · omega
         all_goals (intro hc; first | omega | (conv => whnf)))
      | (with_reducible apply br_eq
         · repeat (first | with_reducible exact ix_nI | assumption | with_reducible apply ix_add | with_reducible apply ix_mul | (with_reducible apply ix_sub) | (with_reducible apply ix_upd) | (with_reducible apply ix_div) | omega)
         · repeat (first | with_reducible exact ix_nI | assumption | with_reducible apply ix_add | with_reducible apply ix_mul | (with_reducible apply ix_sub) | (with_reducible apply ix_upd) | (with_reducible apply ix_div) | omega)
         · omega
         · omega
         all_goals (intro hc; first | omega | (conv => whnf)))
      | (with_reducible apply br_ne
         · repeat (first | with_reducible exact ix_nI | assumption | with_reducible apply ix_add | with_reducible apply ix_mul | (with_reducible apply ix_sub) | (with_reducible apply ix_upd) | (with_reducible apply ix_div) | omega)
         · repeat (first | with_reducible exact ix_nI | assumption | with_reducible apply ix_add | with_reducible apply ix_mul | (with_reducible apply ix_sub) | (with_reducible apply ix_upd) | (with_reducible apply ix_div) | omega)
         · omega
         · omega
         all_goals (intro hc; first | omega | (conv => whnf)))
      | (with_reducible apply br_eq0
         · repeat (first | with_reducible exact ix_nI | assumption | with_reducible apply ix_add | with_reducible apply ix_mul | (with_reducible apply ix_sub) | (with_reducible apply ix_upd) | (with_reducible apply ix_div) | omega)
         · omega
         all_goals (intro hc; first | omega | (conv => whnf)))
      | (with_reducible apply br_ne0
         · repeat (first | with_reducible exact ix_nI | assumption | with_reducible apply ix_add | with_reducible apply ix_mul | (with_reducible apply ix_sub) | (with_reducible apply ix_upd) | (with_reducible apply ix_div) | omega)
         · omega
         all_goals (intro hc; first | omega | (conv => whnf)))
      | (with_reducible apply br_le0
         · repeat (first | with_reducible exact ix_nI | assumption | with_reducible apply ix_add | with_reducible apply ix_mul | (with_reducible apply ix_sub) | (with_reducible apply ix_upd) | (with_reducible apply ix_div) | omega)
         · omega
         all_goals (intro hc; first | omega | (conv => whnf)))
      | (with_reducible apply br_gt0
         · repeat (first | with_reducible exact ix_nI | assumption | with_reducible apply ix_add | with_reducible apply ix_mul | (with_reducible apply ix_sub) | (with_reducible apply ix_upd) | (with_reducible apply ix_div) | omega)
         · omega
         all_goals (intro hc; first | omega | (conv => whnf)))
      | (with_reducible apply br_lt0
         · repeat (first | with_reducible exact ix_nI | assumption | with_reducible apply ix_add | with_reducible apply ix_mul | (with_reducible apply ix_sub) | (with_reducible apply ix_upd) | (with_reducible apply ix_div) | omega)
         · omega
         conv => whnf)
      | (with_reducible apply br_ge0
         · repeat (first | with_reducible exact ix_nI | assumption | with_reducible apply ix_add | with_reducible apply ix_mul | (with_reducible apply ix_sub) | (with_reducible apply ix_upd) | (with_reducible apply ix_div) | omega)
         · omega
         conv => whnf)
      | (with_reducible apply br_tab
         · repeat (first | with_reducible exact ix_nI | assumption | with_reducible apply ix_add | with_reducible apply ix_mul | (with_reducible apply ix_sub) | (with_reducible apply ix_upd) | (with_reducible apply ix_div) | omega)
         · omega
         all_goals (intro hc; (try dsimp only at hc); first | omega | (conv => whnf)))
      | (refine And.intro (fun hc => ?_) (fun hc => ?_) <;> conv => whnf)
      | (refine And.intro (by decide) ?_; conv => whnf)
      | fail)
    all_goals
      refine wp_use hW ?_
      exact hgo.le (by repeat' (first | exact trivial | refine And.intro rfl ?_))
theorem l_wend {z3 : ZZ} {sm : Int32} (hp : p < 8) (hK : K (.inl (some (.int sm))) (setL h0 (upd (upd (upd (upd z3 (30 + p) (nI 1)) (38 + p) (z3 6)) (46 + p) (nI 0)) (78 + p) y) k) w) : wp G (d + 1) kL_writes w.2.1 w.2.2 K 95 [some (.ref 154), some (.ref 155), some (.ref 156), some (.ref 157), some (.ref 158), some (.ref 159), some (.ref 163), some (.int (nI p)), some (.int y), none, some (.int sm), some (.int (nI (p + 3))), none] [] (setL h0 z3 k) w := by
  refine wp_vc [95,137,173] 95 rfl fun W' C hW hC => ?_
  conv => whnf
  repeat' (first
    | (refine ⟨_, _, rfl, ?_⟩
       with_reducible apply ix_ex
       · repeat (first | with_reducible exact ix_nI | assumption | with_reducible apply ix_add | with_reducible apply ix_mul | (with_reducible apply ix_sub) | (with_reducible apply ix_upd) | (with_reducible apply ix_div) | omega)
       (refine ⟨⟨by omega, by decide⟩, ?_⟩; (first | rw [slc_in (by omega)] | rw [nZ_0] | rw [nZ_1] | rw [nZ_2] | rw [nZ_3] | rw [nZ_4] | rw [nZ_5] | rw [nZ_6] | rw [nZ_7] | rw [nZ_8] | rw [nZ_9] | rw [nZ_10] | rw [nZ_11] | rw [nZ_12] | rw [nZ_w (by omega)] | rw [nZ_s (by omega)]); conv => whnf))
    | (refine ⟨_, _, rfl, ?_⟩
       with_reducible apply ix_ex
       · repeat (first | with_reducible exact ix_nI | assumption | with_reducible apply ix_add | with_reducible apply ix_mul | (with_reducible apply ix_sub) | (with_reducible apply ix_upd) | (with_reducible apply ix_div) | omega)
       (refine ⟨⟨by omega, by decide⟩, ?_⟩; (first | rw [setL_a (by omega)] | rw [setL_b (by omega)] | rw [setL_st (by omega)] | rw [setL_si (by omega)] | rw [setL_fa (by omega)] | rw [setL_rd (by omega)] | rw [setL_fl (by omega)] | rw [setL_fe (by omega)] | rw [setL_da (by omega)] | rw [setL_ma (by omega)] | rw [setL_k] | rw [setL_n0] | rw [setL_n1] | rw [setL_n2] | rw [setL_n3] | rw [setL_n4] | rw [setL_n6] | rw [setL_n7] | rw [setL_n8] | rw [setL_n9] | rw [setL_n10] | rw [setL_n11] | rw [setL_n12] | rw [setL_w (by omega)] | rw [setL_s (by omega)]); conv => whnf))
    | (refine ⟨_, rfl, ?_⟩; conv => whnf)
    | (refine ⟨_, _, rfl, ⟨_, rfl, rfl⟩, ?_⟩; conv => whnf)
    | (refine ⟨_, _, rfl, ?_⟩
       with_reducible apply ix_ex
       · repeat (first | with_reducible exact ix_nI | assumption | with_reducible apply ix_add | with_reducible apply ix_mul | (with_reducible apply ix_sub) | (with_reducible apply ix_upd) | (with_reducible apply ix_div) | omega)
       (refine ⟨⟨by omega, by decide⟩, ?_⟩; conv => whnf))
    | (with_reducible apply br_le
       · repeat (first | with_reducible exact ix_nI | assumption | with_reducible apply ix_add | with_reducible apply ix_mul | (with_reducible apply ix_sub) | (with_reducible apply ix_upd) | (with_reducible apply ix_div) | omega)
       · repeat (first | with_reducible exact ix_nI | assumption | with_reducible apply ix_add | with_reducible apply ix_mul | (with_reducible apply ix_sub) | (with_reducible apply ix_upd) | (with_reducible apply ix_div) | omega)
       · omega
       · omega
       all_goals (intro hc; first | omega | (conv => whnf)))
    | (with_reducible apply br_lt
       · repeat (first | with_reducible exact ix_nI | assumption | with_reducible apply ix_add | with_reducible apply ix_mul | (with_reducible apply ix_sub) | (with_reducible apply ix_upd) | (with_reducible apply ix_div) | omega)
       · repeat (first | with_reducible exact ix_nI | assumption | with_reducible apply ix_add | with_reducible apply ix_mul | (with_reducible apply ix_sub) | (with_reducible apply ix_upd) | (with_reducible apply ix_div) | omega)
       · omega
       · omega
       all_goals (intro hc; first | omega | (conv => whnf)))
    | (with_reducible apply br_eq
       · repeat (first | with_reducible exact ix_nI | assumption | with_reducible apply ix_add | with_reducible apply ix_mul | (with_reducible apply ix_sub) | (with_reducible apply ix_upd) | (with_reducible apply ix_div) | omega)
       · repeat (first | with_reducible exact ix_nI | assumption | with_reducible apply ix_add | with_reducible apply ix_mul | (with_reducible apply ix_sub) | (with_reducible apply ix_upd) | (with_reducible apply ix_div) | omega)
       · omega
       · omega
       all_goals (intro hc; first | omega | (conv => whnf)))
    | (with_reducible apply br_ne
       · repeat (first | with_reducible exact ix_nI | assumption | with_reducible apply ix_add | with_reducible apply ix_mul | (with_reducible apply ix_sub) | (with_reducible apply ix_upd) | (with_reducible apply ix_div) | omega)
       · repeat (first | with_reducible exact ix_nI | assumption | with_reducible apply ix_add | with_reducible apply ix_mul | (with_reducible apply ix_sub) | (with_reducible apply ix_upd) | (with_reducible apply ix_div) | omega)
       · omega
       · omega
       all_goals (intro hc; first | omega | (conv => whnf)))
    | (with_reducible apply br_eq0
       · repeat (first | with_reducible exact ix_nI | assumption | with_reducible apply ix_add | with_reducible apply ix_mul | (with_reducible apply ix_sub) | (with_reducible apply ix_upd) | (with_reducible apply ix_div) | omega)
       · omega
       all_goals (intro hc; first | omega | (conv => whnf)))
    | (with_reducible apply br_ne0
       · repeat (first | with_reducible exact ix_nI | assumption | with_reducible apply ix_add | with_reducible apply ix_mul | (with_reducible apply ix_sub) | (with_reducible apply ix_upd) | (with_reducible apply ix_div) | omega)
       · omega
       all_goals (intro hc; first | omega | (conv => whnf)))
    | (with_reducible apply br_le0
       · repeat (first | with_reducible exact ix_nI | assumption | with_reducible apply ix_add | with_reducible apply ix_mul | (with_reducible apply ix_sub) | (with_reducible apply ix_upd) | (with_reducible apply ix_div) | omega)
       · omega
       all_goals (intro hc; first | omega | (conv => whnf)))
    | (with_reducible apply br_gt0
       · repeat (first | with_reducible exact ix_nI | assumption | with_reducible apply ix_add | with_reducible apply ix_mul | (with_reducible apply ix_sub) | (with_reducible apply ix_upd) | (with_reducible apply ix_div) | omega)
       · omega
       all_goals (intro hc; first | omega | (conv => whnf)))
    | (with_reducible apply br_lt0
       · repeat (first | with_reducible exact ix_nI | assumption | with_reducible apply ix_add | with_reducible apply ix_mul | (with_reducible apply ix_sub) | (with_reducible apply ix_upd) | (with_reducible apply ix_div) | omega)
       · omega
       conv => whnf)
    | (with_reducible apply br_ge0
       · repeat (first | with_reducible exact ix_nI | assumption | with_reducible apply ix_add | with_reducible apply ix_mul | (with_reducible apply ix_sub) | (with_reducible apply ix_upd) | (with_reducible apply ix_div) | omega)
       · omega
       conv => whnf)
    | (with_reducible apply br_tab
       · repeat (first | with_reducible exact ix_nI | assumption | with_reducible apply ix_add | with_reducible apply ix_mul | (with_reducible apply ix_sub) | (with_reducible apply ix_upd) | (with_reducible apply ix_div) | omega)
       · omega
       all_goals (intro hc; (try dsimp only at hc); first | omega | (conv => whnf)))
    | (refine And.intro (fun hc => ?_) (fun hc => ?_) <;> conv => whnf)
    | (refine And.intro (by decide) ?_; conv => whnf)
    | fail)
  rw [upd_ne (show 6 ≠ 30 + p by omega)]
  exact hK
theorem l_w2 {z2 : ZZ} {sm : Int32} (hp : p < 8) (hK : K (.inl (some (.int sm))) (setL h0 (let z3 := if p % 4 < 3 then distZ z2 (p + 1) else z2
  upd (upd (upd (upd z3 (30 + p) (nI 1)) (38 + p) (z3 6)) (46 + p) (nI 0)) (78 + p) y) k) w) : wp G (d + 1) kL_writes w.2.1 w.2.2 K 95 [some (.ref 154), some (.ref 155), some (.ref 156), some (.ref 157), some (.ref 158), some (.ref 159), some (.ref 163), some (.int (nI p)), some (.int y), none, some (.int sm), some (.int (nI (p + 1))), none] [] (setL h0 z2 k) w := by
  refine l_wq hp (Nat.le_refl _) ?_
  have e : (if (p + 1) / 4 = p / 4 then distZ z2 (p + 1) else z2) = if p % 4 < 3 then distZ z2 (p + 1) else z2 := by
    by_cases h3 : p % 4 < 3
    · rw [if_pos (by omega), if_pos h3]
    · rw [if_neg (by omega), if_neg h3]
  rw [e]
  refine wp_vc [95] 60 rfl fun W' C hW hC => ?_
  conv => whnf
  refine wp_use hW ?_
  rw [nI_add]
  exact (l_wend hp hK).le (by repeat' (first | exact trivial | refine And.intro rfl ?_))
theorem l_w1 {z1 : ZZ} {sm : Int32} (hp : p < 8) (hK : K (.inl (some (.int sm))) (setL h0 (let z2 := if 0 < p % 4 then distZ z1 (p - 1) else z1
  let z3 := if p % 4 < 3 then distZ z2 (p + 1) else z2
  upd (upd (upd (upd z3 (30 + p) (nI 1)) (38 + p) (z3 6)) (46 + p) (nI 0)) (78 + p) y) k) w) : wp G (d + 1) kL_writes w.2.1 w.2.2 K 95 [some (.ref 154), some (.ref 155), some (.ref 156), some (.ref 157), some (.ref 158), some (.ref 159), some (.ref 163), some (.int (nI p)), some (.int y), none, some (.int sm), some (.int (nI p - nI 1)), none] [] (setL h0 z1 k) w := by
  by_cases hp0 : p = 0
  · subst hp0
    have hK' := hK
    refine wp_vc [95,137,173] 60 rfl fun W' C hW hC => ?_
    conv => whnf
    refine And.intro (fun hcc => absurd hcc (by decide)) (fun _ => ?_)
    conv => whnf
    refine And.intro (fun _ => ?_) (fun hcc => absurd (show nI 0 - nI 1 < 0 by decide) hcc)
    conv => whnf
    refine wp_use hW ?_
    have h9 := l_w2 (p := 0) (z2 := z1) (w := w) (G := G) (d := d) (h0 := h0) (k := k) (K := K) (by omega) hK'
    refine wp_vc [95] 60 rfl fun W' C hW hC => ?_
    conv => whnf
    refine wp_use hW ?_
    have e : nI 0 - nI 1 + nI 2 = nI (0 + 1) := by decide
    rw [e]
    exact h9.le (by repeat' (first | exact trivial | refine And.intro rfl ?_))
  · rw [pk_sub (show 1 ≤ p by omega)]
    refine l_wq hp (by omega) ?_
    have e : (if (p - 1) / 4 = p / 4 then distZ z1 (p - 1) else z1) = if 0 < p % 4 then distZ z1 (p - 1) else z1 := by
      by_cases h3 : 0 < p % 4
      · rw [if_pos (by omega), if_pos h3]
      · rw [if_neg (by omega), if_neg h3]
    rw [e]
    refine wp_vc [95] 60 rfl fun W' C hW hC => ?_
    conv => whnf
    refine wp_use hW ?_
    rw [nI_add, show p - 1 + 2 = p + 1 by omega]
    exact (l_w2 hp hK).le (by repeat' (first | exact trivial | refine And.intro rfl ?_))
theorem l_writes {xp : Int32} (hI : Ivz n z) (ep : xp = nI p) (hp : p < 8) (hK : K (.inl (some (.int (sumN (chg (writesZ z p y) p) 16)))) (setL h0 (writesZ z p y) k) w) : Cl G (d + 1) kL_writes [.ref 154, .ref 155, .ref 156, .ref 157, .ref 158, .ref 159, .ref 163, .int xp, .int y] (setL h0 z k) w K := by
  subst ep
  rw [← lwZ_w hp] at hK
  rw [sumN_congr (f := chg (lwZ z p y) p) (g := chg (lwr z p y (jitJ z p) 16) p) (fun c hc => lwZ_cell hc)] at hK
  obtain ⟨J, hJ, eJ⟩ := bd_J hI hp
  have ej : z 0 + z 5 * z (28 + p / 4) = jitJ z p := rfl
  refine Cl.of (by decide) rfl ?_
  refine wp_vc [26] 60 rfl fun W' C hW hC => ?_
  conv => whnf
  repeat' (first
    | (refine ⟨_, _, rfl, ?_⟩
       with_reducible apply ix_ex
       · repeat (first | with_reducible exact ix_nI | assumption | with_reducible apply ix_add | with_reducible apply ix_mul | (with_reducible apply ix_sub) | (with_reducible apply ix_upd) | (with_reducible apply ix_div) | omega)
       (refine ⟨⟨by omega, by decide⟩, ?_⟩; (first | rw [slc_in (by omega)] | rw [nZ_0] | rw [nZ_1] | rw [nZ_2] | rw [nZ_3] | rw [nZ_4] | rw [nZ_5] | rw [nZ_6] | rw [nZ_7] | rw [nZ_8] | rw [nZ_9] | rw [nZ_10] | rw [nZ_11] | rw [nZ_12] | rw [nZ_w (by omega)] | rw [nZ_s (by omega)]); conv => whnf))
    | (refine ⟨_, _, rfl, ?_⟩
       with_reducible apply ix_ex
       · repeat (first | with_reducible exact ix_nI | assumption | with_reducible apply ix_add | with_reducible apply ix_mul | (with_reducible apply ix_sub) | (with_reducible apply ix_upd) | (with_reducible apply ix_div) | omega)
       (refine ⟨⟨by omega, by decide⟩, ?_⟩; (first | rw [setL_a (by omega)] | rw [setL_b (by omega)] | rw [setL_st (by omega)] | rw [setL_si (by omega)] | rw [setL_fa (by omega)] | rw [setL_rd (by omega)] | rw [setL_fl (by omega)] | rw [setL_fe (by omega)] | rw [setL_da (by omega)] | rw [setL_ma (by omega)] | rw [setL_k] | rw [setL_n0] | rw [setL_n1] | rw [setL_n2] | rw [setL_n3] | rw [setL_n4] | rw [setL_n6] | rw [setL_n7] | rw [setL_n8] | rw [setL_n9] | rw [setL_n10] | rw [setL_n11] | rw [setL_n12] | rw [setL_w (by omega)] | rw [setL_s (by omega)]); conv => whnf))
    | (refine ⟨_, rfl, ?_⟩; conv => whnf)
    | (refine ⟨_, _, rfl, ⟨_, rfl, rfl⟩, ?_⟩; conv => whnf)
    | (refine ⟨_, _, rfl, ?_⟩
       with_reducible apply ix_ex
       · repeat (first | with_reducible exact ix_nI | assumption | with_reducible apply ix_add | with_reducible apply ix_mul | (with_reducible apply ix_sub) | (with_reducible apply ix_upd) | (with_reducible apply ix_div) | omega)
       (refine ⟨⟨by omega, by decide⟩, ?_⟩; conv => whnf))
    | (with_reducible apply br_le
       · repeat (first | with_reducible exact ix_nI | assumption | with_reducible apply ix_add | with_reducible apply ix_mul | (with_reducible apply ix_sub) | (with_reducible apply ix_upd) | (with_reducible apply ix_div) | omega)
       · repeat (first | with_reducible exact ix_nI | assumption | with_reducible apply ix_add | with_reducible apply ix_mul | (with_reducible apply ix_sub) | (with_reducible apply ix_upd) | (with_reducible apply ix_div) | omega)
       · omega
       · omega
       all_goals (intro hc; first | omega | (conv => whnf)))
    | (with_reducible apply br_lt
       · repeat (first | with_reducible exact ix_nI | assumption | with_reducible apply ix_add | with_reducible apply ix_mul | (with_reducible apply ix_sub) | (with_reducible apply ix_upd) | (with_reducible apply ix_div) | omega)
       · repeat (first | with_reducible exact ix_nI | assumption | with_reducible apply ix_add | with_reducible apply ix_mul | (with_reducible apply ix_sub) | (with_reducible apply ix_upd) | (with_reducible apply ix_div) | omega)
       · omega
       · omega
       all_goals (intro hc; first | omega | (conv => whnf)))
    | (with_reducible apply br_eq
       · repeat (first | with_reducible exact ix_nI | assumption | with_reducible apply ix_add | with_reducible apply ix_mul | (with_reducible apply ix_sub) | (with_reducible apply ix_upd) | (with_reducible apply ix_div) | omega)
       · repeat (first | with_reducible exact ix_nI | assumption | with_reducible apply ix_add | with_reducible apply ix_mul | (with_reducible apply ix_sub) | (with_reducible apply ix_upd) | (with_reducible apply ix_div) | omega)
       · omega
       · omega
       all_goals (intro hc; first | omega | (conv => whnf)))
    | (with_reducible apply br_ne
       · repeat (first | with_reducible exact ix_nI | assumption | with_reducible apply ix_add | with_reducible apply ix_mul | (with_reducible apply ix_sub) | (with_reducible apply ix_upd) | (with_reducible apply ix_div) | omega)
       · repeat (first | with_reducible exact ix_nI | assumption | with_reducible apply ix_add | with_reducible apply ix_mul | (with_reducible apply ix_sub) | (with_reducible apply ix_upd) | (with_reducible apply ix_div) | omega)
       · omega
       · omega
       all_goals (intro hc; first | omega | (conv => whnf)))
    | (with_reducible apply br_eq0
       · repeat (first | with_reducible exact ix_nI | assumption | with_reducible apply ix_add | with_reducible apply ix_mul | (with_reducible apply ix_sub) | (with_reducible apply ix_upd) | (with_reducible apply ix_div) | omega)
       · omega
       all_goals (intro hc; first | omega | (conv => whnf)))
    | (with_reducible apply br_ne0
       · repeat (first | with_reducible exact ix_nI | assumption | with_reducible apply ix_add | with_reducible apply ix_mul | (with_reducible apply ix_sub) | (with_reducible apply ix_upd) | (with_reducible apply ix_div) | omega)
       · omega
       all_goals (intro hc; first | omega | (conv => whnf)))
    | (with_reducible apply br_le0
       · repeat (first | with_reducible exact ix_nI | assumption | with_reducible apply ix_add | with_reducible apply ix_mul | (with_reducible apply ix_sub) | (with_reducible apply ix_upd) | (with_reducible apply ix_div) | omega)
       · omega
       all_goals (intro hc; first | omega | (conv => whnf)))
    | (with_reducible apply br_gt0
       · repeat (first | with_reducible exact ix_nI | assumption | with_reducible apply ix_add | with_reducible apply ix_mul | (with_reducible apply ix_sub) | (with_reducible apply ix_upd) | (with_reducible apply ix_div) | omega)
       · omega
       all_goals (intro hc; first | omega | (conv => whnf)))
    | (with_reducible apply br_lt0
       · repeat (first | with_reducible exact ix_nI | assumption | with_reducible apply ix_add | with_reducible apply ix_mul | (with_reducible apply ix_sub) | (with_reducible apply ix_upd) | (with_reducible apply ix_div) | omega)
       · omega
       conv => whnf)
    | (with_reducible apply br_ge0
       · repeat (first | with_reducible exact ix_nI | assumption | with_reducible apply ix_add | with_reducible apply ix_mul | (with_reducible apply ix_sub) | (with_reducible apply ix_upd) | (with_reducible apply ix_div) | omega)
       · omega
       conv => whnf)
    | (with_reducible apply br_tab
       · repeat (first | with_reducible exact ix_nI | assumption | with_reducible apply ix_add | with_reducible apply ix_mul | (with_reducible apply ix_sub) | (with_reducible apply ix_upd) | (with_reducible apply ix_div) | omega)
       · omega
       all_goals (intro hc; (try dsimp only at hc); first | omega | (conv => whnf)))
    | (refine And.intro (fun hc => ?_) (fun hc => ?_) <;> conv => whnf)
    | (refine And.intro (by decide) ?_; conv => whnf)
    | fail)
  refine wp_use hW ?_
  rw [ej]
  have key := upto (W := fun i => wp G (d + 1) kL_writes w.2.1 w.2.2 K 26 [some (.ref 154), some (.ref 155), some (.ref 156), some (.ref 157), some (.ref 158), some (.ref 159), some (.ref 163), some (.int (nI p)), some (.int y), some (.int (jitJ z p)), some (.int (sumN (chg (lwr z p y (jitJ z p) i) p) i)), some (.int (nI i)), none] [] (setL h0 (lwr z p y (jitJ z p) i) k) w) 16 ?_ ?_
  · exact key.le (by repeat' (first | exact trivial | refine And.intro rfl ?_))
  · refine wp_vc [26,95] 60 rfl fun W' C hW hC => ?_
    conv => whnf
    repeat' (first
      | (refine ⟨_, rfl, ?_⟩; conv => whnf)
      | (refine ⟨_, _, rfl, ⟨_, rfl, rfl⟩, ?_⟩; conv => whnf)
      | (refine ⟨_, _, rfl, ?_⟩
         with_reducible apply ix_ex
         · repeat (first | with_reducible exact ix_nI | assumption | with_reducible apply ix_add | with_reducible apply ix_mul | (with_reducible apply ix_sub) | (with_reducible apply ix_upd) | (with_reducible apply ix_div) | omega)
         (refine ⟨⟨by omega, by decide⟩, ?_⟩; conv => whnf))
      | (with_reducible apply br_le
         · repeat (first | with_reducible exact ix_nI | assumption | with_reducible apply ix_add | with_reducible apply ix_mul | (with_reducible apply ix_sub) | (with_reducible apply ix_upd) | (with_reducible apply ix_div) | omega)
         · repeat (first | with_reducible exact ix_nI | assumption | with_reducible apply ix_add | with_reducible apply ix_mul | (with_reducible apply ix_sub) | (with_reducible apply ix_upd) | (with_reducible apply ix_div) | omega)
         · omega
         · omega
         all_goals (intro hc; first | omega | (conv => whnf)))
      | (with_reducible apply br_lt
         · repeat (first | with_reducible exact ix_nI | assumption | with_reducible apply ix_add | with_reducible apply ix_mul | (with_reducible apply ix_sub) | (with_reducible apply ix_upd) | (with_reducible apply ix_div) | omega)
         · repeat (first | with_reducible exact ix_nI | assumption | with_reducible apply ix_add | with_reducible apply ix_mul | (with_reducible apply ix_sub) | (with_reducible apply ix_upd) | (with_reducible apply ix_div) | omega)
         · omega
         · omega
         all_goals (intro hc; first | omega | (conv => whnf)))
      | (with_reducible apply br_eq
         · repeat (first | with_reducible exact ix_nI | assumption | with_reducible apply ix_add | with_reducible apply ix_mul | (with_reducible apply ix_sub) | (with_reducible apply ix_upd) | (with_reducible apply ix_div) | omega)
         · repeat (first | with_reducible exact ix_nI | assumption | with_reducible apply ix_add | with_reducible apply ix_mul | (with_reducible apply ix_sub) | (with_reducible apply ix_upd) | (with_reducible apply ix_div) | omega)
         · omega
         · omega
         all_goals (intro hc; first | omega | (conv => whnf)))
      | (with_reducible apply br_ne
         · repeat (first | with_reducible exact ix_nI | assumption | with_reducible apply ix_add | with_reducible apply ix_mul | (with_reducible apply ix_sub) | (with_reducible apply ix_upd) | (with_reducible apply ix_div) | omega)
         · repeat (first | with_reducible exact ix_nI | assumption | with_reducible apply ix_add | with_reducible apply ix_mul | (with_reducible apply ix_sub) | (with_reducible apply ix_upd) | (with_reducible apply ix_div) | omega)
         · omega
         · omega
         all_goals (intro hc; first | omega | (conv => whnf)))
      | (with_reducible apply br_eq0
         · repeat (first | with_reducible exact ix_nI | assumption | with_reducible apply ix_add | with_reducible apply ix_mul | (with_reducible apply ix_sub) | (with_reducible apply ix_upd) | (with_reducible apply ix_div) | omega)
         · omega
         all_goals (intro hc; first | omega | (conv => whnf)))
      | (with_reducible apply br_ne0
         · repeat (first | with_reducible exact ix_nI | assumption | with_reducible apply ix_add | with_reducible apply ix_mul | (with_reducible apply ix_sub) | (with_reducible apply ix_upd) | (with_reducible apply ix_div) | omega)
         · omega
         all_goals (intro hc; first | omega | (conv => whnf)))
      | (with_reducible apply br_le0
         · repeat (first | with_reducible exact ix_nI | assumption | with_reducible apply ix_add | with_reducible apply ix_mul | (with_reducible apply ix_sub) | (with_reducible apply ix_upd) | (with_reducible apply ix_div) | omega)
         · omega
         all_goals (intro hc; first | omega | (conv => whnf)))
      | (with_reducible apply br_gt0
         · repeat (first | with_reducible exact ix_nI | assumption | with_reducible apply ix_add | with_reducible apply ix_mul | (with_reducible apply ix_sub) | (with_reducible apply ix_upd) | (with_reducible apply ix_div) | omega)
         · omega
         all_goals (intro hc; first | omega | (conv => whnf)))
      | (with_reducible apply br_lt0
         · repeat (first | with_reducible exact ix_nI | assumption | with_reducible apply ix_add | with_reducible apply ix_mul | (with_reducible apply ix_sub) | (with_reducible apply ix_upd) | (with_reducible apply ix_div) | omega)
         · omega
         conv => whnf)
      | (with_reducible apply br_ge0
         · repeat (first | with_reducible exact ix_nI | assumption | with_reducible apply ix_add | with_reducible apply ix_mul | (with_reducible apply ix_sub) | (with_reducible apply ix_upd) | (with_reducible apply ix_div) | omega)
         · omega
         conv => whnf)
      | (with_reducible apply br_tab
         · repeat (first | with_reducible exact ix_nI | assumption | with_reducible apply ix_add | with_reducible apply ix_mul | (with_reducible apply ix_sub) | (with_reducible apply ix_upd) | (with_reducible apply ix_div) | omega)
         · omega
         all_goals (intro hc; (try dsimp only at hc); first | omega | (conv => whnf)))
      | (refine And.intro (fun hc => ?_) (fun hc => ?_) <;> conv => whnf)
      | (refine And.intro (by decide) ?_; conv => whnf)
      | fail)
    refine wp_use hW ?_
    exact (l_w1 (z1 := lwr z p y (jitJ z p) 16) hp hK).le (by repeat' (first | exact trivial | refine And.intro rfl ?_))
  · intro i hi ih
    have eb : nI 2 * jitJ z p + nI 1 = nI (2 * J + 1) := by rw [eJ, pk_mul, nI_add]
    have hs := lwr_ivz (y := y) (J := jitJ z p) hI hp i (by omega)
    have es : sumN (chg (lwr z p y (jitJ z p) (i + 1)) p) (i + 1) = sumN (chg (lwr z p y (jitJ z p) i) p) i + lwr z p y (jitJ z p) (i + 1) (86 + 16 * p + i) := by
      rw [sumN]
      rw [sumN_congr (n := i) (f := chg (lwr z p y (jitJ z p) (i + 1)) p) (g := chg (lwr z p y (jitJ z p) i) p) (fun c hc => lwr_in (c + 1) (i + 1) (by omega) (by omega) |>.trans (lwr_in (c + 1) i (by omega) (by omega)).symm)]
      rfl
    rw [es] at ih
    refine wp_vc [26,95] 60 rfl fun W' C hW hC => ?_
    conv => whnf
    repeat' (first
      | (refine ⟨_, _, rfl, ?_⟩
         with_reducible apply ix_ex
         · repeat (first | with_reducible exact ix_nI | assumption | with_reducible apply ix_add | with_reducible apply ix_mul | (with_reducible apply ix_sub) | (with_reducible apply ix_upd) | (with_reducible apply ix_div) | omega)
         (refine ⟨⟨by omega, by decide⟩, ?_⟩; (first | rw [slc_in (by omega)] | rw [nZ_0] | rw [nZ_1] | rw [nZ_2] | rw [nZ_3] | rw [nZ_4] | rw [nZ_5] | rw [nZ_6] | rw [nZ_7] | rw [nZ_8] | rw [nZ_9] | rw [nZ_10] | rw [nZ_11] | rw [nZ_12] | rw [nZ_w (by omega)] | rw [nZ_s (by omega)]); conv => whnf))
      | (refine ⟨_, _, rfl, ?_⟩
         with_reducible apply ix_ex
         · repeat (first | with_reducible exact ix_nI | assumption | with_reducible apply ix_add | with_reducible apply ix_mul | (with_reducible apply ix_sub) | (with_reducible apply ix_upd) | (with_reducible apply ix_div) | omega)
         (refine ⟨⟨by omega, by decide⟩, ?_⟩; (first | rw [setL_a (by omega)] | rw [setL_b (by omega)] | rw [setL_st (by omega)] | rw [setL_si (by omega)] | rw [setL_fa (by omega)] | rw [setL_rd (by omega)] | rw [setL_fl (by omega)] | rw [setL_fe (by omega)] | rw [setL_da (by omega)] | rw [setL_ma (by omega)] | rw [setL_k] | rw [setL_n0] | rw [setL_n1] | rw [setL_n2] | rw [setL_n3] | rw [setL_n4] | rw [setL_n6] | rw [setL_n7] | rw [setL_n8] | rw [setL_n9] | rw [setL_n10] | rw [setL_n11] | rw [setL_n12] | rw [setL_w (by omega)] | rw [setL_s (by omega)]); conv => whnf))
        | (refine cl_use hC (l_level rfl hi ?_); conv => whnf)
        | (refine cl_use hC (l_draw eb (by omega) (by omega) hs ?_); conv => whnf)
        | (refine cl_use hC (l_get rfl rfl hp hi ?_); conv => whnf)
        | (refine cl_use hC (l_put rfl rfl hp hi ?_); conv => whnf)
      | (refine ⟨_, rfl, ?_⟩; conv => whnf)
      | (refine ⟨_, _, rfl, ⟨_, rfl, rfl⟩, ?_⟩; conv => whnf)
      | (refine ⟨_, _, rfl, ?_⟩
         with_reducible apply ix_ex
         · repeat (first | with_reducible exact ix_nI | assumption | with_reducible apply ix_add | with_reducible apply ix_mul | (with_reducible apply ix_sub) | (with_reducible apply ix_upd) | (with_reducible apply ix_div) | omega)
         (refine ⟨⟨by omega, by decide⟩, ?_⟩; conv => whnf))
      | (with_reducible apply br_le
         · repeat (first | with_reducible exact ix_nI | assumption | with_reducible apply ix_add | with_reducible apply ix_mul | (with_reducible apply ix_sub) | (with_reducible apply ix_upd) | (with_reducible apply ix_div) | omega)
         · repeat (first | with_reducible exact ix_nI | assumption | with_reducible apply ix_add | with_reducible apply ix_mul | (with_reducible apply ix_sub) | (with_reducible apply ix_upd) | (with_reducible apply ix_div) | omega)
         · omega
         · omega
         all_goals (intro hc; first | omega | (conv => whnf)))
      | (with_reducible apply br_lt
         · repeat (first | with_reducible exact ix_nI | assumption | with_reducible apply ix_add | with_reducible apply ix_mul | (with_reducible apply ix_sub) | (with_reducible apply ix_upd) | (with_reducible apply ix_div) | omega)
         · repeat (first | with_reducible exact ix_nI | assumption | with_reducible apply ix_add | with_reducible apply ix_mul | (with_reducible apply ix_sub) | (with_reducible apply ix_upd) | (with_reducible apply ix_div) | omega)
         · omega
         · omega
         all_goals (intro hc; first | omega | (conv => whnf)))
      | (with_reducible apply br_eq
         · repeat (first | with_reducible exact ix_nI | assumption | with_reducible apply ix_add | with_reducible apply ix_mul | (with_reducible apply ix_sub) | (with_reducible apply ix_upd) | (with_reducible apply ix_div) | omega)
         · repeat (first | with_reducible exact ix_nI | assumption | with_reducible apply ix_add | with_reducible apply ix_mul | (with_reducible apply ix_sub) | (with_reducible apply ix_upd) | (with_reducible apply ix_div) | omega)
         · omega
         · omega
         all_goals (intro hc; first | omega | (conv => whnf)))
      | (with_reducible apply br_ne
         · repeat (first | with_reducible exact ix_nI | assumption | with_reducible apply ix_add | with_reducible apply ix_mul | (with_reducible apply ix_sub) | (with_reducible apply ix_upd) | (with_reducible apply ix_div) | omega)
         · repeat (first | with_reducible exact ix_nI | assumption | with_reducible apply ix_add | with_reducible apply ix_mul | (with_reducible apply ix_sub) | (with_reducible apply ix_upd) | (with_reducible apply ix_div) | omega)
         · omega
         · omega
         all_goals (intro hc; first | omega | (conv => whnf)))
      | (with_reducible apply br_eq0
         · repeat (first | with_reducible exact ix_nI | assumption | with_reducible apply ix_add | with_reducible apply ix_mul | (with_reducible apply ix_sub) | (with_reducible apply ix_upd) | (with_reducible apply ix_div) | omega)
         · omega
         all_goals (intro hc; first | omega | (conv => whnf)))
      | (with_reducible apply br_ne0
         · repeat (first | with_reducible exact ix_nI | assumption | with_reducible apply ix_add | with_reducible apply ix_mul | (with_reducible apply ix_sub) | (with_reducible apply ix_upd) | (with_reducible apply ix_div) | omega)
         · omega
         all_goals (intro hc; first | omega | (conv => whnf)))
      | (with_reducible apply br_le0
         · repeat (first | with_reducible exact ix_nI | assumption | with_reducible apply ix_add | with_reducible apply ix_mul | (with_reducible apply ix_sub) | (with_reducible apply ix_upd) | (with_reducible apply ix_div) | omega)
         · omega
         all_goals (intro hc; first | omega | (conv => whnf)))
      | (with_reducible apply br_gt0
         · repeat (first | with_reducible exact ix_nI | assumption | with_reducible apply ix_add | with_reducible apply ix_mul | (with_reducible apply ix_sub) | (with_reducible apply ix_upd) | (with_reducible apply ix_div) | omega)
         · omega
         all_goals (intro hc; first | omega | (conv => whnf)))
      | (with_reducible apply br_lt0
         · repeat (first | with_reducible exact ix_nI | assumption | with_reducible apply ix_add | with_reducible apply ix_mul | (with_reducible apply ix_sub) | (with_reducible apply ix_upd) | (with_reducible apply ix_div) | omega)
         · omega
         conv => whnf)
      | (with_reducible apply br_ge0
         · repeat (first | with_reducible exact ix_nI | assumption | with_reducible apply ix_add | with_reducible apply ix_mul | (with_reducible apply ix_sub) | (with_reducible apply ix_upd) | (with_reducible apply ix_div) | omega)
         · omega
         conv => whnf)
      | (with_reducible apply br_tab
         · repeat (first | with_reducible exact ix_nI | assumption | with_reducible apply ix_add | with_reducible apply ix_mul | (with_reducible apply ix_sub) | (with_reducible apply ix_upd) | (with_reducible apply ix_div) | omega)
         · omega
         all_goals (intro hc; (try dsimp only at hc); first | omega | (conv => whnf)))
      | (refine And.intro (fun hc => ?_) (fun hc => ?_) <;> conv => whnf)
      | (refine And.intro (by decide) ?_; conv => whnf)
      | fail)
    refine wp_use hW ?_
    rw [nI_add, ← eb]
    exact ih.le (by repeat' (first | exact trivial | refine And.intro rfl ?_))
end P2
