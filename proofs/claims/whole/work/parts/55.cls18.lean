/-! ===== the class: the bits of the mean ===== -/
theorem l_add1 {a : Nat} : Int64.ofNat a + Int64.ofNat 1 = Int64.ofNat (a + 1) := (Int64.ofNat_add a 1).symm
theorem l_sub1 {a : Nat} (h : 1 ≤ a) : Int64.ofNat a - Int64.ofNat 1 = Int64.ofNat (a - 1) := by
  obtain ⟨b, rfl⟩ : ∃ b, a = b + 1 := ⟨a - 1, by omega⟩
  rw [← l_add1, Int64.add_sub_cancel, Nat.add_sub_cancel]
theorem t_lt {E T : Nat} (h1 : 1 ≤ E) (h2 : E < 1024) (hT : T < 4503599627370496) : FP.dcmp (dbl E T) two = some .lt := dc_lt (F := 1024) h1 (by omega) hT (by omega) (by rw [two_dec]; rfl) h2
theorem t_ge {E T : Nat} (h1 : 1024 ≤ E) (h2 : E ≤ 2046) (hT : T < 4503599627370496) : FP.dcmp (dbl E T) two = some .gt ∨ FP.dcmp (dbl E T) two = some .eq := dc_ge (F := 1024) (by omega) (by omega) hT (by omega) (by rw [two_dec]; rfl) h1
theorem o_lt {E T : Nat} (h1 : 1 ≤ E) (h2 : E < 1023) (hT : T < 4503599627370496) : FP.dcmp (dbl E T) FP.dconst1 = some .lt := dc_lt (F := 1023) h1 (by omega) hT (by omega) (by rw [one_dec]; rfl) h2
theorem o_ge {E T : Nat} (h1 : 1023 ≤ E) (h2 : E ≤ 2046) (hT : T < 4503599627370496) : FP.dcmp (dbl E T) FP.dconst1 = some .gt ∨ FP.dcmp (dbl E T) FP.dconst1 = some .eq := dc_ge (F := 1023) (by omega) (by omega) hT (by omega) (by rw [one_dec]; rfl) h1
theorem br_pc (P : Int32 → Prop) {x k : Int32} {A B : Prop} (e : x = k) (f : P k → A) (g : ¬ P k → B) : (P x → A) ∧ (¬ P x → B) := by
  subst e
  exact ⟨f, g⟩
section C20
variable {G : GG} {d n p : Nat} {A : AS} {h0 h : AH} {w : W3} {K : AO → AH → W3 → Prop}
theorem c_bits0 (hK : K (.inl (some (.long 0))) h w) : Cl G d kX4_bitsOf [.double 0] h w K := by
  have hc : FP.dcmp 0 FP.dconst0 = some .eq := by decide
  refine Cl.of (by decide) rfl ?_
  refine wp_vc [] 60 rfl fun W' C hW hC => ?_
  conv => whnf
  refine br_pc (fun y => 0 < y) (congrArg (fun o => Op.cmpValue o CmpOp.l) hc) (fun hcc => absurd hcc (by decide)) (fun _ => ?_)
  conv => whnf
  exact hK
theorem c_bitsN {E T : Nat} (h1 : 1 ≤ E) (h2 : E ≤ 2046) (hT : T < 4503599627370496) (hK : K (.inl (some (.long (dbl E T).toInt64))) h w) : Cl G d kX4_bitsOf [.double (dbl E T)] h w K := by
  have hc := dc_0 h1 h2 hT
  have key87 : wp G d kX4_bitsOf w.2.1 w.2.2 K 87 [none, none, some (.double (dbl 1023 T)), none, some (.long (Int64.ofNat E)), none, none] [] h w := by
    obtain ⟨g1, g2, g3⟩ := dl_ok hT
    refine wp_vc [] 60 rfl fun W' C hW hC => ?_
    conv => whnf
    refine And.intro g1 ?_
    conv => whnf
    refine And.intro g2 ?_
    conv => whnf
    rw [← sh_52 (by omega) hT, ← g3] at hK
    exact hK
  have key55 := upto (W := fun i => wp G d kX4_bitsOf w.2.1 w.2.2 K 55 [none, none, some (.double (dbl (min E 1023 + i) T)), none, some (.long (Int64.ofNat (max E 1023 - i))), none, some (.int (nI i))] [] h w) (1023 - min E 1023) ?_ ?_
  · have key18 := upto (W := fun i => wp G d kX4_bitsOf w.2.1 w.2.2 K 18 [none, none, some (.double (dbl (E - i) T)), none, some (.long (Int64.ofNat (1023 + i))), none, some (.int (nI i))] [] h w) (E - 1023) ?_ ?_
    · refine Cl.of (by decide) rfl ?_
      refine wp_vc [18] 60 rfl fun W' C hW hC => ?_
      conv => whnf
      refine br_pc (fun y => 0 < y) (congrArg (fun o => Op.cmpValue o CmpOp.l) hc) (fun _ => ?_) (fun hcc => absurd (by decide) hcc)
      conv => whnf
      repeat' (first
        | (refine ⟨_, rfl, ?_⟩; conv => whnf)
        | (refine ⟨_, _, rfl, ⟨_, rfl, rfl⟩, ?_⟩; conv => whnf)
        | (refine ⟨_, _, rfl, ?_⟩
           with_reducible apply ix_ex
           · repeat (first | with_reducible exact ix_nI | assumption | with_reducible apply ix_add | with_reducible apply ix_mul | (with_reducible apply ix_sub) | (with_reducible apply ix_upd) | (with_reducible apply ix_div) | omega)
           (refine ⟨⟨by omega, by decide⟩, ?_⟩; conv => whnf))
        | (with_reducible apply br_le
           · repeat (first | with_reducible exact ix_nI | assumption | with_reducible apply ix_add | with_reducible apply ix_mul | (with_reducible apply ix_sub) | (with_reducible apply ix_upd) | (with_reducible apply ix_div) | omega)
           · repeat (first | with_reducible exact ix_nI | assumption | with_reducible apply ix_add | with_reducible apply ix_mul | (with_reducible apply ix_sub) | (with_reducible apply ix_upd) | (with_reducible apply ix_div) | omega)
           · omega
           · omega
           all_goals (intro hc; first | omega | (conv => whnf)))
        | (with_reducible apply br_lt
           · repeat (first | with_reducible exact ix_nI | assumption | with_reducible apply ix_add | with_reducible apply ix_mul | (with_reducible apply ix_sub) | (with_reducible apply ix_upd) | (with_reducible apply ix_div) | omega)
           · repeat (first | with_reducible exact ix_nI | assumption | with_reducible apply ix_add | with_reducible apply ix_mul | (with_reducible apply ix_sub) | (with_reducible apply ix_upd) | (with_reducible apply ix_div) | omega)
           · omega
           · omega
           all_goals (intro hc; first | omega | (conv => whnf)))
        | (with_reducible apply br_eq
           · repeat (first | with_reducible exact ix_nI | assumption | with_reducible apply ix_add | with_reducible apply ix_mul | (with_reducible apply ix_sub) | (with_reducible apply ix_upd) | (with_reducible apply ix_div) | omega)
           · repeat (first | with_reducible exact ix_nI | assumption | with_reducible apply ix_add | with_reducible apply ix_mul | (with_reducible apply ix_sub) | (with_reducible apply ix_upd) | (with_reducible apply ix_div) | omega)
           · omega
           · omega
           all_goals (intro hc; first | omega | (conv => whnf)))
        | (with_reducible apply br_ne
           · repeat (first | with_reducible exact ix_nI | assumption | with_reducible apply ix_add | with_reducible apply ix_mul | (with_reducible apply ix_sub) | (with_reducible apply ix_upd) | (with_reducible apply ix_div) | omega)
           · repeat (first | with_reducible exact ix_nI | assumption | with_reducible apply ix_add | with_reducible apply ix_mul | (with_reducible apply ix_sub) | (with_reducible apply ix_upd) | (with_reducible apply ix_div) | omega)
           · omega
           · omega
           all_goals (intro hc; first | omega | (conv => whnf)))
        | (with_reducible apply br_eq0
           · repeat (first | with_reducible exact ix_nI | assumption | with_reducible apply ix_add | with_reducible apply ix_mul | (with_reducible apply ix_sub) | (with_reducible apply ix_upd) | (with_reducible apply ix_div) | omega)
           · omega
           all_goals (intro hc; first | omega | (conv => whnf)))
        | (with_reducible apply br_ne0
           · repeat (first | with_reducible exact ix_nI | assumption | with_reducible apply ix_add | with_reducible apply ix_mul | (with_reducible apply ix_sub) | (with_reducible apply ix_upd) | (with_reducible apply ix_div) | omega)
           · omega
           all_goals (intro hc; first | omega | (conv => whnf)))
        | (with_reducible apply br_le0
           · repeat (first | with_reducible exact ix_nI | assumption | with_reducible apply ix_add | with_reducible apply ix_mul | (with_reducible apply ix_sub) | (with_reducible apply ix_upd) | (with_reducible apply ix_div) | omega)
           · omega
           all_goals (intro hc; first | omega | (conv => whnf)))
        | (with_reducible apply br_gt0
           · repeat (first | with_reducible exact ix_nI | assumption | with_reducible apply ix_add | with_reducible apply ix_mul | (with_reducible apply ix_sub) | (with_reducible apply ix_upd) | (with_reducible apply ix_div) | omega)
           · omega
           all_goals (intro hc; first | omega | (conv => whnf)))
        | (with_reducible apply br_lt0
           · repeat (first | with_reducible exact ix_nI | assumption | with_reducible apply ix_add | with_reducible apply ix_mul | (with_reducible apply ix_sub) | (with_reducible apply ix_upd) | (with_reducible apply ix_div) | omega)
           · omega
           conv => whnf)
        | (with_reducible apply br_ge0
           · repeat (first | with_reducible exact ix_nI | assumption | with_reducible apply ix_add | with_reducible apply ix_mul | (with_reducible apply ix_sub) | (with_reducible apply ix_upd) | (with_reducible apply ix_div) | omega)
           · omega
           conv => whnf)
        | (with_reducible apply br_tab
           · repeat (first | with_reducible exact ix_nI | assumption | with_reducible apply ix_add | with_reducible apply ix_mul | (with_reducible apply ix_sub) | (with_reducible apply ix_upd) | (with_reducible apply ix_div) | omega)
           · omega
           all_goals (intro hc; (try dsimp only at hc); first | omega | (conv => whnf)))
        | (refine And.intro (fun hc => ?_) (fun hc => ?_) <;> conv => whnf)
        | (refine And.intro (by decide) ?_; conv => whnf)
        | fail)
      refine wp_use hW ?_
      exact key18.le (by repeat' (first | exact trivial | refine And.intro rfl ?_))
    · have e1 : E - (E - 1023) = min E 1023 := by omega
      have e2 : 1023 + (E - 1023) = max E 1023 - 0 := by omega
      rw [e1, e2]
      have hl := t_lt (E := min E 1023) (T := T) (by omega) (by omega) hT
      refine wp_vc [55] 60 rfl fun W' C hW hC => ?_
      conv => whnf
      refine br_le ix_nI ix_nI (by omega) (by omega) (fun _ => ?_) (fun _ => ?_) <;> conv => whnf
      · refine wp_use hW ?_
        exact key55.le (by repeat' (first | exact trivial | refine And.intro rfl ?_))
      · refine br_pc (fun y => y < 0) (congrArg (fun o => Op.cmpValue o CmpOp.l) hl) (fun _ => ?_) (fun hcc => absurd (by decide) hcc)
        conv => whnf
        refine wp_use hW ?_
        exact key55.le (by repeat' (first | exact trivial | refine And.intro rfl ?_))
    · intro i hi ih
      have hg := t_ge (E := E - i) (T := T) (by omega) (by omega) hT
      have hh := dd_half (E := E - i) (T := T) (by omega) (by omega) hT
      have hn := n64_dbl (E := E - i - 1) (T := T) (by omega) hT
      rw [show E - (i + 1) = E - i - 1 by omega] at ih
      rcases hg with hg | hg
      all_goals
        refine wp_vc [18] 60 rfl fun W' C hW hC => ?_
        conv => whnf
        refine br_le ix_nI ix_nI (by omega) (by omega) (fun _ => absurd hi (by omega)) (fun _ => ?_)
        conv => whnf
        refine br_pc (fun y => y < 0) (congrArg (fun o => Op.cmpValue o CmpOp.l) hg) (fun hcc => absurd hcc (by decide)) (fun _ => ?_)
        conv => whnf
        refine And.intro (by rw [hh]; exact hn) ?_
        conv => whnf
        refine wp_use hW ?_
        rw [nI_add]
        have ih2 := ih
        rw [← hh, show 1023 + (i + 1) = 1023 + i + 1 by omega, ← l_add1] at ih2
        exact ih2
  · have e1 : min E 1023 + (1023 - min E 1023) = 1023 := by omega
    have e2 : max E 1023 - (1023 - min E 1023) = E := by omega
    rw [e1, e2]
    have hg := o_ge (E := 1023) (T := T) (by omega) (by omega) hT
    rcases hg with hg | hg
    all_goals
      refine wp_vc [87] 60 rfl fun W' C hW hC => ?_
      conv => whnf
      refine br_le ix_nI ix_nI (by omega) (by omega) (fun _ => ?_) (fun _ => ?_) <;> conv => whnf
      · refine wp_use hW ?_
        exact key87.le (by repeat' (first | exact trivial | refine And.intro rfl ?_))
      · refine br_pc (fun y => 0 ≤ y) (congrArg (fun o => Op.cmpValue o CmpOp.g) hg) (fun _ => ?_) (fun hcc => absurd (by decide) hcc)
        conv => whnf
        refine wp_use hW ?_
        exact key87.le (by repeat' (first | exact trivial | refine And.intro rfl ?_))
  · intro i hi ih
    have hl := o_lt (E := min E 1023 + i) (T := T) (by omega) (by omega) hT
    have hh := dd_twice (E := min E 1023 + i) (T := T) (by omega) (by omega) hT
    have hn := n64_dbl (E := min E 1023 + i + 1) (T := T) (by omega) hT
    refine wp_vc [55] 60 rfl fun W' C hW hC => ?_
    conv => whnf
    refine br_le ix_nI ix_nI (by omega) (by omega) (fun _ => absurd hi (by omega)) (fun _ => ?_)
    conv => whnf
    refine br_pc (fun y => 0 ≤ y) (congrArg (fun o => Op.cmpValue o CmpOp.g) hl) (fun hcc => absurd hcc (by decide)) (fun _ => ?_)
    conv => whnf
    refine And.intro (by rw [hh]; exact hn) ?_
    conv => whnf
    refine wp_use hW ?_
    rw [nI_add]
    have ih2 := ih
    rw [← Nat.add_assoc, ← hh, show max E 1023 - (i + 1) = max E 1023 - i - 1 by omega, ← l_sub1 (by omega)] at ih2
    exact ih2
theorem b_ok {n : Nat} {z : ZZ} (hI : Ivz n z) (hn : n ≤ 100000) : BOk G z := by
  intro d h w K hK
  rcases mn_good hI hn with ⟨h1, _⟩ | ⟨E, T, h1, h2, h3, h4, _⟩
  · rw [h1] at hK ⊢
    exact c_bits0 hK
  · rw [h4] at hK ⊢
    exact c_bitsN h1 h2 h3 hK
end C20
