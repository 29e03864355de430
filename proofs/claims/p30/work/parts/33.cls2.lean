/-! ===== the class: wrong bits ===== -/
def pcX (x : Int32) : Int32 :=
  let s (x : Int32) (k : Nat) : Int32 := (x.toUInt32 >>> ((nI k).toUInt32 &&& Int32.toUInt32 31)).toInt32
  let i1 := x - (s x 1 &&& nI 1431655765)
  let i2 := (i1 &&& nI 858993459) + (s i1 2 &&& nI 858993459)
  let i3 := (i2 + s i2 4) &&& nI 252645135
  let i4 := i3 + s i3 8
  let i5 := i4 + s i4 16
  i5 &&& nI 63
theorem bc_ok {x : Int32} : tn (pcX x) = bcN (tn x) := by
  unfold pcX bcN
  dsimp only
  have a1 : (tn x >>> 1) &&& 1431655765 ≤ tn x := Nat.le_trans Nat.and_le_left (by rw [Nat.shiftRight_eq_div_pow]; omega)
  have e1 : tn (x - ((x.toUInt32 >>> ((nI 1).toUInt32 &&& Int32.toUInt32 31)).toInt32 &&& nI 1431655765)) = tn x - ((tn x >>> 1) &&& 1431655765) := by
    have h : tn ((x.toUInt32 >>> ((nI 1).toUInt32 &&& Int32.toUInt32 31)).toInt32 &&& nI 1431655765) = (tn x >>> 1) &&& 1431655765 := by
      rw [tn_and, tn_shr (by omega), tn_nI (by omega)]
    rw [tn_sub (by rw [h]; exact a1), h]
  generalize x - ((x.toUInt32 >>> ((nI 1).toUInt32 &&& Int32.toUInt32 31)).toInt32 &&& nI 1431655765) = i1 at *
  rw [← e1]
  have h1 : tn i1 &&& 858993459 ≤ 858993459 := Nat.and_le_right
  have h2 : (tn i1 >>> 2) &&& 858993459 ≤ 858993459 := Nat.and_le_right
  have e2 : tn ((i1 &&& nI 858993459) + ((i1.toUInt32 >>> ((nI 2).toUInt32 &&& Int32.toUInt32 31)).toInt32 &&& nI 858993459)) = (tn i1 &&& 858993459) + ((tn i1 >>> 2) &&& 858993459) := by
    have g1 : tn (i1 &&& nI 858993459) = tn i1 &&& 858993459 := by rw [tn_and, tn_nI (by omega)]
    have g2 : tn ((i1.toUInt32 >>> ((nI 2).toUInt32 &&& Int32.toUInt32 31)).toInt32 &&& nI 858993459) = (tn i1 >>> 2) &&& 858993459 := by rw [tn_and, tn_shr (by omega), tn_nI (by omega)]
    rw [tn_add (by rw [g1, g2]; omega), g1, g2]
  generalize (i1 &&& nI 858993459) + ((i1.toUInt32 >>> ((nI 2).toUInt32 &&& Int32.toUInt32 31)).toInt32 &&& nI 858993459) = i2 at *
  rw [← e2]
  have h3 : tn i2 ≤ 1717986918 := by omega
  have e3 : tn ((i2 + (i2.toUInt32 >>> ((nI 4).toUInt32 &&& Int32.toUInt32 31)).toInt32) &&& nI 252645135) = (tn i2 + (tn i2 >>> 4)) &&& 252645135 := by
    have g1 : tn ((i2.toUInt32 >>> ((nI 4).toUInt32 &&& Int32.toUInt32 31)).toInt32) = tn i2 >>> 4 := tn_shr (by omega)
    rw [tn_and, tn_add (by rw [g1, Nat.shiftRight_eq_div_pow]; omega), g1, tn_nI (by omega)]
  have h4 : (tn i2 + (tn i2 >>> 4)) &&& 252645135 ≤ 252645135 := Nat.and_le_right
  generalize (i2 + (i2.toUInt32 >>> ((nI 4).toUInt32 &&& Int32.toUInt32 31)).toInt32) &&& nI 252645135 = i3 at *
  rw [← e3] at h4 ⊢
  have e4 : tn (i3 + (i3.toUInt32 >>> ((nI 8).toUInt32 &&& Int32.toUInt32 31)).toInt32) = tn i3 + (tn i3 >>> 8) := by
    have g1 : tn ((i3.toUInt32 >>> ((nI 8).toUInt32 &&& Int32.toUInt32 31)).toInt32) = tn i3 >>> 8 := tn_shr (by omega)
    rw [tn_add (by rw [g1, Nat.shiftRight_eq_div_pow]; omega), g1]
  have h5 : tn i3 + (tn i3 >>> 8) ≤ 600000000 := by rw [Nat.shiftRight_eq_div_pow]; omega
  generalize i3 + (i3.toUInt32 >>> ((nI 8).toUInt32 &&& Int32.toUInt32 31)).toInt32 = i4 at *
  rw [← e4] at h5 ⊢
  have e5 : tn (i4 + (i4.toUInt32 >>> ((nI 16).toUInt32 &&& Int32.toUInt32 31)).toInt32) = tn i4 + (tn i4 >>> 16) := by
    have g1 : tn ((i4.toUInt32 >>> ((nI 16).toUInt32 &&& Int32.toUInt32 31)).toInt32) = tn i4 >>> 16 := tn_shr (by omega)
    rw [tn_add (by rw [g1, Nat.shiftRight_eq_div_pow]; omega), g1]
  rw [tn_and, e5, tn_nI (by omega)]
def sumF (g : Nat → Nat) : Nat → Nat
  | 0 => 0
  | n + 1 => sumF g n + g n
theorem sumN_nI {f : Nat → Int32} {g : Nat → Nat} : ∀ {n : Nat}, (∀ i, i < n → f i = nI (g i)) → sumN f n = nI (sumF g n)
  | 0, _ => nI_0.symm
  | n + 1, h => by rw [sumN, sumN_nI (fun i hi => h i (by omega)), h n (by omega), nI_add, sumF]
def orB (g : Nat → Int32) : Nat → Int32
  | 0 => nI 0
  | c + 1 => orB g c ||| (g c <<< (nI 2 * nI c &&& 31))
theorem btO_4 (x : Int32) : ∃ k, k < 4 ∧ btO x = nI k := by
  unfold btO
  repeat' split
  · exact ⟨3, by omega, rfl⟩
  · exact ⟨1, by omega, rfl⟩
  · exact ⟨0, by omega, rfl⟩
  · exact ⟨2, by omega, rfl⟩
theorem dg_lt {X c : Nat} : dg X c < 4 := Nat.lt_of_le_of_lt Nat.and_le_right (by decide)
theorem dg_xor {X Y c : Nat} : dg (X ^^^ Y) c = dg X c ^^^ dg Y c := by
  unfold dg
  rw [Nat.shiftRight_xor_distrib, Nat.and_xor_distrib_right]
theorem dg_div {X c : Nat} : dg X c = X / 4 ^ c % 4 := by
  unfold dg
  rw [Nat.shiftRight_eq_div_pow, Nat.pow_mul]
  exact Nat.and_two_pow_sub_one_eq_mod _ 2
theorem orB_tn {g : Nat → Int32} (hg : ∀ c, tn (g c) < 4) : ∀ n, n ≤ 16 → tn (orB g n) < 4 ^ n ∧ ∀ c, c < n → dg (tn (orB g n)) c = tn (g c)
  | 0, _ => ⟨by rw [orB, tn_nI (by omega)]; decide, fun c hc => absurd hc (by omega)⟩
  | n + 1, hn => by
    obtain ⟨h1, h2⟩ := orB_tn hg n (by omega)
    have hn4 := hg n
    have e4 : 4 ^ n = 2 ^ (2 * n) := (Nat.pow_mul 2 2 n).symm
    have hle : 4 ^ (n + 1) ≤ 4 ^ 16 := Nat.pow_le_pow_right (by omega) hn
    have hm : tn (g n) * 4 ^ n ≤ 3 * 4 ^ n := Nat.mul_le_mul_right _ (by omega)
    have hs : 4 ^ (n + 1) = 4 * 4 ^ n := by rw [Nat.pow_succ, Nat.mul_comm]
    have e : tn (orB g (n + 1)) = 4 ^ n * tn (g n) + tn (orB g n) := by
      rw [orB, tn_or, pk_mul, tn_shl (by omega), Nat.shiftLeft_eq, ← e4, Nat.mod_eq_of_lt (by omega), Nat.mul_comm, Nat.or_comm, e4, Nat.two_pow_add_eq_or_of_lt (by rw [← e4]; exact h1)]
    have e' : 4 ^ n * tn (g n) = tn (g n) * 4 ^ n := Nat.mul_comm _ _
    refine ⟨by omega, fun c hc => ?_⟩
    rw [e, dg_div]
    by_cases hcn : c = n
    · subst hcn
      rw [Nat.mul_add_div (Nat.pow_pos (by omega)), Nat.div_eq_of_lt h1, Nat.add_zero, Nat.mod_eq_of_lt hn4]
    · rw [← h2 c (by omega), dg_div]
      have hp : 4 ^ n = 4 ^ c * (4 * 4 ^ (n - c - 1)) := by rw [← Nat.pow_succ', ← Nat.pow_add]; congr 1; omega
      rw [hp, Nat.mul_assoc, Nat.mul_add_div (Nat.pow_pos (by omega)), Nat.mul_assoc, Nat.mul_add_mod]
theorem wrtW_dg {wd : Int32} {c : Nat} (hc : c < 16) : wrtW wd c = nI (dg (tn wd) c) := by
  apply tn_inj
  unfold wrtW
  rw [tn_and, pk_mul, tn_shr (by omega), tn_nI (by omega), tn_nI (Nat.lt_trans dg_lt (by omega))]
  rfl
theorem ones_pc : ∀ d, d < 4 → onesB (nI d) = nI (pc2 d)
  | 0, _ => by decide
  | 1, _ => by decide
  | 2, _ => by decide
  | 3, _ => by decide
  | d + 4, h => absurd h (by omega)
theorem nI_xor {a b : Nat} (ha : a < 4) (hb : b < 4) : nI a ^^^ nI b = nI (a ^^^ b) := by
  apply tn_inj
  have h : a ^^^ b < 2 ^ 2 := Nat.xor_lt_two_pow ha hb
  rw [tn_xor, tn_nI (by omega), tn_nI (by omega), tn_nI (by omega)]
/-- the wrong bits counted at once are those counted cell by cell -/
theorem pc_cells {g : Nat → Int32} {wd r : Int32} (hg : ∀ c, ∃ k, k < 4 ∧ g c = nI k) (hr : tn r = bcN (tn (orB g 16 ^^^ wd))) : r = sumN (fun c => onesB (g c ^^^ wrtW wd c)) 16 := by
  have hg4 : ∀ c, tn (g c) < 4 := fun c => by
    obtain ⟨k, hk, e⟩ := hg c
    rw [e, tn_nI (by omega)]
    exact hk
  have hgn : ∀ c, g c = nI (tn (g c)) := fun c => tn_inj (tn_nI (Nat.lt_trans (hg4 c) (by omega))).symm
  obtain ⟨h1, h2⟩ := orB_tn hg4 16 (by omega)
  have hd : ∀ c, c < 16 → dg (tn (orB g 16 ^^^ wd)) c = tn (g c) ^^^ dg (tn wd) c := fun c hc => by rw [tn_xor, dg_xor, h2 c hc]
  rw [sumN_nI (g := fun c => pc2 (dg (tn (orB g 16 ^^^ wd)) c)) fun c hc => ?_]
  · apply tn_inj
    rw [hr, bcN_dg tn_lt]
    have hp : ∀ d, d < 4 → pc2 d ≤ 2 := fun d hd => by
      match d, hd with
      | 0, _ => decide
      | 1, _ => decide
      | 2, _ => decide
      | 3, _ => decide
      | d + 4, h => exact absurd h (by omega)
    have hs : ∀ n, sumF (fun c => pc2 (dg (tn (orB g 16 ^^^ wd)) c)) n ≤ 2 * n := by
      intro n
      induction n with
      | zero => exact Nat.le_refl _
      | succ n ih =>
        have := hp _ (dg_lt (X := tn (orB g 16 ^^^ wd)) (c := n))
        rw [sumF]
        omega
    have hs16 := hs 16
    rw [tn_nI (by omega)]
    simp only [sumF, Nat.zero_add]
  · rw [hd c hc, wrtW_dg hc, ← ones_pc _ (Nat.xor_lt_two_pow (n := 2) (hg4 c) dg_lt), ← nI_xor (hg4 c) dg_lt, ← hgn c]
theorem lvC_4 (q x y v : Int32) : ∃ j, j < 4 ∧ lvC q x y v = nI j := by
  unfold lvC
  by_cases h1 : q < v <;> by_cases h2 : q < x <;> by_cases h3 : q < y <;> simp only [h1, h2, h3, if_true, if_false, nI_add]
  all_goals exact ⟨_, by omega, rfl⟩
theorem xv4 {xs : Nat → Int32} : ∀ j, j < 4 → xval xs 4 j = btO (nI j)
  | 0, _ => rfl
  | 1, _ => rfl
  | 2, _ => rfl
  | 3, _ => rfl
  | j + 4, h => absurd h (by omega)
/-- the wrong bits of charges q at thresholds -/
def wbC (q : ZZ) (wd x y v : Int32) : Int32 := sumN (fun c => onesB (btO (lvC (q c) x y v) ^^^ wrtW wd c)) 16
section C3
variable {G : GG} {d n : Nat} {h0 h : AH} {w : W3} {K : AO → AH → W3 → Prop}
theorem c_bitCount {x : Int32} (hK : ∀ r, tn r = bcN (tn x) → K (.inl (some (.int r))) h w) : Cl G d kJ6_bitCount_0f7a4 [.int x] h w K := by
  refine Cl.of (by decide) rfl ?_
  refine wp_vc [] 60 rfl fun W' C hW hC => ?_
  conv => whnf
  exact hK (pcX x) bc_ok
theorem c_wrongBits {a c : Nat} {q : ZZ} {s1 wd x y v : Int32} {F : List Value} (hp : h a = .inr (3, .ref c :: .int s1 :: .int wd :: F)) (hq : h c = .inl (0, 16, .inl q)) (hK : ∀ r, r = wbC q wd x y v → K (.inl (some (.int r))) h w) : Cl G (d + 1) kX3_wrongBits [.ref a, .int x, .int y, .int v] h w K := by
  refine Cl.of (by decide) rfl ?_
  refine wp_vc [6] 60 rfl fun W' C hW hC => ?_
  conv => whnf
  refine wp_use hW ?_
  have key := upto (W := fun i => wp G (d + 1) kX3_wrongBits w.2.1 w.2.2 K 6 [some (.ref a), some (.int x), some (.int y), some (.int v), some (.int (orB (fun c => btO (lvC (q c) x y v)) i)), some (.int (nI i)), none] [] h w) 16 ?_ ?_
  · exact key.le (by repeat' (first | exact trivial | refine And.intro rfl ?_))
  · refine wp_vc [6] 60 rfl fun W' C hW hC => ?_
    conv => whnf
    repeat' (first
      | (refine ⟨_, rfl, ?_⟩; conv => whnf)
      | (refine ⟨_, _, rfl, ⟨_, rfl, rfl⟩, ?_⟩; conv => whnf)
      | (refine ⟨_, _, rfl, ?_⟩
         with_reducible apply ix_ex
         · repeat (first | with_reducible exact ix_nI | assumption | with_reducible apply ix_add | with_reducible apply ix_mul | (with_reducible apply ix_sub) | (with_reducible apply ix_upd) | (with_reducible apply ix_div) | omega)
         (refine ⟨⟨by omega, by decide⟩, ?_⟩; conv => whnf))
      | (with_reducible apply br_le
         · repeat (first | with_reducible exact ix_nI | assumption | with_reducible apply ix_add | with_reducible apply ix_mul | (with_reducible apply ix_sub) | (with_reducible apply ix_upd) | (with_reducible apply ix_div) | omega)
         · repeat (first | with_reducible exact ix_nI | assumption | with_reducible apply ix_add | with_reducible apply ix_mul | (with_reducible apply ix_sub) | (with_reducible apply ix_upd) | (with_reducible apply ix_div) | omega)
         · omega
         · omega
         all_goals (intro hc; first | omega | (conv => whnf)))
      | (with_reducible apply br_lt
         · repeat (first | with_reducible exact ix_nI | assumption | with_reducible apply ix_add | with_reducible apply ix_mul | (with_reducible apply ix_sub) | (with_reducible apply ix_upd) | (with_reducible apply ix_div) | omega)
         · repeat (first | with_reducible exact ix_nI | assumption | with_reducible apply ix_add | with_reducible apply ix_mul | (with_reducible apply ix_sub) | (with_reducible apply ix_upd) | (with_reducible apply ix_div) | omega)
         · omega
         · omega
         all_goals (intro hc; first | omega | (conv => whnf)))
      | (with_reducible apply br_eq
         · repeat (first | with_reducible exact ix_nI | assumption | with_reducible apply ix_add | with_reducible apply ix_mul | (with_reducible apply ix_sub) | (with_reducible apply ix_upd) | (with_reducible apply ix_div) | omega)
         · repeat (first | with_reducible exact ix_nI | assumption | with_reducible apply ix_add | with_reducible apply ix_mul | (with_reducible apply ix_sub) | (with_reducible apply ix_upd) | (with_reducible apply ix_div) | omega)
         · omega
         · omega
         all_goals (intro hc; first | omega | (conv => whnf)))
      | (with_reducible apply br_ne
         · repeat (first | with_reducible exact ix_nI | assumption | with_reducible apply ix_add | with_reducible apply ix_mul | (with_reducible apply ix_sub) | (with_reducible apply ix_upd) | (with_reducible apply ix_div) | omega)
         · repeat (first | with_reducible exact ix_nI | assumption | with_reducible apply ix_add | with_reducible apply ix_mul | (with_reducible apply ix_sub) | (with_reducible apply ix_upd) | (with_reducible apply ix_div) | omega)
         · omega
         · omega
         all_goals (intro hc; first | omega | (conv => whnf)))
      | (with_reducible apply br_eq0
         · repeat (first | with_reducible exact ix_nI | assumption | with_reducible apply ix_add | with_reducible apply ix_mul | (with_reducible apply ix_sub) | (with_reducible apply ix_upd) | (with_reducible apply ix_div) | omega)
         · omega
         all_goals (intro hc; first | omega | (conv => whnf)))
      | (with_reducible apply br_ne0
         · repeat (first | with_reducible exact ix_nI | assumption | with_reducible apply ix_add | with_reducible apply ix_mul | (with_reducible apply ix_sub) | (with_reducible apply ix_upd) | (with_reducible apply ix_div) | omega)
         · omega
         all_goals (intro hc; first | omega | (conv => whnf)))
      | (with_reducible apply br_le0
         · repeat (first | with_reducible exact ix_nI | assumption | with_reducible apply ix_add | with_reducible apply ix_mul | (with_reducible apply ix_sub) | (with_reducible apply ix_upd) | (with_reducible apply ix_div) | omega)
         · omega
         all_goals (intro hc; first | omega | (conv => whnf)))
      | (with_reducible apply br_gt0
         · repeat (first | with_reducible exact ix_nI | assumption | with_reducible apply ix_add | with_reducible apply ix_mul | (with_reducible apply ix_sub) | (with_reducible apply ix_upd) | (with_reducible apply ix_div) | omega)
         · omega
         all_goals (intro hc; first | omega | (conv => whnf)))
      | (with_reducible apply br_lt0
         · repeat (first | with_reducible exact ix_nI | assumption | with_reducible apply ix_add | with_reducible apply ix_mul | (with_reducible apply ix_sub) | (with_reducible apply ix_upd) | (with_reducible apply ix_div) | omega)
         · omega
         conv => whnf)
      | (with_reducible apply br_ge0
         · repeat (first | with_reducible exact ix_nI | assumption | with_reducible apply ix_add | with_reducible apply ix_mul | (with_reducible apply ix_sub) | (with_reducible apply ix_upd) | (with_reducible apply ix_div) | omega)
         · omega
         conv => whnf)
      | (with_reducible apply br_tab
         · repeat (first | with_reducible exact ix_nI | assumption | with_reducible apply ix_add | with_reducible apply ix_mul | (with_reducible apply ix_sub) | (with_reducible apply ix_upd) | (with_reducible apply ix_div) | omega)
         · omega
         all_goals (intro hc; (try dsimp only at hc); first | omega | (conv => whnf)))
      | (refine ⟨_, hp, ?_⟩; conv => whnf)
        | (refine cl_use hC (c_bitCount fun r hr => ?_); conv => whnf)
      | (refine And.intro (fun hc => ?_) (fun hc => ?_) <;> conv => whnf)
      | (refine And.intro (by decide) ?_; conv => whnf)
      | fail)
    exact hK _ (pc_cells (fun c => btO_4 _) hr)
  · intro i hi ih
    refine wp_vc [6] 60 rfl fun W' C hW hC => ?_
    conv => whnf
    repeat' (first
      | (refine ⟨_, rfl, ?_⟩; conv => whnf)
      | (refine ⟨_, _, rfl, ⟨_, rfl, rfl⟩, ?_⟩; conv => whnf)
      | (refine ⟨_, _, rfl, ?_⟩
         with_reducible apply ix_ex
         · repeat (first | with_reducible exact ix_nI | assumption | with_reducible apply ix_add | with_reducible apply ix_mul | (with_reducible apply ix_sub) | (with_reducible apply ix_upd) | (with_reducible apply ix_div) | omega)
         (refine ⟨⟨by omega, by decide⟩, ?_⟩; conv => whnf))
      | (with_reducible apply br_le
         · repeat (first | with_reducible exact ix_nI | assumption | with_reducible apply ix_add | with_reducible apply ix_mul | (with_reducible apply ix_sub) | (with_reducible apply ix_upd) | (with_reducible apply ix_div) | omega)
         · repeat (first | with_reducible exact ix_nI | assumption | with_reducible apply ix_add | with_reducible apply ix_mul | (with_reducible apply ix_sub) | (with_reducible apply ix_upd) | (with_reducible apply ix_div) | omega)
         · omega
         · omega
         all_goals (intro hc; first | omega | (conv => whnf)))
      | (with_reducible apply br_lt
         · repeat (first | with_reducible exact ix_nI | assumption | with_reducible apply ix_add | with_reducible apply ix_mul | (with_reducible apply ix_sub) | (with_reducible apply ix_upd) | (with_reducible apply ix_div) | omega)
         · repeat (first | with_reducible exact ix_nI | assumption | with_reducible apply ix_add | with_reducible apply ix_mul | (with_reducible apply ix_sub) | (with_reducible apply ix_upd) | (with_reducible apply ix_div) | omega)
         · omega
         · omega
         all_goals (intro hc; first | omega | (conv => whnf)))
      | (with_reducible apply br_eq
         · repeat (first | with_reducible exact ix_nI | assumption | with_reducible apply ix_add | with_reducible apply ix_mul | (with_reducible apply ix_sub) | (with_reducible apply ix_upd) | (with_reducible apply ix_div) | omega)
         · repeat (first | with_reducible exact ix_nI | assumption | with_reducible apply ix_add | with_reducible apply ix_mul | (with_reducible apply ix_sub) | (with_reducible apply ix_upd) | (with_reducible apply ix_div) | omega)
         · omega
         · omega
         all_goals (intro hc; first | omega | (conv => whnf)))
      | (with_reducible apply br_ne
         · repeat (first | with_reducible exact ix_nI | assumption | with_reducible apply ix_add | with_reducible apply ix_mul | (with_reducible apply ix_sub) | (with_reducible apply ix_upd) | (with_reducible apply ix_div) | omega)
         · repeat (first | with_reducible exact ix_nI | assumption | with_reducible apply ix_add | with_reducible apply ix_mul | (with_reducible apply ix_sub) | (with_reducible apply ix_upd) | (with_reducible apply ix_div) | omega)
         · omega
         · omega
         all_goals (intro hc; first | omega | (conv => whnf)))
      | (with_reducible apply br_eq0
         · repeat (first | with_reducible exact ix_nI | assumption | with_reducible apply ix_add | with_reducible apply ix_mul | (with_reducible apply ix_sub) | (with_reducible apply ix_upd) | (with_reducible apply ix_div) | omega)
         · omega
         all_goals (intro hc; first | omega | (conv => whnf)))
      | (with_reducible apply br_ne0
         · repeat (first | with_reducible exact ix_nI | assumption | with_reducible apply ix_add | with_reducible apply ix_mul | (with_reducible apply ix_sub) | (with_reducible apply ix_upd) | (with_reducible apply ix_div) | omega)
         · omega
         all_goals (intro hc; first | omega | (conv => whnf)))
      | (with_reducible apply br_le0
         · repeat (first | with_reducible exact ix_nI | assumption | with_reducible apply ix_add | with_reducible apply ix_mul | (with_reducible apply ix_sub) | (with_reducible apply ix_upd) | (with_reducible apply ix_div) | omega)
         · omega
         all_goals (intro hc; first | omega | (conv => whnf)))
      | (with_reducible apply br_gt0
         · repeat (first | with_reducible exact ix_nI | assumption | with_reducible apply ix_add | with_reducible apply ix_mul | (with_reducible apply ix_sub) | (with_reducible apply ix_upd) | (with_reducible apply ix_div) | omega)
         · omega
         all_goals (intro hc; first | omega | (conv => whnf)))
      | (with_reducible apply br_lt0
         · repeat (first | with_reducible exact ix_nI | assumption | with_reducible apply ix_add | with_reducible apply ix_mul | (with_reducible apply ix_sub) | (with_reducible apply ix_upd) | (with_reducible apply ix_div) | omega)
         · omega
         conv => whnf)
      | (with_reducible apply br_ge0
         · repeat (first | with_reducible exact ix_nI | assumption | with_reducible apply ix_add | with_reducible apply ix_mul | (with_reducible apply ix_sub) | (with_reducible apply ix_upd) | (with_reducible apply ix_div) | omega)
         · omega
         conv => whnf)
      | (with_reducible apply br_tab
         · repeat (first | with_reducible exact ix_nI | assumption | with_reducible apply ix_add | with_reducible apply ix_mul | (with_reducible apply ix_sub) | (with_reducible apply ix_upd) | (with_reducible apply ix_div) | omega)
         · omega
         all_goals (intro hc; (try dsimp only at hc); first | omega | (conv => whnf)))
      | (refine ⟨_, hp, ?_⟩; conv => whnf)
        | (refine ⟨_, _, hq, _, ix_nI, ⟨by omega, by decide⟩, ?_⟩; conv => whnf)
        | (refine cl_use hC (c_levelOf fun r hr => ?_); obtain ⟨j, hj, e9⟩ := lvC_4 (q i) x y v; conv => whnf)
        | (refine ⟨_, hr.trans e9, ⟨by decide, hj, (by decide : 4 < 100000)⟩, ?_⟩; conv => whnf)
      | (refine And.intro (fun hc => ?_) (fun hc => ?_) <;> conv => whnf)
      | (refine And.intro (by decide) ?_; conv => whnf)
      | fail)
    refine wp_use hW ?_
    rw [nI_add, xv4 j hj, ← e9]
    exact ih.le (by repeat' (first | exact trivial | refine And.intro rfl ?_))
end C3
