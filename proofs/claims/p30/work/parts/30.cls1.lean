/-! ===== the class: a page ===== -/
theorem upA_upA {h : AH} {a : Nat} {x y : AC} : upA (upA h a x) a y = upA h a y := by
  funext j
  by_cases e : j = a <;> simp [upA, e]
theorem upA_self {h : AH} {a : Nat} {x : AC} (e : h a = x) : upA h a x = h := by
  funext j
  by_cases ej : j = a
  · subst ej; simp [upA, e]
  · simp [upA, ej]
def minI (x y : Int32) : Int32 := if y < x then y else x
def drC (perm q : Int32) : Int32 := if 0 < q * perm / nI 1000 then q - q * perm / nI 1000 else q
theorem and3 (x : Int32) : ∃ j, j < 4 ∧ x &&& nI 3 = nI j := by
  refine ⟨x.toBitVec.toNat &&& 3, Nat.lt_of_le_of_lt Nat.and_le_right (by omega), ?_⟩
  have hle : x.toBitVec.toNat &&& 3 ≤ 3 := Nat.and_le_right
  apply Int32.toBitVec_inj.mp
  apply BitVec.eq_of_toNat_eq
  rw [Int32.toBitVec_and, BitVec.toNat_and]
  have e : ∀ k, k < 4 → (nI k).toBitVec.toNat = k := fun k hk => by
    match k, hk with
    | 0, _ => rfl
    | 1, _ => rfl
    | 2, _ => rfl
    | 3, _ => rfl
    | k + 4, h => exact absurd h (by omega)
  rw [e 3 (by omega), e _ (by omega)]
section C1
variable {G : GG} {d n : Nat} {h0 h : AH} {w : W3} {K : AO → AH → W3 → Prop}
theorem c_chargeSum {a c : Nat} {q : ZZ} {F : List Value} (hp : h a = .inr (3, .ref c :: F)) (hq : h c = .inl (0, 16, .inl q)) (hK : ∀ r, r = sumN q 16 → K (.inl (some (.int r))) h w) : Cl G d kX3_chargeSum [.ref a] h w K := by
  refine Cl.of (by decide) rfl ?_
  refine wp_vc [4] 60 rfl fun W' C hW hC => ?_
  conv => whnf
  refine wp_use hW ?_
  have key := upto (W := fun i => wp G d kX3_chargeSum w.2.1 w.2.2 K 4 [some (.ref a), some (.int (sumN q i)), some (.int (nI i))] [] h w) 16 ?_ ?_
  · exact key
  · refine wp_vc [4] 60 rfl fun W' C hW hC => ?_
    conv => whnf
    repeat' (first
      | (refine ⟨_, rfl, ?_⟩; conv => whnf)
      | (refine ⟨_, _, rfl, ⟨_, rfl, rfl⟩, ?_⟩; conv => whnf)
      | (refine ⟨_, _, rfl, ?_⟩
         with_reducible apply ix_ex
         · repeat (first | with_reducible exact ix_nI | assumption | with_reducible apply ix_add | with_reducible apply ix_mul | (with_reducible apply ix_sub) | (with_reducible apply ix_upd) | (with_reducible apply ix_div) | omega)
         (refine ⟨⟨by omega, by decide⟩, ?_⟩; conv => whnf))
      | (with_reducible apply br_le
         · repeat (first | with_reducible exact ix_nI | assumption | with_reducible apply ix_add | with_reducible apply ix_mul | (with_reducible apply ix_sub) | (with_reducible apply ix_upd) | (with_reducible apply ix_div) | omega)
         · repeat (first | with_reducible exact ix_nI | assumption | with_reducible apply ix_add | with_reducible apply ix_mul | (with_reducible apply ix_sub) | (with_reducible apply ix_upd) | (with_reducible apply ix_div) | omega)
         · omega
         · omega
         all_goals (intro hc; first | omega | (conv => whnf)))
      | (with_reducible apply br_lt
         · repeat (first | with_reducible exact ix_nI | assumption | with_reducible apply ix_add | with_reducible apply ix_mul | (with_reducible apply ix_sub) | (with_reducible apply ix_upd) | (with_reducible apply ix_div) | omega)
         · repeat (first | with_reducible exact ix_nI | assumption | with_reducible apply ix_add | with_reducible apply ix_mul | (with_reducible apply ix_sub) | (with_reducible apply ix_upd) | (with_reducible apply ix_div) | omega)
         · omega
         · omega
         all_goals (intro hc; first | omega | (conv => whnf)))
      | (with_reducible apply br_eq
         · repeat (first | with_reducible exact ix_nI | assumption | with_reducible apply ix_add | with_reducible apply ix_mul | (with_reducible apply ix_sub) | (with_reducible apply ix_upd) | (with_reducible apply ix_div) | omega)
         · repeat (first | with_reducible exact ix_nI | assumption | with_reducible apply ix_add | with_reducible apply ix_mul | (with_reducible apply ix_sub) | (with_reducible apply ix_upd) | (with_reducible apply ix_div) | omega)
         · omega
         · omega
         all_goals (intro hc; first | omega | (conv => whnf)))
      | (with_reducible apply br_ne
         · repeat (first | with_reducible exact ix_nI | assumption | with_reducible apply ix_add | with_reducible apply ix_mul | (with_reducible apply ix_sub) | (with_reducible apply ix_upd) | (with_reducible apply ix_div) | omega)
         · repeat (first | with_reducible exact ix_nI | assumption | with_reducible apply ix_add | with_reducible apply ix_mul | (with_reducible apply ix_sub) | (with_reducible apply ix_upd) | (with_reducible apply ix_div) | omega)
         · omega
         · omega
         all_goals (intro hc; first | omega | (conv => whnf)))
      | (with_reducible apply br_eq0
         · repeat (first | with_reducible exact ix_nI | assumption | with_reducible apply ix_add | with_reducible apply ix_mul | (with_reducible apply ix_sub) | (with_reducible apply ix_upd) | (with_reducible apply ix_div) | omega)
         · omega
         all_goals (intro hc; first | omega | (conv => whnf)))
      | (with_reducible apply br_ne0
         · repeat (first | with_reducible exact ix_nI | assumption | with_reducible apply ix_add | with_reducible apply ix_mul | (with_reducible apply ix_sub) | (with_reducible apply ix_upd) | (with_reducible apply ix_div) | omega)
         · omega
         all_goals (intro hc; first | omega | (conv => whnf)))
      | (with_reducible apply br_le0
         · repeat (first | with_reducible exact ix_nI | assumption | with_reducible apply ix_add | with_reducible apply ix_mul | (with_reducible apply ix_sub) | (with_reducible apply ix_upd) | (with_reducible apply ix_div) | omega)
         · omega
         all_goals (intro hc; first | omega | (conv => whnf)))
      | (with_reducible apply br_gt0
         · repeat (first | with_reducible exact ix_nI | assumption | with_reducible apply ix_add | with_reducible apply ix_mul | (with_reducible apply ix_sub) | (with_reducible apply ix_upd) | (with_reducible apply ix_div) | omega)
         · omega
         all_goals (intro hc; first | omega | (conv => whnf)))
      | (with_reducible apply br_lt0
         · repeat (first | with_reducible exact ix_nI | assumption | with_reducible apply ix_add | with_reducible apply ix_mul | (with_reducible apply ix_sub) | (with_reducible apply ix_upd) | (with_reducible apply ix_div) | omega)
         · omega
         conv => whnf)
      | (with_reducible apply br_ge0
         · repeat (first | with_reducible exact ix_nI | assumption | with_reducible apply ix_add | with_reducible apply ix_mul | (with_reducible apply ix_sub) | (with_reducible apply ix_upd) | (with_reducible apply ix_div) | omega)
         · omega
         conv => whnf)
      | (with_reducible apply br_tab
         · repeat (first | with_reducible exact ix_nI | assumption | with_reducible apply ix_add | with_reducible apply ix_mul | (with_reducible apply ix_sub) | (with_reducible apply ix_upd) | (with_reducible apply ix_div) | omega)
         · omega
         all_goals (intro hc; (try dsimp only at hc); first | omega | (conv => whnf)))
      | (refine And.intro (fun hc => ?_) (fun hc => ?_) <;> conv => whnf)
      | (refine And.intro (by decide) ?_; conv => whnf)
      | fail)
    exact hK _ rfl
  · intro i hi ih
    refine wp_vc [4] 60 rfl fun W' C hW hC => ?_
    conv => whnf
    repeat' (first
      | (refine ⟨_, rfl, ?_⟩; conv => whnf)
      | (refine ⟨_, _, rfl, ⟨_, rfl, rfl⟩, ?_⟩; conv => whnf)
      | (refine ⟨_, _, rfl, ?_⟩
         with_reducible apply ix_ex
         · repeat (first | with_reducible exact ix_nI | assumption | with_reducible apply ix_add | with_reducible apply ix_mul | (with_reducible apply ix_sub) | (with_reducible apply ix_upd) | (with_reducible apply ix_div) | omega)
         (refine ⟨⟨by omega, by decide⟩, ?_⟩; conv => whnf))
      | (with_reducible apply br_le
         · repeat (first | with_reducible exact ix_nI | assumption | with_reducible apply ix_add | with_reducible apply ix_mul | (with_reducible apply ix_sub) | (with_reducible apply ix_upd) | (with_reducible apply ix_div) | omega)
         · repeat (first | with_reducible exact ix_nI | assumption | with_reducible apply ix_add | with_reducible apply ix_mul | (with_reducible apply ix_sub) | (with_reducible apply ix_upd) | (with_reducible apply ix_div) | omega)
         · omega
         · omega
         all_goals (intro hc; first | omega | (conv => whnf)))
      | (with_reducible apply br_lt
         · repeat (first | with_reducible exact ix_nI | assumption | with_reducible apply ix_add | with_reducible apply ix_mul | (with_reducible apply ix_sub) | (with_reducible apply ix_upd) | (with_reducible apply ix_div) | omega)
         · repeat (first | with_reducible exact ix_nI | assumption | with_reducible apply ix_add | with_reducible apply ix_mul | (with_reducible apply ix_sub) | (with_reducible apply ix_upd) | (with_reducible apply ix_div) | omega)
         · omega
         · omega
         all_goals (intro hc; first | omega | (conv => whnf)))
      | (with_reducible apply br_eq
         · repeat (first | with_reducible exact ix_nI | assumption | with_reducible apply ix_add | with_reducible apply ix_mul | (with_reducible apply ix_sub) | (with_reducible apply ix_upd) | (with_reducible apply ix_div) | omega)
         · repeat (first | with_reducible exact ix_nI | assumption | with_reducible apply ix_add | with_reducible apply ix_mul | (with_reducible apply ix_sub) | (with_reducible apply ix_upd) | (with_reducible apply ix_div) | omega)
         · omega
         · omega
         all_goals (intro hc; first | omega | (conv => whnf)))
      | (with_reducible apply br_ne
         · repeat (first | with_reducible exact ix_nI | assumption | with_reducible apply ix_add | with_reducible apply ix_mul | (with_reducible apply ix_sub) | (with_reducible apply ix_upd) | (with_reducible apply ix_div) | omega)
         · repeat (first | with_reducible exact ix_nI | assumption | with_reducible apply ix_add | with_reducible apply ix_mul | (with_reducible apply ix_sub) | (with_reducible apply ix_upd) | (with_reducible apply ix_div) | omega)
         · omega
         · omega
         all_goals (intro hc; first | omega | (conv => whnf)))
      | (with_reducible apply br_eq0
         · repeat (first | with_reducible exact ix_nI | assumption | with_reducible apply ix_add | with_reducible apply ix_mul | (with_reducible apply ix_sub) | (with_reducible apply ix_upd) | (with_reducible apply ix_div) | omega)
         · omega
         all_goals (intro hc; first | omega | (conv => whnf)))
      | (with_reducible apply br_ne0
         · repeat (first | with_reducible exact ix_nI | assumption | with_reducible apply ix_add | with_reducible apply ix_mul | (with_reducible apply ix_sub) | (with_reducible apply ix_upd) | (with_reducible apply ix_div) | omega)
         · omega
         all_goals (intro hc; first | omega | (conv => whnf)))
      | (with_reducible apply br_le0
         · repeat (first | with_reducible exact ix_nI | assumption | with_reducible apply ix_add | with_reducible apply ix_mul | (with_reducible apply ix_sub) | (with_reducible apply ix_upd) | (with_reducible apply ix_div) | omega)
         · omega
         all_goals (intro hc; first | omega | (conv => whnf)))
      | (with_reducible apply br_gt0
         · repeat (first | with_reducible exact ix_nI | assumption | with_reducible apply ix_add | with_reducible apply ix_mul | (with_reducible apply ix_sub) | (with_reducible apply ix_upd) | (with_reducible apply ix_div) | omega)
         · omega
         all_goals (intro hc; first | omega | (conv => whnf)))
      | (with_reducible apply br_lt0
         · repeat (first | with_reducible exact ix_nI | assumption | with_reducible apply ix_add | with_reducible apply ix_mul | (with_reducible apply ix_sub) | (with_reducible apply ix_upd) | (with_reducible apply ix_div) | omega)
         · omega
         conv => whnf)
      | (with_reducible apply br_ge0
         · repeat (first | with_reducible exact ix_nI | assumption | with_reducible apply ix_add | with_reducible apply ix_mul | (with_reducible apply ix_sub) | (with_reducible apply ix_upd) | (with_reducible apply ix_div) | omega)
         · omega
         conv => whnf)
      | (with_reducible apply br_tab
         · repeat (first | with_reducible exact ix_nI | assumption | with_reducible apply ix_add | with_reducible apply ix_mul | (with_reducible apply ix_sub) | (with_reducible apply ix_upd) | (with_reducible apply ix_div) | omega)
         · omega
         all_goals (intro hc; (try dsimp only at hc); first | omega | (conv => whnf)))
      | (refine ⟨_, hp, ?_⟩; conv => whnf)
        | (refine ⟨_, _, hq, _, ix_nI, ⟨by omega, by decide⟩, ?_⟩; conv => whnf)
      | (refine And.intro (fun hc => ?_) (fun hc => ?_) <;> conv => whnf)
      | (refine And.intro (by decide) ?_; conv => whnf)
      | fail)
    refine wp_use hW ?_
    rw [nI_add]
    exact ih
/-- the level of a charge in the class's words -/
def lvC (q a b c : Int32) : Int32 := if q < c then (if q < a then nI 0 else nI 1) + (if q < b then nI 0 else nI 1) else (if q < a then nI 0 else nI 1) + (if q < b then nI 0 else nI 1) + nI 1
theorem c_levelOf {q x y v : Int32} (hK : ∀ r, r = lvC q x y v → K (.inl (some (.int r))) h w) : Cl G d kX3_levelOf [.int q, .int x, .int y, .int v] h w K := by
  refine Cl.of (by decide) rfl ?_
  refine wp_vc [] 60 rfl fun W' C hW hC => ?_
  conv => whnf
  repeat' (first
    | (refine ⟨_, rfl, ?_⟩; conv => whnf)
    | (refine ⟨_, _, rfl, ⟨_, rfl, rfl⟩, ?_⟩; conv => whnf)
    | (refine ⟨_, _, rfl, ?_⟩
       with_reducible apply ix_ex
       · repeat (first | with_reducible exact ix_nI | assumption | with_reducible apply ix_add | with_reducible apply ix_mul | (with_reducible apply ix_sub) | (with_reducible apply ix_upd) | (with_reducible apply ix_div) | omega)
       (refine ⟨⟨by omega, by decide⟩, ?_⟩; conv => whnf))
    | (with_reducible apply br_le
       · repeat (first | with_reducible exact ix_nI | assumption | with_reducible apply ix_add | with_reducible apply ix_mul | (with_reducible apply ix_sub) | (with_reducible apply ix_upd) | (with_reducible apply ix_div) | omega)
       · repeat (first | with_reducible exact ix_nI | assumption | with_reducible apply ix_add | with_reducible apply ix_mul | (with_reducible apply ix_sub) | (with_reducible apply ix_upd) | (with_reducible apply ix_div) | omega)
       · omega
       · omega
       all_goals (intro hc; first | omega | (conv => whnf)))
    | (with_reducible apply br_lt
       · repeat (first | with_reducible exact ix_nI | assumption | with_reducible apply ix_add | with_reducible apply ix_mul | (with_reducible apply ix_sub) | (with_reducible apply ix_upd) | (with_reducible apply ix_div) | omega)
       · repeat (first | with_reducible exact ix_nI | assumption | with_reducible apply ix_add | with_reducible apply ix_mul | (with_reducible apply ix_sub) | (with_reducible apply ix_upd) | (with_reducible apply ix_div) | omega)
       · omega
       · omega
       all_goals (intro hc; first | omega | (conv => whnf)))
    | (with_reducible apply br_eq
       · repeat (first | with_reducible exact ix_nI | assumption | with_reducible apply ix_add | with_reducible apply ix_mul | (with_reducible apply ix_sub) | (with_reducible apply ix_upd) | (with_reducible apply ix_div) | omega)
       · repeat (first | with_reducible exact ix_nI | assumption | with_reducible apply ix_add | with_reducible apply ix_mul | (with_reducible apply ix_sub) | (with_reducible apply ix_upd) | (with_reducible apply ix_div) | omega)
       · omega
       · omega
       all_goals (intro hc; first | omega | (conv => whnf)))
    | (with_reducible apply br_ne
       · repeat (first | with_reducible exact ix_nI | assumption | with_reducible apply ix_add | with_reducible apply ix_mul | (with_reducible apply ix_sub) | (with_reducible apply ix_upd) | (with_reducible apply ix_div) | omega)
       · repeat (first | with_reducible exact ix_nI | assumption | with_reducible apply ix_add | with_reducible apply ix_mul | (with_reducible apply ix_sub) | (with_reducible apply ix_upd) | (with_reducible apply ix_div) | omega)
       · omega
       · omega
       all_goals (intro hc; first | omega | (conv => whnf)))
    | (with_reducible apply br_eq0
       · repeat (first | with_reducible exact ix_nI | assumption | with_reducible apply ix_add | with_reducible apply ix_mul | (with_reducible apply ix_sub) | (with_reducible apply ix_upd) | (with_reducible apply ix_div) | omega)
       · omega
       all_goals (intro hc; first | omega | (conv => whnf)))
    | (with_reducible apply br_ne0
       · repeat (first | with_reducible exact ix_nI | assumption | with_reducible apply ix_add | with_reducible apply ix_mul | (with_reducible apply ix_sub) | (with_reducible apply ix_upd) | (with_reducible apply ix_div) | omega)
       · omega
       all_goals (intro hc; first | omega | (conv => whnf)))
    | (with_reducible apply br_le0
       · repeat (first | with_reducible exact ix_nI | assumption | with_reducible apply ix_add | with_reducible apply ix_mul | (with_reducible apply ix_sub) | (with_reducible apply ix_upd) | (with_reducible apply ix_div) | omega)
       · omega
       all_goals (intro hc; first | omega | (conv => whnf)))
    | (with_reducible apply br_gt0
       · repeat (first | with_reducible exact ix_nI | assumption | with_reducible apply ix_add | with_reducible apply ix_mul | (with_reducible apply ix_sub) | (with_reducible apply ix_upd) | (with_reducible apply ix_div) | omega)
       · omega
       all_goals (intro hc; first | omega | (conv => whnf)))
    | (with_reducible apply br_lt0
       · repeat (first | with_reducible exact ix_nI | assumption | with_reducible apply ix_add | with_reducible apply ix_mul | (with_reducible apply ix_sub) | (with_reducible apply ix_upd) | (with_reducible apply ix_div) | omega)
       · omega
       conv => whnf)
    | (with_reducible apply br_ge0
       · repeat (first | with_reducible exact ix_nI | assumption | with_reducible apply ix_add | with_reducible apply ix_mul | (with_reducible apply ix_sub) | (with_reducible apply ix_upd) | (with_reducible apply ix_div) | omega)
       · omega
       conv => whnf)
    | (with_reducible apply br_tab
       · repeat (first | with_reducible exact ix_nI | assumption | with_reducible apply ix_add | with_reducible apply ix_mul | (with_reducible apply ix_sub) | (with_reducible apply ix_upd) | (with_reducible apply ix_div) | omega)
       · omega
       all_goals (intro hc; (try dsimp only at hc); first | omega | (conv => whnf)))
    | (refine And.intro (fun hc => ?_) (fun hc => ?_) <;> conv => whnf)
    | (refine And.intro (by decide) ?_; conv => whnf)
    | fail)
  all_goals ((refine hK _ ?_; unfold lvC; repeat' split) <;> first | rfl | (exfalso; (try rw [← Int32.not_le] at *); contradiction))
theorem c_empty {a c : Nat} {q : ZZ} {s1 s2 s3 s4 s5 s6 s7 : Int32} (hac : a ≠ c) (hp : h a = .inr (3, [.ref c, .int s1, .int s2, .int s3, .int s4, .int s5, .int s6, .int s7])) (hq : h c = .inl (0, 16, .inl q)) (hK : ∀ q', (∀ i, i < 16 → q' i = nI 0) → (∀ i, 16 ≤ i → q' i = q i) → K (.inl none) (upA (upA h a (.inr (3, [.ref c, .int (nI 0), .int (nI 0), .int s3, .int s4, .int s5, .int s6, .int s7]))) c (.inl (0, 16, .inl q'))) w) : Cl G d kX3_empty [.ref a] h w K := by
  refine Cl.of (by decide) rfl ?_
  refine wp_vc [12] 60 rfl fun W' C hW hC => ?_
  conv => whnf
  repeat' (first
    | (refine ⟨_, rfl, ?_⟩; conv => whnf)
    | (refine ⟨_, _, rfl, ⟨_, rfl, rfl⟩, ?_⟩; conv => whnf)
    | (refine ⟨_, _, rfl, ?_⟩
       with_reducible apply ix_ex
       · repeat (first | with_reducible exact ix_nI | assumption | with_reducible apply ix_add | with_reducible apply ix_mul | (with_reducible apply ix_sub) | (with_reducible apply ix_upd) | (with_reducible apply ix_div) | omega)
       (refine ⟨⟨by omega, by decide⟩, ?_⟩; conv => whnf))
    | (with_reducible apply br_le
       · repeat (first | with_reducible exact ix_nI | assumption | with_reducible apply ix_add | with_reducible apply ix_mul | (with_reducible apply ix_sub) | (with_reducible apply ix_upd) | (with_reducible apply ix_div) | omega)
       · repeat (first | with_reducible exact ix_nI | assumption | with_reducible apply ix_add | with_reducible apply ix_mul | (with_reducible apply ix_sub) | (with_reducible apply ix_upd) | (with_reducible apply ix_div) | omega)
       · omega
       · omega
       all_goals (intro hc; first | omega | (conv => whnf)))
    | (with_reducible apply br_lt
       · repeat (first | with_reducible exact ix_nI | assumption | with_reducible apply ix_add | with_reducible apply ix_mul | (with_reducible apply ix_sub) | (with_reducible apply ix_upd) | (with_reducible apply ix_div) | omega)
       · repeat (first | with_reducible exact ix_nI | assumption | with_reducible apply ix_add | with_reducible apply ix_mul | (with_reducible apply ix_sub) | (with_reducible apply ix_upd) | (with_reducible apply ix_div) | omega)
       · omega
       · omega
       all_goals (intro hc; first | omega | (conv => whnf)))
    | (with_reducible apply br_eq
       · repeat (first | with_reducible exact ix_nI | assumption | with_reducible apply ix_add | with_reducible apply ix_mul | (with_reducible apply ix_sub) | (with_reducible apply ix_upd) | (with_reducible apply ix_div) | omega)
       · repeat (first | with_reducible exact ix_nI | assumption | with_reducible apply ix_add | with_reducible apply ix_mul | (with_reducible apply ix_sub) | (with_reducible apply ix_upd) | (with_reducible apply ix_div) | omega)
       · omega
       · omega
       all_goals (intro hc; first | omega | (conv => whnf)))
    | (with_reducible apply br_ne
       · repeat (first | with_reducible exact ix_nI | assumption | with_reducible apply ix_add | with_reducible apply ix_mul | (with_reducible apply ix_sub) | (with_reducible apply ix_upd) | (with_reducible apply ix_div) | omega)
       · repeat (first | with_reducible exact ix_nI | assumption | with_reducible apply ix_add | with_reducible apply ix_mul | (with_reducible apply ix_sub) | (with_reducible apply ix_upd) | (with_reducible apply ix_div) | omega)
       · omega
       · omega
       all_goals (intro hc; first | omega | (conv => whnf)))
    | (with_reducible apply br_eq0
       · repeat (first | with_reducible exact ix_nI | assumption | with_reducible apply ix_add | with_reducible apply ix_mul | (with_reducible apply ix_sub) | (with_reducible apply ix_upd) | (with_reducible apply ix_div) | omega)
       · omega
       all_goals (intro hc; first | omega | (conv => whnf)))
    | (with_reducible apply br_ne0
       · repeat (first | with_reducible exact ix_nI | assumption | with_reducible apply ix_add | with_reducible apply ix_mul | (with_reducible apply ix_sub) | (with_reducible apply ix_upd) | (with_reducible apply ix_div) | omega)
       · omega
       all_goals (intro hc; first | omega | (conv => whnf)))
    | (with_reducible apply br_le0
       · repeat (first | with_reducible exact ix_nI | assumption | with_reducible apply ix_add | with_reducible apply ix_mul | (with_reducible apply ix_sub) | (with_reducible apply ix_upd) | (with_reducible apply ix_div) | omega)
       · omega
       all_goals (intro hc; first | omega | (conv => whnf)))
    | (with_reducible apply br_gt0
       · repeat (first | with_reducible exact ix_nI | assumption | with_reducible apply ix_add | with_reducible apply ix_mul | (with_reducible apply ix_sub) | (with_reducible apply ix_upd) | (with_reducible apply ix_div) | omega)
       · omega
       all_goals (intro hc; first | omega | (conv => whnf)))
    | (with_reducible apply br_lt0
       · repeat (first | with_reducible exact ix_nI | assumption | with_reducible apply ix_add | with_reducible apply ix_mul | (with_reducible apply ix_sub) | (with_reducible apply ix_upd) | (with_reducible apply ix_div) | omega)
       · omega
       conv => whnf)
    | (with_reducible apply br_ge0
       · repeat (first | with_reducible exact ix_nI | assumption | with_reducible apply ix_add | with_reducible apply ix_mul | (with_reducible apply ix_sub) | (with_reducible apply ix_upd) | (with_reducible apply ix_div) | omega)
       · omega
       conv => whnf)
    | (with_reducible apply br_tab
       · repeat (first | with_reducible exact ix_nI | assumption | with_reducible apply ix_add | with_reducible apply ix_mul | (with_reducible apply ix_sub) | (with_reducible apply ix_upd) | (with_reducible apply ix_div) | omega)
       · omega
       all_goals (intro hc; (try dsimp only at hc); first | omega | (conv => whnf)))
    | (refine ⟨_, hp, ?_⟩; conv => whnf)
    | (refine ⟨_, upA_eq, ?_⟩; conv => whnf)
    | (refine And.intro (fun hc => ?_) (fun hc => ?_) <;> conv => whnf)
    | (refine And.intro (by decide) ?_; conv => whnf)
    | fail)
  refine wp_use hW ?_
  simp only [upA_upA, List.set_cons_succ, List.set_cons_zero]
  generalize hH : upA h a (.inr (3, [.ref c, .int (nI 0), .int (nI 0), .int s3, .int s4, .int s5, .int s6, .int s7])) = H at hK ⊢
  have hp1 : H a = .inr (3, [.ref c, .int (nI 0), .int (nI 0), .int s3, .int s4, .int s5, .int s6, .int s7]) := by rw [← hH]; exact upA_eq
  have hq1 : H c = .inl (0, 16, .inl q) := by rw [← hH]; exact upA_ne (Ne.symm hac) hq
  have key := upto (W := fun i => ∀ q', (∀ j, j < i → q' j = nI 0) → (∀ j, i ≤ j → q' j = q j) → wp G d kX3_empty w.2.1 w.2.2 K 12 [some (.ref a), some (.int (nI i))] [] (upA H c (.inl (0, 16, .inl q'))) w) 16 ?_ ?_
  · have := key q (fun j hj => absurd hj (Nat.not_lt_zero j)) (fun _ _ => rfl)
    rw [upA_self hq1] at this
    exact this
  · intro q' h1 h2
    refine wp_vc [12] 60 rfl fun W' C hW hC => ?_
    conv => whnf
    repeat' (first
      | (refine ⟨_, rfl, ?_⟩; conv => whnf)
      | (refine ⟨_, _, rfl, ⟨_, rfl, rfl⟩, ?_⟩; conv => whnf)
      | (refine ⟨_, _, rfl, ?_⟩
         with_reducible apply ix_ex
         · repeat (first | with_reducible exact ix_nI | assumption | with_reducible apply ix_add | with_reducible apply ix_mul | (with_reducible apply ix_sub) | (with_reducible apply ix_upd) | (with_reducible apply ix_div) | omega)
         (refine ⟨⟨by omega, by decide⟩, ?_⟩; conv => whnf))
      | (with_reducible apply br_le
         · repeat (first | with_reducible exact ix_nI | assumption | with_reducible apply ix_add | with_reducible apply ix_mul | (with_reducible apply ix_sub) | (with_reducible apply ix_upd) | (with_reducible apply ix_div) | omega)
         · repeat (first | with_reducible exact ix_nI | assumption | with_reducible apply ix_add | with_reducible apply ix_mul | (with_reducible apply ix_sub) | (with_reducible apply ix_upd) | (with_reducible apply ix_div) | omega)
         · omega
         · omega
         all_goals (intro hc; first | omega | (conv => whnf)))
      | (with_reducible apply br_lt
         · repeat (first | with_reducible exact ix_nI | assumption | with_reducible apply ix_add | with_reducible apply ix_mul | (with_reducible apply ix_sub) | (with_reducible apply ix_upd) | (with_reducible apply ix_div) | omega)
         · repeat (first | with_reducible exact ix_nI | assumption | with_reducible apply ix_add | with_reducible apply ix_mul | (with_reducible apply ix_sub) | (with_reducible apply ix_upd) | (with_reducible apply ix_div) | omega)
         · omega
         · omega
         all_goals (intro hc; first | omega | (conv => whnf)))
      | (with_reducible apply br_eq
         · repeat (first | with_reducible exact ix_nI | assumption | with_reducible apply ix_add | with_reducible apply ix_mul | (with_reducible apply ix_sub) | (with_reducible apply ix_upd) | (with_reducible apply ix_div) | omega)
         · repeat (first | with_reducible exact ix_nI | assumption | with_reducible apply ix_add | with_reducible apply ix_mul | (with_reducible apply ix_sub) | (with_reducible apply ix_upd) | (with_reducible apply ix_div) | omega)
         · omega
         · omega
         all_goals (intro hc; first | omega | (conv => whnf)))
      | (with_reducible apply br_ne
         · repeat (first | with_reducible exact ix_nI | assumption | with_reducible apply ix_add | with_reducible apply ix_mul | (with_reducible apply ix_sub) | (with_reducible apply ix_upd) | (with_reducible apply ix_div) | omega)
         · repeat (first | with_reducible exact ix_nI | assumption | with_reducible apply ix_add | with_reducible apply ix_mul | (with_reducible apply ix_sub) | (with_reducible apply ix_upd) | (with_reducible apply ix_div) | omega)
         · omega
         · omega
         all_goals (intro hc; first | omega | (conv => whnf)))
      | (with_reducible apply br_eq0
         · repeat (first | with_reducible exact ix_nI | assumption | with_reducible apply ix_add | with_reducible apply ix_mul | (with_reducible apply ix_sub) | (with_reducible apply ix_upd) | (with_reducible apply ix_div) | omega)
         · omega
         all_goals (intro hc; first | omega | (conv => whnf)))
      | (with_reducible apply br_ne0
         · repeat (first | with_reducible exact ix_nI | assumption | with_reducible apply ix_add | with_reducible apply ix_mul | (with_reducible apply ix_sub) | (with_reducible apply ix_upd) | (with_reducible apply ix_div) | omega)
         · omega
         all_goals (intro hc; first | omega | (conv => whnf)))
      | (with_reducible apply br_le0
         · repeat (first | with_reducible exact ix_nI | assumption | with_reducible apply ix_add | with_reducible apply ix_mul | (with_reducible apply ix_sub) | (with_reducible apply ix_upd) | (with_reducible apply ix_div) | omega)
         · omega
         all_goals (intro hc; first | omega | (conv => whnf)))
      | (with_reducible apply br_gt0
         · repeat (first | with_reducible exact ix_nI | assumption | with_reducible apply ix_add | with_reducible apply ix_mul | (with_reducible apply ix_sub) | (with_reducible apply ix_upd) | (with_reducible apply ix_div) | omega)
         · omega
         all_goals (intro hc; first | omega | (conv => whnf)))
      | (with_reducible apply br_lt0
         · repeat (first | with_reducible exact ix_nI | assumption | with_reducible apply ix_add | with_reducible apply ix_mul | (with_reducible apply ix_sub) | (with_reducible apply ix_upd) | (with_reducible apply ix_div) | omega)
         · omega
         conv => whnf)
      | (with_reducible apply br_ge0
         · repeat (first | with_reducible exact ix_nI | assumption | with_reducible apply ix_add | with_reducible apply ix_mul | (with_reducible apply ix_sub) | (with_reducible apply ix_upd) | (with_reducible apply ix_div) | omega)
         · omega
         conv => whnf)
      | (with_reducible apply br_tab
         · repeat (first | with_reducible exact ix_nI | assumption | with_reducible apply ix_add | with_reducible apply ix_mul | (with_reducible apply ix_sub) | (with_reducible apply ix_upd) | (with_reducible apply ix_div) | omega)
         · omega
         all_goals (intro hc; (try dsimp only at hc); first | omega | (conv => whnf)))
      | (refine And.intro (fun hc => ?_) (fun hc => ?_) <;> conv => whnf)
      | (refine And.intro (by decide) ?_; conv => whnf)
      | fail)
    exact hK q' h1 h2
  · intro i hi ih q' h1 h2
    refine wp_vc [12] 60 rfl fun W' C hW hC => ?_
    conv => whnf
    repeat' (first
      | (refine ⟨_, rfl, ?_⟩; conv => whnf)
      | (refine ⟨_, _, rfl, ⟨_, rfl, rfl⟩, ?_⟩; conv => whnf)
      | (refine ⟨_, _, rfl, ?_⟩
         with_reducible apply ix_ex
         · repeat (first | with_reducible exact ix_nI | assumption | with_reducible apply ix_add | with_reducible apply ix_mul | (with_reducible apply ix_sub) | (with_reducible apply ix_upd) | (with_reducible apply ix_div) | omega)
         (refine ⟨⟨by omega, by decide⟩, ?_⟩; conv => whnf))
      | (with_reducible apply br_le
         · repeat (first | with_reducible exact ix_nI | assumption | with_reducible apply ix_add | with_reducible apply ix_mul | (with_reducible apply ix_sub) | (with_reducible apply ix_upd) | (with_reducible apply ix_div) | omega)
         · repeat (first | with_reducible exact ix_nI | assumption | with_reducible apply ix_add | with_reducible apply ix_mul | (with_reducible apply ix_sub) | (with_reducible apply ix_upd) | (with_reducible apply ix_div) | omega)
         · omega
         · omega
         all_goals (intro hc; first | omega | (conv => whnf)))
      | (with_reducible apply br_lt
         · repeat (first | with_reducible exact ix_nI | assumption | with_reducible apply ix_add | with_reducible apply ix_mul | (with_reducible apply ix_sub) | (with_reducible apply ix_upd) | (with_reducible apply ix_div) | omega)
         · repeat (first | with_reducible exact ix_nI | assumption | with_reducible apply ix_add | with_reducible apply ix_mul | (with_reducible apply ix_sub) | (with_reducible apply ix_upd) | (with_reducible apply ix_div) | omega)
         · omega
         · omega
         all_goals (intro hc; first | omega | (conv => whnf)))
      | (with_reducible apply br_eq
         · repeat (first | with_reducible exact ix_nI | assumption | with_reducible apply ix_add | with_reducible apply ix_mul | (with_reducible apply ix_sub) | (with_reducible apply ix_upd) | (with_reducible apply ix_div) | omega)
         · repeat (first | with_reducible exact ix_nI | assumption | with_reducible apply ix_add | with_reducible apply ix_mul | (with_reducible apply ix_sub) | (with_reducible apply ix_upd) | (with_reducible apply ix_div) | omega)
         · omega
         · omega
         all_goals (intro hc; first | omega | (conv => whnf)))
      | (with_reducible apply br_ne
         · repeat (first | with_reducible exact ix_nI | assumption | with_reducible apply ix_add | with_reducible apply ix_mul | (with_reducible apply ix_sub) | (with_reducible apply ix_upd) | (with_reducible apply ix_div) | omega)
         · repeat (first | with_reducible exact ix_nI | assumption | with_reducible apply ix_add | with_reducible apply ix_mul | (with_reducible apply ix_sub) | (with_reducible apply ix_upd) | (with_reducible apply ix_div) | omega)
         · omega
         · omega
         all_goals (intro hc; first | omega | (conv => whnf)))
      | (with_reducible apply br_eq0
         · repeat (first | with_reducible exact ix_nI | assumption | with_reducible apply ix_add | with_reducible apply ix_mul | (with_reducible apply ix_sub) | (with_reducible apply ix_upd) | (with_reducible apply ix_div) | omega)
         · omega
         all_goals (intro hc; first | omega | (conv => whnf)))
      | (with_reducible apply br_ne0
         · repeat (first | with_reducible exact ix_nI | assumption | with_reducible apply ix_add | with_reducible apply ix_mul | (with_reducible apply ix_sub) | (with_reducible apply ix_upd) | (with_reducible apply ix_div) | omega)
         · omega
         all_goals (intro hc; first | omega | (conv => whnf)))
      | (with_reducible apply br_le0
         · repeat (first | with_reducible exact ix_nI | assumption | with_reducible apply ix_add | with_reducible apply ix_mul | (with_reducible apply ix_sub) | (with_reducible apply ix_upd) | (with_reducible apply ix_div) | omega)
         · omega
         all_goals (intro hc; first | omega | (conv => whnf)))
      | (with_reducible apply br_gt0
         · repeat (first | with_reducible exact ix_nI | assumption | with_reducible apply ix_add | with_reducible apply ix_mul | (with_reducible apply ix_sub) | (with_reducible apply ix_upd) | (with_reducible apply ix_div) | omega)
         · omega
         all_goals (intro hc; first | omega | (conv => whnf)))
      | (with_reducible apply br_lt0
         · repeat (first | with_reducible exact ix_nI | assumption | with_reducible apply ix_add | with_reducible apply ix_mul | (with_reducible apply ix_sub) | (with_reducible apply ix_upd) | (with_reducible apply ix_div) | omega)
         · omega
         conv => whnf)
      | (with_reducible apply br_ge0
         · repeat (first | with_reducible exact ix_nI | assumption | with_reducible apply ix_add | with_reducible apply ix_mul | (with_reducible apply ix_sub) | (with_reducible apply ix_upd) | (with_reducible apply ix_div) | omega)
         · omega
         conv => whnf)
      | (with_reducible apply br_tab
         · repeat (first | with_reducible exact ix_nI | assumption | with_reducible apply ix_add | with_reducible apply ix_mul | (with_reducible apply ix_sub) | (with_reducible apply ix_upd) | (with_reducible apply ix_div) | omega)
         · omega
         all_goals (intro hc; (try dsimp only at hc); first | omega | (conv => whnf)))
      | (refine ⟨_, upA_ne hac hp1, ?_⟩; conv => whnf)
        | (refine ⟨_, _, upA_eq, _, ix_nI, ⟨by omega, by decide⟩, ?_⟩; conv => whnf)
      | (refine And.intro (fun hc => ?_) (fun hc => ?_) <;> conv => whnf)
      | (refine And.intro (by decide) ?_; conv => whnf)
      | fail)
    refine wp_use hW ?_
    rw [nI_add, upA_upA]
    refine ih _ (fun j hj => ?_) (fun j hj => ?_)
    · by_cases e : j = i
      · subst e; rw [upd_eq]
      · rw [upd_ne e]; exact h1 j (by omega)
    · rw [upd_ne (by omega)]; exact h2 j (by omega)
theorem c_disturb {a c : Nat} {q : ZZ} {F : List Value} {more : Int32} (hac : a ≠ c) (hp : h a = .inr (3, .ref c :: F)) (hq : h c = .inl (0, 16, .inl q)) (hK : ∀ q', (∀ i, i < 16 → q' i = minI (nI 450) (q i + more)) → (∀ i, 16 ≤ i → q' i = q i) → K (.inl none) (upA h c (.inl (0, 16, .inl q'))) w) : Cl G (d + 1) kX3_disturb [.ref a, .int more] h w K := by
  refine Cl.of (by decide) rfl ?_
  refine wp_vc [2] 60 rfl fun W' C hW hC => ?_
  conv => whnf
  repeat' (first
    | (refine ⟨_, rfl, ?_⟩; conv => whnf)
    | (refine ⟨_, _, rfl, ⟨_, rfl, rfl⟩, ?_⟩; conv => whnf)
    | (refine ⟨_, _, rfl, ?_⟩
       with_reducible apply ix_ex
       · repeat (first | with_reducible exact ix_nI | assumption | with_reducible apply ix_add | with_reducible apply ix_mul | (with_reducible apply ix_sub) | (with_reducible apply ix_upd) | (with_reducible apply ix_div) | omega)
       (refine ⟨⟨by omega, by decide⟩, ?_⟩; conv => whnf))
    | (with_reducible apply br_le
       · repeat (first | with_reducible exact ix_nI | assumption | with_reducible apply ix_add | with_reducible apply ix_mul | (with_reducible apply ix_sub) | (with_reducible apply ix_upd) | (with_reducible apply ix_div) | omega)
       · repeat (first | with_reducible exact ix_nI | assumption | with_reducible apply ix_add | with_reducible apply ix_mul | (with_reducible apply ix_sub) | (with_reducible apply ix_upd) | (with_reducible apply ix_div) | omega)
       · omega
       · omega
       all_goals (intro hc; first | omega | (conv => whnf)))
    | (with_reducible apply br_lt
       · repeat (first | with_reducible exact ix_nI | assumption | with_reducible apply ix_add | with_reducible apply ix_mul | (with_reducible apply ix_sub) | (with_reducible apply ix_upd) | (with_reducible apply ix_div) | omega)
       · repeat (first | with_reducible exact ix_nI | assumption | with_reducible apply ix_add | with_reducible apply ix_mul | (with_reducible apply ix_sub) | (with_reducible apply ix_upd) | (with_reducible apply ix_div) | omega)
       · omega
       · omega
       all_goals (intro hc; first | omega | (conv => whnf)))
    | (with_reducible apply br_eq
       · repeat (first | with_reducible exact ix_nI | assumption | with_reducible apply ix_add | with_reducible apply ix_mul | (with_reducible apply ix_sub) | (with_reducible apply ix_upd) | (with_reducible apply ix_div) | omega)
       · repeat (first | with_reducible exact ix_nI | assumption | with_reducible apply ix_add | with_reducible apply ix_mul | (with_reducible apply ix_sub) | (with_reducible apply ix_upd) | (with_reducible apply ix_div) | omega)
       · omega
       · omega
       all_goals (intro hc; first | omega | (conv => whnf)))
    | (with_reducible apply br_ne
       · repeat (first | with_reducible exact ix_nI | assumption | with_reducible apply ix_add | with_reducible apply ix_mul | (with_reducible apply ix_sub) | (with_reducible apply ix_upd) | (with_reducible apply ix_div) | omega)
       · repeat (first | with_reducible exact ix_nI | assumption | with_reducible apply ix_add | with_reducible apply ix_mul | (with_reducible apply ix_sub) | (with_reducible apply ix_upd) | (with_reducible apply ix_div) | omega)
       · omega
       · omega
       all_goals (intro hc; first | omega | (conv => whnf)))
    | (with_reducible apply br_eq0
       · repeat (first | with_reducible exact ix_nI | assumption | with_reducible apply ix_add | with_reducible apply ix_mul | (with_reducible apply ix_sub) | (with_reducible apply ix_upd) | (with_reducible apply ix_div) | omega)
       · omega
       all_goals (intro hc; first | omega | (conv => whnf)))
    | (with_reducible apply br_ne0
       · repeat (first | with_reducible exact ix_nI | assumption | with_reducible apply ix_add | with_reducible apply ix_mul | (with_reducible apply ix_sub) | (with_reducible apply ix_upd) | (with_reducible apply ix_div) | omega)
       · omega
       all_goals (intro hc; first | omega | (conv => whnf)))
    | (with_reducible apply br_le0
       · repeat (first | with_reducible exact ix_nI | assumption | with_reducible apply ix_add | with_reducible apply ix_mul | (with_reducible apply ix_sub) | (with_reducible apply ix_upd) | (with_reducible apply ix_div) | omega)
       · omega
       all_goals (intro hc; first | omega | (conv => whnf)))
    | (with_reducible apply br_gt0
       · repeat (first | with_reducible exact ix_nI | assumption | with_reducible apply ix_add | with_reducible apply ix_mul | (with_reducible apply ix_sub) | (with_reducible apply ix_upd) | (with_reducible apply ix_div) | omega)
       · omega
       all_goals (intro hc; first | omega | (conv => whnf)))
    | (with_reducible apply br_lt0
       · repeat (first | with_reducible exact ix_nI | assumption | with_reducible apply ix_add | with_reducible apply ix_mul | (with_reducible apply ix_sub) | (with_reducible apply ix_upd) | (with_reducible apply ix_div) | omega)
       · omega
       conv => whnf)
    | (with_reducible apply br_ge0
       · repeat (first | with_reducible exact ix_nI | assumption | with_reducible apply ix_add | with_reducible apply ix_mul | (with_reducible apply ix_sub) | (with_reducible apply ix_upd) | (with_reducible apply ix_div) | omega)
       · omega
       conv => whnf)
    | (with_reducible apply br_tab
       · repeat (first | with_reducible exact ix_nI | assumption | with_reducible apply ix_add | with_reducible apply ix_mul | (with_reducible apply ix_sub) | (with_reducible apply ix_upd) | (with_reducible apply ix_div) | omega)
       · omega
       all_goals (intro hc; (try dsimp only at hc); first | omega | (conv => whnf)))
    | (refine And.intro (fun hc => ?_) (fun hc => ?_) <;> conv => whnf)
    | (refine And.intro (by decide) ?_; conv => whnf)
    | fail)
  refine wp_use hW ?_
  have key := upto (W := fun i => ∀ q', (∀ j, j < i → q' j = minI (nI 450) (q j + more)) → (∀ j, i ≤ j → q' j = q j) → wp G (d + 1) kX3_disturb w.2.1 w.2.2 K 2 [some (.ref a), some (.int more), some (.int (nI i))] [] (upA h c (.inl (0, 16, .inl q'))) w) 16 ?_ ?_
  · have := key q (fun j hj => absurd hj (Nat.not_lt_zero j)) (fun _ _ => rfl)
    rw [upA_self hq] at this
    exact this
  · intro q' h1 h2
    refine wp_vc [2] 60 rfl fun W' C hW hC => ?_
    conv => whnf
    repeat' (first
      | (refine ⟨_, rfl, ?_⟩; conv => whnf)
      | (refine ⟨_, _, rfl, ⟨_, rfl, rfl⟩, ?_⟩; conv => whnf)
      | (refine ⟨_, _, rfl, ?_⟩
         with_reducible apply ix_ex
         · repeat (first | with_reducible exact ix_nI | assumption | with_reducible apply ix_add | with_reducible apply ix_mul | (with_reducible apply ix_sub) | (with_reducible apply ix_upd) | (with_reducible apply ix_div) | omega)
         (refine ⟨⟨by omega, by decide⟩, ?_⟩; conv => whnf))
      | (with_reducible apply br_le
         · repeat (first | with_reducible exact ix_nI | assumption | with_reducible apply ix_add | with_reducible apply ix_mul | (with_reducible apply ix_sub) | (with_reducible apply ix_upd) | (with_reducible apply ix_div) | omega)
         · repeat (first | with_reducible exact ix_nI | assumption | with_reducible apply ix_add | with_reducible apply ix_mul | (with_reducible apply ix_sub) | (with_reducible apply ix_upd) | (with_reducible apply ix_div) | omega)
         · omega
         · omega
         all_goals (intro hc; first | omega | (conv => whnf)))
      | (with_reducible apply br_lt
         · repeat (first | with_reducible exact ix_nI | assumption | with_reducible apply ix_add | with_reducible apply ix_mul | (with_reducible apply ix_sub) | (with_reducible apply ix_upd) | (with_reducible apply ix_div) | omega)
         · repeat (first | with_reducible exact ix_nI | assumption | with_reducible apply ix_add | with_reducible apply ix_mul | (with_reducible apply ix_sub) | (with_reducible apply ix_upd) | (with_reducible apply ix_div) | omega)
         · omega
         · omega
         all_goals (intro hc; first | omega | (conv => whnf)))
      | (with_reducible apply br_eq
         · repeat (first | with_reducible exact ix_nI | assumption | with_reducible apply ix_add | with_reducible apply ix_mul | (with_reducible apply ix_sub) | (with_reducible apply ix_upd) | (with_reducible apply ix_div) | omega)
         · repeat (first | with_reducible exact ix_nI | assumption | with_reducible apply ix_add | with_reducible apply ix_mul | (with_reducible apply ix_sub) | (with_reducible apply ix_upd) | (with_reducible apply ix_div) | omega)
         · omega
         · omega
         all_goals (intro hc; first | omega | (conv => whnf)))
      | (with_reducible apply br_ne
         · repeat (first | with_reducible exact ix_nI | assumption | with_reducible apply ix_add | with_reducible apply ix_mul | (with_reducible apply ix_sub) | (with_reducible apply ix_upd) | (with_reducible apply ix_div) | omega)
         · repeat (first | with_reducible exact ix_nI | assumption | with_reducible apply ix_add | with_reducible apply ix_mul | (with_reducible apply ix_sub) | (with_reducible apply ix_upd) | (with_reducible apply ix_div) | omega)
         · omega
         · omega
         all_goals (intro hc; first | omega | (conv => whnf)))
      | (with_reducible apply br_eq0
         · repeat (first | with_reducible exact ix_nI | assumption | with_reducible apply ix_add | with_reducible apply ix_mul | (with_reducible apply ix_sub) | (with_reducible apply ix_upd) | (with_reducible apply ix_div) | omega)
         · omega
         all_goals (intro hc; first | omega | (conv => whnf)))
      | (with_reducible apply br_ne0
         · repeat (first | with_reducible exact ix_nI | assumption | with_reducible apply ix_add | with_reducible apply ix_mul | (with_reducible apply ix_sub) | (with_reducible apply ix_upd) | (with_reducible apply ix_div) | omega)
         · omega
         all_goals (intro hc; first | omega | (conv => whnf)))
      | (with_reducible apply br_le0
         · repeat (first | with_reducible exact ix_nI | assumption | with_reducible apply ix_add | with_reducible apply ix_mul | (with_reducible apply ix_sub) | (with_reducible apply ix_upd) | (with_reducible apply ix_div) | omega)
         · omega
         all_goals (intro hc; first | omega | (conv => whnf)))
      | (with_reducible apply br_gt0
         · repeat (first | with_reducible exact ix_nI | assumption | with_reducible apply ix_add | with_reducible apply ix_mul | (with_reducible apply ix_sub) | (with_reducible apply ix_upd) | (with_reducible apply ix_div) | omega)
         · omega
         all_goals (intro hc; first | omega | (conv => whnf)))
      | (with_reducible apply br_lt0
         · repeat (first | with_reducible exact ix_nI | assumption | with_reducible apply ix_add | with_reducible apply ix_mul | (with_reducible apply ix_sub) | (with_reducible apply ix_upd) | (with_reducible apply ix_div) | omega)
         · omega
         conv => whnf)
      | (with_reducible apply br_ge0
         · repeat (first | with_reducible exact ix_nI | assumption | with_reducible apply ix_add | with_reducible apply ix_mul | (with_reducible apply ix_sub) | (with_reducible apply ix_upd) | (with_reducible apply ix_div) | omega)
         · omega
         conv => whnf)
      | (with_reducible apply br_tab
         · repeat (first | with_reducible exact ix_nI | assumption | with_reducible apply ix_add | with_reducible apply ix_mul | (with_reducible apply ix_sub) | (with_reducible apply ix_upd) | (with_reducible apply ix_div) | omega)
         · omega
         all_goals (intro hc; (try dsimp only at hc); first | omega | (conv => whnf)))
      | (refine And.intro (fun hc => ?_) (fun hc => ?_) <;> conv => whnf)
      | (refine And.intro (by decide) ?_; conv => whnf)
      | fail)
    exact hK q' h1 h2
  · intro i hi ih q' h1 h2
    refine wp_vc [2] 60 rfl fun W' C hW hC => ?_
    conv => whnf
    repeat' (first
      | (refine ⟨_, rfl, ?_⟩; conv => whnf)
      | (refine ⟨_, _, rfl, ⟨_, rfl, rfl⟩, ?_⟩; conv => whnf)
      | (refine ⟨_, _, rfl, ?_⟩
         with_reducible apply ix_ex
         · repeat (first | with_reducible exact ix_nI | assumption | with_reducible apply ix_add | with_reducible apply ix_mul | (with_reducible apply ix_sub) | (with_reducible apply ix_upd) | (with_reducible apply ix_div) | omega)
         (refine ⟨⟨by omega, by decide⟩, ?_⟩; conv => whnf))
      | (with_reducible apply br_le
         · repeat (first | with_reducible exact ix_nI | assumption | with_reducible apply ix_add | with_reducible apply ix_mul | (with_reducible apply ix_sub) | (with_reducible apply ix_upd) | (with_reducible apply ix_div) | omega)
         · repeat (first | with_reducible exact ix_nI | assumption | with_reducible apply ix_add | with_reducible apply ix_mul | (with_reducible apply ix_sub) | (with_reducible apply ix_upd) | (with_reducible apply ix_div) | omega)
         · omega
         · omega
         all_goals (intro hc; first | omega | (conv => whnf)))
      | (with_reducible apply br_lt
         · repeat (first | with_reducible exact ix_nI | assumption | with_reducible apply ix_add | with_reducible apply ix_mul | (with_reducible apply ix_sub) | (with_reducible apply ix_upd) | (with_reducible apply ix_div) | omega)
         · repeat (first | with_reducible exact ix_nI | assumption | with_reducible apply ix_add | with_reducible apply ix_mul | (with_reducible apply ix_sub) | (with_reducible apply ix_upd) | (with_reducible apply ix_div) | omega)
         · omega
         · omega
         all_goals (intro hc; first | omega | (conv => whnf)))
      | (with_reducible apply br_eq
         · repeat (first | with_reducible exact ix_nI | assumption | with_reducible apply ix_add | with_reducible apply ix_mul | (with_reducible apply ix_sub) | (with_reducible apply ix_upd) | (with_reducible apply ix_div) | omega)
         · repeat (first | with_reducible exact ix_nI | assumption | with_reducible apply ix_add | with_reducible apply ix_mul | (with_reducible apply ix_sub) | (with_reducible apply ix_upd) | (with_reducible apply ix_div) | omega)
         · omega
         · omega
         all_goals (intro hc; first | omega | (conv => whnf)))
      | (with_reducible apply br_ne
         · repeat (first | with_reducible exact ix_nI | assumption | with_reducible apply ix_add | with_reducible apply ix_mul | (with_reducible apply ix_sub) | (with_reducible apply ix_upd) | (with_reducible apply ix_div) | omega)
         · repeat (first | with_reducible exact ix_nI | assumption | with_reducible apply ix_add | with_reducible apply ix_mul | (with_reducible apply ix_sub) | (with_reducible apply ix_upd) | (with_reducible apply ix_div) | omega)
         · omega
         · omega
         all_goals (intro hc; first | omega | (conv => whnf)))
      | (with_reducible apply br_eq0
         · repeat (first | with_reducible exact ix_nI | assumption | with_reducible apply ix_add | with_reducible apply ix_mul | (with_reducible apply ix_sub) | (with_reducible apply ix_upd) | (with_reducible apply ix_div) | omega)
         · omega
         all_goals (intro hc; first | omega | (conv => whnf)))
      | (with_reducible apply br_ne0
         · repeat (first | with_reducible exact ix_nI | assumption | with_reducible apply ix_add | with_reducible apply ix_mul | (with_reducible apply ix_sub) | (with_reducible apply ix_upd) | (with_reducible apply ix_div) | omega)
         · omega
         all_goals (intro hc; first | omega | (conv => whnf)))
      | (with_reducible apply br_le0
         · repeat (first | with_reducible exact ix_nI | assumption | with_reducible apply ix_add | with_reducible apply ix_mul | (with_reducible apply ix_sub) | (with_reducible apply ix_upd) | (with_reducible apply ix_div) | omega)
         · omega
         all_goals (intro hc; first | omega | (conv => whnf)))
      | (with_reducible apply br_gt0
         · repeat (first | with_reducible exact ix_nI | assumption | with_reducible apply ix_add | with_reducible apply ix_mul | (with_reducible apply ix_sub) | (with_reducible apply ix_upd) | (with_reducible apply ix_div) | omega)
         · omega
         all_goals (intro hc; first | omega | (conv => whnf)))
      | (with_reducible apply br_lt0
         · repeat (first | with_reducible exact ix_nI | assumption | with_reducible apply ix_add | with_reducible apply ix_mul | (with_reducible apply ix_sub) | (with_reducible apply ix_upd) | (with_reducible apply ix_div) | omega)
         · omega
         conv => whnf)
      | (with_reducible apply br_ge0
         · repeat (first | with_reducible exact ix_nI | assumption | with_reducible apply ix_add | with_reducible apply ix_mul | (with_reducible apply ix_sub) | (with_reducible apply ix_upd) | (with_reducible apply ix_div) | omega)
         · omega
         conv => whnf)
      | (with_reducible apply br_tab
         · repeat (first | with_reducible exact ix_nI | assumption | with_reducible apply ix_add | with_reducible apply ix_mul | (with_reducible apply ix_sub) | (with_reducible apply ix_upd) | (with_reducible apply ix_div) | omega)
         · omega
         all_goals (intro hc; (try dsimp only at hc); first | omega | (conv => whnf)))
      | (refine ⟨_, upA_ne hac hp, ?_⟩; conv => whnf)
        | (refine ⟨_, _, upA_eq, _, ix_nI, ⟨by omega, by decide⟩, ?_⟩; conv => whnf)
      | (refine And.intro (fun hc => ?_) (fun hc => ?_) <;> conv => whnf)
      | (refine And.intro (by decide) ?_; conv => whnf)
      | fail)
    refine wp_use hW ?_
    rw [nI_add, upA_upA]
    refine ih _ (fun j hj => ?_) (fun j hj => ?_)
    · by_cases e : j = i
      · subst e; rw [upd_eq, h2 j (Nat.le_refl _)]; rfl
      · rw [upd_ne e]; exact h1 j (by omega)
    · rw [upd_ne (by omega)]; exact h2 j (by omega)
theorem c_drift {a c : Nat} {q : ZZ} {F : List Value} {perm : Int32} (hac : a ≠ c) (hp : h a = .inr (3, .ref c :: F)) (hq : h c = .inl (0, 16, .inl q)) (hK : ∀ q' b, (∀ i, i < 16 → q' i = drC perm (q i)) → (∀ i, 16 ≤ i → q' i = q i) → (b = nI 1 ∨ b = nI 0 ∧ ∀ i, i < 16 → q' i = q i) → K (.inl (some (.int b))) (upA h c (.inl (0, 16, .inl q'))) w) : Cl G d kX3_drift [.ref a, .int perm] h w K := by
  refine Cl.of (by decide) rfl ?_
  refine wp_vc [4] 60 rfl fun W' C hW hC => ?_
  conv => whnf
  repeat' (first
    | (refine ⟨_, rfl, ?_⟩; conv => whnf)
    | (refine ⟨_, _, rfl, ⟨_, rfl, rfl⟩, ?_⟩; conv => whnf)
    | (refine ⟨_, _, rfl, ?_⟩
       with_reducible apply ix_ex
       · repeat (first | with_reducible exact ix_nI | assumption | with_reducible apply ix_add | with_reducible apply ix_mul | (with_reducible apply ix_sub) | (with_reducible apply ix_upd) | (with_reducible apply ix_div) | omega)
       (refine ⟨⟨by omega, by decide⟩, ?_⟩; conv => whnf))
    | (with_reducible apply br_le
       · repeat (first | with_reducible exact ix_nI | assumption | with_reducible apply ix_add | with_reducible apply ix_mul | (with_reducible apply ix_sub) | (with_reducible apply ix_upd) | (with_reducible apply ix_div) | omega)
       · repeat (first | with_reducible exact ix_nI | assumption | with_reducible apply ix_add | with_reducible apply ix_mul | (with_reducible apply ix_sub) | (with_reducible apply ix_upd) | (with_reducible apply ix_div) | omega)
       · omega
       · omega
       all_goals (intro hc; first | omega | (conv => whnf)))
    | (with_reducible apply br_lt
       · repeat (first | with_reducible exact ix_nI | assumption | with_reducible apply ix_add | with_reducible apply ix_mul | (with_reducible apply ix_sub) | (with_reducible apply ix_upd) | (with_reducible apply ix_div) | omega)
       · repeat (first | with_reducible exact ix_nI | assumption | with_reducible apply ix_add | with_reducible apply ix_mul | (with_reducible apply ix_sub) | (with_reducible apply ix_upd) | (with_reducible apply ix_div) | omega)
       · omega
       · omega
       all_goals (intro hc; first | omega | (conv => whnf)))
    | (with_reducible apply br_eq
       · repeat (first | with_reducible exact ix_nI | assumption | with_reducible apply ix_add | with_reducible apply ix_mul | (with_reducible apply ix_sub) | (with_reducible apply ix_upd) | (with_reducible apply ix_div) | omega)
       · repeat (first | with_reducible exact ix_nI | assumption | with_reducible apply ix_add | with_reducible apply ix_mul | (with_reducible apply ix_sub) | (with_reducible apply ix_upd) | (with_reducible apply ix_div) | omega)
       · omega
       · omega
       all_goals (intro hc; first | omega | (conv => whnf)))
    | (with_reducible apply br_ne
       · repeat (first | with_reducible exact ix_nI | assumption | with_reducible apply ix_add | with_reducible apply ix_mul | (with_reducible apply ix_sub) | (with_reducible apply ix_upd) | (with_reducible apply ix_div) | omega)
       · repeat (first | with_reducible exact ix_nI | assumption | with_reducible apply ix_add | with_reducible apply ix_mul | (with_reducible apply ix_sub) | (with_reducible apply ix_upd) | (with_reducible apply ix_div) | omega)
       · omega
       · omega
       all_goals (intro hc; first | omega | (conv => whnf)))
    | (with_reducible apply br_eq0
       · repeat (first | with_reducible exact ix_nI | assumption | with_reducible apply ix_add | with_reducible apply ix_mul | (with_reducible apply ix_sub) | (with_reducible apply ix_upd) | (with_reducible apply ix_div) | omega)
       · omega
       all_goals (intro hc; first | omega | (conv => whnf)))
    | (with_reducible apply br_ne0
       · repeat (first | with_reducible exact ix_nI | assumption | with_reducible apply ix_add | with_reducible apply ix_mul | (with_reducible apply ix_sub) | (with_reducible apply ix_upd) | (with_reducible apply ix_div) | omega)
       · omega
       all_goals (intro hc; first | omega | (conv => whnf)))
    | (with_reducible apply br_le0
       · repeat (first | with_reducible exact ix_nI | assumption | with_reducible apply ix_add | with_reducible apply ix_mul | (with_reducible apply ix_sub) | (with_reducible apply ix_upd) | (with_reducible apply ix_div) | omega)
       · omega
       all_goals (intro hc; first | omega | (conv => whnf)))
    | (with_reducible apply br_gt0
       · repeat (first | with_reducible exact ix_nI | assumption | with_reducible apply ix_add | with_reducible apply ix_mul | (with_reducible apply ix_sub) | (with_reducible apply ix_upd) | (with_reducible apply ix_div) | omega)
       · omega
       all_goals (intro hc; first | omega | (conv => whnf)))
    | (with_reducible apply br_lt0
       · repeat (first | with_reducible exact ix_nI | assumption | with_reducible apply ix_add | with_reducible apply ix_mul | (with_reducible apply ix_sub) | (with_reducible apply ix_upd) | (with_reducible apply ix_div) | omega)
       · omega
       conv => whnf)
    | (with_reducible apply br_ge0
       · repeat (first | with_reducible exact ix_nI | assumption | with_reducible apply ix_add | with_reducible apply ix_mul | (with_reducible apply ix_sub) | (with_reducible apply ix_upd) | (with_reducible apply ix_div) | omega)
       · omega
       conv => whnf)
    | (with_reducible apply br_tab
       · repeat (first | with_reducible exact ix_nI | assumption | with_reducible apply ix_add | with_reducible apply ix_mul | (with_reducible apply ix_sub) | (with_reducible apply ix_upd) | (with_reducible apply ix_div) | omega)
       · omega
       all_goals (intro hc; (try dsimp only at hc); first | omega | (conv => whnf)))
    | (refine And.intro (fun hc => ?_) (fun hc => ?_) <;> conv => whnf)
    | (refine And.intro (by decide) ?_; conv => whnf)
    | fail)
  refine wp_use hW ?_
  have key := upto (W := fun i => ∀ q' b, (∀ j, j < i → q' j = drC perm (q j)) → (∀ j, i ≤ j → q' j = q j) → (b = nI 1 ∨ b = nI 0 ∧ ∀ j, j < i → q' j = q j) → wp G d kX3_drift w.2.1 w.2.2 K 4 [some (.ref a), some (.int perm), some (.int b), some (.int (nI i)), none] [] (upA h c (.inl (0, 16, .inl q'))) w) 16 ?_ ?_
  · have := key q (nI 0) (fun j hj => absurd hj (Nat.not_lt_zero j)) (fun _ _ => rfl) (Or.inr ⟨rfl, fun j hj => absurd hj (Nat.not_lt_zero j)⟩)
    rw [upA_self hq] at this
    exact this.le (by repeat' (first | exact trivial | refine And.intro rfl ?_))
  · intro q' b h1 h2 h3
    rcases h3 with e | ⟨e, h3⟩
    · subst e
      refine wp_vc [4] 60 rfl fun W' C hW hC => ?_
      conv => whnf
      repeat' (first
        | (refine ⟨_, rfl, ?_⟩; conv => whnf)
        | (refine ⟨_, _, rfl, ⟨_, rfl, rfl⟩, ?_⟩; conv => whnf)
        | (refine ⟨_, _, rfl, ?_⟩
           with_reducible apply ix_ex
           · repeat (first | with_reducible exact ix_nI | assumption | with_reducible apply ix_add | with_reducible apply ix_mul | (with_reducible apply ix_sub) | (with_reducible apply ix_upd) | (with_reducible apply ix_div) | omega)
           (refine ⟨⟨by omega, by decide⟩, ?_⟩; conv => whnf))
        | (with_reducible apply br_le
           · repeat (first | with_reducible exact ix_nI | assumption | with_reducible apply ix_add | with_reducible apply ix_mul | (with_reducible apply ix_sub) | (with_reducible apply ix_upd) | (with_reducible apply ix_div) | omega)
           · repeat (first | with_reducible exact ix_nI | assumption | with_reducible apply ix_add | with_reducible apply ix_mul | (with_reducible apply ix_sub) | (with_reducible apply ix_upd) | (with_reducible apply ix_div) | omega)
           · omega
           · omega
           all_goals (intro hc; first | omega | (conv => whnf)))
        | (with_reducible apply br_lt
           · repeat (first | with_reducible exact ix_nI | assumption | with_reducible apply ix_add | with_reducible apply ix_mul | (with_reducible apply ix_sub) | (with_reducible apply ix_upd) | (with_reducible apply ix_div) | omega)
           · repeat (first | with_reducible exact ix_nI | assumption | with_reducible apply ix_add | with_reducible apply ix_mul | (with_reducible apply ix_sub) | (with_reducible apply ix_upd) | (with_reducible apply ix_div) | omega)
           · omega
           · omega
           all_goals (intro hc; first | omega | (conv => whnf)))
        | (with_reducible apply br_eq
           · repeat (first | with_reducible exact ix_nI | assumption | with_reducible apply ix_add | with_reducible apply ix_mul | (with_reducible apply ix_sub) | (with_reducible apply ix_upd) | (with_reducible apply ix_div) | omega)
           · repeat (first | with_reducible exact ix_nI | assumption | with_reducible apply ix_add | with_reducible apply ix_mul | (with_reducible apply ix_sub) | (with_reducible apply ix_upd) | (with_reducible apply ix_div) | omega)
           · omega
           · omega
           all_goals (intro hc; first | omega | (conv => whnf)))
        | (with_reducible apply br_ne
           · repeat (first | with_reducible exact ix_nI | assumption | with_reducible apply ix_add | with_reducible apply ix_mul | (with_reducible apply ix_sub) | (with_reducible apply ix_upd) | (with_reducible apply ix_div) | omega)
           · repeat (first | with_reducible exact ix_nI | assumption | with_reducible apply ix_add | with_reducible apply ix_mul | (with_reducible apply ix_sub) | (with_reducible apply ix_upd) | (with_reducible apply ix_div) | omega)
           · omega
           · omega
           all_goals (intro hc; first | omega | (conv => whnf)))
        | (with_reducible apply br_eq0
           · repeat (first | with_reducible exact ix_nI | assumption | with_reducible apply ix_add | with_reducible apply ix_mul | (with_reducible apply ix_sub) | (with_reducible apply ix_upd) | (with_reducible apply ix_div) | omega)
           · omega
           all_goals (intro hc; first | omega | (conv => whnf)))
        | (with_reducible apply br_ne0
           · repeat (first | with_reducible exact ix_nI | assumption | with_reducible apply ix_add | with_reducible apply ix_mul | (with_reducible apply ix_sub) | (with_reducible apply ix_upd) | (with_reducible apply ix_div) | omega)
           · omega
           all_goals (intro hc; first | omega | (conv => whnf)))
        | (with_reducible apply br_le0
           · repeat (first | with_reducible exact ix_nI | assumption | with_reducible apply ix_add | with_reducible apply ix_mul | (with_reducible apply ix_sub) | (with_reducible apply ix_upd) | (with_reducible apply ix_div) | omega)
           · omega
           all_goals (intro hc; first | omega | (conv => whnf)))
        | (with_reducible apply br_gt0
           · repeat (first | with_reducible exact ix_nI | assumption | with_reducible apply ix_add | with_reducible apply ix_mul | (with_reducible apply ix_sub) | (with_reducible apply ix_upd) | (with_reducible apply ix_div) | omega)
           · omega
           all_goals (intro hc; first | omega | (conv => whnf)))
        | (with_reducible apply br_lt0
           · repeat (first | with_reducible exact ix_nI | assumption | with_reducible apply ix_add | with_reducible apply ix_mul | (with_reducible apply ix_sub) | (with_reducible apply ix_upd) | (with_reducible apply ix_div) | omega)
           · omega
           conv => whnf)
        | (with_reducible apply br_ge0
           · repeat (first | with_reducible exact ix_nI | assumption | with_reducible apply ix_add | with_reducible apply ix_mul | (with_reducible apply ix_sub) | (with_reducible apply ix_upd) | (with_reducible apply ix_div) | omega)
           · omega
           conv => whnf)
        | (with_reducible apply br_tab
           · repeat (first | with_reducible exact ix_nI | assumption | with_reducible apply ix_add | with_reducible apply ix_mul | (with_reducible apply ix_sub) | (with_reducible apply ix_upd) | (with_reducible apply ix_div) | omega)
           · omega
           all_goals (intro hc; (try dsimp only at hc); first | omega | (conv => whnf)))
        | (refine And.intro (fun hc => ?_) (fun hc => ?_) <;> conv => whnf)
        | (refine And.intro (by decide) ?_; conv => whnf)
        | fail)
      all_goals first | exact hK q' _ h1 h2 (Or.inl rfl) | exact ⟨Or.inr rfl, hK q' _ h1 h2 (Or.inl rfl)⟩
    · subst e
      refine wp_vc [4] 60 rfl fun W' C hW hC => ?_
      conv => whnf
      repeat' (first
        | (refine ⟨_, rfl, ?_⟩; conv => whnf)
        | (refine ⟨_, _, rfl, ⟨_, rfl, rfl⟩, ?_⟩; conv => whnf)
        | (refine ⟨_, _, rfl, ?_⟩
           with_reducible apply ix_ex
           · repeat (first | with_reducible exact ix_nI | assumption | with_reducible apply ix_add | with_reducible apply ix_mul | (with_reducible apply ix_sub) | (with_reducible apply ix_upd) | (with_reducible apply ix_div) | omega)
           (refine ⟨⟨by omega, by decide⟩, ?_⟩; conv => whnf))
        | (with_reducible apply br_le
           · repeat (first | with_reducible exact ix_nI | assumption | with_reducible apply ix_add | with_reducible apply ix_mul | (with_reducible apply ix_sub) | (with_reducible apply ix_upd) | (with_reducible apply ix_div) | omega)
           · repeat (first | with_reducible exact ix_nI | assumption | with_reducible apply ix_add | with_reducible apply ix_mul | (with_reducible apply ix_sub) | (with_reducible apply ix_upd) | (with_reducible apply ix_div) | omega)
           · omega
           · omega
           all_goals (intro hc; first | omega | (conv => whnf)))
        | (with_reducible apply br_lt
           · repeat (first | with_reducible exact ix_nI | assumption | with_reducible apply ix_add | with_reducible apply ix_mul | (with_reducible apply ix_sub) | (with_reducible apply ix_upd) | (with_reducible apply ix_div) | omega)
           · repeat (first | with_reducible exact ix_nI | assumption | with_reducible apply ix_add | with_reducible apply ix_mul | (with_reducible apply ix_sub) | (with_reducible apply ix_upd) | (with_reducible apply ix_div) | omega)
           · omega
           · omega
           all_goals (intro hc; first | omega | (conv => whnf)))
        | (with_reducible apply br_eq
           · repeat (first | with_reducible exact ix_nI | assumption | with_reducible apply ix_add | with_reducible apply ix_mul | (with_reducible apply ix_sub) | (with_reducible apply ix_upd) | (with_reducible apply ix_div) | omega)
           · repeat (first | with_reducible exact ix_nI | assumption | with_reducible apply ix_add | with_reducible apply ix_mul | (with_reducible apply ix_sub) | (with_reducible apply ix_upd) | (with_reducible apply ix_div) | omega)
           · omega
           · omega
           all_goals (intro hc; first | omega | (conv => whnf)))
        | (with_reducible apply br_ne
           · repeat (first | with_reducible exact ix_nI | assumption | with_reducible apply ix_add | with_reducible apply ix_mul | (with_reducible apply ix_sub) | (with_reducible apply ix_upd) | (with_reducible apply ix_div) | omega)
           · repeat (first | with_reducible exact ix_nI | assumption | with_reducible apply ix_add | with_reducible apply ix_mul | (with_reducible apply ix_sub) | (with_reducible apply ix_upd) | (with_reducible apply ix_div) | omega)
           · omega
           · omega
           all_goals (intro hc; first | omega | (conv => whnf)))
        | (with_reducible apply br_eq0
           · repeat (first | with_reducible exact ix_nI | assumption | with_reducible apply ix_add | with_reducible apply ix_mul | (with_reducible apply ix_sub) | (with_reducible apply ix_upd) | (with_reducible apply ix_div) | omega)
           · omega
           all_goals (intro hc; first | omega | (conv => whnf)))
        | (with_reducible apply br_ne0
           · repeat (first | with_reducible exact ix_nI | assumption | with_reducible apply ix_add | with_reducible apply ix_mul | (with_reducible apply ix_sub) | (with_reducible apply ix_upd) | (with_reducible apply ix_div) | omega)
           · omega
           all_goals (intro hc; first | omega | (conv => whnf)))
        | (with_reducible apply br_le0
           · repeat (first | with_reducible exact ix_nI | assumption | with_reducible apply ix_add | with_reducible apply ix_mul | (with_reducible apply ix_sub) | (with_reducible apply ix_upd) | (with_reducible apply ix_div) | omega)
           · omega
           all_goals (intro hc; first | omega | (conv => whnf)))
        | (with_reducible apply br_gt0
           · repeat (first | with_reducible exact ix_nI | assumption | with_reducible apply ix_add | with_reducible apply ix_mul | (with_reducible apply ix_sub) | (with_reducible apply ix_upd) | (with_reducible apply ix_div) | omega)
           · omega
           all_goals (intro hc; first | omega | (conv => whnf)))
        | (with_reducible apply br_lt0
           · repeat (first | with_reducible exact ix_nI | assumption | with_reducible apply ix_add | with_reducible apply ix_mul | (with_reducible apply ix_sub) | (with_reducible apply ix_upd) | (with_reducible apply ix_div) | omega)
           · omega
           conv => whnf)
        | (with_reducible apply br_ge0
           · repeat (first | with_reducible exact ix_nI | assumption | with_reducible apply ix_add | with_reducible apply ix_mul | (with_reducible apply ix_sub) | (with_reducible apply ix_upd) | (with_reducible apply ix_div) | omega)
           · omega
           conv => whnf)
        | (with_reducible apply br_tab
           · repeat (first | with_reducible exact ix_nI | assumption | with_reducible apply ix_add | with_reducible apply ix_mul | (with_reducible apply ix_sub) | (with_reducible apply ix_upd) | (with_reducible apply ix_div) | omega)
           · omega
           all_goals (intro hc; (try dsimp only at hc); first | omega | (conv => whnf)))
        | (refine And.intro (fun hc => ?_) (fun hc => ?_) <;> conv => whnf)
        | (refine And.intro (by decide) ?_; conv => whnf)
        | fail)
      all_goals first | exact hK q' _ h1 h2 (Or.inr ⟨rfl, h3⟩) | exact ⟨Or.inl rfl, hK q' _ h1 h2 (Or.inr ⟨rfl, h3⟩)⟩
  · intro i hi ih q' b h1 h2 h3
    refine wp_vc [4] 60 rfl fun W' C hW hC => ?_
    conv => whnf
    repeat' (first
      | (refine ⟨_, rfl, ?_⟩; conv => whnf)
      | (refine ⟨_, _, rfl, ⟨_, rfl, rfl⟩, ?_⟩; conv => whnf)
      | (refine ⟨_, _, rfl, ?_⟩
         with_reducible apply ix_ex
         · repeat (first | with_reducible exact ix_nI | assumption | with_reducible apply ix_add | with_reducible apply ix_mul | (with_reducible apply ix_sub) | (with_reducible apply ix_upd) | (with_reducible apply ix_div) | omega)
         (refine ⟨⟨by omega, by decide⟩, ?_⟩; conv => whnf))
      | (with_reducible apply br_le
         · repeat (first | with_reducible exact ix_nI | assumption | with_reducible apply ix_add | with_reducible apply ix_mul | (with_reducible apply ix_sub) | (with_reducible apply ix_upd) | (with_reducible apply ix_div) | omega)
         · repeat (first | with_reducible exact ix_nI | assumption | with_reducible apply ix_add | with_reducible apply ix_mul | (with_reducible apply ix_sub) | (with_reducible apply ix_upd) | (with_reducible apply ix_div) | omega)
         · omega
         · omega
         all_goals (intro hc; first | omega | (conv => whnf)))
      | (with_reducible apply br_lt
         · repeat (first | with_reducible exact ix_nI | assumption | with_reducible apply ix_add | with_reducible apply ix_mul | (with_reducible apply ix_sub) | (with_reducible apply ix_upd) | (with_reducible apply ix_div) | omega)
         · repeat (first | with_reducible exact ix_nI | assumption | with_reducible apply ix_add | with_reducible apply ix_mul | (with_reducible apply ix_sub) | (with_reducible apply ix_upd) | (with_reducible apply ix_div) | omega)
         · omega
         · omega
         all_goals (intro hc; first | omega | (conv => whnf)))
      | (with_reducible apply br_eq
         · repeat (first | with_reducible exact ix_nI | assumption | with_reducible apply ix_add | with_reducible apply ix_mul | (with_reducible apply ix_sub) | (with_reducible apply ix_upd) | (with_reducible apply ix_div) | omega)
         · repeat (first | with_reducible exact ix_nI | assumption | with_reducible apply ix_add | with_reducible apply ix_mul | (with_reducible apply ix_sub) | (with_reducible apply ix_upd) | (with_reducible apply ix_div) | omega)
         · omega
         · omega
         all_goals (intro hc; first | omega | (conv => whnf)))
      | (with_reducible apply br_ne
         · repeat (first | with_reducible exact ix_nI | assumption | with_reducible apply ix_add | with_reducible apply ix_mul | (with_reducible apply ix_sub) | (with_reducible apply ix_upd) | (with_reducible apply ix_div) | omega)
         · repeat (first | with_reducible exact ix_nI | assumption | with_reducible apply ix_add | with_reducible apply ix_mul | (with_reducible apply ix_sub) | (with_reducible apply ix_upd) | (with_reducible apply ix_div) | omega)
         · omega
         · omega
         all_goals (intro hc; first | omega | (conv => whnf)))
      | (with_reducible apply br_eq0
         · repeat (first | with_reducible exact ix_nI | assumption | with_reducible apply ix_add | with_reducible apply ix_mul | (with_reducible apply ix_sub) | (with_reducible apply ix_upd) | (with_reducible apply ix_div) | omega)
         · omega
         all_goals (intro hc; first | omega | (conv => whnf)))
      | (with_reducible apply br_ne0
         · repeat (first | with_reducible exact ix_nI | assumption | with_reducible apply ix_add | with_reducible apply ix_mul | (with_reducible apply ix_sub) | (with_reducible apply ix_upd) | (with_reducible apply ix_div) | omega)
         · omega
         all_goals (intro hc; first | omega | (conv => whnf)))
      | (with_reducible apply br_le0
         · repeat (first | with_reducible exact ix_nI | assumption | with_reducible apply ix_add | with_reducible apply ix_mul | (with_reducible apply ix_sub) | (with_reducible apply ix_upd) | (with_reducible apply ix_div) | omega)
         · omega
         all_goals (intro hc; first | omega | (conv => whnf)))
      | (with_reducible apply br_gt0
         · repeat (first | with_reducible exact ix_nI | assumption | with_reducible apply ix_add | with_reducible apply ix_mul | (with_reducible apply ix_sub) | (with_reducible apply ix_upd) | (with_reducible apply ix_div) | omega)
         · omega
         all_goals (intro hc; first | omega | (conv => whnf)))
      | (with_reducible apply br_lt0
         · repeat (first | with_reducible exact ix_nI | assumption | with_reducible apply ix_add | with_reducible apply ix_mul | (with_reducible apply ix_sub) | (with_reducible apply ix_upd) | (with_reducible apply ix_div) | omega)
         · omega
         conv => whnf)
      | (with_reducible apply br_ge0
         · repeat (first | with_reducible exact ix_nI | assumption | with_reducible apply ix_add | with_reducible apply ix_mul | (with_reducible apply ix_sub) | (with_reducible apply ix_upd) | (with_reducible apply ix_div) | omega)
         · omega
         conv => whnf)
      | (with_reducible apply br_tab
         · repeat (first | with_reducible exact ix_nI | assumption | with_reducible apply ix_add | with_reducible apply ix_mul | (with_reducible apply ix_sub) | (with_reducible apply ix_upd) | (with_reducible apply ix_div) | omega)
         · omega
         all_goals (intro hc; (try dsimp only at hc); first | omega | (conv => whnf)))
      | (refine ⟨_, upA_ne hac hp, ?_⟩; conv => whnf)
        | (refine ⟨_, _, upA_eq, _, ix_nI, ⟨by omega, by decide⟩, ?_⟩; conv => whnf)
      | (refine And.intro (fun hc => ?_) (fun hc => ?_) <;> conv => whnf)
      | (refine And.intro (by decide) ?_; conv => whnf)
      | fail)
    · refine wp_use hW ?_
      rw [nI_add]
      have hq9 : q' i = q i := h2 i (Nat.le_refl _)
      have hd : drC perm (q i) = q i := by rw [drC, if_neg (by rw [← hq9]; exact Int32.not_lt.mpr hc)]
      refine (ih q' b (fun j hj => ?_) (fun j hj => h2 j (by omega)) ?_).le (by repeat' (first | exact trivial | refine And.intro rfl ?_))
      · by_cases e : j = i
        · subst e; rw [hd, hq9]
        · exact h1 j (by omega)
      · rcases h3 with e | ⟨e, h3⟩
        · exact Or.inl e
        · refine Or.inr ⟨e, fun j hj => ?_⟩
          by_cases e : j = i
          · subst e; exact hq9
          · exact h3 j (by omega)
    · refine wp_use hW ?_
      rw [nI_add, upA_upA]
      have hq9 : q' i = q i := h2 i (Nat.le_refl _)
      refine (ih _ (nI 1) (fun j hj => ?_) (fun j hj => ?_) (Or.inl rfl)).le (by repeat' (first | exact trivial | refine And.intro rfl ?_))
      · by_cases e : j = i
        · subst e
          rw [upd_eq, drC, hq9, if_pos (by rw [← hq9]; exact Int32.not_le.mp hc)]
        · rw [upd_ne e]; exact h1 j (by omega)
      · rw [upd_ne (by omega)]; exact h2 j (by omega)
def drCn (perm q : Int32) : Nat → Int32
  | 0 => q
  | n + 1 => drC perm (drCn perm q n)
theorem drCn_fix {perm q : Int32} (h : drC perm q = q) : ∀ n, drCn perm q n = q
  | 0 => rfl
  | n + 1 => by rw [drCn, drCn_fix h n, h]
theorem drCn_add {perm q : Int32} {m : Nat} : ∀ n, drCn perm q (m + n) = drCn perm (drCn perm q m) n
  | 0 => rfl
  | n + 1 => by rw [← Nat.add_assoc, drCn, drCn, drCn_add n]
theorem c_driftFor {a c n : Nat} {q : ZZ} {F : List Value} {perm xn : Int32} (en : xn = nI n) (hn : n ≤ 300) (hac : a ≠ c) (hp : h a = .inr (3, .ref c :: F)) (hq : h c = .inl (0, 16, .inl q)) (hK : ∀ q', (∀ i, i < 16 → q' i = drCn perm (q i) n) → (∀ i, 16 ≤ i → q' i = q i) → K (.inl none) (upA h c (.inl (0, 16, .inl q'))) w) : Cl G (d + 1) kX3_driftFor [.ref a, .int xn, .int perm] h w K := by
  subst en
  refine Cl.of (by decide) rfl ?_
  refine wp_vc [5] 60 rfl fun W' C hW hC => ?_
  conv => whnf
  refine wp_use hW ?_
  have key : ∀ m k q', k + m = n → (∀ j, j < 16 → q' j = drCn perm (q j) k) → (∀ j, 16 ≤ j → q' j = q j) → wp G (d + 1) kX3_driftFor w.2.1 w.2.2 K 5 [some (.ref a), some (.int (nI n)), some (.int perm), some (.int (nI 1)), some (.int (nI k))] [] (upA h c (.inl (0, 16, .inl q'))) w := by
    intro m
    induction m with
    | zero =>
      intro k q' hk h1 h2
      obtain rfl : k = n := by omega
      refine wp_vc [5] 60 rfl fun W' C hW hC => ?_
      conv => whnf
      repeat' (first
        | (refine ⟨_, rfl, ?_⟩; conv => whnf)
        | (refine ⟨_, _, rfl, ⟨_, rfl, rfl⟩, ?_⟩; conv => whnf)
        | (refine ⟨_, _, rfl, ?_⟩
           with_reducible apply ix_ex
           · repeat (first | with_reducible exact ix_nI | assumption | with_reducible apply ix_add | with_reducible apply ix_mul | (with_reducible apply ix_sub) | (with_reducible apply ix_upd) | (with_reducible apply ix_div) | omega)
           (refine ⟨⟨by omega, by decide⟩, ?_⟩; conv => whnf))
        | (with_reducible apply br_le
           · repeat (first | with_reducible exact ix_nI | assumption | with_reducible apply ix_add | with_reducible apply ix_mul | (with_reducible apply ix_sub) | (with_reducible apply ix_upd) | (with_reducible apply ix_div) | omega)
           · repeat (first | with_reducible exact ix_nI | assumption | with_reducible apply ix_add | with_reducible apply ix_mul | (with_reducible apply ix_sub) | (with_reducible apply ix_upd) | (with_reducible apply ix_div) | omega)
           · omega
           · omega
           all_goals (intro hc; first | omega | (conv => whnf)))
        | (with_reducible apply br_lt
           · repeat (first | with_reducible exact ix_nI | assumption | with_reducible apply ix_add | with_reducible apply ix_mul | (with_reducible apply ix_sub) | (with_reducible apply ix_upd) | (with_reducible apply ix_div) | omega)
           · repeat (first | with_reducible exact ix_nI | assumption | with_reducible apply ix_add | with_reducible apply ix_mul | (with_reducible apply ix_sub) | (with_reducible apply ix_upd) | (with_reducible apply ix_div) | omega)
           · omega
           · omega
           all_goals (intro hc; first | omega | (conv => whnf)))
        | (with_reducible apply br_eq
           · repeat (first | with_reducible exact ix_nI | assumption | with_reducible apply ix_add | with_reducible apply ix_mul | (with_reducible apply ix_sub) | (with_reducible apply ix_upd) | (with_reducible apply ix_div) | omega)
           · repeat (first | with_reducible exact ix_nI | assumption | with_reducible apply ix_add | with_reducible apply ix_mul | (with_reducible apply ix_sub) | (with_reducible apply ix_upd) | (with_reducible apply ix_div) | omega)
           · omega
           · omega
           all_goals (intro hc; first | omega | (conv => whnf)))
        | (with_reducible apply br_ne
           · repeat (first | with_reducible exact ix_nI | assumption | with_reducible apply ix_add | with_reducible apply ix_mul | (with_reducible apply ix_sub) | (with_reducible apply ix_upd) | (with_reducible apply ix_div) | omega)
           · repeat (first | with_reducible exact ix_nI | assumption | with_reducible apply ix_add | with_reducible apply ix_mul | (with_reducible apply ix_sub) | (with_reducible apply ix_upd) | (with_reducible apply ix_div) | omega)
           · omega
           · omega
           all_goals (intro hc; first | omega | (conv => whnf)))
        | (with_reducible apply br_eq0
           · repeat (first | with_reducible exact ix_nI | assumption | with_reducible apply ix_add | with_reducible apply ix_mul | (with_reducible apply ix_sub) | (with_reducible apply ix_upd) | (with_reducible apply ix_div) | omega)
           · omega
           all_goals (intro hc; first | omega | (conv => whnf)))
        | (with_reducible apply br_ne0
           · repeat (first | with_reducible exact ix_nI | assumption | with_reducible apply ix_add | with_reducible apply ix_mul | (with_reducible apply ix_sub) | (with_reducible apply ix_upd) | (with_reducible apply ix_div) | omega)
           · omega
           all_goals (intro hc; first | omega | (conv => whnf)))
        | (with_reducible apply br_le0
           · repeat (first | with_reducible exact ix_nI | assumption | with_reducible apply ix_add | with_reducible apply ix_mul | (with_reducible apply ix_sub) | (with_reducible apply ix_upd) | (with_reducible apply ix_div) | omega)
           · omega
           all_goals (intro hc; first | omega | (conv => whnf)))
        | (with_reducible apply br_gt0
           · repeat (first | with_reducible exact ix_nI | assumption | with_reducible apply ix_add | with_reducible apply ix_mul | (with_reducible apply ix_sub) | (with_reducible apply ix_upd) | (with_reducible apply ix_div) | omega)
           · omega
           all_goals (intro hc; first | omega | (conv => whnf)))
        | (with_reducible apply br_lt0
           · repeat (first | with_reducible exact ix_nI | assumption | with_reducible apply ix_add | with_reducible apply ix_mul | (with_reducible apply ix_sub) | (with_reducible apply ix_upd) | (with_reducible apply ix_div) | omega)
           · omega
           conv => whnf)
        | (with_reducible apply br_ge0
           · repeat (first | with_reducible exact ix_nI | assumption | with_reducible apply ix_add | with_reducible apply ix_mul | (with_reducible apply ix_sub) | (with_reducible apply ix_upd) | (with_reducible apply ix_div) | omega)
           · omega
           conv => whnf)
        | (with_reducible apply br_tab
           · repeat (first | with_reducible exact ix_nI | assumption | with_reducible apply ix_add | with_reducible apply ix_mul | (with_reducible apply ix_sub) | (with_reducible apply ix_upd) | (with_reducible apply ix_div) | omega)
           · omega
           all_goals (intro hc; (try dsimp only at hc); first | omega | (conv => whnf)))
        | (refine And.intro (fun hc => ?_) (fun hc => ?_) <;> conv => whnf)
        | (refine And.intro (by decide) ?_; conv => whnf)
        | fail)
      exact hK q' h1 h2
    | succ m ih =>
      intro k q' hk h1 h2
      refine wp_vc [5] 60 rfl fun W' C hW hC => ?_
      conv => whnf
      repeat' (first
        | (refine ⟨_, rfl, ?_⟩; conv => whnf)
        | (refine ⟨_, _, rfl, ⟨_, rfl, rfl⟩, ?_⟩; conv => whnf)
        | (refine ⟨_, _, rfl, ?_⟩
           with_reducible apply ix_ex
           · repeat (first | with_reducible exact ix_nI | assumption | with_reducible apply ix_add | with_reducible apply ix_mul | (with_reducible apply ix_sub) | (with_reducible apply ix_upd) | (with_reducible apply ix_div) | omega)
           (refine ⟨⟨by omega, by decide⟩, ?_⟩; conv => whnf))
        | (with_reducible apply br_le
           · repeat (first | with_reducible exact ix_nI | assumption | with_reducible apply ix_add | with_reducible apply ix_mul | (with_reducible apply ix_sub) | (with_reducible apply ix_upd) | (with_reducible apply ix_div) | omega)
           · repeat (first | with_reducible exact ix_nI | assumption | with_reducible apply ix_add | with_reducible apply ix_mul | (with_reducible apply ix_sub) | (with_reducible apply ix_upd) | (with_reducible apply ix_div) | omega)
           · omega
           · omega
           all_goals (intro hc; first | omega | (conv => whnf)))
        | (with_reducible apply br_lt
           · repeat (first | with_reducible exact ix_nI | assumption | with_reducible apply ix_add | with_reducible apply ix_mul | (with_reducible apply ix_sub) | (with_reducible apply ix_upd) | (with_reducible apply ix_div) | omega)
           · repeat (first | with_reducible exact ix_nI | assumption | with_reducible apply ix_add | with_reducible apply ix_mul | (with_reducible apply ix_sub) | (with_reducible apply ix_upd) | (with_reducible apply ix_div) | omega)
           · omega
           · omega
           all_goals (intro hc; first | omega | (conv => whnf)))
        | (with_reducible apply br_eq
           · repeat (first | with_reducible exact ix_nI | assumption | with_reducible apply ix_add | with_reducible apply ix_mul | (with_reducible apply ix_sub) | (with_reducible apply ix_upd) | (with_reducible apply ix_div) | omega)
           · repeat (first | with_reducible exact ix_nI | assumption | with_reducible apply ix_add | with_reducible apply ix_mul | (with_reducible apply ix_sub) | (with_reducible apply ix_upd) | (with_reducible apply ix_div) | omega)
           · omega
           · omega
           all_goals (intro hc; first | omega | (conv => whnf)))
        | (with_reducible apply br_ne
           · repeat (first | with_reducible exact ix_nI | assumption | with_reducible apply ix_add | with_reducible apply ix_mul | (with_reducible apply ix_sub) | (with_reducible apply ix_upd) | (with_reducible apply ix_div) | omega)
           · repeat (first | with_reducible exact ix_nI | assumption | with_reducible apply ix_add | with_reducible apply ix_mul | (with_reducible apply ix_sub) | (with_reducible apply ix_upd) | (with_reducible apply ix_div) | omega)
           · omega
           · omega
           all_goals (intro hc; first | omega | (conv => whnf)))
        | (with_reducible apply br_eq0
           · repeat (first | with_reducible exact ix_nI | assumption | with_reducible apply ix_add | with_reducible apply ix_mul | (with_reducible apply ix_sub) | (with_reducible apply ix_upd) | (with_reducible apply ix_div) | omega)
           · omega
           all_goals (intro hc; first | omega | (conv => whnf)))
        | (with_reducible apply br_ne0
           · repeat (first | with_reducible exact ix_nI | assumption | with_reducible apply ix_add | with_reducible apply ix_mul | (with_reducible apply ix_sub) | (with_reducible apply ix_upd) | (with_reducible apply ix_div) | omega)
           · omega
           all_goals (intro hc; first | omega | (conv => whnf)))
        | (with_reducible apply br_le0
           · repeat (first | with_reducible exact ix_nI | assumption | with_reducible apply ix_add | with_reducible apply ix_mul | (with_reducible apply ix_sub) | (with_reducible apply ix_upd) | (with_reducible apply ix_div) | omega)
           · omega
           all_goals (intro hc; first | omega | (conv => whnf)))
        | (with_reducible apply br_gt0
           · repeat (first | with_reducible exact ix_nI | assumption | with_reducible apply ix_add | with_reducible apply ix_mul | (with_reducible apply ix_sub) | (with_reducible apply ix_upd) | (with_reducible apply ix_div) | omega)
           · omega
           all_goals (intro hc; first | omega | (conv => whnf)))
        | (with_reducible apply br_lt0
           · repeat (first | with_reducible exact ix_nI | assumption | with_reducible apply ix_add | with_reducible apply ix_mul | (with_reducible apply ix_sub) | (with_reducible apply ix_upd) | (with_reducible apply ix_div) | omega)
           · omega
           conv => whnf)
        | (with_reducible apply br_ge0
           · repeat (first | with_reducible exact ix_nI | assumption | with_reducible apply ix_add | with_reducible apply ix_mul | (with_reducible apply ix_sub) | (with_reducible apply ix_upd) | (with_reducible apply ix_div) | omega)
           · omega
           conv => whnf)
        | (with_reducible apply br_tab
           · repeat (first | with_reducible exact ix_nI | assumption | with_reducible apply ix_add | with_reducible apply ix_mul | (with_reducible apply ix_sub) | (with_reducible apply ix_upd) | (with_reducible apply ix_div) | omega)
           · omega
           all_goals (intro hc; (try dsimp only at hc); first | omega | (conv => whnf)))
        | (refine ⟨_, _, upA_ne hac hp, ⟨_, rfl, rfl⟩, ?_⟩; conv => whnf)
            | (refine cl_use hC (c_drift hac (upA_ne hac hp) upA_eq fun q2 b g1 g2 g3 => ?_); conv => whnf)
        | (refine And.intro (fun hc => ?_) (fun hc => ?_) <;> conv => whnf)
        | (refine And.intro (by decide) ?_; conv => whnf)
        | fail)
      refine wp_use hW ?_
      rw [nI_add, upA_upA]
      have hk1 : ∀ j, j < 16 → q2 j = drCn perm (q j) (k + 1) := fun j hj => by rw [g1 j hj, h1 j hj]; rfl
      have hk2 : ∀ j, 16 ≤ j → q2 j = q j := fun j hj => (g2 j hj).trans (h2 j hj)
      rcases g3 with e | ⟨e, g3⟩
      · subst e
        exact ih (k + 1) q2 (by omega) hk1 hk2
      · subst e
        have hfin : ∀ i, i < 16 → q2 i = drCn perm (q i) n := fun i hi => by
          have hf : drC perm (q' i) = q' i := by rw [← g1 i hi]; exact g3 i hi
          rw [← hk, drCn_add, ← h1 i hi, drCn_fix hf]
          exact g3 i hi
        refine wp.le (lv' := [some (.ref a), some (.int (nI n)), some (.int perm), some (.int (nI 0)), some (.int (nI (k + 1)))]) ?_ (by repeat' (first | exact trivial | refine And.intro rfl ?_))
        refine wp_vc [5] 60 rfl fun W' C hW hC => ?_
        conv => whnf
        repeat' (first
          | (refine ⟨_, rfl, ?_⟩; conv => whnf)
          | (refine ⟨_, _, rfl, ⟨_, rfl, rfl⟩, ?_⟩; conv => whnf)
          | (refine ⟨_, _, rfl, ?_⟩
             with_reducible apply ix_ex
             · repeat (first | with_reducible exact ix_nI | assumption | with_reducible apply ix_add | with_reducible apply ix_mul | (with_reducible apply ix_sub) | (with_reducible apply ix_upd) | (with_reducible apply ix_div) | omega)
             (refine ⟨⟨by omega, by decide⟩, ?_⟩; conv => whnf))
          | (with_reducible apply br_le
             · repeat (first | with_reducible exact ix_nI | assumption | with_reducible apply ix_add | with_reducible apply ix_mul | (with_reducible apply ix_sub) | (with_reducible apply ix_upd) | (with_reducible apply ix_div) | omega)
             · repeat (first | with_reducible exact ix_nI | assumption | with_reducible apply ix_add | with_reducible apply ix_mul | (with_reducible apply ix_sub) | (with_reducible apply ix_upd) | (with_reducible apply ix_div) | omega)
             · omega
             · omega
             all_goals (intro hc; first | omega | (conv => whnf)))
          | (with_reducible apply br_lt
             · repeat (first | with_reducible exact ix_nI | assumption | with_reducible apply ix_add | with_reducible apply ix_mul | (with_reducible apply ix_sub) | (with_reducible apply ix_upd) | (with_reducible apply ix_div) | omega)
             · repeat (first | with_reducible exact ix_nI | assumption | with_reducible apply ix_add | with_reducible apply ix_mul | (with_reducible apply ix_sub) | (with_reducible apply ix_upd) | (with_reducible apply ix_div) | omega)
             · omega
             · omega
             all_goals (intro hc; first | omega | (conv => whnf)))
          | (with_reducible apply br_eq
             · repeat (first | with_reducible exact ix_nI | assumption | with_reducible apply ix_add | with_reducible apply ix_mul | (with_reducible apply ix_sub) | (with_reducible apply ix_upd) | (with_reducible apply ix_div) | omega)
             · repeat (first | with_reducible exact ix_nI | assumption | with_reducible apply ix_add | with_reducible apply ix_mul | (with_reducible apply ix_sub) | (with_reducible apply ix_upd) | (with_reducible apply ix_div) | omega)
             · omega
             · omega
             all_goals (intro hc; first | omega | (conv => whnf)))
          | (with_reducible apply br_ne
             · repeat (first | with_reducible exact ix_nI | assumption | with_reducible apply ix_add | with_reducible apply ix_mul | (with_reducible apply ix_sub) | (with_reducible apply ix_upd) | (with_reducible apply ix_div) | omega)
             · repeat (first | with_reducible exact ix_nI | assumption | with_reducible apply ix_add | with_reducible apply ix_mul | (with_reducible apply ix_sub) | (with_reducible apply ix_upd) | (with_reducible apply ix_div) | omega)
             · omega
             · omega
             all_goals (intro hc; first | omega | (conv => whnf)))
          | (with_reducible apply br_eq0
             · repeat (first | with_reducible exact ix_nI | assumption | with_reducible apply ix_add | with_reducible apply ix_mul | (with_reducible apply ix_sub) | (with_reducible apply ix_upd) | (with_reducible apply ix_div) | omega)
             · omega
             all_goals (intro hc; first | omega | (conv => whnf)))
          | (with_reducible apply br_ne0
             · repeat (first | with_reducible exact ix_nI | assumption | with_reducible apply ix_add | with_reducible apply ix_mul | (with_reducible apply ix_sub) | (with_reducible apply ix_upd) | (with_reducible apply ix_div) | omega)
             · omega
             all_goals (intro hc; first | omega | (conv => whnf)))
          | (with_reducible apply br_le0
             · repeat (first | with_reducible exact ix_nI | assumption | with_reducible apply ix_add | with_reducible apply ix_mul | (with_reducible apply ix_sub) | (with_reducible apply ix_upd) | (with_reducible apply ix_div) | omega)
             · omega
             all_goals (intro hc; first | omega | (conv => whnf)))
          | (with_reducible apply br_gt0
             · repeat (first | with_reducible exact ix_nI | assumption | with_reducible apply ix_add | with_reducible apply ix_mul | (with_reducible apply ix_sub) | (with_reducible apply ix_upd) | (with_reducible apply ix_div) | omega)
             · omega
             all_goals (intro hc; first | omega | (conv => whnf)))
          | (with_reducible apply br_lt0
             · repeat (first | with_reducible exact ix_nI | assumption | with_reducible apply ix_add | with_reducible apply ix_mul | (with_reducible apply ix_sub) | (with_reducible apply ix_upd) | (with_reducible apply ix_div) | omega)
             · omega
             conv => whnf)
          | (with_reducible apply br_ge0
             · repeat (first | with_reducible exact ix_nI | assumption | with_reducible apply ix_add | with_reducible apply ix_mul | (with_reducible apply ix_sub) | (with_reducible apply ix_upd) | (with_reducible apply ix_div) | omega)
             · omega
             conv => whnf)
          | (with_reducible apply br_tab
             · repeat (first | with_reducible exact ix_nI | assumption | with_reducible apply ix_add | with_reducible apply ix_mul | (with_reducible apply ix_sub) | (with_reducible apply ix_upd) | (with_reducible apply ix_div) | omega)
             · omega
             all_goals (intro hc; (try dsimp only at hc); first | omega | (conv => whnf)))
          | (refine And.intro (fun hc => ?_) (fun hc => ?_) <;> conv => whnf)
          | (refine And.intro (by decide) ?_; conv => whnf)
          | fail)
        all_goals exact hK q2 hfin hk2
  have := key n 0 q (by omega) (fun _ _ => rfl) (fun _ _ => rfl)
  rw [upA_self hq] at this
  exact this
theorem c_writtenLevel {a c n : Nat} {s1 wd : Int32} {F : List Value} {xn : Int32} (en : xn = nI n) (hn : n < 16) (hp : h a = .inr (3, .ref c :: .int s1 :: .int wd :: F)) (hK : ∀ r, r = lvO (wrtW wd n) → K (.inl (some (.int r))) h w) : Cl G d kX3_writtenLevel [.ref a, .int xn] h w K := by
  subst en
  refine Cl.of (by decide) rfl ?_
  refine wp_vc [] 60 rfl fun W' C hW hC => ?_
  conv => whnf
  repeat' (first
    | (refine ⟨_, rfl, ?_⟩; conv => whnf)
    | (refine ⟨_, _, rfl, ⟨_, rfl, rfl⟩, ?_⟩; conv => whnf)
    | (refine ⟨_, _, rfl, ?_⟩
       with_reducible apply ix_ex
       · repeat (first | with_reducible exact ix_nI | assumption | with_reducible apply ix_add | with_reducible apply ix_mul | (with_reducible apply ix_sub) | (with_reducible apply ix_upd) | (with_reducible apply ix_div) | omega)
       (refine ⟨⟨by omega, by decide⟩, ?_⟩; conv => whnf))
    | (with_reducible apply br_le
       · repeat (first | with_reducible exact ix_nI | assumption | with_reducible apply ix_add | with_reducible apply ix_mul | (with_reducible apply ix_sub) | (with_reducible apply ix_upd) | (with_reducible apply ix_div) | omega)
       · repeat (first | with_reducible exact ix_nI | assumption | with_reducible apply ix_add | with_reducible apply ix_mul | (with_reducible apply ix_sub) | (with_reducible apply ix_upd) | (with_reducible apply ix_div) | omega)
       · omega
       · omega
       all_goals (intro hc; first | omega | (conv => whnf)))
    | (with_reducible apply br_lt
       · repeat (first | with_reducible exact ix_nI | assumption | with_reducible apply ix_add | with_reducible apply ix_mul | (with_reducible apply ix_sub) | (with_reducible apply ix_upd) | (with_reducible apply ix_div) | omega)
       · repeat (first | with_reducible exact ix_nI | assumption | with_reducible apply ix_add | with_reducible apply ix_mul | (with_reducible apply ix_sub) | (with_reducible apply ix_upd) | (with_reducible apply ix_div) | omega)
       · omega
       · omega
       all_goals (intro hc; first | omega | (conv => whnf)))
    | (with_reducible apply br_eq
       · repeat (first | with_reducible exact ix_nI | assumption | with_reducible apply ix_add | with_reducible apply ix_mul | (with_reducible apply ix_sub) | (with_reducible apply ix_upd) | (with_reducible apply ix_div) | omega)
       · repeat (first | with_reducible exact ix_nI | assumption | with_reducible apply ix_add | with_reducible apply ix_mul | (with_reducible apply ix_sub) | (with_reducible apply ix_upd) | (with_reducible apply ix_div) | omega)
       · omega
       · omega
       all_goals (intro hc; first | omega | (conv => whnf)))
    | (with_reducible apply br_ne
       · repeat (first | with_reducible exact ix_nI | assumption | with_reducible apply ix_add | with_reducible apply ix_mul | (with_reducible apply ix_sub) | (with_reducible apply ix_upd) | (with_reducible apply ix_div) | omega)
       · repeat (first | with_reducible exact ix_nI | assumption | with_reducible apply ix_add | with_reducible apply ix_mul | (with_reducible apply ix_sub) | (with_reducible apply ix_upd) | (with_reducible apply ix_div) | omega)
       · omega
       · omega
       all_goals (intro hc; first | omega | (conv => whnf)))
    | (with_reducible apply br_eq0
       · repeat (first | with_reducible exact ix_nI | assumption | with_reducible apply ix_add | with_reducible apply ix_mul | (with_reducible apply ix_sub) | (with_reducible apply ix_upd) | (with_reducible apply ix_div) | omega)
       · omega
       all_goals (intro hc; first | omega | (conv => whnf)))
    | (with_reducible apply br_ne0
       · repeat (first | with_reducible exact ix_nI | assumption | with_reducible apply ix_add | with_reducible apply ix_mul | (with_reducible apply ix_sub) | (with_reducible apply ix_upd) | (with_reducible apply ix_div) | omega)
       · omega
       all_goals (intro hc; first | omega | (conv => whnf)))
    | (with_reducible apply br_le0
       · repeat (first | with_reducible exact ix_nI | assumption | with_reducible apply ix_add | with_reducible apply ix_mul | (with_reducible apply ix_sub) | (with_reducible apply ix_upd) | (with_reducible apply ix_div) | omega)
       · omega
       all_goals (intro hc; first | omega | (conv => whnf)))
    | (with_reducible apply br_gt0
       · repeat (first | with_reducible exact ix_nI | assumption | with_reducible apply ix_add | with_reducible apply ix_mul | (with_reducible apply ix_sub) | (with_reducible apply ix_upd) | (with_reducible apply ix_div) | omega)
       · omega
       all_goals (intro hc; first | omega | (conv => whnf)))
    | (with_reducible apply br_lt0
       · repeat (first | with_reducible exact ix_nI | assumption | with_reducible apply ix_add | with_reducible apply ix_mul | (with_reducible apply ix_sub) | (with_reducible apply ix_upd) | (with_reducible apply ix_div) | omega)
       · omega
       conv => whnf)
    | (with_reducible apply br_ge0
       · repeat (first | with_reducible exact ix_nI | assumption | with_reducible apply ix_add | with_reducible apply ix_mul | (with_reducible apply ix_sub) | (with_reducible apply ix_upd) | (with_reducible apply ix_div) | omega)
       · omega
       conv => whnf)
    | (with_reducible apply br_tab
       · repeat (first | with_reducible exact ix_nI | assumption | with_reducible apply ix_add | with_reducible apply ix_mul | (with_reducible apply ix_sub) | (with_reducible apply ix_upd) | (with_reducible apply ix_div) | omega)
       · omega
       all_goals (intro hc; (try dsimp only at hc); first | omega | (conv => whnf)))
    | (refine ⟨_, hp, ?_⟩; conv => whnf)
    | (refine And.intro (fun hc => ?_) (fun hc => ?_) <;> conv => whnf)
    | (refine And.intro (by decide) ?_; conv => whnf)
    | fail)
  obtain ⟨j, hj, e⟩ := and3 ((wd.toUInt32 >>> ((nI 2 * nI n).toUInt32 &&& Int32.toUInt32 31)).toInt32)
  refine ⟨j, e, ⟨by decide, hj, (by decide : 4 < 100000)⟩, ?_⟩
  conv => whnf
  refine hK _ ?_
  have e2 : wrtW wd n = nI j := e
  rw [e2]
  match j, hj with
  | 0, _ => rfl
  | 1, _ => rfl
  | 2, _ => rfl
  | 3, _ => rfl
  | j + 4, h => exact absurd h (by omega)
theorem c_takePage {a c a2 c2 : Nat} {q q2 : ZZ} {s1 s2 s3 s4 s5 s6 s7 t1 t2 t3 t4 t5 t6 t7 : Int32} (hac : a ≠ c) (h2c : a2 ≠ c) (h2a : a2 ≠ a) (hp : h a = .inr (3, [.ref c, .int s1, .int s2, .int s3, .int s4, .int s5, .int s6, .int s7])) (hq : h c = .inl (0, 16, .inl q)) (hp2 : h a2 = .inr (3, [.ref c2, .int t1, .int t2, .int t3, .int t4, .int t5, .int t6, .int t7])) (hq2 : h c2 = .inl (0, 16, .inl q2)) (hK : ∀ q', (∀ i, i < 16 → q' i = q2 i) → (∀ i, 16 ≤ i → q' i = q i) → K (.inl none) (upA (upA h c (.inl (0, 16, .inl q'))) a (.inr (3, [.ref c, .int t1, .int t2, .int t3, .int t4, .int t5, .int t6, .int t7]))) w) : Cl G (d + 1) kX3_takeFrom [.ref a, .ref a2] h w K := by
  refine Cl.of (by decide) rfl ?_
  refine wp_vc [] 95 rfl fun W' C hW hC => ?_
  conv => whnf
  repeat' (first
    | (refine ⟨_, rfl, ?_⟩; conv => whnf)
    | (refine ⟨_, _, rfl, ⟨_, rfl, rfl⟩, ?_⟩; conv => whnf)
    | (refine ⟨_, _, rfl, ?_⟩
       with_reducible apply ix_ex
       · repeat (first | with_reducible exact ix_nI | assumption | with_reducible apply ix_add | with_reducible apply ix_mul | (with_reducible apply ix_sub) | (with_reducible apply ix_upd) | (with_reducible apply ix_div) | omega)
       (refine ⟨⟨by omega, by decide⟩, ?_⟩; conv => whnf))
    | (with_reducible apply br_le
       · repeat (first | with_reducible exact ix_nI | assumption | with_reducible apply ix_add | with_reducible apply ix_mul | (with_reducible apply ix_sub) | (with_reducible apply ix_upd) | (with_reducible apply ix_div) | omega)
       · repeat (first | with_reducible exact ix_nI | assumption | with_reducible apply ix_add | with_reducible apply ix_mul | (with_reducible apply ix_sub) | (with_reducible apply ix_upd) | (with_reducible apply ix_div) | omega)
       · omega
       · omega
       all_goals (intro hc; first | omega | (conv => whnf)))
    | (with_reducible apply br_lt
       · repeat (first | with_reducible exact ix_nI | assumption | with_reducible apply ix_add | with_reducible apply ix_mul | (with_reducible apply ix_sub) | (with_reducible apply ix_upd) | (with_reducible apply ix_div) | omega)
       · repeat (first | with_reducible exact ix_nI | assumption | with_reducible apply ix_add | with_reducible apply ix_mul | (with_reducible apply ix_sub) | (with_reducible apply ix_upd) | (with_reducible apply ix_div) | omega)
       · omega
       · omega
       all_goals (intro hc; first | omega | (conv => whnf)))
    | (with_reducible apply br_eq
       · repeat (first | with_reducible exact ix_nI | assumption | with_reducible apply ix_add | with_reducible apply ix_mul | (with_reducible apply ix_sub) | (with_reducible apply ix_upd) | (with_reducible apply ix_div) | omega)
       · repeat (first | with_reducible exact ix_nI | assumption | with_reducible apply ix_add | with_reducible apply ix_mul | (with_reducible apply ix_sub) | (with_reducible apply ix_upd) | (with_reducible apply ix_div) | omega)
       · omega
       · omega
       all_goals (intro hc; first | omega | (conv => whnf)))
    | (with_reducible apply br_ne
       · repeat (first | with_reducible exact ix_nI | assumption | with_reducible apply ix_add | with_reducible apply ix_mul | (with_reducible apply ix_sub) | (with_reducible apply ix_upd) | (with_reducible apply ix_div) | omega)
       · repeat (first | with_reducible exact ix_nI | assumption | with_reducible apply ix_add | with_reducible apply ix_mul | (with_reducible apply ix_sub) | (with_reducible apply ix_upd) | (with_reducible apply ix_div) | omega)
       · omega
       · omega
       all_goals (intro hc; first | omega | (conv => whnf)))
    | (with_reducible apply br_eq0
       · repeat (first | with_reducible exact ix_nI | assumption | with_reducible apply ix_add | with_reducible apply ix_mul | (with_reducible apply ix_sub) | (with_reducible apply ix_upd) | (with_reducible apply ix_div) | omega)
       · omega
       all_goals (intro hc; first | omega | (conv => whnf)))
    | (with_reducible apply br_ne0
       · repeat (first | with_reducible exact ix_nI | assumption | with_reducible apply ix_add | with_reducible apply ix_mul | (with_reducible apply ix_sub) | (with_reducible apply ix_upd) | (with_reducible apply ix_div) | omega)
       · omega
       all_goals (intro hc; first | omega | (conv => whnf)))
    | (with_reducible apply br_le0
       · repeat (first | with_reducible exact ix_nI | assumption | with_reducible apply ix_add | with_reducible apply ix_mul | (with_reducible apply ix_sub) | (with_reducible apply ix_upd) | (with_reducible apply ix_div) | omega)
       · omega
       all_goals (intro hc; first | omega | (conv => whnf)))
    | (with_reducible apply br_gt0
       · repeat (first | with_reducible exact ix_nI | assumption | with_reducible apply ix_add | with_reducible apply ix_mul | (with_reducible apply ix_sub) | (with_reducible apply ix_upd) | (with_reducible apply ix_div) | omega)
       · omega
       all_goals (intro hc; first | omega | (conv => whnf)))
    | (with_reducible apply br_lt0
       · repeat (first | with_reducible exact ix_nI | assumption | with_reducible apply ix_add | with_reducible apply ix_mul | (with_reducible apply ix_sub) | (with_reducible apply ix_upd) | (with_reducible apply ix_div) | omega)
       · omega
       conv => whnf)
    | (with_reducible apply br_ge0
       · repeat (first | with_reducible exact ix_nI | assumption | with_reducible apply ix_add | with_reducible apply ix_mul | (with_reducible apply ix_sub) | (with_reducible apply ix_upd) | (with_reducible apply ix_div) | omega)
       · omega
       conv => whnf)
    | (with_reducible apply br_tab
       · repeat (first | with_reducible exact ix_nI | assumption | with_reducible apply ix_add | with_reducible apply ix_mul | (with_reducible apply ix_sub) | (with_reducible apply ix_upd) | (with_reducible apply ix_div) | omega)
       · omega
       all_goals (intro hc; (try dsimp only at hc); first | omega | (conv => whnf)))
    | (refine ⟨_, hp, ?_⟩; conv => whnf)
    | (refine ⟨_, hp2, ?_⟩; conv => whnf)
    | (refine ⟨16, 0, 0, rfl, rfl, rfl, 16, q2, 16, q, hq2, hq, ⟨by decide, by decide, by decide, by decide⟩, ?_⟩; conv => whnf)
    | (refine ⟨_, upA_ne h2c hp2, ?_⟩; conv => whnf)
    | (refine ⟨_, upA_ne hac hp, ?_⟩; conv => whnf)
    | (refine ⟨_, upA_ne h2a (upA_ne h2c hp2), ?_⟩; conv => whnf)
    | (simp only [upA_upA, List.set_cons_succ, List.set_cons_zero]; refine ⟨_, upA_eq, ?_⟩; conv => whnf)
    | (simp only [upA_upA, List.set_cons_succ, List.set_cons_zero]; refine ⟨_, upA_ne h2a (upA_ne h2c hp2), ?_⟩; conv => whnf)
    | (refine And.intro (fun hc => ?_) (fun hc => ?_) <;> conv => whnf)
    | (refine And.intro (by decide) ?_; conv => whnf)
    | fail)
  simp only [upA_upA, List.set_cons_succ, List.set_cons_zero]
  refine hK _ (fun i hi => ?_) (fun i hi => ?_)
  · unfold va_cpy
    simp [hi]
  · unfold va_cpy
    simp
    omega
end C1
