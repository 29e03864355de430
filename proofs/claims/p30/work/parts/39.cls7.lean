/-! ===== the class: the whole object ===== -/
/-- the ring: the saved rows by their places -/
def RG (L : List ZZ) (t : Nat) (r : Nat → ZZ) : Prop := ∀ i x, L[i]? = some x → ∀ k, k < 214 → x k = r ((t + 6 - (L.length - 1 - i)) % 6) k
theorem RG_push {L : List ZZ} {t : Nat} {r : Nat → ZZ} {z : ZZ} (h : RG L t r) (hL : L.length ≤ 6) (ht : t < 6) : RG (pushL L z) ((t + 1) % 6) (fun j => if j = (t + 1) % 6 then z else r j) := by
  intro i x hi k hk
  unfold pushL at hi ⊢
  by_cases h6 : L.length = 6
  · rw [if_pos h6] at hi ⊢
    have h5 : L.tail.length = 5 := by rw [List.length_tail, h6]
    rw [List.length_append, h5]
    show x k = (if ((t + 1) % 6 + 6 - (5 + 1 - 1 - i)) % 6 = (t + 1) % 6 then z else r (((t + 1) % 6 + 6 - (5 + 1 - 1 - i)) % 6)) k
    rcases Nat.lt_or_ge i 5 with q | q
    · rw [List.getElem?_append_left (by omega)] at hi
      have hi2 : L[i + 1]? = some x := by
        cases L with
        | nil => simp at h6
        | cons a s => simpa using hi
      rw [if_neg (by omega), h _ _ hi2 k hk, h6]
      exact congrFun (congrArg r (by omega)) k
    · rw [List.getElem?_append_right (by omega), h5] at hi
      have h0 : i - 5 = 0 := by
        have := (List.getElem?_eq_some_iff.mp hi).1
        simp at this
        omega
      rw [h0] at hi
      cases hi
      rw [if_pos (by omega)]
  · rw [if_neg h6] at hi ⊢
    rw [List.length_append]
    show x k = (if ((t + 1) % 6 + 6 - (L.length + 1 - 1 - i)) % 6 = (t + 1) % 6 then z else r (((t + 1) % 6 + 6 - (L.length + 1 - 1 - i)) % 6)) k
    rcases Nat.lt_or_ge i L.length with q | q
    · rw [List.getElem?_append_left q] at hi
      rw [if_neg (by omega), h _ _ hi k hk]
      exact congrFun (congrArg r (by omega)) k
    · rw [List.getElem?_append_right q] at hi
      have h0 : i - L.length = 0 := by
        have := (List.getElem?_eq_some_iff.mp hi).1
        simp at this
        omega
      rw [h0] at hi
      cases hi
      rw [if_pos (by omega)]
theorem RG_pop {L : List ZZ} {t : Nat} {r : Nat → ZZ} (h : RG L t r) (ht : t < 6) (hL : L.length ≤ 6) : RG L.dropLast ((t + 5) % 6) r := by
  intro i x hi k hk
  have hi1 := (List.getElem?_eq_some_iff.mp hi).1
  rw [List.length_dropLast] at hi1
  rw [List.getElem?_dropLast, if_pos hi1] at hi
  rw [List.length_dropLast, h _ _ hi k hk]
  exact congrFun (congrArg r (by omega)) k
def HS (L : List ZZ) (h : AH) : Prop := ∃ (t : Nat) (f : Nat → Option Nat) (r : Nat → ZZ), (t < 6 ∧ L.length ≤ 6) ∧ h 22 = .inr (1, [.ref 23, .int (nI L.length), .int (nI t)]) ∧ h 23 = .inl (3, 6, .inr (.inr (.inr (.inr f)))) ∧ (∀ j, j < 6 → f j = some (24 + 21 * j)) ∧ (∀ j, j < 6 → Mem (24 + 21 * j) (r j) h) ∧ RG L t r
def TX (T : List Int32) (h : AH) : Prop := T.length ≤ 60 ∧ h 150 = .inr (0, [.ref 151, .int (nI T.length)]) ∧ ∃ f : ZZ, h 151 = .inl (0, 60, .inl f) ∧ ∀ i c, T[i]? = some c → f i = c
def TR (h : AH) : Prop := ∃ (s1 s2 s3 s4 s5 s6 s7 : Int32) (q : ZZ), h 152 = .inr (3, [.ref 153, .int s1, .int s2, .int s3, .int s4, .int s5, .int s6, .int s7]) ∧ h 153 = .inl (0, 16, .inl q)
/-- the class's object and all that hangs on it -/
def CS (A : AS) (h : AH) : Prop := h 0 = .inr (4, [.ref 1, .ref 22, .ref 150, .ref 152]) ∧ Mem 1 A.1 h ∧ HS A.2.1 h ∧ TX A.2.2 h ∧ TR h
def FrC (h h' : AH) : Prop := ∀ a, 154 ≤ a → h' a = h a
def XW (w : W3) : W3 := (w.1, w.2.1 + 1, w.2.2 + 6)
theorem FrC.refl {h : AH} : FrC h h := fun _ _ => rfl
theorem FrC.trans {h h1 h2 : AH} (a : FrC h h1) (b : FrC h1 h2) : FrC h h2 := fun q hq => (b q hq).trans (a q hq)
theorem Off.frC {b : Nat} {h h' : AH} (hO : Off b h h') (hb : b + 21 ≤ 154) : FrC h h' := fun a ha => hO a (by omega)
theorem HS.moved {L : List ZZ} {h h' : AH} (hH : HS L h) (hh : ∀ a, 22 ≤ a → a < 150 → h' a = h a) : HS L h' := by
  obtain ⟨t, f, r, h1, h2, h3, h4, h5, h6⟩ := hH
  exact ⟨t, f, r, h1, (hh _ (by omega) (by omega)).trans h2, (hh _ (by omega) (by omega)).trans h3, h4, fun j hj => (h5 j hj).moved fun a g1 g2 => hh a (by omega) (by omega), h6⟩
theorem TX.moved {T : List Int32} {h h' : AH} (hH : TX T h) (hh : ∀ a, 150 ≤ a → a < 152 → h' a = h a) : TX T h' := by
  obtain ⟨h1, h2, f, h3, h4⟩ := hH
  exact ⟨h1, (hh _ (by omega) (by omega)).trans h2, f, (hh _ (by omega) (by omega)).trans h3, h4⟩
theorem TR.moved {h h' : AH} (hH : TR h) (hh : ∀ a, 152 ≤ a → a < 154 → h' a = h a) : TR h' := by
  obtain ⟨s1, s2, s3, s4, s5, s6, s7, q, h1, h2⟩ := hH
  exact ⟨s1, s2, s3, s4, s5, s6, s7, q, (hh _ (by omega) (by omega)).trans h1, (hh _ (by omega) (by omega)).trans h2⟩
theorem CS.moved {A : AS} {h h' : AH} (hA : CS A h) (hh : ∀ a, a < 154 → h' a = h a) : CS A h' :=
  ⟨(hh _ (by omega)).trans hA.1, hA.2.1.moved fun a _ _ => hh a (by omega), hA.2.2.1.moved fun a _ _ => hh a (by omega), hA.2.2.2.1.moved fun a _ _ => hh a (by omega), hA.2.2.2.2.moved fun a _ _ => hh a (by omega)⟩
/-- the memory alone is changed -/
theorem CS.mem {A : AS} {h h' : AH} {z' : ZZ} (hA : CS A h) (hM : Mem 1 z' h') (hO : Off 1 h h') : CS (z', A.2) h' :=
  ⟨(hO _ (by omega)).trans hA.1, hM, hA.2.2.1.moved fun a _ _ => hO a (by omega), hA.2.2.2.1.moved fun a _ _ => hO a (by omega), hA.2.2.2.2.moved fun a _ _ => hO a (by omega)⟩
theorem pushL_n {L : List ZZ} {z : ZZ} (hL : L.length ≤ 6) : (if nI L.length + nI 1 < nI 6 then nI L.length + nI 1 else nI 6) = nI (pushL L z).length := by
  rw [nI_add]
  unfold pushL
  by_cases h6 : L.length = 6
  · rw [if_neg (by rw [nI_ltI (by omega) (by omega)]; omega), if_pos h6, List.length_append, List.length_tail, h6]
    rfl
  · rw [if_neg h6, List.length_append]
    by_cases h5 : L.length = 5
    · rw [if_neg (by rw [nI_ltI (by omega) (by omega)]; omega), h5]
      rfl
    · rw [if_pos (by rw [nI_ltI (by omega) (by omega)]; omega)]
      rfl
section C9
variable {G : GG} {d n : Nat} {A : AS} {h0 h : AH} {w : W3} {K : AO → AH → W3 → Prop}
theorem c_save (hA : CS A h) (hK : ∀ h', CS (A.1, pushL A.2.1 A.1, A.2.2) h' → FrC h h' → K (.inl none) h' w) : Cl G (d + 3) kX1_save [.ref 22, .ref 1] h w K := by
  obtain ⟨hA0, hM, ⟨t, f, r, ⟨ht, hL⟩, hh, hf, hf', hr, hg⟩, hT, hR⟩ := id hA
  have et : nI t + nI 1 - (nI t + nI 1) / nI 6 * nI 6 = nI ((t + 1) % 6) := by
    rw [nI_add, pk_div (by omega) (by omega) (by omega), pk_mul, pk_sub (by omega)]
    congr 1
    omega
  have ht' : (t + 1) % 6 < 6 := by omega
  have hMr := hr _ ht'
  have eadd : nI 6 = nI 6 := rfl
  refine Cl.of (by decide) rfl ?_
  refine wp_vc [] 95 rfl fun W' C hW hC => ?_
  conv => whnf
  repeat' (first
    | (refine ⟨_, rfl, ?_⟩; conv => whnf)
    | (refine ⟨_, _, rfl, ⟨_, rfl, rfl⟩, ?_⟩; conv => whnf)
    | (refine ⟨_, _, rfl, ?_⟩
       with_reducible apply ix_ex
       · repeat (first | with_reducible exact ix_nI | assumption | with_reducible apply ix_add | with_reducible apply ix_mul | (with_reducible apply ix_sub) | (with_reducible apply ix_upd) | (with_reducible apply ix_div) | omega)
       (refine ⟨⟨by omega, by decide⟩, ?_⟩; conv => whnf))
    | (with_reducible apply br_le
       · repeat (first | with_reducible exact ix_nI | assumption | with_reducible apply ix_add | with_reducible apply ix_mul | (with_reducible apply ix_sub) | (with_reducible apply ix_upd) | (with_reducible apply ix_div) | omega)
       · repeat (first | with_reducible exact ix_nI | assumption | with_reducible apply ix_add | with_reducible apply ix_mul | (with_reducible apply ix_sub) | (with_reducible apply ix_upd) | (with_reducible apply ix_div) | omega)
       · omega
       · omega
       all_goals (intro hc; first | omega | (conv => whnf)))
    | (with_reducible apply br_lt
       · repeat (first | with_reducible exact ix_nI | assumption | with_reducible apply ix_add | with_reducible apply ix_mul | (with_reducible apply ix_sub) | (with_reducible apply ix_upd) | (with_reducible apply ix_div) | omega)
       · repeat (first | with_reducible exact ix_nI | assumption | with_reducible apply ix_add | with_reducible apply ix_mul | (with_reducible apply ix_sub) | (with_reducible apply ix_upd) | (with_reducible apply ix_div) | omega)
       · omega
       · omega
       all_goals (intro hc; first | omega | (conv => whnf)))
    | (with_reducible apply br_eq
       · repeat (first | with_reducible exact ix_nI | assumption | with_reducible apply ix_add | with_reducible apply ix_mul | (with_reducible apply ix_sub) | (with_reducible apply ix_upd) | (with_reducible apply ix_div) | omega)
       · repeat (first | with_reducible exact ix_nI | assumption | with_reducible apply ix_add | with_reducible apply ix_mul | (with_reducible apply ix_sub) | (with_reducible apply ix_upd) | (with_reducible apply ix_div) | omega)
       · omega
       · omega
       all_goals (intro hc; first | omega | (conv => whnf)))
    | (with_reducible apply br_ne
       · repeat (first | with_reducible exact ix_nI | assumption | with_reducible apply ix_add | with_reducible apply ix_mul | (with_reducible apply ix_sub) | (with_reducible apply ix_upd) | (with_reducible apply ix_div) | omega)
       · repeat (first | with_reducible exact ix_nI | assumption | with_reducible apply ix_add | with_reducible apply ix_mul | (with_reducible apply ix_sub) | (with_reducible apply ix_upd) | (with_reducible apply ix_div) | omega)
       · omega
       · omega
       all_goals (intro hc; first | omega | (conv => whnf)))
    | (with_reducible apply br_eq0
       · repeat (first | with_reducible exact ix_nI | assumption | with_reducible apply ix_add | with_reducible apply ix_mul | (with_reducible apply ix_sub) | (with_reducible apply ix_upd) | (with_reducible apply ix_div) | omega)
       · omega
       all_goals (intro hc; first | omega | (conv => whnf)))
    | (with_reducible apply br_ne0
       · repeat (first | with_reducible exact ix_nI | assumption | with_reducible apply ix_add | with_reducible apply ix_mul | (with_reducible apply ix_sub) | (with_reducible apply ix_upd) | (with_reducible apply ix_div) | omega)
       · omega
       all_goals (intro hc; first | omega | (conv => whnf)))
    | (with_reducible apply br_le0
       · repeat (first | with_reducible exact ix_nI | assumption | with_reducible apply ix_add | with_reducible apply ix_mul | (with_reducible apply ix_sub) | (with_reducible apply ix_upd) | (with_reducible apply ix_div) | omega)
       · omega
       all_goals (intro hc; first | omega | (conv => whnf)))
    | (with_reducible apply br_gt0
       · repeat (first | with_reducible exact ix_nI | assumption | with_reducible apply ix_add | with_reducible apply ix_mul | (with_reducible apply ix_sub) | (with_reducible apply ix_upd) | (with_reducible apply ix_div) | omega)
       · omega
       all_goals (intro hc; first | omega | (conv => whnf)))
    | (with_reducible apply br_lt0
       · repeat (first | with_reducible exact ix_nI | assumption | with_reducible apply ix_add | with_reducible apply ix_mul | (with_reducible apply ix_sub) | (with_reducible apply ix_upd) | (with_reducible apply ix_div) | omega)
       · omega
       conv => whnf)
    | (with_reducible apply br_ge0
       · repeat (first | with_reducible exact ix_nI | assumption | with_reducible apply ix_add | with_reducible apply ix_mul | (with_reducible apply ix_sub) | (with_reducible apply ix_upd) | (with_reducible apply ix_div) | omega)
       · omega
       conv => whnf)
    | (with_reducible apply br_tab
       · repeat (first | with_reducible exact ix_nI | assumption | with_reducible apply ix_add | with_reducible apply ix_mul | (with_reducible apply ix_sub) | (with_reducible apply ix_upd) | (with_reducible apply ix_div) | omega)
       · omega
       all_goals (intro hc; (try dsimp only at hc); first | omega | (conv => whnf)))
    | (refine ⟨_, hh, ?_⟩; conv => whnf)
    | (refine And.intro (by decide) ?_; rw [et]; conv => whnf)
    | (refine ⟨_, upA_eq, ?_⟩; conv => whnf)
    | (refine ⟨_, _, _, upA_ne (by omega) hf, Or.inr rfl, _, _, ix_nI, ⟨by omega, by decide⟩, hf' _ ht', ?_⟩; conv => whnf)
    | (refine ⟨_, _, upA_ne (by omega) hMr.obj, ⟨_, rfl, rfl⟩, ?_⟩; conv => whnf)
    | (refine cl_use hC (c_takeMem (b2 := 1) (z := A.1) (by omega) (hMr.moved fun a _ _ => upA_ne (by omega) rfl) (hM.moved fun a _ _ => upA_ne (by omega) rfl) fun H hMH hOH => ?_); conv => whnf)
    | (refine ⟨_, (hOH 22 (by omega)).trans upA_eq, ?_⟩; conv => whnf)
    | (refine And.intro (fun hc => ?_) (fun hc => ?_) <;> conv => whnf)
    | (refine And.intro (by decide) ?_; conv => whnf)
    | fail)
  rw [pushL_n (z := A.1) hL]
  have hX : ∀ x a, a ≠ 22 → (a < 24 + 21 * ((t + 1) % 6) ∨ 24 + 21 * ((t + 1) % 6) + 21 ≤ a) → upA H 22 x a = h a := fun x a h1 h2 => (upA_ne h1 (hOH a h2)).trans (upA_ne h1 rfl)
  refine hK _ ⟨(hX _ _ (by omega) (by omega)).trans hA0, hM.moved fun a _ _ => hX _ a (by omega) (by omega), ?_, hT.moved fun a _ _ => hX _ a (by omega) (by omega), hR.moved fun a _ _ => hX _ a (by omega) (by omega)⟩ (fun a ha => hX _ a (by omega) (by omega))
  refine ⟨(t + 1) % 6, f, (fun j => if j = (t + 1) % 6 then A.1 else r j), ⟨ht', pushL_len hL⟩, upA_eq, (hX _ _ (by omega) (by omega)).trans hf, hf', fun j hj => ?_, RG_push hg hL ht⟩
  by_cases e : j = (t + 1) % 6
  · subst e
    dsimp only
    rw [if_pos rfl]
    exact hMH.moved fun a _ _ => upA_ne (by omega) rfl
  · dsimp only
    rw [if_neg e]
    exact (hr j hj).moved fun a _ _ => hX _ a (by omega) (by omega)
theorem c_requirePage {x : Int32} (h1 : ∀ p, p < 8 → x = nI p → K (.inl none) h w) (h0 : ¬ rg x 8 → K (.inr 0) h (XW w)) : Cl G (d + 6) kX4_requirePage [.int x] h w K := by
  refine Cl.of (by decide) rfl ?_
  refine wp_vc [] 60 rfl fun W' C hW hC => ?_
  conv => whnf
  repeat' (first
    | (refine ⟨_, rfl, ?_⟩; conv => whnf)
    | (refine ⟨_, _, rfl, ⟨_, rfl, rfl⟩, ?_⟩; conv => whnf)
    | (refine ⟨_, _, rfl, ?_⟩
       with_reducible apply ix_ex
       · repeat (first | with_reducible exact ix_nI | assumption | with_reducible apply ix_add | with_reducible apply ix_mul | (with_reducible apply ix_sub) | (with_reducible apply ix_upd) | (with_reducible apply ix_div) | omega)
       (refine ⟨⟨by omega, by decide⟩, ?_⟩; conv => whnf))
    | (with_reducible apply br_le
       · repeat (first | with_reducible exact ix_nI | assumption | with_reducible apply ix_add | with_reducible apply ix_mul | (with_reducible apply ix_sub) | (with_reducible apply ix_upd) | (with_reducible apply ix_div) | omega)
       · repeat (first | with_reducible exact ix_nI | assumption | with_reducible apply ix_add | with_reducible apply ix_mul | (with_reducible apply ix_sub) | (with_reducible apply ix_upd) | (with_reducible apply ix_div) | omega)
       · omega
       · omega
       all_goals (intro hc; first | omega | (conv => whnf)))
    | (with_reducible apply br_lt
       · repeat (first | with_reducible exact ix_nI | assumption | with_reducible apply ix_add | with_reducible apply ix_mul | (with_reducible apply ix_sub) | (with_reducible apply ix_upd) | (with_reducible apply ix_div) | omega)
       · repeat (first | with_reducible exact ix_nI | assumption | with_reducible apply ix_add | with_reducible apply ix_mul | (with_reducible apply ix_sub) | (with_reducible apply ix_upd) | (with_reducible apply ix_div) | omega)
       · omega
       · omega
       all_goals (intro hc; first | omega | (conv => whnf)))
    | (with_reducible apply br_eq
       · repeat (first | with_reducible exact ix_nI | assumption | with_reducible apply ix_add | with_reducible apply ix_mul | (with_reducible apply ix_sub) | (with_reducible apply ix_upd) | (with_reducible apply ix_div) | omega)
       · repeat (first | with_reducible exact ix_nI | assumption | with_reducible apply ix_add | with_reducible apply ix_mul | (with_reducible apply ix_sub) | (with_reducible apply ix_upd) | (with_reducible apply ix_div) | omega)
       · omega
       · omega
       all_goals (intro hc; first | omega | (conv => whnf)))
    | (with_reducible apply br_ne
       · repeat (first | with_reducible exact ix_nI | assumption | with_reducible apply ix_add | with_reducible apply ix_mul | (with_reducible apply ix_sub) | (with_reducible apply ix_upd) | (with_reducible apply ix_div) | omega)
       · repeat (first | with_reducible exact ix_nI | assumption | with_reducible apply ix_add | with_reducible apply ix_mul | (with_reducible apply ix_sub) | (with_reducible apply ix_upd) | (with_reducible apply ix_div) | omega)
       · omega
       · omega
       all_goals (intro hc; first | omega | (conv => whnf)))
    | (with_reducible apply br_eq0
       · repeat (first | with_reducible exact ix_nI | assumption | with_reducible apply ix_add | with_reducible apply ix_mul | (with_reducible apply ix_sub) | (with_reducible apply ix_upd) | (with_reducible apply ix_div) | omega)
       · omega
       all_goals (intro hc; first | omega | (conv => whnf)))
    | (with_reducible apply br_ne0
       · repeat (first | with_reducible exact ix_nI | assumption | with_reducible apply ix_add | with_reducible apply ix_mul | (with_reducible apply ix_sub) | (with_reducible apply ix_upd) | (with_reducible apply ix_div) | omega)
       · omega
       all_goals (intro hc; first | omega | (conv => whnf)))
    | (with_reducible apply br_le0
       · repeat (first | with_reducible exact ix_nI | assumption | with_reducible apply ix_add | with_reducible apply ix_mul | (with_reducible apply ix_sub) | (with_reducible apply ix_upd) | (with_reducible apply ix_div) | omega)
       · omega
       all_goals (intro hc; first | omega | (conv => whnf)))
    | (with_reducible apply br_gt0
       · repeat (first | with_reducible exact ix_nI | assumption | with_reducible apply ix_add | with_reducible apply ix_mul | (with_reducible apply ix_sub) | (with_reducible apply ix_upd) | (with_reducible apply ix_div) | omega)
       · omega
       all_goals (intro hc; first | omega | (conv => whnf)))
    | (with_reducible apply br_lt0
       · repeat (first | with_reducible exact ix_nI | assumption | with_reducible apply ix_add | with_reducible apply ix_mul | (with_reducible apply ix_sub) | (with_reducible apply ix_upd) | (with_reducible apply ix_div) | omega)
       · omega
       conv => whnf)
    | (with_reducible apply br_ge0
       · repeat (first | with_reducible exact ix_nI | assumption | with_reducible apply ix_add | with_reducible apply ix_mul | (with_reducible apply ix_sub) | (with_reducible apply ix_upd) | (with_reducible apply ix_div) | omega)
       · omega
       conv => whnf)
    | (with_reducible apply br_tab
       · repeat (first | with_reducible exact ix_nI | assumption | with_reducible apply ix_add | with_reducible apply ix_mul | (with_reducible apply ix_sub) | (with_reducible apply ix_upd) | (with_reducible apply ix_div) | omega)
       · omega
       all_goals (intro hc; (try dsimp only at hc); first | omega | (conv => whnf)))
    | (refine And.intro (by omega) ?_; conv => whnf)
    | (refine And.intro (fun hc => ?_) (fun hc => ?_) <;> conv => whnf)
    | (refine And.intro (by decide) ?_; conv => whnf)
    | fail)
  · exact h0 fun q => q.1 (by rw [nI_0]; exact hc)
  · rename_i hc0
    obtain ⟨p, hp, e⟩ := inN_of (n := 8) (by omega) (by rw [nI_0]; exact hc0) hc
    exact h1 p hp e
  · exact h0 fun q => hc q.2
theorem c_requireSetting {x : Int32} (h1 : ∀ p, p < 6 → x = nI p → K (.inl none) h w) (h0 : ¬ rg x 6 → K (.inr 0) h (XW w)) : Cl G (d + 6) kX4_requireSetting [.int x] h w K := by
  refine Cl.of (by decide) rfl ?_
  refine wp_vc [] 60 rfl fun W' C hW hC => ?_
  conv => whnf
  repeat' (first
    | (refine ⟨_, rfl, ?_⟩; conv => whnf)
    | (refine ⟨_, _, rfl, ⟨_, rfl, rfl⟩, ?_⟩; conv => whnf)
    | (refine ⟨_, _, rfl, ?_⟩
       with_reducible apply ix_ex
       · repeat (first | with_reducible exact ix_nI | assumption | with_reducible apply ix_add | with_reducible apply ix_mul | (with_reducible apply ix_sub) | (with_reducible apply ix_upd) | (with_reducible apply ix_div) | omega)
       (refine ⟨⟨by omega, by decide⟩, ?_⟩; conv => whnf))
    | (with_reducible apply br_le
       · repeat (first | with_reducible exact ix_nI | assumption | with_reducible apply ix_add | with_reducible apply ix_mul | (with_reducible apply ix_sub) | (with_reducible apply ix_upd) | (with_reducible apply ix_div) | omega)
       · repeat (first | with_reducible exact ix_nI | assumption | with_reducible apply ix_add | with_reducible apply ix_mul | (with_reducible apply ix_sub) | (with_reducible apply ix_upd) | (with_reducible apply ix_div) | omega)
       · omega
       · omega
       all_goals (intro hc; first | omega | (conv => whnf)))
    | (with_reducible apply br_lt
       · repeat (first | with_reducible exact ix_nI | assumption | with_reducible apply ix_add | with_reducible apply ix_mul | (with_reducible apply ix_sub) | (with_reducible apply ix_upd) | (with_reducible apply ix_div) | omega)
       · repeat (first | with_reducible exact ix_nI | assumption | with_reducible apply ix_add | with_reducible apply ix_mul | (with_reducible apply ix_sub) | (with_reducible apply ix_upd) | (with_reducible apply ix_div) | omega)
       · omega
       · omega
       all_goals (intro hc; first | omega | (conv => whnf)))
    | (with_reducible apply br_eq
       · repeat (first | with_reducible exact ix_nI | assumption | with_reducible apply ix_add | with_reducible apply ix_mul | (with_reducible apply ix_sub) | (with_reducible apply ix_upd) | (with_reducible apply ix_div) | omega)
       · repeat (first | with_reducible exact ix_nI | assumption | with_reducible apply ix_add | with_reducible apply ix_mul | (with_reducible apply ix_sub) | (with_reducible apply ix_upd) | (with_reducible apply ix_div) | omega)
       · omega
       · omega
       all_goals (intro hc; first | omega | (conv => whnf)))
    | (with_reducible apply br_ne
       · repeat (first | with_reducible exact ix_nI | assumption | with_reducible apply ix_add | with_reducible apply ix_mul | (with_reducible apply ix_sub) | (with_reducible apply ix_upd) | (with_reducible apply ix_div) | omega)
       · repeat (first | with_reducible exact ix_nI | assumption | with_reducible apply ix_add | with_reducible apply ix_mul | (with_reducible apply ix_sub) | (with_reducible apply ix_upd) | (with_reducible apply ix_div) | omega)
       · omega
       · omega
       all_goals (intro hc; first | omega | (conv => whnf)))
    | (with_reducible apply br_eq0
       · repeat (first | with_reducible exact ix_nI | assumption | with_reducible apply ix_add | with_reducible apply ix_mul | (with_reducible apply ix_sub) | (with_reducible apply ix_upd) | (with_reducible apply ix_div) | omega)
       · omega
       all_goals (intro hc; first | omega | (conv => whnf)))
    | (with_reducible apply br_ne0
       · repeat (first | with_reducible exact ix_nI | assumption | with_reducible apply ix_add | with_reducible apply ix_mul | (with_reducible apply ix_sub) | (with_reducible apply ix_upd) | (with_reducible apply ix_div) | omega)
       · omega
       all_goals (intro hc; first | omega | (conv => whnf)))
    | (with_reducible apply br_le0
       · repeat (first | with_reducible exact ix_nI | assumption | with_reducible apply ix_add | with_reducible apply ix_mul | (with_reducible apply ix_sub) | (with_reducible apply ix_upd) | (with_reducible apply ix_div) | omega)
       · omega
       all_goals (intro hc; first | omega | (conv => whnf)))
    | (with_reducible apply br_gt0
       · repeat (first | with_reducible exact ix_nI | assumption | with_reducible apply ix_add | with_reducible apply ix_mul | (with_reducible apply ix_sub) | (with_reducible apply ix_upd) | (with_reducible apply ix_div) | omega)
       · omega
       all_goals (intro hc; first | omega | (conv => whnf)))
    | (with_reducible apply br_lt0
       · repeat (first | with_reducible exact ix_nI | assumption | with_reducible apply ix_add | with_reducible apply ix_mul | (with_reducible apply ix_sub) | (with_reducible apply ix_upd) | (with_reducible apply ix_div) | omega)
       · omega
       conv => whnf)
    | (with_reducible apply br_ge0
       · repeat (first | with_reducible exact ix_nI | assumption | with_reducible apply ix_add | with_reducible apply ix_mul | (with_reducible apply ix_sub) | (with_reducible apply ix_upd) | (with_reducible apply ix_div) | omega)
       · omega
       conv => whnf)
    | (with_reducible apply br_tab
       · repeat (first | with_reducible exact ix_nI | assumption | with_reducible apply ix_add | with_reducible apply ix_mul | (with_reducible apply ix_sub) | (with_reducible apply ix_upd) | (with_reducible apply ix_div) | omega)
       · omega
       all_goals (intro hc; (try dsimp only at hc); first | omega | (conv => whnf)))
    | (refine And.intro (by omega) ?_; conv => whnf)
    | (refine And.intro (fun hc => ?_) (fun hc => ?_) <;> conv => whnf)
    | (refine And.intro (by decide) ?_; conv => whnf)
    | fail)
  · exact h0 fun q => q.1 (by rw [nI_0]; exact hc)
  · rename_i hc0
    obtain ⟨p, hp, e⟩ := inN_of (n := 6) (by omega) (by rw [nI_0]; exact hc0) hc
    exact h1 p hp e
  · exact h0 fun q => hc q.2
theorem c_requireOffset {x : Int32} (h1 : offOK x → K (.inl none) h w) (h0 : ¬ offOK x → K (.inr 2) h (XW w)) : Cl G (d + 6) kX4_requireOffset [.int x] h w K := by
  refine Cl.of (by decide) rfl ?_
  refine wp_vc [] 60 rfl fun W' C hW hC => ?_
  conv => whnf
  repeat' (first
    | (refine ⟨_, rfl, ?_⟩; conv => whnf)
    | (refine ⟨_, _, rfl, ⟨_, rfl, rfl⟩, ?_⟩; conv => whnf)
    | (refine ⟨_, _, rfl, ?_⟩
       with_reducible apply ix_ex
       · repeat (first | with_reducible exact ix_nI | assumption | with_reducible apply ix_add | with_reducible apply ix_mul | (with_reducible apply ix_sub) | (with_reducible apply ix_upd) | (with_reducible apply ix_div) | omega)
       (refine ⟨⟨by omega, by decide⟩, ?_⟩; conv => whnf))
    | (with_reducible apply br_le
       · repeat (first | with_reducible exact ix_nI | assumption | with_reducible apply ix_add | with_reducible apply ix_mul | (with_reducible apply ix_sub) | (with_reducible apply ix_upd) | (with_reducible apply ix_div) | omega)
       · repeat (first | with_reducible exact ix_nI | assumption | with_reducible apply ix_add | with_reducible apply ix_mul | (with_reducible apply ix_sub) | (with_reducible apply ix_upd) | (with_reducible apply ix_div) | omega)
       · omega
       · omega
       all_goals (intro hc; first | omega | (conv => whnf)))
    | (with_reducible apply br_lt
       · repeat (first | with_reducible exact ix_nI | assumption | with_reducible apply ix_add | with_reducible apply ix_mul | (with_reducible apply ix_sub) | (with_reducible apply ix_upd) | (with_reducible apply ix_div) | omega)
       · repeat (first | with_reducible exact ix_nI | assumption | with_reducible apply ix_add | with_reducible apply ix_mul | (with_reducible apply ix_sub) | (with_reducible apply ix_upd) | (with_reducible apply ix_div) | omega)
       · omega
       · omega
       all_goals (intro hc; first | omega | (conv => whnf)))
    | (with_reducible apply br_eq
       · repeat (first | with_reducible exact ix_nI | assumption | with_reducible apply ix_add | with_reducible apply ix_mul | (with_reducible apply ix_sub) | (with_reducible apply ix_upd) | (with_reducible apply ix_div) | omega)
       · repeat (first | with_reducible exact ix_nI | assumption | with_reducible apply ix_add | with_reducible apply ix_mul | (with_reducible apply ix_sub) | (with_reducible apply ix_upd) | (with_reducible apply ix_div) | omega)
       · omega
       · omega
       all_goals (intro hc; first | omega | (conv => whnf)))
    | (with_reducible apply br_ne
       · repeat (first | with_reducible exact ix_nI | assumption | with_reducible apply ix_add | with_reducible apply ix_mul | (with_reducible apply ix_sub) | (with_reducible apply ix_upd) | (with_reducible apply ix_div) | omega)
       · repeat (first | with_reducible exact ix_nI | assumption | with_reducible apply ix_add | with_reducible apply ix_mul | (with_reducible apply ix_sub) | (with_reducible apply ix_upd) | (with_reducible apply ix_div) | omega)
       · omega
       · omega
       all_goals (intro hc; first | omega | (conv => whnf)))
    | (with_reducible apply br_eq0
       · repeat (first | with_reducible exact ix_nI | assumption | with_reducible apply ix_add | with_reducible apply ix_mul | (with_reducible apply ix_sub) | (with_reducible apply ix_upd) | (with_reducible apply ix_div) | omega)
       · omega
       all_goals (intro hc; first | omega | (conv => whnf)))
    | (with_reducible apply br_ne0
       · repeat (first | with_reducible exact ix_nI | assumption | with_reducible apply ix_add | with_reducible apply ix_mul | (with_reducible apply ix_sub) | (with_reducible apply ix_upd) | (with_reducible apply ix_div) | omega)
       · omega
       all_goals (intro hc; first | omega | (conv => whnf)))
    | (with_reducible apply br_le0
       · repeat (first | with_reducible exact ix_nI | assumption | with_reducible apply ix_add | with_reducible apply ix_mul | (with_reducible apply ix_sub) | (with_reducible apply ix_upd) | (with_reducible apply ix_div) | omega)
       · omega
       all_goals (intro hc; first | omega | (conv => whnf)))
    | (with_reducible apply br_gt0
       · repeat (first | with_reducible exact ix_nI | assumption | with_reducible apply ix_add | with_reducible apply ix_mul | (with_reducible apply ix_sub) | (with_reducible apply ix_upd) | (with_reducible apply ix_div) | omega)
       · omega
       all_goals (intro hc; first | omega | (conv => whnf)))
    | (with_reducible apply br_lt0
       · repeat (first | with_reducible exact ix_nI | assumption | with_reducible apply ix_add | with_reducible apply ix_mul | (with_reducible apply ix_sub) | (with_reducible apply ix_upd) | (with_reducible apply ix_div) | omega)
       · omega
       conv => whnf)
    | (with_reducible apply br_ge0
       · repeat (first | with_reducible exact ix_nI | assumption | with_reducible apply ix_add | with_reducible apply ix_mul | (with_reducible apply ix_sub) | (with_reducible apply ix_upd) | (with_reducible apply ix_div) | omega)
       · omega
       conv => whnf)
    | (with_reducible apply br_tab
       · repeat (first | with_reducible exact ix_nI | assumption | with_reducible apply ix_add | with_reducible apply ix_mul | (with_reducible apply ix_sub) | (with_reducible apply ix_upd) | (with_reducible apply ix_div) | omega)
       · omega
       all_goals (intro hc; (try dsimp only at hc); first | omega | (conv => whnf)))
    | (refine And.intro (by omega) ?_; conv => whnf)
    | (refine And.intro (fun hc => ?_) (fun hc => ?_) <;> conv => whnf)
    | (refine And.intro (by decide) ?_; conv => whnf)
    | fail)
  · exact h0 fun q => q.1 hc
  · rename_i hc0
    exact h1 ⟨hc0, Int32.not_lt.mpr hc⟩
  · exact h0 fun q => q.2 (Int32.not_le.mp hc)
theorem c_requireMatch {x : Int32} {M : Nat} (hA : CS A h) (hM8 : A.1 8 = nI M) (hM6 : M ≤ 6) (h1 : ∀ p, p < M → x = nI p → K (.inl none) h w) (h0 : ¬ rg x M → K (.inr 0) h (XW w)) : Cl G (d + 6) kX4_requireMatch [.ref 0, .int x] h w K := by
  have hm := hA.2.1.obj
  rw [hM8] at hm
  refine Cl.of (by decide) rfl ?_
  refine wp_vc [] 60 rfl fun W' C hW hC => ?_
  conv => whnf
  repeat' (first
    | (refine ⟨_, rfl, ?_⟩; conv => whnf)
    | (refine ⟨_, _, rfl, ⟨_, rfl, rfl⟩, ?_⟩; conv => whnf)
    | (refine ⟨_, _, rfl, ?_⟩
       with_reducible apply ix_ex
       · repeat (first | with_reducible exact ix_nI | assumption | with_reducible apply ix_add | with_reducible apply ix_mul | (with_reducible apply ix_sub) | (with_reducible apply ix_upd) | (with_reducible apply ix_div) | omega)
       (refine ⟨⟨by omega, by decide⟩, ?_⟩; conv => whnf))
    | (with_reducible apply br_le
       · repeat (first | with_reducible exact ix_nI | assumption | with_reducible apply ix_add | with_reducible apply ix_mul | (with_reducible apply ix_sub) | (with_reducible apply ix_upd) | (with_reducible apply ix_div) | omega)
       · repeat (first | with_reducible exact ix_nI | assumption | with_reducible apply ix_add | with_reducible apply ix_mul | (with_reducible apply ix_sub) | (with_reducible apply ix_upd) | (with_reducible apply ix_div) | omega)
       · omega
       · omega
       all_goals (intro hc; first | omega | (conv => whnf)))
    | (with_reducible apply br_lt
       · repeat (first | with_reducible exact ix_nI | assumption | with_reducible apply ix_add | with_reducible apply ix_mul | (with_reducible apply ix_sub) | (with_reducible apply ix_upd) | (with_reducible apply ix_div) | omega)
       · repeat (first | with_reducible exact ix_nI | assumption | with_reducible apply ix_add | with_reducible apply ix_mul | (with_reducible apply ix_sub) | (with_reducible apply ix_upd) | (with_reducible apply ix_div) | omega)
       · omega
       · omega
       all_goals (intro hc; first | omega | (conv => whnf)))
    | (with_reducible apply br_eq
       · repeat (first | with_reducible exact ix_nI | assumption | with_reducible apply ix_add | with_reducible apply ix_mul | (with_reducible apply ix_sub) | (with_reducible apply ix_upd) | (with_reducible apply ix_div) | omega)
       · repeat (first | with_reducible exact ix_nI | assumption | with_reducible apply ix_add | with_reducible apply ix_mul | (with_reducible apply ix_sub) | (with_reducible apply ix_upd) | (with_reducible apply ix_div) | omega)
       · omega
       · omega
       all_goals (intro hc; first | omega | (conv => whnf)))
    | (with_reducible apply br_ne
       · repeat (first | with_reducible exact ix_nI | assumption | with_reducible apply ix_add | with_reducible apply ix_mul | (with_reducible apply ix_sub) | (with_reducible apply ix_upd) | (with_reducible apply ix_div) | omega)
       · repeat (first | with_reducible exact ix_nI | assumption | with_reducible apply ix_add | with_reducible apply ix_mul | (with_reducible apply ix_sub) | (with_reducible apply ix_upd) | (with_reducible apply ix_div) | omega)
       · omega
       · omega
       all_goals (intro hc; first | omega | (conv => whnf)))
    | (with_reducible apply br_eq0
       · repeat (first | with_reducible exact ix_nI | assumption | with_reducible apply ix_add | with_reducible apply ix_mul | (with_reducible apply ix_sub) | (with_reducible apply ix_upd) | (with_reducible apply ix_div) | omega)
       · omega
       all_goals (intro hc; first | omega | (conv => whnf)))
    | (with_reducible apply br_ne0
       · repeat (first | with_reducible exact ix_nI | assumption | with_reducible apply ix_add | with_reducible apply ix_mul | (with_reducible apply ix_sub) | (with_reducible apply ix_upd) | (with_reducible apply ix_div) | omega)
       · omega
       all_goals (intro hc; first | omega | (conv => whnf)))
    | (with_reducible apply br_le0
       · repeat (first | with_reducible exact ix_nI | assumption | with_reducible apply ix_add | with_reducible apply ix_mul | (with_reducible apply ix_sub) | (with_reducible apply ix_upd) | (with_reducible apply ix_div) | omega)
       · omega
       all_goals (intro hc; first | omega | (conv => whnf)))
    | (with_reducible apply br_gt0
       · repeat (first | with_reducible exact ix_nI | assumption | with_reducible apply ix_add | with_reducible apply ix_mul | (with_reducible apply ix_sub) | (with_reducible apply ix_upd) | (with_reducible apply ix_div) | omega)
       · omega
       all_goals (intro hc; first | omega | (conv => whnf)))
    | (with_reducible apply br_lt0
       · repeat (first | with_reducible exact ix_nI | assumption | with_reducible apply ix_add | with_reducible apply ix_mul | (with_reducible apply ix_sub) | (with_reducible apply ix_upd) | (with_reducible apply ix_div) | omega)
       · omega
       conv => whnf)
    | (with_reducible apply br_ge0
       · repeat (first | with_reducible exact ix_nI | assumption | with_reducible apply ix_add | with_reducible apply ix_mul | (with_reducible apply ix_sub) | (with_reducible apply ix_upd) | (with_reducible apply ix_div) | omega)
       · omega
       conv => whnf)
    | (with_reducible apply br_tab
       · repeat (first | with_reducible exact ix_nI | assumption | with_reducible apply ix_add | with_reducible apply ix_mul | (with_reducible apply ix_sub) | (with_reducible apply ix_upd) | (with_reducible apply ix_div) | omega)
       · omega
       all_goals (intro hc; (try dsimp only at hc); first | omega | (conv => whnf)))
    | (refine ⟨_, hA.1, ?_⟩; conv => whnf)
    | (refine ⟨_, hm, ?_⟩; conv => whnf)
    | (refine And.intro (by omega) ?_; conv => whnf)
    | (refine And.intro (fun hc => ?_) (fun hc => ?_) <;> conv => whnf)
    | (refine And.intro (by decide) ?_; conv => whnf)
    | fail)
  · exact h0 fun q => q.1 (by rw [nI_0]; exact hc)
  · rename_i hc0
    obtain ⟨p, hp, e⟩ := inN_of (n := M) (by omega) (by rw [nI_0]; exact hc0) hc
    exact h1 p hp e
  · exact h0 fun q => hc q.2
theorem c_isPageWith {p : Nat} {xp s : Int32} (hA : CS A h) (ep : xp = nI p) (hp : p < 8) (h1 : A.1 (30 + p) = s → K (.inl (some (.int (nI 1)))) h w) (h0 : ¬ A.1 (30 + p) = s → K (.inl (some (.int (nI 0)))) h w) : Cl G d kX4_isPageWith [.ref 0, .int xp, .int s] h w K := by
  subst ep
  have hM := hA.2.1
  obtain ⟨fp, ep, ep'⟩ := hM.pgs
  refine Cl.of (by decide) rfl ?_
  refine wp_vc [] 60 rfl fun W' C hW hC => ?_
  conv => whnf
  repeat' (first
    | (refine ⟨_, rfl, ?_⟩; conv => whnf)
    | (refine ⟨_, _, rfl, ⟨_, rfl, rfl⟩, ?_⟩; conv => whnf)
    | (refine ⟨_, _, rfl, ?_⟩
       with_reducible apply ix_ex
       · repeat (first | with_reducible exact ix_nI | assumption | with_reducible apply ix_add | with_reducible apply ix_mul | (with_reducible apply ix_sub) | (with_reducible apply ix_upd) | (with_reducible apply ix_div) | omega)
       (refine ⟨⟨by omega, by decide⟩, ?_⟩; conv => whnf))
    | (with_reducible apply br_le
       · repeat (first | with_reducible exact ix_nI | assumption | with_reducible apply ix_add | with_reducible apply ix_mul | (with_reducible apply ix_sub) | (with_reducible apply ix_upd) | (with_reducible apply ix_div) | omega)
       · repeat (first | with_reducible exact ix_nI | assumption | with_reducible apply ix_add | with_reducible apply ix_mul | (with_reducible apply ix_sub) | (with_reducible apply ix_upd) | (with_reducible apply ix_div) | omega)
       · omega
       · omega
       all_goals (intro hc; first | omega | (conv => whnf)))
    | (with_reducible apply br_lt
       · repeat (first | with_reducible exact ix_nI | assumption | with_reducible apply ix_add | with_reducible apply ix_mul | (with_reducible apply ix_sub) | (with_reducible apply ix_upd) | (with_reducible apply ix_div) | omega)
       · repeat (first | with_reducible exact ix_nI | assumption | with_reducible apply ix_add | with_reducible apply ix_mul | (with_reducible apply ix_sub) | (with_reducible apply ix_upd) | (with_reducible apply ix_div) | omega)
       · omega
       · omega
       all_goals (intro hc; first | omega | (conv => whnf)))
    | (with_reducible apply br_eq
       · repeat (first | with_reducible exact ix_nI | assumption | with_reducible apply ix_add | with_reducible apply ix_mul | (with_reducible apply ix_sub) | (with_reducible apply ix_upd) | (with_reducible apply ix_div) | omega)
       · repeat (first | with_reducible exact ix_nI | assumption | with_reducible apply ix_add | with_reducible apply ix_mul | (with_reducible apply ix_sub) | (with_reducible apply ix_upd) | (with_reducible apply ix_div) | omega)
       · omega
       · omega
       all_goals (intro hc; first | omega | (conv => whnf)))
    | (with_reducible apply br_ne
       · repeat (first | with_reducible exact ix_nI | assumption | with_reducible apply ix_add | with_reducible apply ix_mul | (with_reducible apply ix_sub) | (with_reducible apply ix_upd) | (with_reducible apply ix_div) | omega)
       · repeat (first | with_reducible exact ix_nI | assumption | with_reducible apply ix_add | with_reducible apply ix_mul | (with_reducible apply ix_sub) | (with_reducible apply ix_upd) | (with_reducible apply ix_div) | omega)
       · omega
       · omega
       all_goals (intro hc; first | omega | (conv => whnf)))
    | (with_reducible apply br_eq0
       · repeat (first | with_reducible exact ix_nI | assumption | with_reducible apply ix_add | with_reducible apply ix_mul | (with_reducible apply ix_sub) | (with_reducible apply ix_upd) | (with_reducible apply ix_div) | omega)
       · omega
       all_goals (intro hc; first | omega | (conv => whnf)))
    | (with_reducible apply br_ne0
       · repeat (first | with_reducible exact ix_nI | assumption | with_reducible apply ix_add | with_reducible apply ix_mul | (with_reducible apply ix_sub) | (with_reducible apply ix_upd) | (with_reducible apply ix_div) | omega)
       · omega
       all_goals (intro hc; first | omega | (conv => whnf)))
    | (with_reducible apply br_le0
       · repeat (first | with_reducible exact ix_nI | assumption | with_reducible apply ix_add | with_reducible apply ix_mul | (with_reducible apply ix_sub) | (with_reducible apply ix_upd) | (with_reducible apply ix_div) | omega)
       · omega
       all_goals (intro hc; first | omega | (conv => whnf)))
    | (with_reducible apply br_gt0
       · repeat (first | with_reducible exact ix_nI | assumption | with_reducible apply ix_add | with_reducible apply ix_mul | (with_reducible apply ix_sub) | (with_reducible apply ix_upd) | (with_reducible apply ix_div) | omega)
       · omega
       all_goals (intro hc; first | omega | (conv => whnf)))
    | (with_reducible apply br_lt0
       · repeat (first | with_reducible exact ix_nI | assumption | with_reducible apply ix_add | with_reducible apply ix_mul | (with_reducible apply ix_sub) | (with_reducible apply ix_upd) | (with_reducible apply ix_div) | omega)
       · omega
       conv => whnf)
    | (with_reducible apply br_ge0
       · repeat (first | with_reducible exact ix_nI | assumption | with_reducible apply ix_add | with_reducible apply ix_mul | (with_reducible apply ix_sub) | (with_reducible apply ix_upd) | (with_reducible apply ix_div) | omega)
       · omega
       conv => whnf)
    | (with_reducible apply br_tab
       · repeat (first | with_reducible exact ix_nI | assumption | with_reducible apply ix_add | with_reducible apply ix_mul | (with_reducible apply ix_sub) | (with_reducible apply ix_upd) | (with_reducible apply ix_div) | omega)
       · omega
       all_goals (intro hc; (try dsimp only at hc); first | omega | (conv => whnf)))
    | (refine ⟨_, hA.1, ?_⟩; conv => whnf)
    | (refine ⟨_, hM.obj, ?_⟩; conv => whnf)
    | (refine ⟨_, _, _, ep, Or.inl rfl, _, _, ix_nI, ⟨by omega, by decide⟩, ep' _ (by omega), ?_⟩; conv => whnf)
    | (refine ⟨_, hM.pg hp, ?_⟩; conv => whnf)
    | (refine And.intro (fun hc => ?_) (fun hc => ?_) <;> conv => whnf)
    | (refine And.intro (by decide) ?_; conv => whnf)
    | fail)
  · exact h0 hc
  · exact h1 hc
theorem c_isPageWith_no {x s : Int32} (hA : CS A h) (hx : ¬ rg x 8) (h0 : K (.inl (some (.int (nI 0)))) h w) : Cl G d kX4_isPageWith [.ref 0, .int x, .int s] h w K := by
  refine Cl.of (by decide) rfl ?_
  refine wp_vc [10] 60 rfl fun W' C hW hC => ?_
  conv => whnf
  repeat' (first
    | (refine ⟨_, rfl, ?_⟩; conv => whnf)
    | (refine ⟨_, _, rfl, ⟨_, rfl, rfl⟩, ?_⟩; conv => whnf)
    | (refine ⟨_, _, rfl, ?_⟩
       with_reducible apply ix_ex
       · repeat (first | with_reducible exact ix_nI | assumption | with_reducible apply ix_add | with_reducible apply ix_mul | (with_reducible apply ix_sub) | (with_reducible apply ix_upd) | (with_reducible apply ix_div) | omega)
       (refine ⟨⟨by omega, by decide⟩, ?_⟩; conv => whnf))
    | (with_reducible apply br_le
       · repeat (first | with_reducible exact ix_nI | assumption | with_reducible apply ix_add | with_reducible apply ix_mul | (with_reducible apply ix_sub) | (with_reducible apply ix_upd) | (with_reducible apply ix_div) | omega)
       · repeat (first | with_reducible exact ix_nI | assumption | with_reducible apply ix_add | with_reducible apply ix_mul | (with_reducible apply ix_sub) | (with_reducible apply ix_upd) | (with_reducible apply ix_div) | omega)
       · omega
       · omega
       all_goals (intro hc; first | omega | (conv => whnf)))
    | (with_reducible apply br_lt
       · repeat (first | with_reducible exact ix_nI | assumption | with_reducible apply ix_add | with_reducible apply ix_mul | (with_reducible apply ix_sub) | (with_reducible apply ix_upd) | (with_reducible apply ix_div) | omega)
       · repeat (first | with_reducible exact ix_nI | assumption | with_reducible apply ix_add | with_reducible apply ix_mul | (with_reducible apply ix_sub) | (with_reducible apply ix_upd) | (with_reducible apply ix_div) | omega)
       · omega
       · omega
       all_goals (intro hc; first | omega | (conv => whnf)))
    | (with_reducible apply br_eq
       · repeat (first | with_reducible exact ix_nI | assumption | with_reducible apply ix_add | with_reducible apply ix_mul | (with_reducible apply ix_sub) | (with_reducible apply ix_upd) | (with_reducible apply ix_div) | omega)
       · repeat (first | with_reducible exact ix_nI | assumption | with_reducible apply ix_add | with_reducible apply ix_mul | (with_reducible apply ix_sub) | (with_reducible apply ix_upd) | (with_reducible apply ix_div) | omega)
       · omega
       · omega
       all_goals (intro hc; first | omega | (conv => whnf)))
    | (with_reducible apply br_ne
       · repeat (first | with_reducible exact ix_nI | assumption | with_reducible apply ix_add | with_reducible apply ix_mul | (with_reducible apply ix_sub) | (with_reducible apply ix_upd) | (with_reducible apply ix_div) | omega)
       · repeat (first | with_reducible exact ix_nI | assumption | with_reducible apply ix_add | with_reducible apply ix_mul | (with_reducible apply ix_sub) | (with_reducible apply ix_upd) | (with_reducible apply ix_div) | omega)
       · omega
       · omega
       all_goals (intro hc; first | omega | (conv => whnf)))
    | (with_reducible apply br_eq0
       · repeat (first | with_reducible exact ix_nI | assumption | with_reducible apply ix_add | with_reducible apply ix_mul | (with_reducible apply ix_sub) | (with_reducible apply ix_upd) | (with_reducible apply ix_div) | omega)
       · omega
       all_goals (intro hc; first | omega | (conv => whnf)))
    | (with_reducible apply br_ne0
       · repeat (first | with_reducible exact ix_nI | assumption | with_reducible apply ix_add | with_reducible apply ix_mul | (with_reducible apply ix_sub) | (with_reducible apply ix_upd) | (with_reducible apply ix_div) | omega)
       · omega
       all_goals (intro hc; first | omega | (conv => whnf)))
    | (with_reducible apply br_le0
       · repeat (first | with_reducible exact ix_nI | assumption | with_reducible apply ix_add | with_reducible apply ix_mul | (with_reducible apply ix_sub) | (with_reducible apply ix_upd) | (with_reducible apply ix_div) | omega)
       · omega
       all_goals (intro hc; first | omega | (conv => whnf)))
    | (with_reducible apply br_gt0
       · repeat (first | with_reducible exact ix_nI | assumption | with_reducible apply ix_add | with_reducible apply ix_mul | (with_reducible apply ix_sub) | (with_reducible apply ix_upd) | (with_reducible apply ix_div) | omega)
       · omega
       all_goals (intro hc; first | omega | (conv => whnf)))
    | (with_reducible apply br_lt0
       · repeat (first | with_reducible exact ix_nI | assumption | with_reducible apply ix_add | with_reducible apply ix_mul | (with_reducible apply ix_sub) | (with_reducible apply ix_upd) | (with_reducible apply ix_div) | omega)
       · omega
       conv => whnf)
    | (with_reducible apply br_ge0
       · repeat (first | with_reducible exact ix_nI | assumption | with_reducible apply ix_add | with_reducible apply ix_mul | (with_reducible apply ix_sub) | (with_reducible apply ix_upd) | (with_reducible apply ix_div) | omega)
       · omega
       conv => whnf)
    | (with_reducible apply br_tab
       · repeat (first | with_reducible exact ix_nI | assumption | with_reducible apply ix_add | with_reducible apply ix_mul | (with_reducible apply ix_sub) | (with_reducible apply ix_upd) | (with_reducible apply ix_div) | omega)
       · omega
       all_goals (intro hc; (try dsimp only at hc); first | omega | (conv => whnf)))
    | (refine And.intro (fun hc => ?_) (fun hc => ?_) <;> conv => whnf)
    | (refine And.intro (by decide) ?_; conv => whnf)
    | fail)
  · exact h0
  · exact h0
  · rename_i hc0
    exact absurd ⟨by rw [nI_0]; exact hc0, Int32.not_le.mp hc⟩ hx
theorem c_requireStatus {p : Nat} {xp s : Int32} (hA : CS A h) (ep : xp = nI p) (hp : p < 8) (h1 : A.1 (30 + p) = s → K (.inl none) h w) (h0 : ¬ A.1 (30 + p) = s → K (.inr 1) h (XW w)) : Cl G (d + 6) kX4_requireStatus [.ref 0, .int xp, .int s] h w K := by
  subst ep
  refine Cl.of (by decide) rfl ?_
  refine wp_vc [] 60 rfl fun W' C hW hC => ?_
  conv => whnf
  repeat' (first
    | (refine ⟨_, rfl, ?_⟩; conv => whnf)
    | (refine ⟨_, _, rfl, ⟨_, rfl, rfl⟩, ?_⟩; conv => whnf)
    | (refine ⟨_, _, rfl, ?_⟩
       with_reducible apply ix_ex
       · repeat (first | with_reducible exact ix_nI | assumption | with_reducible apply ix_add | with_reducible apply ix_mul | (with_reducible apply ix_sub) | (with_reducible apply ix_upd) | (with_reducible apply ix_div) | omega)
       (refine ⟨⟨by omega, by decide⟩, ?_⟩; conv => whnf))
    | (with_reducible apply br_le
       · repeat (first | with_reducible exact ix_nI | assumption | with_reducible apply ix_add | with_reducible apply ix_mul | (with_reducible apply ix_sub) | (with_reducible apply ix_upd) | (with_reducible apply ix_div) | omega)
       · repeat (first | with_reducible exact ix_nI | assumption | with_reducible apply ix_add | with_reducible apply ix_mul | (with_reducible apply ix_sub) | (with_reducible apply ix_upd) | (with_reducible apply ix_div) | omega)
       · omega
       · omega
       all_goals (intro hc; first | omega | (conv => whnf)))
    | (with_reducible apply br_lt
       · repeat (first | with_reducible exact ix_nI | assumption | with_reducible apply ix_add | with_reducible apply ix_mul | (with_reducible apply ix_sub) | (with_reducible apply ix_upd) | (with_reducible apply ix_div) | omega)
       · repeat (first | with_reducible exact ix_nI | assumption | with_reducible apply ix_add | with_reducible apply ix_mul | (with_reducible apply ix_sub) | (with_reducible apply ix_upd) | (with_reducible apply ix_div) | omega)
       · omega
       · omega
       all_goals (intro hc; first | omega | (conv => whnf)))
    | (with_reducible apply br_eq
       · repeat (first | with_reducible exact ix_nI | assumption | with_reducible apply ix_add | with_reducible apply ix_mul | (with_reducible apply ix_sub) | (with_reducible apply ix_upd) | (with_reducible apply ix_div) | omega)
       · repeat (first | with_reducible exact ix_nI | assumption | with_reducible apply ix_add | with_reducible apply ix_mul | (with_reducible apply ix_sub) | (with_reducible apply ix_upd) | (with_reducible apply ix_div) | omega)
       · omega
       · omega
       all_goals (intro hc; first | omega | (conv => whnf)))
    | (with_reducible apply br_ne
       · repeat (first | with_reducible exact ix_nI | assumption | with_reducible apply ix_add | with_reducible apply ix_mul | (with_reducible apply ix_sub) | (with_reducible apply ix_upd) | (with_reducible apply ix_div) | omega)
       · repeat (first | with_reducible exact ix_nI | assumption | with_reducible apply ix_add | with_reducible apply ix_mul | (with_reducible apply ix_sub) | (with_reducible apply ix_upd) | (with_reducible apply ix_div) | omega)
       · omega
       · omega
       all_goals (intro hc; first | omega | (conv => whnf)))
    | (with_reducible apply br_eq0
       · repeat (first | with_reducible exact ix_nI | assumption | with_reducible apply ix_add | with_reducible apply ix_mul | (with_reducible apply ix_sub) | (with_reducible apply ix_upd) | (with_reducible apply ix_div) | omega)
       · omega
       all_goals (intro hc; first | omega | (conv => whnf)))
    | (with_reducible apply br_ne0
       · repeat (first | with_reducible exact ix_nI | assumption | with_reducible apply ix_add | with_reducible apply ix_mul | (with_reducible apply ix_sub) | (with_reducible apply ix_upd) | (with_reducible apply ix_div) | omega)
       · omega
       all_goals (intro hc; first | omega | (conv => whnf)))
    | (with_reducible apply br_le0
       · repeat (first | with_reducible exact ix_nI | assumption | with_reducible apply ix_add | with_reducible apply ix_mul | (with_reducible apply ix_sub) | (with_reducible apply ix_upd) | (with_reducible apply ix_div) | omega)
       · omega
       all_goals (intro hc; first | omega | (conv => whnf)))
    | (with_reducible apply br_gt0
       · repeat (first | with_reducible exact ix_nI | assumption | with_reducible apply ix_add | with_reducible apply ix_mul | (with_reducible apply ix_sub) | (with_reducible apply ix_upd) | (with_reducible apply ix_div) | omega)
       · omega
       all_goals (intro hc; first | omega | (conv => whnf)))
    | (with_reducible apply br_lt0
       · repeat (first | with_reducible exact ix_nI | assumption | with_reducible apply ix_add | with_reducible apply ix_mul | (with_reducible apply ix_sub) | (with_reducible apply ix_upd) | (with_reducible apply ix_div) | omega)
       · omega
       conv => whnf)
    | (with_reducible apply br_ge0
       · repeat (first | with_reducible exact ix_nI | assumption | with_reducible apply ix_add | with_reducible apply ix_mul | (with_reducible apply ix_sub) | (with_reducible apply ix_upd) | (with_reducible apply ix_div) | omega)
       · omega
       conv => whnf)
    | (with_reducible apply br_tab
       · repeat (first | with_reducible exact ix_nI | assumption | with_reducible apply ix_add | with_reducible apply ix_mul | (with_reducible apply ix_sub) | (with_reducible apply ix_upd) | (with_reducible apply ix_div) | omega)
       · omega
       all_goals (intro hc; (try dsimp only at hc); first | omega | (conv => whnf)))
    | (refine ⟨_, _, hA.1, ⟨_, rfl, rfl⟩, ?_⟩; conv => whnf)
    | (refine cl_use hC (c_isPageWith hA rfl hp (fun g1 => ?_) (fun g1 => ?_)) <;> conv => whnf)
    | (refine And.intro (by omega) ?_; conv => whnf)
    | (refine And.intro (fun hc => ?_) (fun hc => ?_) <;> conv => whnf)
    | (refine And.intro (by decide) ?_; conv => whnf)
    | fail)
  · exact h1 g1
  · exact h0 g1
/-- a public call of the class: its answer and what it leaves, or its exception -/
def CKc (h : AH) (w : W3) (K : AO → AH → W3 → Prop) (e1 e2 : Nat) (r : Ans) : Prop :=
  (r.1 = 0 → ∀ h', CS r.2.2 h' → FrC h h' → K (.inl (some (.int r.2.1))) h' w) ∧ (r.1 = 1 → K (.inr e1) h (XW w)) ∧ (r.1 = 2 → K (.inr e2) h (XW w))
end C9
