/-! ===== the class: a memory, at the numbers from b on ===== -/
def pgO (b p : Nat) (z : ZZ) : AC := .inr (3, [.ref (b + 6 + 2 * p), .int (z (30 + p)), .int (z (78 + p)), .int (z (38 + p)), .int (z (46 + p)), .int (z (54 + p)), .int (z (62 + p)), .int (z (70 + p))])
def Mem (b : Nat) (z : ZZ) (h : AH) : Prop :=
  h b = .inr (2, [.ref (b + 1), .ref (b + 2), .ref (b + 3), .ref (b + 4), .int (z 8), .int (z 6), .int (z 7), .int (z 27)]) ∧
  (∃ f : Nat → Option Nat, h (b + 1) = .inl (2, 8, .inr (.inr (.inr (.inr f)))) ∧ ∀ j, j < 8 → f j = some (b + 5 + 2 * j)) ∧
  (∃ q : ZZ, h (b + 2) = .inl (0, 2, .inl q) ∧ ∀ i, i < 2 → q i = z (28 + i)) ∧
  (∃ q : ZZ, h (b + 3) = .inl (0, 6, .inl q) ∧ ∀ i, i < 6 → q i = z i) ∧
  (∃ q : ZZ, h (b + 4) = .inl (0, 18, .inl q) ∧ ∀ i, i < 18 → q i = z (9 + i)) ∧
  (∀ p, p < 8 → h (b + 5 + 2 * p) = pgO b p z) ∧
  (∀ p, p < 8 → ∃ q : ZZ, h (b + 6 + 2 * p) = .inl (0, 16, .inl q) ∧ ∀ c, c < 16 → q c = z (86 + 16 * p + c))
/-- outside the memory nothing is changed -/
def Off (b : Nat) (h h' : AH) : Prop := ∀ a, (a < b ∨ b + 21 ≤ a) → h' a = h a
section C2
variable {b p : Nat} {z z' : ZZ} {h h' h2 : AH}
theorem Off.refl : Off b h h := fun _ _ => rfl
theorem Off.trans (h1 : Off b h h') (h3 : Off b h' h2) : Off b h h2 := fun a ha => (h3 a ha).trans (h1 a ha)
theorem Off.up {k : Nat} {x : AC} (hk : k < 21) (h1 : Off b h h') : Off b h (upA h' (b + k) x) := fun a ha => (upA_ne (by omega) rfl).trans (h1 a ha)
theorem Off.up' {a k : Nat} {x : AC} (ea : a = b + k) (hk : k < 21) (h1 : Off b h h') : Off b h (upA h' a x) := by subst ea; exact h1.up hk
theorem pgO_congr (hp : ∀ k, k < 7 → z' (30 + 8 * k + p) = z (30 + 8 * k + p)) : pgO b p z' = pgO b p z := by
  have e0 : z' (30 + p) = z (30 + p) := hp 0 (by omega)
  have e1 : z' (38 + p) = z (38 + p) := hp 1 (by omega)
  have e2 : z' (46 + p) = z (46 + p) := hp 2 (by omega)
  have e3 : z' (54 + p) = z (54 + p) := hp 3 (by omega)
  have e4 : z' (62 + p) = z (62 + p) := hp 4 (by omega)
  have e5 : z' (70 + p) = z (70 + p) := hp 5 (by omega)
  have e6 : z' (78 + p) = z (78 + p) := hp 6 (by omega)
  simp only [pgO, e0, e1, e2, e3, e4, e5, e6]
theorem Mem.same (hM : Mem b z h) (hz : ∀ i, i < 214 → z' i = z i) : Mem b z' h := by
  obtain ⟨a1, a2, ⟨q2, a3, a3'⟩, ⟨q3, a4, a4'⟩, ⟨q4, a5, a5'⟩, a6, a7⟩ := hM
  refine ⟨?_, a2, ⟨q2, a3, fun i hi => (a3' i hi).trans (hz _ (by omega)).symm⟩, ⟨q3, a4, fun i hi => (a4' i hi).trans (hz _ (by omega)).symm⟩, ⟨q4, a5, fun i hi => (a5' i hi).trans (hz _ (by omega)).symm⟩, fun p hp => ?_, fun p hp => ?_⟩
  · rw [a1, hz 8 (by omega), hz 6 (by omega), hz 7 (by omega), hz 27 (by omega)]
  · rw [a6 p hp]
    exact (pgO_congr fun k hk => hz _ (by omega)).symm
  · obtain ⟨q, e1, e2⟩ := a7 p hp
    exact ⟨q, e1, fun c hc => (e2 c hc).trans (hz _ (by omega)).symm⟩
theorem Mem.moved (hM : Mem b z h) (hh : ∀ a, b ≤ a → a < b + 21 → h' a = h a) : Mem b z h' := by
  obtain ⟨a1, ⟨f, a2, a2'⟩, ⟨q2, a3, a3'⟩, ⟨q3, a4, a4'⟩, ⟨q4, a5, a5'⟩, a6, a7⟩ := hM
  refine ⟨(hh _ (by omega) (by omega)).trans a1, ⟨f, (hh _ (by omega) (by omega)).trans a2, a2'⟩, ⟨q2, (hh _ (by omega) (by omega)).trans a3, a3'⟩, ⟨q3, (hh _ (by omega) (by omega)).trans a4, a4'⟩, ⟨q4, (hh _ (by omega) (by omega)).trans a5, a5'⟩, fun p hp => (hh _ (by omega) (by omega)).trans (a6 p hp), fun p hp => ?_⟩
  obtain ⟨q, e1, e2⟩ := a7 p hp
  exact ⟨q, (hh _ (by omega) (by omega)).trans e1, e2⟩
theorem Mem.obj (hM : Mem b z h) : h b = .inr (2, [.ref (b + 1), .ref (b + 2), .ref (b + 3), .ref (b + 4), .int (z 8), .int (z 6), .int (z 7), .int (z 27)]) := hM.1
theorem Mem.pgs (hM : Mem b z h) : ∃ f : Nat → Option Nat, h (b + 1) = .inl (2, 8, .inr (.inr (.inr (.inr f)))) ∧ ∀ j, j < 8 → f j = some (b + 5 + 2 * j) := hM.2.1
theorem Mem.wr (hM : Mem b z h) : ∃ q : ZZ, h (b + 2) = .inl (0, 2, .inl q) ∧ ∀ i, i < 2 → q i = z (28 + i) := hM.2.2.1
theorem Mem.st (hM : Mem b z h) : ∃ q : ZZ, h (b + 3) = .inl (0, 6, .inl q) ∧ ∀ i, i < 6 → q i = z i := hM.2.2.2.1
theorem Mem.of (hM : Mem b z h) : ∃ q : ZZ, h (b + 4) = .inl (0, 18, .inl q) ∧ ∀ i, i < 18 → q i = z (9 + i) := hM.2.2.2.2.1
theorem Mem.pg (hM : Mem b z h) (hp : p < 8) : h (b + 5 + 2 * p) = .inr (3, [.ref (b + 6 + 2 * p), .int (z (30 + p)), .int (z (78 + p)), .int (z (38 + p)), .int (z (46 + p)), .int (z (54 + p)), .int (z (62 + p)), .int (z (70 + p))]) := hM.2.2.2.2.2.1 p hp
theorem Mem.ch (hM : Mem b z h) (hp : p < 8) : ∃ q : ZZ, h (b + 6 + 2 * p) = .inl (0, 16, .inl q) ∧ ∀ c, c < 16 → q c = z (86 + 16 * p + c) := hM.2.2.2.2.2.2 p hp
/-- the numbers, with those of a page's object changed -/
def pgZ (z : ZZ) (p : Nat) (s1 s2 s3 s4 s5 s6 s7 : Int32) : ZZ := fun i => if i = 30 + p then s1 else if i = 78 + p then s2 else if i = 38 + p then s3 else if i = 46 + p then s4 else if i = 54 + p then s5 else if i = 62 + p then s6 else if i = 70 + p then s7 else z i
def obZ (z : ZZ) (m hr sd bl : Int32) : ZZ := fun i => if i = 8 then m else if i = 6 then hr else if i = 7 then sd else if i = 27 then bl else z i
theorem pgZ_ne {s1 s2 s3 s4 s5 s6 s7 : Int32} {i : Nat} (h0 : i ≠ 30 + p) (h1 : i ≠ 38 + p) (h2 : i ≠ 46 + p) (h3 : i ≠ 54 + p) (h4 : i ≠ 62 + p) (h5 : i ≠ 70 + p) (h6 : i ≠ 78 + p) : pgZ z p s1 s2 s3 s4 s5 s6 s7 i = z i := by
  unfold pgZ
  rw [if_neg h0, if_neg h6, if_neg h1, if_neg h2, if_neg h3, if_neg h4, if_neg h5]
theorem obZ_ne {m hr sd bl : Int32} {i : Nat} (h0 : i ≠ 8) (h1 : i ≠ 6) (h2 : i ≠ 7) (h3 : i ≠ 27) : obZ z m hr sd bl i = z i := by
  unfold obZ
  rw [if_neg h0, if_neg h1, if_neg h2, if_neg h3]
theorem pgO_pgZ {s1 s2 s3 s4 s5 s6 s7 : Int32} : pgO b p (pgZ z p s1 s2 s3 s4 s5 s6 s7) = .inr (3, [.ref (b + 6 + 2 * p), .int s1, .int s2, .int s3, .int s4, .int s5, .int s6, .int s7]) := by
  simp [pgO, pgZ]
theorem Mem.upP {s1 s2 s3 s4 s5 s6 s7 : Int32} (hM : Mem b z h) (hp : p < 8) : Mem b (pgZ z p s1 s2 s3 s4 s5 s6 s7) (upA h (b + 5 + 2 * p) (.inr (3, [.ref (b + 6 + 2 * p), .int s1, .int s2, .int s3, .int s4, .int s5, .int s6, .int s7]))) := by
  obtain ⟨a1, ⟨f, a2, a2'⟩, ⟨q2, a3, a3'⟩, ⟨q3, a4, a4'⟩, ⟨q4, a5, a5'⟩, a6, a7⟩ := hM
  have hz : ∀ i, (i < 30 ∨ 86 ≤ i) → pgZ z p s1 s2 s3 s4 s5 s6 s7 i = z i := fun i hi => pgZ_ne (by omega) (by omega) (by omega) (by omega) (by omega) (by omega) (by omega)
  refine ⟨?_, ⟨f, upA_ne (by omega) a2, a2'⟩, ⟨q2, upA_ne (by omega) a3, fun i hi => (a3' i hi).trans (hz _ (by omega)).symm⟩, ⟨q3, upA_ne (by omega) a4, fun i hi => (a4' i hi).trans (hz _ (by omega)).symm⟩, ⟨q4, upA_ne (by omega) a5, fun i hi => (a5' i hi).trans (hz _ (by omega)).symm⟩, fun j hj => ?_, fun j hj => ?_⟩
  · rw [hz 8 (by omega), hz 6 (by omega), hz 7 (by omega), hz 27 (by omega)]
    exact upA_ne (by omega) a1
  · by_cases e : j = p
    · subst e
      rw [upA_eq, pgO_pgZ]
    · rw [pgO_congr (z := z) fun k hk => pgZ_ne (by omega) (by omega) (by omega) (by omega) (by omega) (by omega) (by omega)]
      exact upA_ne (by omega) (a6 j hj)
  · obtain ⟨q, e1, e2⟩ := a7 j hj
    exact ⟨q, upA_ne (by omega) e1, fun c hc => (e2 c hc).trans (hz _ (by omega)).symm⟩
theorem Mem.upC {q : ZZ} (hM : Mem b z h) (hp : p < 8) : Mem b (fillC z p q 16) (upA h (b + 6 + 2 * p) (.inl (0, 16, .inl q))) := by
  obtain ⟨a1, ⟨f, a2, a2'⟩, ⟨q2, a3, a3'⟩, ⟨q3, a4, a4'⟩, ⟨q4, a5, a5'⟩, a6, a7⟩ := hM
  have hz : ∀ i, i < 86 → fillC z p q 16 i = z i := fun i hi => fillC_out (by omega)
  refine ⟨?_, ⟨f, upA_ne (by omega) a2, a2'⟩, ⟨q2, upA_ne (by omega) a3, fun i hi => (a3' i hi).trans (hz _ (by omega)).symm⟩, ⟨q3, upA_ne (by omega) a4, fun i hi => (a4' i hi).trans (hz _ (by omega)).symm⟩, ⟨q4, upA_ne (by omega) a5, fun i hi => (a5' i hi).trans (hz _ (by omega)).symm⟩, fun j hj => ?_, fun j hj => ?_⟩
  · rw [hz 8 (by omega), hz 6 (by omega), hz 7 (by omega), hz 27 (by omega)]
    exact upA_ne (by omega) a1
  · rw [pgO_congr (z := z) fun k hk => hz _ (by omega)]
    exact upA_ne (by omega) (a6 j hj)
  · by_cases e : j = p
    · subst e
      exact ⟨q, upA_eq, fun c hc => (fillC_in hc).symm⟩
    · obtain ⟨q', e1, e2⟩ := a7 j hj
      exact ⟨q', upA_ne (by omega) e1, fun c hc => (e2 c hc).trans (fillC_out (by omega)).symm⟩
theorem Mem.upW {i : Nat} {q : ZZ} {x : Int32} (hM : Mem b z h) (hi : i < 2) (hq : ∀ j, j < 2 → q j = z (28 + j)) : Mem b (upd z (28 + i) x) (upA h (b + 2) (.inl (0, 2, .inl (upd q i x)))) := by
  obtain ⟨a1, ⟨f, a2, a2'⟩, ⟨q2, a3, a3'⟩, ⟨q3, a4, a4'⟩, ⟨q4, a5, a5'⟩, a6, a7⟩ := hM
  have hz : ∀ j, j ≠ 28 + i → upd z (28 + i) x j = z j := fun j hj => upd_ne hj
  refine ⟨?_, ⟨f, upA_ne (by omega) a2, a2'⟩, ⟨_, upA_eq, fun j hj => ?_⟩, ⟨q3, upA_ne (by omega) a4, fun i hi => (a4' i hi).trans (hz _ (by omega)).symm⟩, ⟨q4, upA_ne (by omega) a5, fun i hi => (a5' i hi).trans (hz _ (by omega)).symm⟩, fun j hj => ?_, fun j hj => ?_⟩
  · rw [hz 8 (by omega), hz 6 (by omega), hz 7 (by omega), hz 27 (by omega)]
    exact upA_ne (by omega) a1
  · by_cases e : j = i
    · subst e; rw [upd_eq, upd_eq]
    · rw [upd_ne e, upd_ne (by omega), hq j hj]
  · rw [pgO_congr (z := z) fun k hk => hz _ (by omega)]
    exact upA_ne (by omega) (a6 j hj)
  · obtain ⟨q', e1, e2⟩ := a7 j hj
    exact ⟨q', upA_ne (by omega) e1, fun c hc => (e2 c hc).trans (hz _ (by omega)).symm⟩
theorem Mem.upS {i : Nat} {q : ZZ} {x : Int32} (hM : Mem b z h) (hi : i < 6) (hq : ∀ j, j < 6 → q j = z j) : Mem b (upd z i x) (upA h (b + 3) (.inl (0, 6, .inl (upd q i x)))) := by
  obtain ⟨a1, ⟨f, a2, a2'⟩, ⟨q2, a3, a3'⟩, ⟨q3, a4, a4'⟩, ⟨q4, a5, a5'⟩, a6, a7⟩ := hM
  have hz : ∀ j, j ≠ i → upd z i x j = z j := fun j hj => upd_ne hj
  refine ⟨?_, ⟨f, upA_ne (by omega) a2, a2'⟩, ⟨q2, upA_ne (by omega) a3, fun i hi => (a3' i hi).trans (hz _ (by omega)).symm⟩, ⟨_, upA_eq, fun j hj => ?_⟩, ⟨q4, upA_ne (by omega) a5, fun i hi => (a5' i hi).trans (hz _ (by omega)).symm⟩, fun j hj => ?_, fun j hj => ?_⟩
  · rw [hz 8 (by omega), hz 6 (by omega), hz 7 (by omega), hz 27 (by omega)]
    exact upA_ne (by omega) a1
  · by_cases e : j = i
    · subst e; rw [upd_eq, upd_eq]
    · rw [upd_ne e, upd_ne (by omega), hq j hj]
  · rw [pgO_congr (z := z) fun k hk => hz _ (by omega)]
    exact upA_ne (by omega) (a6 j hj)
  · obtain ⟨q', e1, e2⟩ := a7 j hj
    exact ⟨q', upA_ne (by omega) e1, fun c hc => (e2 c hc).trans (hz _ (by omega)).symm⟩
theorem Mem.upO {i : Nat} {q : ZZ} {x : Int32} (hM : Mem b z h) (hi : i < 18) (hq : ∀ j, j < 18 → q j = z (9 + j)) : Mem b (upd z (9 + i) x) (upA h (b + 4) (.inl (0, 18, .inl (upd q i x)))) := by
  obtain ⟨a1, ⟨f, a2, a2'⟩, ⟨q2, a3, a3'⟩, ⟨q3, a4, a4'⟩, ⟨q4, a5, a5'⟩, a6, a7⟩ := hM
  have hz : ∀ j, j ≠ 9 + i → upd z (9 + i) x j = z j := fun j hj => upd_ne hj
  refine ⟨?_, ⟨f, upA_ne (by omega) a2, a2'⟩, ⟨q2, upA_ne (by omega) a3, fun i hi => (a3' i hi).trans (hz _ (by omega)).symm⟩, ⟨q3, upA_ne (by omega) a4, fun i hi => (a4' i hi).trans (hz _ (by omega)).symm⟩, ⟨_, upA_eq, fun j hj => ?_⟩, fun j hj => ?_, fun j hj => ?_⟩
  · rw [hz 8 (by omega), hz 6 (by omega), hz 7 (by omega), hz 27 (by omega)]
    exact upA_ne (by omega) a1
  · by_cases e : j = i
    · subst e; rw [upd_eq, upd_eq]
    · rw [upd_ne e, upd_ne (by omega), hq j hj]
  · rw [pgO_congr (z := z) fun k hk => hz _ (by omega)]
    exact upA_ne (by omega) (a6 j hj)
  · obtain ⟨q', e1, e2⟩ := a7 j hj
    exact ⟨q', upA_ne (by omega) e1, fun c hc => (e2 c hc).trans (hz _ (by omega)).symm⟩
theorem Mem.upM {m hr sd bl : Int32} (hM : Mem b z h) : Mem b (obZ z m hr sd bl) (upA h b (.inr (2, [.ref (b + 1), .ref (b + 2), .ref (b + 3), .ref (b + 4), .int m, .int hr, .int sd, .int bl]))) := by
  obtain ⟨a1, ⟨f, a2, a2'⟩, ⟨q2, a3, a3'⟩, ⟨q3, a4, a4'⟩, ⟨q4, a5, a5'⟩, a6, a7⟩ := hM
  have hz : ∀ j, (j < 6 ∨ 9 ≤ j ∧ j < 27 ∨ 28 ≤ j) → obZ z m hr sd bl j = z j := fun j hj => obZ_ne (by omega) (by omega) (by omega) (by omega)
  refine ⟨?_, ⟨f, upA_ne (by omega) a2, a2'⟩, ⟨q2, upA_ne (by omega) a3, fun i hi => (a3' i hi).trans (hz _ (by omega)).symm⟩, ⟨q3, upA_ne (by omega) a4, fun i hi => (a4' i hi).trans (hz _ (by omega)).symm⟩, ⟨q4, upA_ne (by omega) a5, fun i hi => (a5' i hi).trans (hz _ (by omega)).symm⟩, fun j hj => ?_, fun j hj => ?_⟩
  · rw [upA_eq]
    rfl
  · rw [pgO_congr (z := z) fun k hk => hz _ (by omega)]
    exact upA_ne (by omega) (a6 j hj)
  · obtain ⟨q', e1, e2⟩ := a7 j hj
    exact ⟨q', upA_ne (by omega) e1, fun c hc => (e2 c hc).trans (hz _ (by omega)).symm⟩
end C2
