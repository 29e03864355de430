/-! ===== what the class's ways of writing come to ===== -/
theorem tI_nI {k : Nat} (hk : k < 2 ^ 31) : (nI k).toInt = (k : Int) := by
  rw [i32_ge0 (nI_pos hk), nI_clamp hk]
theorem rem31 {y : Int64} (h : 0 ≤ y) : (y - y / 2147483648 * 2147483648).toInt32 = (y &&& 2147483647).toInt32 := by
  congr 1
  apply Int64.toInt_inj.mp
  have h0 : (0 : Int) ≤ y.toInt := by simpa using Int64.le_iff_toInt_le.mp h
  have h1 := Int64.toInt_lt y
  have hk : (2147483648 : Int64).toInt = 2147483648 := by decide
  have hn : (y.toBitVec.toNat : Int) = y.toInt := by
    show _ = y.toBitVec.toInt
    have h0' : (0 : Int) ≤ y.toBitVec.toInt := h0
    rw [BitVec.toInt_eq_toNat_cond] at h0' ⊢
    split
    · rfl
    · rename_i hc
      rw [if_neg hc] at h0'
      have := y.toBitVec.isLt
      omega
  have hd : (y / 2147483648).toInt = y.toInt / 2147483648 := by
    rw [Int64.toInt_div, hk, Int.tdiv_eq_ediv_of_nonneg h0]
    exact Int.bmod_eq_of_le (by omega) (by omega)
  rw [and31, Int64.toInt_sub, Int64.toInt_mul, hd, hk]
  have e1 : (y.toInt / 2147483648 * 2147483648).bmod (2 ^ 64) = y.toInt / 2147483648 * 2147483648 := Int.bmod_eq_of_le (by omega) (by omega)
  have e2 : y.toBitVec.toNat &&& 2147483647 = y.toBitVec.toNat % 2 ^ 31 := Nat.and_two_pow_sub_one_eq_mod _ 31
  rw [e1, e2, Int.bmod_eq_of_le (by omega) (by omega)]
  omega
theorem seed_rem {s : Int32} (h : bd s 2147483647) : ((1103515245 : Int64) * s.toInt64 + (12345 : Int64) - ((1103515245 : Int64) * s.toInt64 + (12345 : Int64)) / (2147483648 : Int64) * (2147483648 : Int64)).toInt32 = nextSeed s := by
  obtain ⟨k, hk, rfl⟩ := h
  have e1 : ((1103515245 : Int64) * (nI k).toInt64).toInt = 1103515245 * (k : Int) := by
    rw [Int64.toInt_mul, Int32.toInt_toInt64, tI_nI (by omega)]
    have : (1103515245 : Int64).toInt = 1103515245 := by decide
    rw [this]
    exact Int.bmod_eq_of_le (by omega) (by omega)
  have e2 : ((1103515245 : Int64) * (nI k).toInt64 + (12345 : Int64)).toInt = 1103515245 * (k : Int) + 12345 := by
    rw [Int64.toInt_add, e1]
    have : (12345 : Int64).toInt = 12345 := by decide
    rw [this]
    exact Int.bmod_eq_of_le (by omega) (by omega)
  have h0 : (0 : Int64) ≤ (1103515245 : Int64) * (nI k).toInt64 + (12345 : Int64) := by
    rw [Int64.le_iff_toInt_le, e2]
    have : (0 : Int64).toInt = 0 := by decide
    omega
  exact rem31 h0
theorem held_mm {v : Int32} : (if (0 : Int32) < (if v < nI 450 then v else nI 450) then (if v < nI 450 then v else nI 450) else 0) = heldI v := by
  unfold heldI
  by_cases h1 : v < nI 450
  · rw [if_pos h1]
    by_cases h2 : 0 < v
    · rw [if_pos h2, if_pos (Int32.le_of_lt h2), if_pos (Int32.le_of_lt h1)]
    · rw [if_neg h2]
      by_cases h3 : 0 ≤ v
      · rw [if_pos h3, if_pos (Int32.le_of_lt h1)]
        exact Int32.le_antisymm h3 (Int32.not_lt.mp h2)
      · rw [if_neg h3]
        rfl
  · have h4 : nI 450 ≤ v := Int32.not_lt.mp h1
    rw [if_neg h1, if_pos (by decide), if_pos (Int32.le_trans (by decide) h4)]
    by_cases h5 : v ≤ nI 450
    · rw [if_pos h5]
      exact Int32.le_antisymm h4 h5
    · rw [if_neg h5]
theorem held_min {x y : Int32} (hx : bd x 450) (hy : bd y 30) : minI (nI 450) (x + y) = heldI (x + y) := by
  obtain ⟨a, ha, rfl⟩ := hx
  obtain ⟨c, hc, rfl⟩ := hy
  unfold minI heldI
  rw [nI_add, if_pos (nI_pos' (by omega))]
  by_cases h : a + c < 450
  · rw [if_pos ((nI_ltI (by omega) (by omega)).mpr h), if_pos ((nI_leI (by omega) (by omega)).mpr (by omega))]
  · rw [if_neg (by rw [nI_ltI (by omega) (by omega)]; exact h)]
    by_cases h2 : a + c = 450
    · rw [h2, if_pos (by decide)]
    · rw [if_neg (by rw [nI_leI (by omega) (by omega)]; omega)]
theorem drC_I {perm q : Int32} (hp : bd perm 150) (hq : bd q 450) : drC perm q = drI perm q := by
  obtain ⟨m, hm, rfl⟩ := hp
  obtain ⟨k, hk, rfl⟩ := hq
  have h1 : k * m ≤ 450 * 150 := Nat.mul_le_mul hk hm
  unfold drC drI
  rw [pk_mul, pk_div (by omega) (by omega) (by omega), ← nI_0]
  by_cases h : 0 < k * m / 1000
  · rw [if_pos ((nI_ltI (by omega) (by omega)).mpr h)]
  · rw [if_neg (by rw [nI_ltI (by omega) (by omega)]; exact h), show k * m / 1000 = 0 by omega, pk_sub (by omega), Nat.sub_zero]
theorem drCn_I {perm q : Int32} (hp : bd perm 150) (hq : bd q 450) : ∀ n, drCn perm q n = drN perm q n ∧ bd (drN perm q n) 450
  | 0 => ⟨rfl, hq⟩
  | n + 1 => by
    obtain ⟨h1, h2⟩ := drCn_I hp hq n
    rw [drCn, drN, h1, drC_I hp h2]
    exact ⟨rfl, dr_bd hp h2⟩
/-- the page p's head as a writing leaves it -/
def ovP (p : Nat) (t : Int32) (f : ZZ) : ZZ := fun i => if i = 30 + p then nI 1 else if i = 38 + p then t else if i = 46 + p then nI 0 else f i
theorem ovP_out {p i : Nat} {t : Int32} {f : ZZ} (h0 : i ≠ 30 + p) (h1 : i ≠ 38 + p) (h2 : i ≠ 46 + p) : ovP p t f i = f i := by
  unfold ovP
  rw [if_neg h0, if_neg h1, if_neg h2]
theorem ovP_upd {p k : Nat} {t x : Int32} {f : ZZ} (h0 : k ≠ 30 + p) (h1 : k ≠ 38 + p) (h2 : k ≠ 46 + p) : upd (ovP p t f) k x = ovP p t (upd f k x) := by
  funext i
  by_cases e : i = k
  · subst e
    rw [upd_eq, ovP_out h0 h1 h2, upd_eq]
  · rw [upd_ne e]
    unfold ovP
    rw [upd_ne e]
theorem ov_wr {z : ZZ} {p : Nat} {t J : Int32} (hp : p < 8) : ∀ c, wrLoop (ovP p t z) p J c = ovP p t (wrLoop z p J c)
  | 0 => rfl
  | c + 1 => by
    rw [wrLoop, wrLoop, ov_wr hp c, ovP_out (by omega) (by omega) (by omega), ovP_upd (by omega) (by omega) (by omega), ovP_upd (by omega) (by omega) (by omega)]
    have e : wrt (ovP p t (wrLoop z p J c)) p c = wrt (wrLoop z p J c) p c := by
      unfold wrt
      rw [ovP_out (by omega) (by omega) (by omega)]
    rw [e]
theorem ov_dist {z : ZZ} {p o : Nat} {t : Int32} (hp : p < 8) (ho : o < 8) (hne : o ≠ p) : distZ (ovP p t z) o = ovP p t (distZ z o) := by
  unfold distZ
  rw [ovP_out (i := 30 + o) (by omega) (by omega) (by omega), ovP_out (i := 3) (by omega) (by omega) (by omega)]
  by_cases h : 0 < z (30 + o)
  · rw [if_pos h, if_pos h]
    funext i
    unfold fillC
    by_cases hi : 86 + 16 * o ≤ i ∧ i < 86 + 16 * o + 16
    · rw [if_pos hi]
      dsimp only
      rw [ovP_out (by omega) (by omega) (by omega)]
      unfold ovP
      dsimp only
      rw [if_neg (by omega), if_neg (by omega), if_neg (by omega), if_pos hi]
    · rw [if_neg hi]
      unfold ovP
      dsimp only
      rw [if_neg hi]
  · rw [if_neg h, if_neg h]
theorem dist_lo {z : ZZ} {o i : Nat} (hi : i < 86) : distZ z o i = z i := by
  unfold distZ
  split
  · exact fillC_out (by omega)
  · rfl
/-- what writePage leaves, in the class's order -/
def wcZ (z : ZZ) (p : Nat) (data : Int32) : ZZ :=
  let z1 := wrLoop (ovP p (z 6) (upd z (78 + p) data)) p (jitJ z p) 16
  let z2 := if 0 < p % 4 then distZ z1 (p - 1) else z1
  if p % 4 < 3 then distZ z2 (p + 1) else z2
theorem wcZ_w {z : ZZ} {p : Nat} {data : Int32} (hp : p < 8) : wcZ z p data = writesZ z p data := by
  unfold wcZ writesZ
  dsimp only
  rw [ov_wr hp]
  generalize hz1 : wrLoop (upd z (78 + p) data) p (jitJ z p) 16 = z1
  have h16 : z1 6 = z 6 := by rw [← hz1, wr_78 hp (by omega) (by omega) 16 (by omega), upd_ne (by omega)]
  have e2 : (if 0 < p % 4 then distZ (ovP p (z 6) z1) (p - 1) else ovP p (z 6) z1) = ovP p (z 6) (if 0 < p % 4 then distZ z1 (p - 1) else z1) := by
    split
    · exact ov_dist hp (by omega) (by omega)
    · rfl
  rw [e2]
  generalize hz2 : (if 0 < p % 4 then distZ z1 (p - 1) else z1) = z2
  have h26 : z2 6 = z 6 := by
    rw [← hz2]
    split
    · rw [dist_lo (by omega), h16]
    · exact h16
  have e3 : (if p % 4 < 3 then distZ (ovP p (z 6) z2) (p + 1) else ovP p (z 6) z2) = ovP p (z 6) (if p % 4 < 3 then distZ z2 (p + 1) else z2) := by
    split
    · exact ov_dist hp (by omega) (by omega)
    · rfl
  rw [e3]
  generalize hz3 : (if p % 4 < 3 then distZ z2 (p + 1) else z2) = z3
  have h36 : z3 6 = z 6 := by
    rw [← hz3]
    split
    · rw [dist_lo (by omega), h26]
    · exact h26
  rw [h36]
  funext i
  unfold ovP
  by_cases h1 : i = 30 + p
  · rw [if_pos h1, upd_ne (by omega), upd_ne (by omega), h1, upd_eq]
  · rw [if_neg h1]
    by_cases h2 : i = 38 + p
    · rw [if_pos h2, upd_ne (by omega), h2, upd_eq]
    · rw [if_neg h2]
      by_cases h3 : i = 46 + p
      · rw [if_pos h3, h3, upd_eq]
      · rw [if_neg h3, upd_ne h3, upd_ne h2, upd_ne h1]
/-- hours over the first P pages at once -/
def psZ (z : ZZ) (n P : Nat) : ZZ := fun i => if i = 6 then z 6 + nI n else if 86 ≤ i ∧ i < 86 + 16 * P ∧ z (30 + (i - 86) / 16) ≠ 0 then drN (permZ z ((i - 86) / 16)) (z i) n else z i
theorem hrLoop_at {z : ZZ} : ∀ P, P ≤ 8 → ∀ i, hrLoop z P i = if 86 ≤ i ∧ i < 86 + 16 * P ∧ z (30 + (i - 86) / 16) ≠ 0 then drI (permZ z ((i - 86) / 16)) (z i) else z i
  | 0, _, i => by rw [if_neg (by omega)]; rfl
  | P + 1, hP, i => by
    have ih := hrLoop_at (z := z) P (by omega)
    have hs : hrLoop z P (30 + P) = z (30 + P) := by rw [ih, if_neg (by omega)]
    have h1 : permZ (hrLoop z P) P = permZ z P := by
      unfold permZ
      rw [ih, if_neg (by omega), ih, if_neg (by omega)]
    rw [hrLoop, hrPage, hs, h1]
    by_cases h0 : z (30 + P) = 0
    · rw [if_pos h0, ih]
      by_cases hi : 86 ≤ i ∧ i < 86 + 16 * P ∧ z (30 + (i - 86) / 16) ≠ 0
      · rw [if_pos hi, if_pos ⟨hi.1, by omega, hi.2.2⟩]
      · rw [if_neg hi, if_neg]
        rintro ⟨a1, a2, a3⟩
        by_cases hj : i < 86 + 16 * P
        · exact hi ⟨a1, hj, a3⟩
        · rw [show (i - 86) / 16 = P by omega] at a3
          exact a3 h0
    · rw [if_neg h0]
      by_cases hi : 86 + 16 * P ≤ i ∧ i < 86 + 16 * P + 16
      · rw [fillC, if_pos hi, ih, if_neg (by omega)]
        have e1 : (i - 86) / 16 = P := by omega
        rw [if_pos ⟨by omega, by omega, by rw [e1]; exact h0⟩, e1, show 86 + 16 * P + (i - (86 + 16 * P)) = i by omega]
      · rw [fillC, if_neg hi, ih]
        by_cases hj : 86 ≤ i ∧ i < 86 + 16 * P ∧ z (30 + (i - 86) / 16) ≠ 0
        · rw [if_pos hj, if_pos ⟨hj.1, by omega, hj.2.2⟩]
        · rw [if_neg hj, if_neg]
          rintro ⟨a1, a2, a3⟩
          exact hj ⟨a1, by omega, a3⟩
theorem pass_ps {z : ZZ} : ∀ n i, i < 214 → passZ z n i = psZ z n 8 i
  | 0, i, hi => by
    unfold psZ
    by_cases h6 : i = 6
    · rw [if_pos h6, h6, nI_0, Int32.add_zero]
      rfl
    · rw [if_neg h6]
      split <;> rfl
  | n + 1, i, hi => by
    have ih := pass_ps (z := z) n
    have hlo : ∀ j, j < 86 → j ≠ 6 → passZ z n j = z j := fun j hj h6 => by
      rw [ih j (by omega)]
      unfold psZ
      rw [if_neg h6, if_neg (by omega)]
    have h66 : passZ z n 6 = z 6 + nI n := by
      rw [ih 6 (by omega)]
      unfold psZ
      rw [if_pos rfl]
    rw [passZ, hourZ]
    unfold psZ
    by_cases h6 : i = 6
    · rw [h6, upd_eq, if_pos rfl, hrLoop_at 8 (by omega), if_neg (by omega), h66, Int32.add_assoc, nI_add]
    · rw [upd_ne h6, if_neg h6, hrLoop_at 8 (by omega)]
      by_cases hj : 86 ≤ i
      · have e1 : passZ z n (30 + (i - 86) / 16) = z (30 + (i - 86) / 16) := hlo _ (by omega) (by omega)
        have e2 : permZ (passZ z n) ((i - 86) / 16) = permZ z ((i - 86) / 16) := by
          unfold permZ
          rw [hlo _ (by omega) (by omega), hlo _ (by omega) (by omega)]
        rw [e1, e2, ih i hi]
        unfold psZ
        rw [if_neg h6]
        by_cases hs : z (30 + (i - 86) / 16) ≠ 0
        · rw [if_pos ⟨hj, by omega, hs⟩, if_pos ⟨hj, by omega, hs⟩, if_pos ⟨hj, by omega, hs⟩]
          rfl
        · rw [if_neg (fun q => hs q.2.2), if_neg (fun q => hs q.2.2), if_neg (fun q => hs q.2.2)]
      · rw [if_neg (fun q => hj q.1), if_neg (fun q => hj q.1), hlo i (by omega) h6]
section C5
variable {b p : Nat} {z : ZZ} {h : AH}
theorem Mem.upC1 {c : Nat} {q : ZZ} {x : Int32} (hM : Mem b z h) (hp : p < 8) (hc : c < 16) (hq : ∀ j, j < 16 → q j = z (86 + 16 * p + j)) : Mem b (upd z (86 + 16 * p + c) x) (upA h (b + 6 + 2 * p) (.inl (0, 16, .inl (upd q c x)))) := by
  refine (hM.upC (q := upd q c x) hp).same fun i hi => ?_
  unfold fillC
  by_cases hj : 86 + 16 * p ≤ i ∧ i < 86 + 16 * p + 16
  · rw [if_pos hj]
    by_cases e : i = 86 + 16 * p + c
    · rw [e, upd_eq, Nat.add_sub_cancel_left, upd_eq]
    · rw [upd_ne e, upd_ne (by omega), hq _ (by omega)]
      congr 1
      omega
  · rw [if_neg hj, upd_ne (by omega)]
theorem Mem.upP' {s1 s2 s3 s4 s5 s6 s7 : Int32} {a : Nat} {x : AC} (hM : Mem b z h) (hp : p < 8) (ea : a = b + 5 + 2 * p) (hx : x = .inr (3, [.ref (b + 6 + 2 * p), .int s1, .int s2, .int s3, .int s4, .int s5, .int s6, .int s7])) : Mem b (pgZ z p s1 s2 s3 s4 s5 s6 s7) (upA h a x) := by
  subst ea hx
  exact hM.upP hp
theorem Mem.upM' {m hr sd bl : Int32} {x : AC} (hM : Mem b z h) (hx : x = .inr (2, [.ref (b + 1), .ref (b + 2), .ref (b + 3), .ref (b + 4), .int m, .int hr, .int sd, .int bl])) : Mem b (obZ z m hr sd bl) (upA h b x) := by
  subst hx
  exact hM.upM
theorem Mem.upW2 {q : ZZ} (hM : Mem b z h) : Mem b (fun i => if 28 ≤ i ∧ i < 30 then q (i - 28) else z i) (upA h (b + 2) (.inl (0, 2, .inl q))) := by
  obtain ⟨q0, e, e'⟩ := hM.wr
  have h1 := hM.upW (i := 0) (x := q 0) (by omega) e'
  have h2 := h1.upW (i := 1) (x := q 1) (q := upd q0 0 (q 0)) (by omega) (fun j hj => by
    by_cases ej : j = 0
    · subst ej; rw [upd_eq, upd_eq]
    · rw [upd_ne ej, upd_ne (by omega), e' j hj])
  rw [upA_upA] at h2
  obtain ⟨a1, a2, ⟨q2, a3, a3'⟩, a4, a5, a6, a7⟩ := h2.same (z' := fun i => if 28 ≤ i ∧ i < 30 then q (i - 28) else z i) (fun i hi => by
    by_cases e1 : i = 29
    · subst e1; rw [if_pos (by omega)]; exact upd_eq.symm
    · by_cases e0 : i = 28
      · subst e0; rw [if_pos (by omega)]; rw [upd_ne (by omega)]; exact upd_eq.symm
      · rw [if_neg (by omega), upd_ne (by omega), upd_ne (by omega)])
  have hne : ∀ j, j ≠ b + 2 → upA h (b + 2) (.inl (0, 2, .inl q)) j = upA h (b + 2) (.inl (0, 2, .inl (upd (upd q0 0 (q 0)) 1 (q 1)))) j := fun j hj => by simp [upA, hj]
  refine ⟨(hne _ (by omega)).trans a1, ?_, ⟨q, upA_eq, fun i hi => ?_⟩, ?_, ?_, fun p hp => (hne _ (by omega)).trans (a6 p hp), fun p hp => ?_⟩
  · obtain ⟨f, g1, g2⟩ := a2; exact ⟨f, (hne _ (by omega)).trans g1, g2⟩
  · show q i = if 28 ≤ 28 + i ∧ 28 + i < 30 then q (28 + i - 28) else z (28 + i)
    rw [if_pos (by omega), Nat.add_sub_cancel_left]
  · obtain ⟨f, g1, g2⟩ := a4; exact ⟨f, (hne _ (by omega)).trans g1, g2⟩
  · obtain ⟨f, g1, g2⟩ := a5; exact ⟨f, (hne _ (by omega)).trans g1, g2⟩
  · obtain ⟨f, g1, g2⟩ := a7 p hp; exact ⟨f, (hne _ (by omega)).trans g1, g2⟩
theorem Mem.upS2 {q : ZZ} (hM : Mem b z h) : Mem b (fun i => if i < 6 then q i else z i) (upA h (b + 3) (.inl (0, 6, .inl q))) := by
  obtain ⟨a1, ⟨f, a2, a2'⟩, ⟨q2, a3, a3'⟩, ⟨q3, a4, a4'⟩, ⟨q4, a5, a5'⟩, a6, a7⟩ := hM
  have hz : ∀ j, 6 ≤ j → (fun i => if i < 6 then q i else z i) j = z j := fun j hj => if_neg (by omega)
  refine ⟨?_, ⟨f, upA_ne (by omega) a2, a2'⟩, ⟨q2, upA_ne (by omega) a3, fun i hi => (a3' i hi).trans (hz _ (by omega)).symm⟩, ⟨q, upA_eq, fun j hj => (if_pos hj).symm⟩, ⟨q4, upA_ne (by omega) a5, fun i hi => (a5' i hi).trans (hz _ (by omega)).symm⟩, fun j hj => ?_, fun j hj => ?_⟩
  · exact upA_ne (by omega) a1
  · rw [pgO_congr (z := z) fun k hk => hz _ (by omega)]
    exact upA_ne (by omega) (a6 j hj)
  · obtain ⟨q', e1, e2⟩ := a7 j hj
    exact ⟨q', upA_ne (by omega) e1, fun c hc => (e2 c hc).trans (hz _ (by omega)).symm⟩
theorem Mem.upO2 {q : ZZ} (hM : Mem b z h) : Mem b (fun i => if 9 ≤ i ∧ i < 27 then q (i - 9) else z i) (upA h (b + 4) (.inl (0, 18, .inl q))) := by
  obtain ⟨a1, ⟨f, a2, a2'⟩, ⟨q2, a3, a3'⟩, ⟨q3, a4, a4'⟩, ⟨q4, a5, a5'⟩, a6, a7⟩ := hM
  have hz : ∀ j, (j < 9 ∨ 27 ≤ j) → (fun i => if 9 ≤ i ∧ i < 27 then q (i - 9) else z i) j = z j := fun j hj => if_neg (by omega)
  refine ⟨?_, ⟨f, upA_ne (by omega) a2, a2'⟩, ⟨q2, upA_ne (by omega) a3, fun i hi => (a3' i hi).trans (hz _ (by omega)).symm⟩, ⟨q3, upA_ne (by omega) a4, fun i hi => (a4' i hi).trans (hz _ (by omega)).symm⟩, ⟨q, upA_eq, fun j hj => ?_⟩, fun j hj => ?_, fun j hj => ?_⟩
  · exact upA_ne (by omega) a1
  · show q j = if 9 ≤ 9 + j ∧ 9 + j < 27 then q (9 + j - 9) else z (9 + j)
    rw [if_pos (by omega), Nat.add_sub_cancel_left]
  · rw [pgO_congr (z := z) fun k hk => hz _ (by omega)]
    exact upA_ne (by omega) (a6 j hj)
  · obtain ⟨q', e1, e2⟩ := a7 j hj
    exact ⟨q', upA_ne (by omega) e1, fun c hc => (e2 c hc).trans (hz _ (by omega)).symm⟩
end C5
