/-! ===== counting bits ===== -/
theorem pp_and {A Y s m M : Nat} (hA : A < 256) (hs : s ≤ 8) (hm : m < 2 ^ (8 - s)) : ((A + 256 * Y) >>> s) &&& (m + 256 * M) = ((A >>> s) &&& m) + 256 * ((Y >>> s) &&& M) := by
  have hm8 : m < 2 ^ 8 := Nat.lt_of_lt_of_le hm (Nat.pow_le_pow_right (by omega) (by omega))
  have hr : (A >>> s) &&& m < 2 ^ 8 := Nat.lt_of_le_of_lt Nat.and_le_right hm8
  have e1 : A + 256 * Y = 2 ^ 8 * Y + A := by omega
  have e2 : m + 256 * M = 2 ^ 8 * M + m := by omega
  have e3 : ((A >>> s) &&& m) + 256 * ((Y >>> s) &&& M) = 2 ^ 8 * ((Y >>> s) &&& M) + ((A >>> s) &&& m) := by omega
  refine Nat.eq_of_testBit_eq fun i => ?_
  rw [e3, Nat.testBit_two_pow_mul_add _ hr, Nat.testBit_and, Nat.testBit_shiftRight, e1, e2, Nat.testBit_two_pow_mul_add _ (show A < 2 ^ 8 from hA), Nat.testBit_two_pow_mul_add _ hm8]
  by_cases hi : i < 8
  · rw [if_pos hi, if_pos hi, Nat.testBit_and, Nat.testBit_shiftRight]
    by_cases hsi : s + i < 8
    · rw [if_pos hsi]
    · have : m.testBit i = false := Nat.testBit_lt_two_pow (Nat.lt_of_lt_of_le hm (Nat.pow_le_pow_right (by omega) (by omega)))
      rw [this, Bool.and_false, Bool.and_false]
  · rw [if_neg hi, if_neg hi, if_neg (by omega), Nat.testBit_and, Nat.testBit_shiftRight]
    congr 2
    omega
def p1 (A : Nat) : Nat := A - ((A >>> 1) &&& 85)
def p2 (A : Nat) : Nat := (A &&& 51) + ((A >>> 2) &&& 51)
def dg (X c : Nat) : Nat := (X >>> (2 * c)) &&& 3
def pc2 (d : Nat) : Nat := (d &&& 1) + (d >>> 1)
set_option maxRecDepth 100000 in
theorem pp_byte : ∀ A, A < 256 → ((A >>> 1) &&& 85) ≤ A ∧ p1 A < 256 ∧ p2 (p1 A) / 16 ≤ 4 ∧ p2 (p1 A) % 16 ≤ 4 ∧ p2 (p1 A) / 16 + p2 (p1 A) % 16 = pc2 (dg A 0) + pc2 (dg A 1) + pc2 (dg A 2) + pc2 (dg A 3) := by decide +kernel
/-- what bitCount comes to, in natural numbers -/
def bcN (X : Nat) : Nat :=
  let i1 := X - ((X >>> 1) &&& 1431655765)
  let i2 := (i1 &&& 858993459) + ((i1 >>> 2) &&& 858993459)
  let i3 := (i2 + (i2 >>> 4)) &&& 252645135
  let i4 := i3 + (i3 >>> 8)
  let i5 := i4 + (i4 >>> 16)
  i5 &&& 63
theorem pp_four {A B C D s m : Nat} (hA : A < 256) (hB : B < 256) (hC : C < 256) (hs : s ≤ 8) (hm : m < 2 ^ (8 - s)) : ((A + 256 * (B + 256 * (C + 256 * D))) >>> s) &&& (m + 256 * (m + 256 * (m + 256 * m))) = ((A >>> s) &&& m) + 256 * (((B >>> s) &&& m) + 256 * (((C >>> s) &&& m) + 256 * ((D >>> s) &&& m))) := by
  rw [pp_and hA hs hm, pp_and hB hs hm, pp_and hC hs hm]
theorem dg_lo {A Y c : Nat} (hA : A < 256) (hc : c < 4) : dg (A + 256 * Y) c = dg A c := by
  have h := pp_and (Y := Y) (s := 2 * c) (m := 3) (M := 0) hA (by omega) (by
    match c, hc with
    | 0, _ => decide
    | 1, _ => decide
    | 2, _ => decide
    | 3, _ => decide
    | c + 4, h => exact absurd h (by omega))
  rw [Nat.mul_zero, Nat.add_zero, Nat.and_zero, Nat.mul_zero, Nat.add_zero] at h
  exact h
theorem dg_hi {A Y c : Nat} (hA : A < 256) : dg (A + 256 * Y) (c + 4) = dg Y c := by
  unfold dg
  congr 1
  rw [show 2 * (c + 4) = 8 + 2 * c by omega, Nat.shiftRight_add, Nat.shiftRight_eq_div_pow _ 8]
  congr 1
  omega
theorem and15 {X : Nat} : X &&& 15 = X % 16 := Nat.and_two_pow_sub_one_eq_mod X 4
theorem and63 {X : Nat} : X &&& 63 = X % 64 := Nat.and_two_pow_sub_one_eq_mod X 6
theorem bcN_dg {X : Nat} (hX : X < 2 ^ 32) : bcN X = pc2 (dg X 0) + pc2 (dg X 1) + pc2 (dg X 2) + pc2 (dg X 3) + pc2 (dg X 4) + pc2 (dg X 5) + pc2 (dg X 6) + pc2 (dg X 7) + pc2 (dg X 8) + pc2 (dg X 9) + pc2 (dg X 10) + pc2 (dg X 11) + pc2 (dg X 12) + pc2 (dg X 13) + pc2 (dg X 14) + pc2 (dg X 15) := by
  obtain ⟨A, B, C, D, hA, hB, hC, hD, e⟩ : ∃ A B C D, A < 256 ∧ B < 256 ∧ C < 256 ∧ D < 256 ∧ X = A + 256 * (B + 256 * (C + 256 * D)) := ⟨X % 256, X / 256 % 256, X / 65536 % 256, X / 16777216, by omega, by omega, by omega, by omega, by omega⟩
  subst e
  obtain ⟨a1, a2, a3, a4, a5⟩ := pp_byte A hA
  obtain ⟨b1, b2, b3, b4, b5⟩ := pp_byte B hB
  obtain ⟨c1, c2, c3, c4, c5⟩ := pp_byte C hC
  obtain ⟨d1, d2, d3, d4, d5⟩ := pp_byte D hD
  rw [dg_lo hA (by omega), dg_lo hA (by omega), dg_lo hA (by omega), dg_lo hA (by omega), dg_hi (c := 0) hA, dg_hi (c := 1) hA, dg_hi (c := 2) hA, dg_hi (c := 3) hA, dg_hi (c := 4) hA, dg_hi (c := 5) hA, dg_hi (c := 6) hA, dg_hi (c := 7) hA, dg_hi (c := 8) hA, dg_hi (c := 9) hA, dg_hi (c := 10) hA, dg_hi (c := 11) hA]
  rw [dg_lo hB (by omega), dg_lo hB (by omega), dg_lo hB (by omega), dg_lo hB (by omega), dg_hi (c := 0) hB, dg_hi (c := 1) hB, dg_hi (c := 2) hB, dg_hi (c := 3) hB, dg_hi (c := 4) hB, dg_hi (c := 5) hB, dg_hi (c := 6) hB, dg_hi (c := 7) hB]
  rw [dg_lo hC (by omega), dg_lo hC (by omega), dg_lo hC (by omega), dg_lo hC (by omega), dg_hi (c := 0) hC, dg_hi (c := 1) hC, dg_hi (c := 2) hC, dg_hi (c := 3) hC]
  have s1 := pp_four (D := D) (s := 1) (m := 85) hA hB hC (by omega) (by decide)
  have e1 : (A + 256 * (B + 256 * (C + 256 * D))) - (((A + 256 * (B + 256 * (C + 256 * D))) >>> 1) &&& 1431655765) = p1 A + 256 * (p1 B + 256 * (p1 C + 256 * p1 D)) := by
    rw [show 1431655765 = 85 + 256 * (85 + 256 * (85 + 256 * 85)) by decide, s1]
    unfold p1
    omega
  have s2 := pp_four (D := p1 D) (s := 2) (m := 51) a2 b2 c2 (by omega) (by decide)
  have s3 := pp_four (D := p1 D) (s := 0) (m := 51) a2 b2 c2 (by omega) (by decide)
  rw [Nat.shiftRight_zero, Nat.shiftRight_zero, Nat.shiftRight_zero, Nat.shiftRight_zero, Nat.shiftRight_zero] at s3
  have e2 : ((p1 A + 256 * (p1 B + 256 * (p1 C + 256 * p1 D))) &&& 858993459) + (((p1 A + 256 * (p1 B + 256 * (p1 C + 256 * p1 D))) >>> 2) &&& 858993459) = p2 (p1 A) + 256 * (p2 (p1 B) + 256 * (p2 (p1 C) + 256 * p2 (p1 D))) := by
    rw [show 858993459 = 51 + 256 * (51 + 256 * (51 + 256 * 51)) by decide, s2, s3]
    unfold p2
    omega
  unfold bcN
  simp only [e1, e2]
  generalize p2 (p1 A) = a at *
  generalize p2 (p1 B) = b at *
  generalize p2 (p1 C) = c at *
  generalize p2 (p1 D) = d at *
  have e3 : (a + 256 * (b + 256 * (c + 256 * d)) + ((a + 256 * (b + 256 * (c + 256 * d))) >>> 4)) = (a + a / 16 + 16 * (b % 16)) + 256 * ((b + b / 16 + 16 * (c % 16)) + 256 * ((c + c / 16 + 16 * (d % 16)) + 256 * (d + d / 16))) := by
    rw [Nat.shiftRight_eq_div_pow]
    omega
  have s4 := pp_four (A := a + a / 16 + 16 * (b % 16)) (B := b + b / 16 + 16 * (c % 16)) (C := c + c / 16 + 16 * (d % 16)) (D := d + d / 16) (s := 0) (m := 15) (by omega) (by omega) (by omega) (by omega) (by decide)
  rw [Nat.shiftRight_zero, Nat.shiftRight_zero, Nat.shiftRight_zero, Nat.shiftRight_zero, Nat.shiftRight_zero] at s4
  rw [e3, show 252645135 = 15 + 256 * (15 + 256 * (15 + 256 * 15)) by decide, s4]
  rw [and15, and15, and15, and15]
  have f1 : (a + a / 16 + 16 * (b % 16)) % 16 = a / 16 + a % 16 := by omega
  have f2 : (b + b / 16 + 16 * (c % 16)) % 16 = b / 16 + b % 16 := by omega
  have f3 : (c + c / 16 + 16 * (d % 16)) % 16 = c / 16 + c % 16 := by omega
  have f4 : (d + d / 16) % 16 = d / 16 + d % 16 := by omega
  rw [f1, f2, f3, f4]
  have a6 : a / 16 + a % 16 ≤ 8 := by omega
  have b6 : b / 16 + b % 16 ≤ 8 := by omega
  have c6 : c / 16 + c % 16 ≤ 8 := by omega
  have d6 : d / 16 + d % 16 ≤ 8 := by omega
  clear f1 f2 f3 f4 s1 s2 s3 s4 e1 e2 e3 a3 a4 b3 b4 c3 c4 d3 d4
  generalize a / 16 + a % 16 = a' at *
  generalize b / 16 + b % 16 = b' at *
  generalize c / 16 + c % 16 = c' at *
  generalize d / 16 + d % 16 = d' at *
  rw [and63, Nat.shiftRight_eq_div_pow, Nat.shiftRight_eq_div_pow]
  have g1 : a' + 256 * (b' + 256 * (c' + 256 * d')) + (a' + 256 * (b' + 256 * (c' + 256 * d'))) / 2 ^ 8 = (a' + b') + 256 * ((b' + c') + 256 * ((c' + d') + 256 * d')) := by omega
  rw [g1]
  have g2 : a' + b' + 256 * (b' + c' + 256 * (c' + d' + 256 * d')) + (a' + b' + 256 * (b' + c' + 256 * (c' + d' + 256 * d'))) / 2 ^ 16 = (a' + b' + c' + d') + 256 * ((b' + c' + d') + 256 * ((c' + d') + 256 * d')) := by omega
  rw [g2]
  omega
def tn (x : Int32) : Nat := x.toBitVec.toNat
theorem tn_lt {x : Int32} : tn x < 2 ^ 32 := x.toBitVec.isLt
theorem tn_inj {x y : Int32} (h : tn x = tn y) : x = y := Int32.toBitVec_inj.mp (BitVec.eq_of_toNat_eq h)
theorem tn_and {x y : Int32} : tn (x &&& y) = tn x &&& tn y := by unfold tn; rw [Int32.toBitVec_and, BitVec.toNat_and]
theorem tn_or {x y : Int32} : tn (x ||| y) = tn x ||| tn y := by unfold tn; rw [Int32.toBitVec_or, BitVec.toNat_or]
theorem tn_xor {x y : Int32} : tn (x ^^^ y) = tn x ^^^ tn y := by unfold tn; rw [Int32.toBitVec_xor, BitVec.toNat_xor]
theorem tn_add {x y : Int32} (h : tn x + tn y < 2 ^ 32) : tn (x + y) = tn x + tn y := by
  unfold tn at *
  rw [Int32.toBitVec_add, BitVec.toNat_add, Nat.mod_eq_of_lt h]
theorem tn_sub {x y : Int32} (h : tn y ≤ tn x) : tn (x - y) = tn x - tn y := by
  have hx := tn_lt (x := x)
  unfold tn at *
  rw [Int32.toBitVec_sub, BitVec.toNat_sub]
  omega
theorem tn_nI {k : Nat} (hk : k < 2 ^ 32) : tn (nI k) = k := by
  show (BitVec.ofNat 32 k).toNat = k
  rw [BitVec.toNat_ofNat, Nat.mod_eq_of_lt hk]
theorem tn_shr {x : Int32} {k : Nat} (hk : k < 32) : tn ((x.toUInt32 >>> ((nI k).toUInt32 &&& Int32.toUInt32 31)).toInt32) = tn x >>> k := by
  show (x.toUInt32 >>> ((nI k).toUInt32 &&& Int32.toUInt32 31)).toNat = x.toUInt32.toNat >>> k
  have h1 : (nI k).toUInt32.toNat = k := tn_nI (by omega)
  have h2 : (Int32.toUInt32 31).toNat = 2 ^ 5 - 1 := by decide
  rw [UInt32.toNat_shiftRight, UInt32.toNat_and, h1, h2, Nat.and_two_pow_sub_one_eq_mod, Nat.mod_eq_of_lt (show k < 2 ^ 5 from hk), Nat.mod_eq_of_lt hk]
theorem sh31 : ∀ k : Fin 32, ((nI k &&& 31).toBitVec.smod 32) = BitVec.ofNat 32 k := by decide +kernel
theorem tn_shl {x : Int32} {k : Nat} (hk : k < 32) : tn (x <<< (nI k &&& 31)) = tn x <<< k % 2 ^ 32 := by
  unfold tn
  rw [Int32.toBitVec_shiftLeft, sh31 ⟨k, hk⟩, BitVec.shiftLeft_eq', BitVec.toNat_shiftLeft, BitVec.toNat_ofNat, Nat.mod_eq_of_lt (a := k) (by omega)]
