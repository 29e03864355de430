/-! ===== doubles above 0 ===== -/
theorem d_qmin : FP.Core.b64.qmin = -1074 := by decide
theorem d_qmax : FP.Core.b64.qmax = 971 := by decide
theorem d_tails : FP.Core.b64.tails = 4503599627370496 := by decide
theorem d_exps : FP.Core.b64.exps = 2048 := by decide
theorem d_p : FP.Core.b64.p = 53 := rfl
theorem d_log {c : Nat} {k : Nat} (h1 : 2 ^ k ≤ c) (h2 : c < 2 ^ (k + 1)) : c.log2 = k := by
  have h0 : c ≠ 0 := by
    have := Nat.pow_pos (n := k) (show 0 < 2 by omega)
    omega
  exact (Nat.log2_eq_iff h0).mpr ⟨h1, h2⟩
def dbl (E T : Nat) : UInt64 := UInt64.ofNat (E * 4503599627370496 + T)
theorem dbl_nat {E T : Nat} (h2 : E ≤ 2046) (hT : T < 4503599627370496) : (dbl E T).toNat = E * 4503599627370496 + T := by
  unfold dbl
  rw [UInt64.toNat_ofNat', Nat.mod_eq_of_lt (by omega)]
theorem dec_dbl {E T : Nat} (h1 : 1 ≤ E) (h2 : E ≤ 2046) (hT : T < 4503599627370496) : FP.Core.decode FP.Core.b64 (E * 4503599627370496 + T) = .fin false (4503599627370496 + T) ((E : Int) - 1075) := by
  have e1 : (E * 4503599627370496 + T) % 4503599627370496 = T := by omega
  have e2 : (E * 4503599627370496 + T) / 4503599627370496 % 2048 = E := by omega
  have e3 : ((E * 4503599627370496 + T) / 4503599627370496 / 2048 % 2 == 1) = false := by
    have : (E * 4503599627370496 + T) / 4503599627370496 / 2048 % 2 = 0 := by omega
    rw [this]
    rfl
  unfold FP.Core.decode FP.Core.fieldE FP.Core.fieldT FP.Core.fieldS
  rw [d_tails, d_exps, d_qmin, e1, e2, e3, if_neg (by omega), if_neg (by omega)]
  congr 1
  omega
theorem dec_0 : FP.Core.decode FP.Core.b64 0 = .fin false 0 (-1074) := by decide
theorem enc_n {c : Nat} {q : Int} (h1 : 4503599627370496 ≤ c) : FP.Core.encode FP.Core.b64 (.fin false c q) = ((q + 1074).toNat + 1) * 4503599627370496 + (c - 4503599627370496) := by
  unfold FP.Core.encode FP.Core.assemble
  dsimp only
  rw [d_tails, d_exps, d_qmin, if_neg (by omega), show q - -1074 = q + 1074 by omega]
  show (false.toNat * 2048 + ((q + 1074).toNat + 1)) * 4503599627370496 + _ = _
  rw [show false.toNat = 0 from rfl, Nat.zero_mul, Nat.zero_add]
/-- rounding, where the last digit's exponent is known and the result's digits too -/
theorem rat_ok {num den m : Nat} {e q : Int} (h0 : num ≠ 0) (hq : FP.Core.leading num den + e - 52 = q) (h1 : -1074 ≤ q) (h2 : q ≤ 970) (hm : FP.Core.nearest (num * 2 ^ (e - q).toNat) (den * 2 ^ (q - e).toNat) = m) (hm2 : m ≤ 9007199254740992) : FP.Core.roundRatio FP.Core.b64 false num den e = if m < 9007199254740992 then .fin false m q else .fin false 4503599627370496 (q + 1) := by
  unfold FP.Core.roundRatio
  rw [if_neg h0]
  have hqq : FP.Core.quantum FP.Core.b64 num den e = q := by
    unfold FP.Core.quantum
    rw [d_qmin, d_p]
    show max (-1074) (FP.Core.leading num den + e - (53 - 1)) = q
    omega
  rw [hqq]
  unfold FP.Core.roundAt FP.Core.unitsNum FP.Core.unitsDen
  rw [hm]
  unfold FP.Core.settle FP.Core.bound
  rw [d_p, d_qmax, d_tails]
  show (if m < 9007199254740992 then (if q ≤ 971 then _ else _) else (if q + 1 ≤ 971 then _ else _)) = _
  rw [if_pos (show q ≤ 971 by omega), if_pos (show q + 1 ≤ 971 by omega)]
theorem near_1 {a : Nat} : FP.Core.nearest a 1 = a := by
  unfold FP.Core.nearest
  rw [Nat.mod_one, Nat.div_one, if_pos (by omega)]
theorem near_m {a d : Nat} (hd : 0 < d) : FP.Core.nearest (a * d) d = a := by
  unfold FP.Core.nearest
  rw [Nat.mul_mod_left, Nat.mul_div_cancel _ hd, if_pos (by omega)]
theorem lead_1 {c k : Nat} (h1 : 2 ^ k ≤ c) (h2 : c < 2 ^ (k + 1)) : FP.Core.leading c 1 = k := by
  have e1 : c.log2 = k := d_log h1 h2
  have e2 : (1 : Nat).log2 = 0 := by decide
  unfold FP.Core.leading
  rw [e1, e2]
  dsimp only
  rw [show ((k : Int) - (0 : Nat)) = (k : Int) by omega, if_pos (by
    rw [Int.toNat_natCast, show (-(k : Int)).toNat = 0 by omega]
    omega)]
/-- a whole number of at most 53 digits, at an exponent -/
theorem rat_int {c k : Nat} {e : Int} (h1 : 2 ^ k ≤ c) (h2 : c < 2 ^ (k + 1)) (hk : k ≤ 52) (he : -1022 ≤ (k : Int) + e) (he2 : (k : Int) + e ≤ 1022) : FP.Core.roundRatio FP.Core.b64 false c 1 e = .fin false (c * 2 ^ (52 - k)) ((k : Int) + e - 52) := by
  have hc : c * 2 ^ (52 - k) < 9007199254740992 := by
    have := Nat.mul_lt_mul_of_pos_right h2 (Nat.pow_pos (n := 52 - k) (show 0 < 2 by omega))
    rw [← Nat.pow_add, show k + 1 + (52 - k) = 53 by omega] at this
    exact this
  have hp := Nat.pow_pos (n := k) (show 0 < 2 by omega)
  rw [rat_ok (m := c * 2 ^ (52 - k)) (q := (k : Int) + e - 52) (by omega) (by rw [lead_1 h1 h2]) (by omega) (by omega) ?_ (by omega), if_pos hc]
  rw [show (e - ((k : Int) + e - 52)).toNat = 52 - k by omega, show ((k : Int) + e - 52 - e).toNat = 0 by omega]
  exact near_1
/-- the quotient of two numbers of 53 digits -/
theorem rat_quo {c d : Nat} {e : Int} (c1 : 4503599627370496 ≤ c) (c2 : c < 9007199254740992) (d1 : 4503599627370496 ≤ d) (d2 : d < 9007199254740992) (he : -1000 ≤ e) (he2 : e ≤ 900) : ∃ m q, 4503599627370496 ≤ m ∧ m < 9007199254740992 ∧ -1060 ≤ q ∧ q ≤ 950 ∧ FP.Core.roundRatio FP.Core.b64 false c d e = .fin false m q := by
  have lc : c.log2 = 52 := d_log c1 c2
  have ld : d.log2 = 52 := d_log d1 d2
  have hl : (d ≤ c ∧ FP.Core.leading c d = 0) ∨ (c < d ∧ FP.Core.leading c d = -1) := by
    unfold FP.Core.leading
    rw [lc, ld]
    dsimp only
    have e0 : (((52 : Nat) : Int) - ((52 : Nat) : Int)) = 0 := by omega
    rw [e0]
    show (d ≤ c ∧ (if d * 1 ≤ c * 1 then (0 : Int) else 0 - 1) = 0) ∨ (c < d ∧ (if d * 1 ≤ c * 1 then (0 : Int) else 0 - 1) = -1)
    by_cases h : d ≤ c
    · exact Or.inl ⟨h, if_pos (by omega)⟩
    · exact Or.inr ⟨by omega, if_neg (by omega)⟩
  have near : ∀ N, 4503599627370496 * d ≤ N → N < 9007199254740992 * d → 4503599627370496 ≤ FP.Core.nearest N d ∧ FP.Core.nearest N d ≤ 9007199254740992 := by
    intro N h1 h2
    have q1 : 4503599627370496 ≤ N / d := (Nat.le_div_iff_mul_le (by omega)).mpr h1
    have q2 : N / d < 9007199254740992 := (Nat.div_lt_iff_lt_mul (by omega)).mpr h2
    unfold FP.Core.nearest
    split
    · omega
    · split
      · omega
      · omega
  have fin : ∀ (N : Nat) (q : Int), FP.Core.leading c d + e - 52 = q → -1055 ≤ q → q ≤ 940 → c * 2 ^ (e - q).toNat = N → (q - e).toNat = 0 → 4503599627370496 * d ≤ N → N < 9007199254740992 * d → ∃ m q, 4503599627370496 ≤ m ∧ m < 9007199254740992 ∧ -1060 ≤ q ∧ q ≤ 950 ∧ FP.Core.roundRatio FP.Core.b64 false c d e = .fin false m q := by
    intro N q h1 h2 h3 h4 h5 h6 h7
    obtain ⟨n1, n2⟩ := near N h6 h7
    have hr := rat_ok (num := c) (den := d) (m := FP.Core.nearest N d) (e := e) (q := q) (by omega) h1 (by omega) (by omega) (by rw [h4, h5, Nat.pow_zero, Nat.mul_one]) n2
    by_cases hm : FP.Core.nearest N d < 9007199254740992
    · rw [if_pos hm] at hr
      exact ⟨_, q, n1, hm, by omega, by omega, hr⟩
    · rw [if_neg hm] at hr
      exact ⟨_, q + 1, Nat.le_refl _, by omega, by omega, by omega, hr⟩
  rcases hl with ⟨h, hl⟩ | ⟨h, hl⟩
  · exact fin (c * 4503599627370496) (e - 52) (by rw [hl]; omega) (by omega) (by omega) (by rw [show (e - (e - 52)).toNat = 52 by omega]) (by omega) (by omega) (by omega)
  · exact fin (c * 9007199254740992) (e - 53) (by rw [hl]; omega) (by omega) (by omega) (by rw [show (e - (e - 53)).toNat = 53 by omega]) (by omega) (by omega) (by omega)
theorem enc_dbl {m : Nat} {q : Int} (h1 : 4503599627370496 ≤ m) (h2 : m < 9007199254740992) (h3 : -1074 ≤ q) (h4 : q ≤ 971) : ∃ E T, 1 ≤ E ∧ E ≤ 2046 ∧ T < 4503599627370496 ∧ FP.Core.encode FP.Core.b64 (.fin false m q) = E * 4503599627370496 + T ∧ (E : Int) = q + 1075 ∧ m = 4503599627370496 + T :=
  ⟨(q + 1074).toNat + 1, m - 4503599627370496, by omega, by omega, by omega, enc_n h1, by omega, by omega⟩
/-- a natural number as a double -/
theorem d_i2d {a : Nat} (h0 : 0 < a) (ha : a < 2147483648) : ∃ E T, 1023 ≤ E ∧ E ≤ 1053 ∧ T < 4503599627370496 ∧ FP.i2d (nI a) = dbl E T := by
  have hk1 : 2 ^ a.log2 ≤ a := Nat.log2_self_le (by omega)
  have hk2 : a < 2 ^ (a.log2 + 1) := Nat.lt_log2_self
  have hk : a.log2 < 31 := (Nat.log2_lt (by omega)).mpr (by omega)
  generalize a.log2 = k at *
  have hr := rat_int (e := 0) hk1 hk2 (by omega) (by omega) (by omega)
  have b1 : 4503599627370496 ≤ a * 2 ^ (52 - k) := by
    have := Nat.mul_le_mul_right (2 ^ (52 - k)) hk1
    rw [← Nat.pow_add, show k + (52 - k) = 52 by omega] at this
    exact this
  have b2 : a * 2 ^ (52 - k) < 9007199254740992 := by
    have := Nat.mul_lt_mul_of_pos_right hk2 (Nat.pow_pos (n := 52 - k) (show 0 < 2 by omega))
    rw [← Nat.pow_add, show k + 1 + (52 - k) = 53 by omega] at this
    exact this
  obtain ⟨E, T, g1, g2, g3, g4, g5, g6⟩ := enc_dbl (q := (k : Int) + 0 - 52) b1 b2 (by omega) (by omega)
  refine ⟨E, T, by omega, by omega, g3, ?_⟩
  show UInt64.ofNat (FP.Core.fromInt FP.Core.b64 (nI a).toInt) = UInt64.ofNat _
  congr 1
  unfold FP.Core.fromInt FP.Core.ofInt
  rw [tI_nI (by omega), decide_eq_false (show ¬ (a : Int) < 0 by omega), Int.natAbs_natCast]
  unfold FP.Core.round
  dsimp only
  rw [hr, g4]
theorem d_i2d0 : FP.i2d (nI 0) = 0 := by decide
theorem dd_quo {E T F U : Nat} (hE : 1023 ≤ E) (hE2 : E ≤ 1053) (hT : T < 4503599627370496) (hF : 1023 ≤ F) (hF2 : F ≤ 1053) (hU : U < 4503599627370496) : ∃ E' T', 1 ≤ E' ∧ E' ≤ 2046 ∧ T' < 4503599627370496 ∧ FP.ddiv (dbl E T) (dbl F U) = dbl E' T' := by
  obtain ⟨m, q, m1, m2, q1, q2, hr⟩ := rat_quo (c := 4503599627370496 + T) (d := 4503599627370496 + U) (e := ((E : Int) - 1075) - ((F : Int) - 1075)) (by omega) (by omega) (by omega) (by omega) (by omega) (by omega)
  obtain ⟨E', T', g1, g2, g3, g4, g5, g6⟩ := enc_dbl (q := q) m1 m2 (by omega) (by omega)
  refine ⟨E', T', g1, g2, g3, ?_⟩
  show UInt64.ofNat (FP.Core.div FP.Core.b64 (dbl E T).toNat (dbl F U).toNat) = UInt64.ofNat _
  congr 1
  unfold FP.Core.div
  rw [dbl_nat (by omega) hT, dbl_nat (by omega) hU, dec_dbl (by omega) (by omega) hT, dec_dbl (by omega) (by omega) hU]
  unfold FP.Core.quotient
  dsimp only
  rw [if_neg (by omega)]
  show FP.Core.encode FP.Core.b64 (FP.Core.roundRatio FP.Core.b64 false _ _ _) = _
  rw [hr, g4]
theorem dd_0 {F U : Nat} (hF : 1 ≤ F) (hF2 : F ≤ 2046) (hU : U < 4503599627370496) : FP.ddiv 0 (dbl F U) = 0 := by
  show UInt64.ofNat (FP.Core.div FP.Core.b64 (0 : UInt64).toNat (dbl F U).toNat) = 0
  unfold FP.Core.div
  rw [dbl_nat (by omega) hU, dec_dbl (by omega) (by omega) hU, show (0 : UInt64).toNat = 0 by decide, dec_0]
  unfold FP.Core.quotient
  dsimp only
  rw [if_neg (by omega)]
  unfold FP.Core.roundRatio
  rw [if_pos rfl, d_qmin]
  decide
abbrev two : UInt64 := 4611686018427387904
abbrev p52 : UInt64 := 4841369599423283200
theorem two_dec : FP.Core.decode FP.Core.b64 two.toNat = .fin false 4503599627370496 (-51) := by decide
theorem one_dec : FP.Core.decode FP.Core.b64 FP.dconst1.toNat = .fin false 4503599627370496 (-52) := by decide
theorem p52_dec : FP.Core.decode FP.Core.b64 p52.toNat = .fin false 4503599627370496 0 := by decide
theorem c0_dec : FP.Core.decode FP.Core.b64 FP.dconst0.toNat = .fin false 0 (-1074) := by decide
/-- half of a double -/
theorem dd_half {E T : Nat} (h1 : 2 ≤ E) (h2 : E ≤ 2046) (hT : T < 4503599627370496) : FP.ddiv (dbl E T) two = dbl (E - 1) T := by
  show UInt64.ofNat (FP.Core.div FP.Core.b64 (dbl E T).toNat two.toNat) = UInt64.ofNat _
  congr 1
  unfold FP.Core.div
  rw [dbl_nat (by omega) hT, dec_dbl (by omega) (by omega) hT, two_dec]
  unfold FP.Core.quotient
  dsimp only
  rw [if_neg (by omega)]
  have lc : (4503599627370496 + T).log2 = 52 := d_log (by omega) (by omega)
  have ld : (4503599627370496 : Nat).log2 = 52 := by decide
  have hl : FP.Core.leading (4503599627370496 + T) 4503599627370496 = 0 := by
    unfold FP.Core.leading
    rw [lc, ld]
    dsimp only
    rw [show (((52 : Nat) : Int) - ((52 : Nat) : Int)) = 0 by omega]
    show (if 4503599627370496 * 1 ≤ (4503599627370496 + T) * 1 then (0 : Int) else 0 - 1) = 0
    rw [if_pos (by omega)]
  have hr := rat_ok (num := 4503599627370496 + T) (den := 4503599627370496) (m := 4503599627370496 + T) (e := (E : Int) - 1075 - -51) (q := (E : Int) - 1076) (by omega) (by rw [hl]; omega) (by omega) (by omega) (by
    rw [show ((E : Int) - 1075 - -51 - ((E : Int) - 1076)).toNat = 52 by omega, show ((E : Int) - 1076 - ((E : Int) - 1075 - -51)).toNat = 0 by omega]
    exact near_m (by omega)) (by omega)
  rw [if_pos (by omega)] at hr
  show FP.Core.encode FP.Core.b64 (FP.Core.roundRatio FP.Core.b64 false _ _ _) = _
  rw [hr, enc_n (by omega)]
  omega
/-- twice a double -/
theorem dd_twice {E T : Nat} (h1 : 1 ≤ E) (h2 : E ≤ 2000) (hT : T < 4503599627370496) : FP.dmul (dbl E T) two = dbl (E + 1) T := by
  show UInt64.ofNat (FP.Core.mul FP.Core.b64 (dbl E T).toNat two.toNat) = UInt64.ofNat _
  congr 1
  unfold FP.Core.mul
  rw [dbl_nat (by omega) hT, dec_dbl (by omega) (by omega) hT, two_dec]
  unfold FP.Core.exactProduct FP.Core.round
  dsimp only
  have hl : FP.Core.leading ((4503599627370496 + T) * 4503599627370496) 1 = (104 : Nat) := lead_1 (by
    show 20282409603651670423947251286016 ≤ _
    omega) (by
    show _ < 40564819207303340847894502572032
    omega)
  have hr := rat_ok (num := (4503599627370496 + T) * 4503599627370496) (den := 1) (m := 4503599627370496 + T) (e := (E : Int) - 1075 + -51) (q := (E : Int) - 1074) (by omega) (by rw [hl]; omega) (by omega) (by omega) (by
    rw [show ((E : Int) - 1075 + -51 - ((E : Int) - 1074)).toNat = 0 by omega, show ((E : Int) - 1074 - ((E : Int) - 1075 + -51)).toNat = 52 by omega, Nat.pow_zero, Nat.mul_one, Nat.one_mul]
    exact near_m (by decide)) (by omega)
  rw [if_pos (by omega)] at hr
  show FP.Core.encode FP.Core.b64 (FP.Core.roundRatio FP.Core.b64 false _ _ _) = _
  rw [hr, enc_n (by omega)]
  omega
theorem dc_at {E T d : Nat} {y : UInt64} {r : Int} (h1 : 1 ≤ E) (h2 : E ≤ 2046) (hT : T < 4503599627370496) (hy : FP.Core.decode FP.Core.b64 y.toNat = .fin false d r) : FP.dcmp (dbl E T) y = some (compare (((4503599627370496 + T) * 2 ^ ((E : Int) - 1075 - min ((E : Int) - 1075) r).toNat : Nat) : Int) ((d * 2 ^ (r - min ((E : Int) - 1075) r).toNat : Nat) : Int)) := by
  show FP.Core.cmp FP.Core.b64 (dbl E T).toNat y.toNat = _
  unfold FP.Core.cmp
  rw [dbl_nat (by omega) hT, dec_dbl (by omega) (by omega) hT, hy]
  rfl
theorem cmp_lt' {a b : Int} (h : a < b) : compare a b = .lt := by
  show (if a < b then _ else _) = _
  rw [if_pos h]
theorem cmp_gt' {a b : Int} (h : b < a) : compare a b = .gt := by
  show (if a < b then _ else (if a = b then _ else _)) = _
  rw [if_neg (by omega), if_neg (by omega)]
theorem cmp_eq' {a : Int} : compare a a = .eq := by
  show (if a < a then _ else (if a = a then _ else _)) = _
  rw [if_neg (by omega), if_pos rfl]
theorem cmp_ge' {a b : Int} (h : b ≤ a) : compare a b = .gt ∨ compare a b = .eq := by
  rcases (show b < a ∨ a = b by omega) with q | q
  · exact Or.inl (cmp_gt' q)
  · subst q; exact Or.inr cmp_eq'
theorem dc_self {E T : Nat} (h1 : 1 ≤ E) (h2 : E ≤ 2046) (hT : T < 4503599627370496) : FP.dcmp (dbl E T) (dbl E T) = some .eq := by
  rw [dc_at (y := dbl E T) h1 h2 hT (by rw [dbl_nat (by omega) hT, dec_dbl (by omega) (by omega) hT]), cmp_eq']
theorem dc_0 {E T : Nat} (h1 : 1 ≤ E) (h2 : E ≤ 2046) (hT : T < 4503599627370496) : FP.dcmp (dbl E T) FP.dconst0 = some .gt := by
  rw [dc_at h1 h2 hT c0_dec, cmp_gt']
  rw [Nat.zero_mul]
  have := Nat.mul_pos (show 0 < 4503599627370496 + T by omega) (Nat.pow_pos (n := ((E : Int) - 1075 - min ((E : Int) - 1075) (-1074)).toNat) (show 0 < 2 by omega))
  omega
theorem dc_lt {E T F : Nat} {y : UInt64} (h1 : 1 ≤ E) (h2 : E ≤ 2046) (hT : T < 4503599627370496) (hF : F ≤ 2046) (hy : FP.Core.decode FP.Core.b64 y.toNat = .fin false 4503599627370496 ((F : Int) - 1075)) (h : E < F) : FP.dcmp (dbl E T) y = some .lt := by
  rw [dc_at h1 h2 hT hy, cmp_lt']
  rw [show ((E : Int) - 1075 - min ((E : Int) - 1075) ((F : Int) - 1075)).toNat = 0 by omega, show ((F : Int) - 1075 - min ((E : Int) - 1075) ((F : Int) - 1075)).toNat = (F - E - 1) + 1 by omega, Nat.pow_zero, Nat.mul_one, Nat.pow_succ]
  have := Nat.pow_pos (n := F - E - 1) (show 0 < 2 by omega)
  omega
theorem dc_ge {E T F : Nat} {y : UInt64} (h1 : 1 ≤ E) (h2 : E ≤ 2046) (hT : T < 4503599627370496) (hF : F ≤ 2046) (hy : FP.Core.decode FP.Core.b64 y.toNat = .fin false 4503599627370496 ((F : Int) - 1075)) (h : F ≤ E) : FP.dcmp (dbl E T) y = some .gt ∨ FP.dcmp (dbl E T) y = some .eq := by
  rw [dc_at h1 h2 hT hy]
  rw [show ((E : Int) - 1075 - min ((E : Int) - 1075) ((F : Int) - 1075)).toNat = E - F by omega, show ((F : Int) - 1075 - min ((E : Int) - 1075) ((F : Int) - 1075)).toNat = 0 by omega, Nat.pow_zero, Nat.mul_one]
  have hp := Nat.pow_pos (n := E - F) (show 0 < 2 by omega)
  have h9 : 4503599627370496 + T ≤ (4503599627370496 + T) * 2 ^ (E - F) := Nat.le_mul_of_pos_right _ hp
  rcases cmp_ge' (a := ((4503599627370496 + T) * 2 ^ (E - F) : Nat)) (b := (4503599627370496 : Nat)) (by omega) with q | q
  · exact Or.inl (by rw [q])
  · exact Or.inr (by rw [q])
theorem n64_dbl {E T : Nat} (h2 : E ≤ 2046) (hT : T < 4503599627370496) : vf_n64 (dbl E T) := by
  unfold vf_n64
  rw [UInt64.le_iff_toNat_le, UInt64.toNat_and, dbl_nat h2 hT]
  have h1 : (E * 4503599627370496 + T) &&& (0x7fffffffffffffff : UInt64).toNat = E * 4503599627370496 + T := by
    rw [show (0x7fffffffffffffff : UInt64).toNat = 2 ^ 63 - 1 by decide, Nat.and_two_pow_sub_one_eq_mod, Nat.mod_eq_of_lt (by omega)]
  rw [h1]
  show _ ≤ (0x7ff0000000000000 : UInt64).toNat
  rw [show (0x7ff0000000000000 : UInt64).toNat = 9218868437227405312 by decide]
  omega
theorem n64_0 : vf_n64 0 := by
  unfold vf_n64
  decide
