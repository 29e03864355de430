/-! ===== a double's last digits as a whole number; the mean ===== -/
theorem ds_one0 : FP.dsub (dbl 1023 0) FP.dconst1 = 0 := by decide
theorem dm_zero : FP.dmul 0 p52 = 0 := by decide
theorem dl_zero : FP.d2l 0 = 0 := by decide +kernel
theorem ds_one {T k : Nat} (h1 : 2 ^ k ≤ T) (h2 : T < 2 ^ (k + 1)) (hk : k ≤ 51) : FP.dsub (dbl 1023 T) FP.dconst1 = dbl (k + 971) (T * 2 ^ (52 - k) - 4503599627370496) ∧ 4503599627370496 ≤ T * 2 ^ (52 - k) ∧ T * 2 ^ (52 - k) < 9007199254740992 := by
  have hp := Nat.pow_pos (n := k) (show 0 < 2 by omega)
  have hT : T < 4503599627370496 := Nat.lt_of_lt_of_le h2 (show 2 ^ (k + 1) ≤ 2 ^ 52 from Nat.pow_le_pow_right (by omega) (by omega))
  have b1 : 4503599627370496 ≤ T * 2 ^ (52 - k) := by
    have := Nat.mul_le_mul_right (2 ^ (52 - k)) h1
    rw [← Nat.pow_add, show k + (52 - k) = 52 by omega] at this
    exact this
  have b2 : T * 2 ^ (52 - k) < 9007199254740992 := by
    have := Nat.mul_lt_mul_of_pos_right h2 (Nat.pow_pos (n := 52 - k) (show 0 < 2 by omega))
    rw [← Nat.pow_add, show k + 1 + (52 - k) = 53 by omega] at this
    exact this
  refine ⟨?_, b1, b2⟩
  show UInt64.ofNat (FP.Core.sub FP.Core.b64 (dbl 1023 T).toNat FP.dconst1.toNat) = UInt64.ofNat _
  refine congrArg UInt64.ofNat ?_
  unfold FP.Core.sub
  rw [dbl_nat (by omega) hT, dec_dbl (by omega) (by omega) hT, one_dec]
  unfold FP.Core.negate FP.Core.exactSum
  dsimp only
  have hs : FP.Core.sumUnits false (4503599627370496 + T) (((1023 : Nat) : Int) - 1075) (!false) 4503599627370496 (-52) (min (((1023 : Nat) : Int) - 1075) (-52)) = (T : Int) := by
    unfold FP.Core.sumUnits FP.Core.signed FP.Core.inUnits
    rw [show (((1023 : Nat) : Int) - 1075) = -52 by omega, show min (-52 : Int) (-52) = -52 by omega, show ((-52 : Int) - -52).toNat = 0 by omega, Nat.pow_zero]
    show ((((4503599627370496 + T) * 1 : Nat) : Int)) + -(((4503599627370496 * 1 : Nat) : Int)) = _
    omega
  rw [hs]
  have hsg : FP.Core.sumSign false (!false) (T : Int) = false := by
    unfold FP.Core.sumSign
    rw [if_neg (by omega)]
    exact decide_eq_false (by omega)
  rw [hsg, Int.natAbs_natCast]
  unfold FP.Core.round
  dsimp only
  rw [show min (((1023 : Nat) : Int) - 1075) (-52) = -52 by omega, rat_int (e := -52) h1 h2 (by omega) (by omega) (by omega), enc_n b1]
  omega
theorem dm_p52 {E U : Nat} (h1 : 1 ≤ E) (h2 : E ≤ 1500) (hU : U < 4503599627370496) : FP.dmul (dbl E U) p52 = dbl (E + 52) U := by
  show UInt64.ofNat (FP.Core.mul FP.Core.b64 (dbl E U).toNat p52.toNat) = UInt64.ofNat _
  congr 1
  unfold FP.Core.mul
  rw [dbl_nat (by omega) hU, dec_dbl (by omega) (by omega) hU, p52_dec]
  unfold FP.Core.exactProduct FP.Core.round
  dsimp only
  have hl : FP.Core.leading ((4503599627370496 + U) * 4503599627370496) 1 = (104 : Nat) := lead_1 (by
    show 20282409603651670423947251286016 ≤ _
    omega) (by
    show _ < 40564819207303340847894502572032
    omega)
  have hr := rat_ok (num := (4503599627370496 + U) * 4503599627370496) (den := 1) (m := 4503599627370496 + U) (e := (E : Int) - 1075 + 0) (q := (E : Int) - 1023) (by omega) (by rw [hl]; omega) (by omega) (by omega) (by
    rw [show ((E : Int) - 1075 + 0 - ((E : Int) - 1023)).toNat = 0 by omega, show ((E : Int) - 1023 - ((E : Int) - 1075 + 0)).toNat = 52 by omega, Nat.pow_zero, Nat.mul_one, Nat.one_mul]
    exact near_m (by decide)) (by omega)
  rw [if_pos (by omega)] at hr
  show FP.Core.encode FP.Core.b64 (FP.Core.roundRatio FP.Core.b64 false _ _ _) = _
  rw [hr, enc_n (by omega)]
  omega
theorem dl_at {T k : Nat} (hT : T < 4503599627370496) (hk : k ≤ 51) (b1 : 4503599627370496 ≤ T * 2 ^ (52 - k)) (b2 : T * 2 ^ (52 - k) < 9007199254740992) : FP.d2l (dbl (k + 1023) (T * 2 ^ (52 - k) - 4503599627370496)) = Int64.ofInt T := by
  show FP.Core.toL (FP.Core.decode FP.Core.b64 (dbl (k + 1023) (T * 2 ^ (52 - k) - 4503599627370496)).toNat) = _
  rw [dbl_nat (by omega) (by omega), dec_dbl (by omega) (by omega) (by omega), show 4503599627370496 + (T * 2 ^ (52 - k) - 4503599627370496) = T * 2 ^ (52 - k) by omega]
  unfold FP.Core.toL FP.Core.toInt FP.Core.truncate FP.Core.signed
  congr 1
  dsimp only
  rw [show ((((k + 1023 : Nat) : Int) - 1075)).toNat = 0 by omega, show (-(((k + 1023 : Nat) : Int) - 1075)).toNat = 52 - k by omega, Nat.pow_zero, Nat.mul_one, Nat.mul_div_cancel _ (Nat.pow_pos (show 0 < 2 by omega))]
  show max (-2 ^ 63 : Int) (min (2 ^ 63 - 1) ((T : Nat) : Int)) = (T : Int)
  omega
/-- what the class's last step gives -/
theorem dl_ok {T : Nat} (hT : T < 4503599627370496) : vf_n64 (FP.dsub (dbl 1023 T) FP.dconst1) ∧ vf_n64 (FP.dmul (FP.dsub (dbl 1023 T) FP.dconst1) p52) ∧ FP.d2l (FP.dmul (FP.dsub (dbl 1023 T) FP.dconst1) p52) = Int64.ofInt T := by
  by_cases h0 : T = 0
  · subst h0
    rw [ds_one0, dm_zero, dl_zero]
    exact ⟨n64_0, n64_0, by decide⟩
  · have hk1 : 2 ^ T.log2 ≤ T := Nat.log2_self_le h0
    have hk2 : T < 2 ^ (T.log2 + 1) := Nat.lt_log2_self
    have hk : T.log2 < 52 := (Nat.log2_lt h0).mpr hT
    generalize T.log2 = k at *
    obtain ⟨e1, b1, b2⟩ := ds_one hk1 hk2 (by omega)
    rw [e1, dm_p52 (by omega) (by omega) (by omega), show k + 971 + 52 = k + 1023 by omega]
    exact ⟨n64_dbl (by omega) (by omega), n64_dbl (by omega) (by omega), dl_at hT (by omega) b1 b2⟩
theorem sum_nI {f : Nat → Int32} {B : Nat} : ∀ n, (∀ i, i < n → bd (f i) B) → ∃ k, k ≤ n * B ∧ sumN f n = nI k
  | 0, _ => ⟨0, by omega, nI_0.symm⟩
  | n + 1, h => by
    obtain ⟨k, hk, e⟩ := sum_nI n (fun i hi => h i (by omega))
    obtain ⟨j, hj, e2⟩ := h n (by omega)
    refine ⟨k + j, ?_, by rw [sumN, e, e2, nI_add]⟩
    rw [Nat.succ_mul]
    omega
/-- the mean is 0, or above it -/
theorem mn_good {n : Nat} {z : ZZ} (hI : Ivz n z) (hn : n ≤ 100000) : (mnD z = 0 ∧ (sumN (fun p => z (54 + p)) 8 = 0 ∨ FP.ddiv (FP.i2d (sumN (fun p => z (70 + p)) 8)) (FP.i2d (sumN (fun p => z (54 + p)) 8)) = 0)) ∨ ∃ E T, 1 ≤ E ∧ E ≤ 2046 ∧ T < 4503599627370496 ∧ mnD z = dbl E T ∧ FP.ddiv (FP.i2d (sumN (fun p => z (70 + p)) 8)) (FP.i2d (sumN (fun p => z (54 + p)) 8)) = dbl E T := by
  obtain ⟨a, ha, ea⟩ := sum_nI (f := fun p => z (70 + p)) (B := 500 * n) 8 (fun i hi => hI.fees i hi)
  obtain ⟨b, hb, eb⟩ := sum_nI (f := fun p => z (54 + p)) (B := n) 8 (fun i hi => hI.reads i hi)
  unfold mnD
  rw [ea, eb]
  by_cases hb0 : b = 0
  · subst hb0
    rw [if_pos nI_0]
    exact Or.inl ⟨rfl, Or.inl nI_0⟩
  · rw [if_neg (by rw [← nI_0, nI_eq (by omega) (by omega)]; exact hb0)]
    obtain ⟨F, U, f1, f2, f3, f4⟩ := d_i2d (a := b) (by omega) (by omega)
    rw [f4]
    by_cases ha0 : a = 0
    · subst ha0
      rw [d_i2d0, dd_0 (by omega) (by omega) f3]
      exact Or.inl ⟨rfl, Or.inr rfl⟩
    · obtain ⟨E, T, g1, g2, g3, g4⟩ := d_i2d (a := a) (by omega) (by omega)
      rw [g4]
      obtain ⟨E', T', k1, k2, k3, k4⟩ := dd_quo g1 g2 g3 f1 f2 f3
      exact Or.inr ⟨E', T', k1, k2, k3, k4, k4⟩
theorem mn_DZ {n : Nat} {z : ZZ} (hI : Ivz n z) (hn : n ≤ 100000) : DZ z := by
  rcases mn_good hI hn with ⟨h1, h2⟩ | ⟨E, T, h1, h2, h3, h4, h5⟩
  · refine ⟨fun g => ?_, by rw [h1]; decide⟩
    rcases h2 with h2 | h2
    · exact absurd h2 g
    · rw [h2]; exact n64_0
  · exact ⟨fun _ => by rw [h5]; exact n64_dbl h2 h3, by rw [h4]; exact dc_self h1 h2 h3⟩
theorem sh_52 {E : Nat} (hE : E < 2048) {T : Nat} (hT : T < 4503599627370496) : Int64.ofNat E <<< ((nI 52).toInt64 &&& 63) + Int64.ofInt T = (dbl E T).toInt64 := by
  apply Int64.toBitVec_inj.mp
  apply BitVec.eq_of_toNat_eq
  have e1 : ((dbl E T).toInt64.toBitVec).toNat = E * 4503599627370496 + T := by
    show (dbl E T).toNat = _
    unfold dbl
    rw [UInt64.toNat_ofNat', Nat.mod_eq_of_lt (by omega)]
  have e2 : (((nI 52).toInt64 &&& 63) : Int64).toBitVec.smod 64 = BitVec.ofNat 64 52 := by decide
  have e3 : (Int64.ofNat E).toBitVec.toNat = E := by
    show (BitVec.ofNat 64 E).toNat = E
    rw [BitVec.toNat_ofNat, Nat.mod_eq_of_lt (by omega)]
  have e4 : (Int64.ofInt (T : Int)).toBitVec.toNat = T := by
    show (BitVec.ofInt 64 (T : Int)).toNat = T
    rw [BitVec.ofInt_natCast, BitVec.toNat_ofNat, Nat.mod_eq_of_lt (by omega)]
  rw [e1, Int64.toBitVec_add, BitVec.toNat_add, Int64.toBitVec_shiftLeft, e2, BitVec.shiftLeft_eq', BitVec.toNat_shiftLeft, e3, e4, BitVec.toNat_ofNat, Nat.mod_eq_of_lt (a := 52) (by omega), Nat.shiftLeft_eq, Nat.mod_eq_of_lt (a := E * 2 ^ 52) (by omega), Nat.mod_eq_of_lt (by omega)]
