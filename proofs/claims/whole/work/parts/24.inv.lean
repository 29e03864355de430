/-! ===== what the calls leave: bounds ===== -/
theorem bd.mono {x : Int32} {a b : Nat} (h : bd x a) (hab : a ≤ b) : bd x b := by
  obtain ⟨k, hk, e⟩ := h
  exact ⟨k, by omega, e⟩
theorem bd_nI {a b : Nat} (h : a ≤ b) : bd (nI a) b := ⟨a, h, rfl⟩
theorem bd_pos {x : Int32} (h : 0 ≤ x) : bd x 2147483647 := by
  rcases pk_ix x (show 2147483647 < 2 ^ 31 by decide) with q | q | ⟨p, hp, rfl⟩
  · exact absurd h (Int32.not_le.mpr q)
  · rcases pk_ix x (n := 0) (by decide) with r | r | r
    · exact absurd h (Int32.not_le.mpr r)
    · have e := i32_ge0 (z := x) (Int32.not_lt.mpr h)
      refine ⟨x.toNatClampNeg, ?_, ?_⟩
      · have := Int32.toInt_lt x
        omega
      · apply Int32.toInt_inj.mp
        have := Int32.toInt_lt x
        rw [i32_ge0 (nI_pos (n := x.toNatClampNeg) (by omega)), nI_clamp (by omega), e]
    · obtain ⟨p, hp, _⟩ := r
      omega
  · exact bd_nI (by omega)
theorem PR.mono {n m j : Nat} {x : Int32} (h : PR n j x) (hnm : n ≤ m) : PR m j x := by
  by_cases h1 : 54 ≤ j ∧ j < 62
  · exact (PR_reads h1).mpr (((PR_reads h1).mp h).mono hnm)
  · by_cases h2 : 70 ≤ j ∧ j < 78
    · exact (PR_fees h2).mpr (((PR_fees h2).mp h).mono (by omega))
    · unfold PR at h ⊢
      rw [if_neg h1, if_neg h2] at h ⊢
      exact h
theorem Ivz.mono {n m : Nat} {z : ZZ} (h : Ivz n z) (hnm : n ≤ m) : Ivz m z := ⟨fun j hj => (h.1 j hj).mono hnm, h.2⟩
theorem MF_congr {z z' : ZZ} (h : MF z) (h8 : z' 8 = z 8) (hf : ∀ p, p < 8 → z' (46 + p) = z (46 + p)) : MF z' := by
  have e : mN' z' = mN' z := by unfold mN'; rw [h8]
  refine ⟨by rw [e, h8]; exact h.1, fun p hp => ?_⟩
  have e2 : favN z' p = favN z p := by unfold favN; rw [hf p hp]
  rw [e, e2, hf p hp]
  exact h.2 p hp
/-- a change of one number that is neither the number of matches nor a favorite -/
theorem ivz_upd {n k : Nat} {z : ZZ} {x : Int32} (h : Ivz n z) (hk : k ≠ 8) (hk2 : k < 46 ∨ 54 ≤ k) (hx : PR n k x) : Ivz n (upd z k x) := by
  refine ⟨fun j hj => ?_, MF_congr h.2 (upd_ne (by omega)) (fun p hp => upd_ne (by omega))⟩
  by_cases e : j = k
  · subst e
    rw [upd_eq]
    exact hx
  · rw [upd_ne e]
    exact h.1 j hj
theorem ivz_fav {n p f : Nat} {z : ZZ} (h : Ivz n z) (hp : p < 8) (hf : f < mN' z) : Ivz n (upd z (46 + p) (nI f)) := by
  obtain ⟨h1, ⟨hM, hM1, hM6⟩, hF⟩ := h
  have e : mN' (upd z (46 + p) (nI f)) = mN' z := by unfold mN'; rw [upd_ne (by omega)]
  refine ⟨fun j hj => ?_, ⟨?_, ?_, ?_⟩, fun q hq => ?_⟩
  · by_cases ej : j = 46 + p
    · subst ej
      exact PR_free (by omega)
    · rw [upd_ne ej]
      exact h1 j hj
  · rw [e, upd_ne (by omega)]
    exact hM
  · rw [e]; exact hM1
  · rw [e]; exact hM6
  · rw [e]
    unfold favN
    by_cases eq : q = p
    · subst eq
      rw [upd_eq, nI_clamp (by omega)]
      exact ⟨rfl, hf⟩
    · rw [upd_ne (by omega)]
      exact hF q hq
theorem held_bd {v : Int32} : bd (heldI v) 450 := by
  unfold heldI
  split
  · split
    · obtain ⟨k, hk, e⟩ := bd_pos (x := v) (by assumption)
      subst e
      have hv : nI k ≤ nI 450 := by assumption
      rw [nI_leI (by omega) (by omega)] at hv
      exact bd_nI hv
    · exact bd_nI (by omega)
  · exact bd_nI (by omega)
theorem ivz_fill {n p i : Nat} {z : ZZ} {g : Nat → Int32} (h : Ivz n z) (hp : p < 8) (hg : ∀ c, c < i → bd (g c) 450) : Ivz n (fillC z p g i) := by
  refine ⟨fun j hj => ?_, MF_congr h.2 (fillC_out (by omega)) (fun q hq => fillC_out (by omega))⟩
  by_cases hj2 : 86 + 16 * p ≤ j ∧ j < 86 + 16 * p + i
  · rw [fillC, if_pos hj2]
    exact (PR_ch (by omega)).mpr (hg _ (by omega))
  · rw [fillC, if_neg hj2]
    exact h.1 j hj
theorem ivz_dist {n p : Nat} {z : ZZ} (h : Ivz n z) (hp : p < 8) : Ivz n (distZ z p) := by
  unfold distZ
  split
  · exact ivz_fill h hp fun c hc => held_bd
  · exact h
theorem and31 (y : Int64) : (y &&& 2147483647).toInt = ((y.toBitVec.toNat &&& 2147483647 : Nat) : Int) := by
  have hle : y.toBitVec.toNat &&& 2147483647 ≤ 2147483647 := Nat.and_le_right
  have h2 : (y &&& 2147483647).toBitVec.toNat = y.toBitVec.toNat &&& 2147483647 := by
    rw [Int64.toBitVec_and, BitVec.toNat_and]
    rfl
  show (y &&& 2147483647).toBitVec.toInt = _
  rw [BitVec.toInt_eq_toNat_cond, h2, if_pos (by omega)]
theorem seed_pos {s : Int32} : 0 ≤ nextSeed s := by
  unfold nextSeed
  generalize (1103515245 : Int64) * s.toInt64 + (12345 : Int64) = y
  have hle : y.toBitVec.toNat &&& 2147483647 ≤ 2147483647 := Nat.and_le_right
  rw [Int32.le_iff_toInt_le, Int64.toInt_toInt32, and31, Int.bmod_eq_of_le (by omega) (by omega)]
  show (0 : Int) ≤ _
  omega
theorem ivz_wrLoop {n p : Nat} {z : ZZ} {J : Int32} (h : Ivz n z) (hp : p < 8) : ∀ c, c ≤ 16 → Ivz n (wrLoop z p J c)
  | 0, _ => h
  | c + 1, hc => ivz_upd (ivz_upd (ivz_wrLoop h hp c (by omega)) (by omega) (by omega) (PR_seed.mpr (bd_pos seed_pos))) (by omega) (by omega) ((PR_ch (by omega)).mpr held_bd)
theorem ivz_writes {n p : Nat} {z : ZZ} {x : Int32} (h : Ivz n z) (hp : p < 8) : Ivz n (writesZ z p x) := by
  have h1 := ivz_wrLoop (J := jitJ z p) (ivz_upd (k := 78 + p) (x := x) h (by omega) (by omega) (PR_free (by omega))) hp 16 (Nat.le_refl _)
  have h2 : Ivz n (if 0 < p % 4 then distZ (wrLoop (upd z (78 + p) x) p (jitJ z p) 16) (p - 1) else wrLoop (upd z (78 + p) x) p (jitJ z p) 16) := by
    split
    · exact ivz_dist h1 (by omega)
    · exact h1
  unfold writesZ
  dsimp only
  generalize (if 0 < p % 4 then distZ (wrLoop (upd z (78 + p) x) p (jitJ z p) 16) (p - 1) else wrLoop (upd z (78 + p) x) p (jitJ z p) 16) = z2 at h2 ⊢
  have h3 : Ivz n (if p % 4 < 3 then distZ z2 (p + 1) else z2) := by
    split
    · exact ivz_dist h2 (by omega)
    · exact h2
  generalize (if p % 4 < 3 then distZ z2 (p + 1) else z2) = z3 at h3 ⊢
  have h4 := ivz_upd (k := 38 + p) (x := z3 6) (ivz_upd (k := 30 + p) (x := nI 1) h3 (by omega) (by omega) ((PR_st (by omega)).mpr (bd_nI (by omega)))) (by omega) (by omega) (PR_free (by omega))
  exact ivz_fav h4 hp (by have := h4.2.1.2.1; omega)
theorem ivz_erPage {n p : Nat} {z : ZZ} (h : Ivz n z) (hp : p < 8) : Ivz n (erPage z p) :=
  ivz_fill (ivz_upd (ivz_upd h (by omega) (by omega) ((PR_st (by omega)).mpr (bd_nI (by omega)))) (by omega) (by omega) (PR_free (by omega))) hp fun c hc => bd_nI (by omega)
theorem ivz_erLoop {n b : Nat} {z : ZZ} (h : Ivz n z) (hb : b < 2) : ∀ i, i ≤ 4 → Ivz n (erLoop z b i)
  | 0, _ => h
  | i + 1, hi => ivz_erPage (ivz_erLoop h hb i (by omega)) (by omega)
theorem ivz_erases {n b : Nat} {z : ZZ} (h : Ivz n z) (hb : b < 2) (hw : z (28 + b) < nI 100) : Ivz n (erasesZ z b) := by
  refine ivz_erLoop (ivz_upd h (by omega) (by omega) ((PR_wear (by omega)).mpr ?_)) hb 4 (Nat.le_refl _)
  obtain ⟨k, hk, e⟩ := h.wear b hb
  rw [e] at hw ⊢
  rw [nI_ltI (by omega) (by omega)] at hw
  rw [nI_add]
  exact bd_nI (by omega)
theorem perm_bd {n p : Nat} {z : ZZ} (h : Ivz n z) (hp : p < 8) : bd (permZ z p) 150 := by
  obtain ⟨a, ha, ea⟩ := h.s1
  obtain ⟨b, hb, eb⟩ := h.wear (p / 4) (by omega)
  rw [permZ, ea, eb, nI_add]
  exact bd_nI (by omega)
theorem dr_nI {k m : Nat} (hk : k ≤ 450) (hm : m ≤ 150) : drI (nI m) (nI k) = nI (k - k * m / 1000) := by
  have h1 : k * m ≤ 450 * 150 := Nat.mul_le_mul hk hm
  have h2 : k * m / 1000 ≤ k := by
    have h3 : k * m ≤ k * 150 := Nat.mul_le_mul_left k hm
    omega
  rw [drI, pk_mul, pk_div (by omega) (by omega) (by omega), pk_sub h2]
theorem dr_bd {perm q : Int32} (hp : bd perm 150) (hq : bd q 450) : bd (drI perm q) 450 := by
  obtain ⟨m, hm, rfl⟩ := hp
  obtain ⟨k, hk, rfl⟩ := hq
  rw [dr_nI hk hm]
  exact bd_nI (by omega)
theorem ivz_hrPage {n p : Nat} {z : ZZ} (h : Ivz n z) (hp : p < 8) : Ivz n (hrPage z p) := by
  unfold hrPage
  split
  · exact h
  · refine ivz_fill h hp fun c hc => dr_bd (perm_bd h hp) ?_
    have := h.ch (16 * p + c) (by omega)
    rw [show 86 + (16 * p + c) = 86 + 16 * p + c by omega] at this
    exact this
theorem ivz_hrLoop {n : Nat} {z : ZZ} (h : Ivz n z) : ∀ p, p ≤ 8 → Ivz n (hrLoop z p)
  | 0, _ => h
  | p + 1, hp => ivz_hrPage (ivz_hrLoop h p (by omega)) (by omega)
theorem ivz_hour {n : Nat} {z : ZZ} (h : Ivz n z) : Ivz n (hourZ z) := ivz_upd (ivz_hrLoop h 8 (Nat.le_refl _)) (by omega) (by omega) (PR_free (by omega))
theorem ivz_pass {n : Nat} {z : ZZ} (h : Ivz n z) : ∀ k, Ivz n (passZ z k)
  | 0 => h
  | k + 1 => ivz_hour (ivz_pass h k)
theorem failsN_le {z : ZZ} {p : Nat} : failsN z p ≤ mN' z := by
  have := failsF_le (ok := okN z (chg z p) p) (f := favN z p) (but := 99) (n := mN' z) (t := 0) (F := 0)
  unfold failsN
  omega
theorem fees_bd {n p : Nat} {z : ZZ} (h : Ivz n z) : bd (feesI z (failsN z p)) 500 := by
  obtain ⟨a, ha, ea⟩ := h.s4
  have h1 := failsN_le (z := z) (p := p)
  obtain ⟨_, hM1, hM6⟩ := h.2.1
  unfold feesI
  rw [ea]
  split
  · rw [pk_mul]
    have : a * failsN z p ≤ 100 * 5 := Nat.mul_le_mul ha (by omega)
    exact bd_nI (by omega)
  · rw [pk_sub (by omega), pk_mul]
    have : a * (failsN z p - 1) ≤ 100 * 5 := Nat.mul_le_mul ha (by omega)
    exact bd_nI (by omega)
theorem ivz_reads {n p : Nat} {z : ZZ} (h : Ivz n z) (hp : p < 8) : Ivz (n + 1) (readsZ z p) := by
  obtain ⟨a, ha, ea⟩ := h.fees p hp
  obtain ⟨b, hb, eb⟩ := fees_bd (p := p) h
  obtain ⟨c, hc, ec⟩ := h.reads p hp
  have h2 := ivz_upd (k := 70 + p) (x := z (70 + p) + feesI z (failsN z p)) (ivz_upd (k := 62 + p) (x := z (62 + p) + nI (failsN z p)) (h.mono (Nat.le_succ n)) (by omega) (by omega) (PR_free (by omega))) (by omega) (by omega) ((PR_fees (by omega)).mpr (by rw [ea, eb, nI_add]; exact bd_nI (by omega)))
  unfold readsZ
  dsimp only
  have hm : mN' (upd (upd z (62 + p) (z (62 + p) + nI (failsN z p))) (70 + p) (z (70 + p) + feesI z (failsN z p))) = mN' z := by
    unfold mN'
    rw [upd_ne (by omega), upd_ne (by omega)]
  generalize upd (upd z (62 + p) (z (62 + p) + nI (failsN z p))) (70 + p) (z (70 + p) + feesI z (failsN z p)) = z2 at h2 hm ⊢
  split
  · exact ivz_upd (ivz_upd h2 (by omega) (by omega) ((PR_st (by omega)).mpr (bd_nI (by omega)))) (by omega) (by omega) (PR_free (by omega))
  · have hlt : failsN z p < mN' z := by
      have := failsN_le (z := z) (p := p)
      omega
    refine ivz_fav (ivz_upd h2 (by omega) (by omega) ((PR_reads (by omega)).mpr (by rw [ec, nI_add]; exact bd_nI (by omega)))) hp ?_
    have : mN' (upd z2 (54 + p) (z (54 + p) + nI 1)) = mN' z := by
      rw [← hm]
      unfold mN'
      rw [upd_ne (by omega)]
    rw [this]
    exact triedN_lt (h.2.2 p hp).2 hlt
theorem rg_bd {x : Int32} {N : Nat} (hN : N + 1 < 2 ^ 31) (h1 : ¬ x < nI 0) (h2 : ¬ nI N < x) : bd x N := by
  rcases pk_ix x hN with q | q | ⟨p, hp, rfl⟩
  · exact absurd (by rw [nI_0]; exact q) h1
  · exact absurd (Int32.lt_of_lt_of_le ((nI_ltI (by omega) hN).mpr (Nat.lt_succ_self N)) q) h2
  · exact bd_nI (by omega)
theorem ivz_set {n p : Nat} {z : ZZ} {y : Int32} (h : Ivz n z) (hp : p < 6) (h1 : ¬ y < nI 0) (h2 : ¬ nI ([60, 50, 8, 30, 100, 10].getD p 0) < y) : Ivz n (upd z p y) := by
  refine ivz_upd h (by omega) (by omega) ((PR_set hp).mpr (rg_bd ?_ h1 h2))
  match p, hp with
  | 0, _ => decide
  | 1, _ => decide
  | 2, _ => decide
  | 3, _ => decide
  | 4, _ => decide
  | 5, _ => decide
  | p + 6, h => exact absurd h (by omega)
/-- a change of the number of matches, with its favorites below it -/
theorem ivz_M {n N : Nat} {z : ZZ} (h : ∀ j, j < 214 → PR n j (z j)) (h1 : 1 ≤ N) (h6 : N ≤ 6) (h8 : z 8 = nI N) (hf : ∀ p, p < 8 → ∃ f, f < N ∧ z (46 + p) = nI f) : Ivz n z := by
  have e : mN' z = N := by unfold mN'; rw [h8, nI_clamp (by omega)]
  refine ⟨h, ⟨by rw [e, h8], by omega, by omega⟩, fun p hp => ?_⟩
  obtain ⟨f, hf1, hf2⟩ := hf p hp
  have e2 : favN z p = f := by unfold favN; rw [hf2, nI_clamp (by omega)]
  rw [e2, e, hf2]
  exact ⟨rfl, hf1⟩
theorem ivz_add {n : Nat} {z : ZZ} {a b c : Int32} (h : Ivz n z) (ha : offOK a) (hb : offOK b) (hc : offOK c) (h6 : ¬ z 8 = nI 6) : Ivz n (addZ z a b c) := by
  obtain ⟨h1, ⟨hM, hM1, hM6⟩, hF⟩ := id h
  have hM5 : mN' z ≤ 5 := by
    rcases Nat.lt_or_ge (mN' z) 6 with q | q
    · omega
    · exact absurd (by rw [hM]; congr 1; omega) h6
  have h2 := ivz_upd (k := 9 + 3 * mN' z + 2) (x := c) (ivz_upd (k := 9 + 3 * mN' z + 1) (x := b) (ivz_upd (k := 9 + 3 * mN' z) (x := a) h (by omega) (by omega) ((PR_off (by omega)).mpr ha)) (by omega) (by omega) ((PR_off (by omega)).mpr hb)) (by omega) (by omega) ((PR_off (by omega)).mpr hc)
  refine ivz_M (N := mN' z + 1) (fun j hj => ?_) (by omega) (by omega) ?_ (fun p hp => ?_)
  · unfold addZ
    by_cases ej : j = 8
    · subst ej
      exact PR_free (by omega)
    · rw [upd_ne ej]
      exact h2.1 j hj
  · unfold addZ
    rw [upd_eq, hM, nI_add]
  · unfold addZ
    rw [upd_ne (by omega), upd_ne (by omega), upd_ne (by omega), upd_ne (by omega)]
    exact ⟨favN z p, by have := (hF p hp).2; omega, (hF p hp).1⟩
theorem remShift_out {z : ZZ} {a j : Nat} : ∀ n, (j < a ∨ a + n ≤ j) → remShift z a n j = z j
  | 0, _ => rfl
  | n + 1, h => by rw [remShift, upd_ne (by omega), remShift_out n (by omega)]
theorem remShift_PR {z : ZZ} {a m : Nat} (ha : 9 ≤ a) (h : ∀ j, j < 214 → PR m j (z j)) : ∀ n, a + n + 3 ≤ 27 → ∀ j, j < 214 → PR m j (remShift z a n j)
  | 0, _ => h
  | n + 1, hn => by
    intro j hj
    rw [remShift]
    by_cases ej : j = a + n
    · subst ej
      rw [upd_eq]
      have := remShift_PR ha h n (by omega) (a + n + 3) (by omega)
      exact (PR_off (by omega)).mpr ((PR_off (by omega)).mp this)
    · rw [upd_ne ej]
      exact remShift_PR ha h n (by omega) j hj
theorem remFavs_at {z : ZZ} {m j : Nat} : ∀ n, remFavs z m n j = if 46 ≤ j ∧ j < 46 + n then remFav m (z j) else z j
  | 0 => by rw [if_neg (by omega)]; rfl
  | n + 1 => by
    rw [remFavs]
    by_cases ej : j = 46 + n
    · subst ej
      rw [upd_eq, remFavs_at n, if_neg (by omega), if_pos (by omega)]
    · rw [upd_ne ej, remFavs_at n]
      by_cases h : 46 ≤ j ∧ j < 46 + n
      · rw [if_pos h, if_pos (by omega)]
      · rw [if_neg h, if_neg (by omega)]
theorem ivz_rem {n m : Nat} {z : ZZ} (h : Ivz n z) (hm : m < mN' z) (h1 : ¬ mN' z = 1) : Ivz n (remZ z m) := by
  obtain ⟨hp1, ⟨hM, hM1, hM6⟩, hF⟩ := id h
  have hz : ∀ j, j < 214 → PR n j (upd z 8 (nI (mN' z - 1)) j) := fun j hj => by
    by_cases ej : j = 8
    · subst ej
      exact PR_free (by omega)
    · rw [upd_ne ej]
      exact hp1 j hj
  have h2 := remShift_PR (a := 9 + 3 * m) (by omega) hz (3 * (mN' z - 1) - 3 * m) (by omega)
  have h3 : ∀ j, (j < 9 + 3 * m ∨ 9 + 3 * m + (3 * (mN' z - 1) - 3 * m) ≤ j) → remShift (upd z 8 (nI (mN' z - 1))) (9 + 3 * m) (3 * (mN' z - 1) - 3 * m) j = upd z 8 (nI (mN' z - 1)) j := fun j hj => remShift_out _ hj
  refine ivz_M (N := mN' z - 1) (fun j hj => ?_) (by omega) (by omega) ?_ (fun p hp => ?_)
  · unfold remZ
    rw [remFavs_at]
    split
    · exact PR_free (by omega)
    · exact h2 j hj
  · unfold remZ
    rw [remFavs_at, if_neg (by omega), h3 _ (by omega), upd_eq]
  · unfold remZ
    rw [remFavs_at, if_pos (by omega), h3 _ (by omega), upd_ne (by omega)]
    obtain ⟨ef, hf⟩ := hF p hp
    rw [ef]
    unfold remFav
    by_cases e1 : favN z p = m
    · rw [if_pos (by rw [e1])]
      exact ⟨0, by omega, rfl⟩
    · rw [if_neg (by rw [nI_eq (by omega) (by omega)]; exact e1)]
      by_cases e2 : m < favN z p
      · rw [if_pos ((nI_ltI (by omega) (by omega)).mpr e2), pk_sub (by omega)]
        exact ⟨favN z p - 1, by omega, rfl⟩
      · rw [if_neg (by rw [nI_ltI (by omega) (by omega)]; exact e2)]
        exact ⟨favN z p, by omega, rfl⟩
theorem ivz_same {n : Nat} {z z' : ZZ} (h : Ivz n z) (he : ∀ k, k < 214 → z' k = z k) : Ivz n z' :=
  ⟨fun j hj => by rw [he j hj]; exact h.1 j hj, MF_congr h.2 (he 8 (by omega)) fun p hp => he _ (by omega)⟩
/-- the invariant of a state: after n readings at most -/
def IA (n : Nat) (A : AS) : Prop := Ivz n A.1 ∧ (∀ r, r ∈ A.2.1 → Ivz n r) ∧ A.2.1.length ≤ 6 ∧ A.2.2.length ≤ 60 ∧ ∀ c, c ∈ A.2.2 → inW c (nI 33) (nI 126)
theorem push_mem {L : List ZZ} {z r : ZZ} (h : r ∈ pushL L z) : r ∈ L ∨ r = z := by
  unfold pushL at h
  split at h
  · rcases List.mem_append.mp h with q | q
    · exact Or.inl (List.mem_of_mem_tail q)
    · exact Or.inr (by simpa using q)
  · rcases List.mem_append.mp h with q | q
    · exact Or.inl q
    · exact Or.inr (by simpa using q)
theorem IA.mono {n m : Nat} {A : AS} (h : IA n A) (hnm : n ≤ m) : IA m A := ⟨h.1.mono hnm, fun r hr => (h.2.1 r hr).mono hnm, h.2.2⟩
theorem IA.push {n m : Nat} {A : AS} {z' : ZZ} (h : IA n A) (hnm : n ≤ m) (hz : Ivz m z') : IA m (z', pushL A.2.1 A.1, A.2.2) :=
  ⟨hz, fun r hr => (push_mem hr).elim (fun q => (h.2.1 r q).mono hnm) (fun q => by subst q; exact h.1.mono hnm), pushL_len h.2.2.1, h.2.2.2⟩
