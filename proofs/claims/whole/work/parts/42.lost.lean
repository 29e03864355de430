/-! ===== what is lost: tries counted against matches ===== -/
def cntT (f but : Nat) : Nat → Nat → Nat
  | 0, _ => 0
  | n + 1, t => (if triedN f t = but then 0 else 1) + cntT f but n (t + 1)
theorem failsF_all {ok : Nat → Bool} {f but : Nat} : ∀ n t F, (∀ s, t ≤ s → s < t + n → ¬ (triedN f s ≠ but ∧ ok (triedN f s) = true)) → failsF ok f but n t F = F + cntT f but n t
  | 0, t, F, _ => rfl
  | n + 1, t, F, h => by
    rw [failsF, if_neg (h t (by omega) (by omega)), failsF_all n (t + 1) _ (fun s h1 h2 => h s (by omega) (by omega)), cntT, Nat.add_assoc]
theorem failsF_some {ok : Nat → Bool} {f but : Nat} : ∀ n t F, (∃ s, t ≤ s ∧ s < t + n ∧ (triedN f s ≠ but ∧ ok (triedN f s) = true)) → failsF ok f but n t F < F + cntT f but n t
  | 0, t, F, h => by
    obtain ⟨s, h1, h2, _⟩ := h
    omega
  | n + 1, t, F, h => by
    rw [failsF, cntT]
    by_cases hc : triedN f t ≠ but ∧ ok (triedN f t) = true
    · rw [if_pos hc, if_neg hc.1]
      omega
    · rw [if_neg hc]
      obtain ⟨s, h1, h2, h3⟩ := h
      have := failsF_some (ok := ok) (f := f) (but := but) n (t + 1) (F + (if triedN f t = but then 0 else 1)) ⟨s, by
        rcases Nat.lt_or_ge t s with q | q
        · omega
        · obtain rfl : s = t := by omega
          exact absurd h3 hc, by omega, h3⟩
      omega
def invT (f m : Nat) : Nat := if m = f then 0 else if m < f then m + 1 else m
theorem tried_inv {f m : Nat} : triedN f (invT f m) = m := by
  unfold triedN invT
  (repeat' split) <;> omega
theorem inv_tried {f t m : Nat} (h : triedN f t = m) : t = invT f m := by
  unfold triedN at h
  unfold invT
  split at h <;> (try split at h) <;> (repeat' split) <;> omega
theorem inv_lt {f m M : Nat} (hf : f < M) (hm : m < M) : invT f m < M := by
  unfold invT
  (repeat' split) <;> omega
theorem cntT_out {f but : Nat} : ∀ n t, (invT f but < t ∨ t + n ≤ invT f but) → cntT f but n t = n
  | 0, _, _ => rfl
  | n + 1, t, h => by
    rw [cntT, cntT_out n (t + 1) (by omega), if_neg (fun q => by have := inv_tried q; omega)]
    omega
theorem cntT_in {f but : Nat} : ∀ n t, t ≤ invT f but → invT f but < t + n → cntT f but n t = n - 1
  | 0, t, h1, h2 => by omega
  | n + 1, t, h1, h2 => by
    rw [cntT]
    by_cases hc : triedN f t = but
    · have := inv_tried hc
      rw [if_pos hc, cntT_out n (t + 1) (by omega)]
      omega
    · have hne : t ≠ invT f but := fun q => hc (by rw [q]; exact tried_inv)
      rw [if_neg hc, cntT_in n (t + 1) (by omega) (by omega)]
      omega
theorem failsF_iff {ok : Nat → Bool} {f but M : Nat} (hf : f < M) : failsF ok f but M 0 0 = cntT f but M 0 ↔ ∀ m, m < M → m ≠ but → ok m = false := by
  refine ⟨fun h m hm hb => ?_, fun h => ?_⟩
  · cases hk : ok m with
    | false => rfl
    | true =>
      have := failsF_some (ok := ok) (f := f) (but := but) M 0 0 ⟨invT f m, Nat.zero_le _, by have := inv_lt hf hm; omega, by rw [tried_inv]; exact ⟨hb, hk⟩⟩
      omega
  · rw [failsF_all M 0 0 (fun s _ hs q => ?_), Nat.zero_add]
    have := h (triedN f s) (triedN_lt hf (by omega)) q.1
    rw [this] at q
    exact absurd q.2 (by decide)
theorem failsF_99 {ok : Nat → Bool} {f M : Nat} (hf : f < M) (hM : M ≤ 6) : failsF ok f 99 M 0 0 = M ↔ ∀ m, m < M → ok m = false := by
  have h := failsF_iff (ok := ok) (but := 99) hf
  rw [cntT_out M 0 (by right; unfold invT; (repeat' split) <;> omega)] at h
  rw [h]
  exact ⟨fun g m hm => g m hm (by omega), fun g m hm _ => g m hm⟩
theorem failsF_but {ok : Nat → Bool} {f b M : Nat} (hf : f < M) (hb : b < M) : failsF ok f b M 0 0 = M - 1 ↔ ∀ m, m < M → m ≠ b → ok m = false := by
  have h := failsF_iff (ok := ok) (but := b) hf
  rw [cntT_in M 0 (Nat.zero_le _) (by have := inv_lt hf hb; omega)] at h
  exact h
theorem drN_fix {perm q : Int32} {k : Nat} (h : drN perm q (k + 1) = drN perm q k) : ∀ n, drN perm q (k + n) = drN perm q k
  | 0 => rfl
  | n + 1 => by
    rw [← Nat.add_assoc, drN, drN_fix h n]
    exact h
theorem lostB_iff {z q : ZZ} {p k : Nat} (hMF : MF z) (hp : p < 8) (hq : ∀ c, c < 16 → q c = drN (permZ z p) (z (86 + 16 * p + c)) k) : lostB z p k ↔ ∀ m, m < mN' z → ¬ wN z q (z (78 + p)) m ≤ z 2 := by
  have hM6 := hMF.1.2.2
  have hf := (hMF.2 p hp).2
  show failsF (okN z (fun c => drN (permZ z p) (chg z p c) k) p) (favN z p) 99 (mN' z) 0 0 = mN' z ↔ _
  rw [failsF_99 hf hM6]
  have e : ∀ m, okN z (fun c => drN (permZ z p) (chg z p c) k) p m = decide (wN z q (z (78 + p)) m ≤ z 2) := fun m => by
    unfold okN
    rw [wN_congr (q' := fun c => drN (permZ z p) (chg z p c) k) (fun c hc => hq c hc), wN_wrong]
  refine ⟨fun h m hm g => ?_, fun h m hm => ?_⟩
  · have := h m hm
    rw [e, decide_eq_true g] at this
    exact absurd this (by decide)
  · rw [e]
    exact decide_eq_false (h m hm)
theorem lwB_iff {z q : ZZ} {p b : Nat} (hMF : MF z) (hp : p < 8) (hb : b < mN' z) (hq : ∀ c, c < 16 → q c = z (86 + 16 * p + c)) : failsF (okN z (chg z p) p) (favN z p) b (mN' z) 0 0 = mN' z - 1 ↔ ∀ m, m < mN' z → m ≠ b → ¬ wN z q (z (78 + p)) m ≤ z 2 := by
  have hf := (hMF.2 p hp).2
  rw [failsF_but hf hb]
  have e : ∀ m, okN z (chg z p) p m = decide (wN z q (z (78 + p)) m ≤ z 2) := fun m => by
    unfold okN
    rw [wN_congr (q' := chg z p) (fun c hc => hq c hc), wN_wrong]
  refine ⟨fun h m hm hb g => ?_, fun h m hm hb => ?_⟩
  · have := h m hm hb
    rw [e, decide_eq_true g] at this
    exact absurd this (by decide)
  · rw [e]
    exact decide_eq_false (h m hm hb)
theorem lifeF_none {z : ZZ} {p : Nat} : ∀ n h, (∀ k, h ≤ k → ¬ lostB z p k) → lifeF z p n h = -nI 1
  | 0, _, _ => rfl
  | n + 1, h, g => by rw [lifeF, if_neg (g h (Nat.le_refl h)), lifeF_none n (h + 1) (fun k hk => g k (by omega))]
theorem lostB_stays {z : ZZ} {p k : Nat} (hn : ¬ lostB z p k) (hs : ∀ c, c < 16 → drN (permZ z p) (z (86 + 16 * p + c)) (k + 1) = drN (permZ z p) (z (86 + 16 * p + c)) k) : ∀ j, k ≤ j → ¬ lostB z p j := by
  intro j hj
  obtain ⟨n, rfl⟩ : ∃ n, j = k + n := ⟨j - k, by omega⟩
  have e : okN z (fun c => drN (permZ z p) (chg z p c) (k + n)) p = okN z (fun c => drN (permZ z p) (chg z p c) k) p := okN_congr fun c hc => drN_fix (hs c hc) n
  unfold lostB at hn ⊢
  rw [e]
  exact hn
theorem wrongS_nat {z : ZZ} {p : Nat} {s : Int32} : ∃ k, k ≤ 32 ∧ wrongS z p s = nI k := by
  have hb : ∀ c, c < 16 → onesB (btO (rdAs (chg z p c) s s s) ^^^ wrt z p c) = nI (pc2 (tn (btO (rdAs (chg z p c) s s s)) ^^^ dg (tn (z (78 + p))) c)) := fun c hc => by
    obtain ⟨k, hk, e⟩ := btO_4 (rdAs (chg z p c) s s s)
    rw [e, tn_nI (by omega)]
    show onesB (nI k ^^^ wrtW (z (78 + p)) c) = _
    rw [wrtW_dg hc, nI_xor hk dg_lt, ones_pc _ (Nat.xor_lt_two_pow (n := 2) hk dg_lt)]
  have hp2 : ∀ d, pc2 d ≤ 1 + d / 2 := fun d => by
    unfold pc2
    have : d &&& 1 ≤ 1 := Nat.and_le_right
    rw [Nat.shiftRight_eq_div_pow]
    omega
  refine ⟨_, ?_, (show wrongS z p s = _ from sumN_nI hb)⟩
  have hs : ∀ n, n ≤ 16 → sumF (fun c => pc2 (tn (btO (rdAs (chg z p c) s s s)) ^^^ dg (tn (z (78 + p))) c)) n ≤ 2 * n := by
    intro n
    induction n with
    | zero => intro _; exact Nat.le_refl _
    | succ n ih =>
      intro hn
      have h1 := ih (by omega)
      have h2 := hp2 (tn (btO (rdAs (chg z p n) s s s)) ^^^ dg (tn (z (78 + p))) n)
      have h3 : tn (btO (rdAs (chg z p n) s s s)) ^^^ dg (tn (z (78 + p))) n < 2 ^ 2 := by
        obtain ⟨k, hk, e⟩ := btO_4 (rdAs (chg z p n) s s s)
        rw [e, tn_nI (by omega)]
        exact Nat.xor_lt_two_pow hk dg_lt
      rw [sumF]
      omega
  have := hs 16 (by omega)
  omega
theorem shL_nat {z : ZZ} {p : Nat} : ∀ i, ∃ k, k ≤ 32 ∧ (shL z p i).2 = nI k
  | 0 => wrongS_nat
  | i + 1 => by
    rw [shL]
    split
    · exact wrongS_nat
    · exact shL_nat i
theorem shL_stays {z : ZZ} {p i : Nat} (h : ¬ 0 < (shL z p i).2) : ∀ n, shL z p (i + n) = shL z p i
  | 0 => rfl
  | n + 1 => by
    have ih := shL_stays h n
    rw [← Nat.add_assoc, shL, ih, if_neg]
    intro hc
    obtain ⟨k, hk, e⟩ := wrongS_nat (z := z) (p := p) (s := shOf (i + n + 2))
    rw [e] at hc
    exact h (Int32.lt_of_le_of_lt (nI_pos' (by omega)) hc)
