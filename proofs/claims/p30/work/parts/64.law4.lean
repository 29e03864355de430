/-! ===== the class's calls, over a heap with the law's memory ===== -/
def WR (i : Nat) (z : ZZ) : Prop := ∀ b, b < 2 → bd (z (28 + b)) i
theorem WR.mono {i j : Nat} {z : ZZ} (h : WR i z) (hij : i ≤ j) : WR j z := fun b hb => (h b hb).mono hij
theorem WR.same {i : Nat} {z z' : ZZ} (h : WR i z) (he : ∀ b, b < 2 → z' (28 + b) = z (28 + b)) : WR i z' := fun b hb => by
  rw [he b hb]
  exact h b hb
theorem wr_writes {i p : Nat} {z : ZZ} {y : Int32} (h : WR i z) (hp : p < 8) : WR i (writesZ z p y) := by
  refine h.same fun b hb => ?_
  rw [← lwZ_w hp]
  unfold lwZ
  rw [upd_ne (by omega), upd_ne (by omega), upd_ne (by omega), upd_ne (by omega)]
  have h1 : ∀ z1 : ZZ, (if 0 < p % 4 then distZ z1 (p - 1) else z1) (28 + b) = z1 (28 + b) := fun z1 => by
    split
    · exact dist_lo (by omega)
    · rfl
  have h2 : ∀ z2 : ZZ, (if p % 4 < 3 then distZ z2 (p + 1) else z2) (28 + b) = z2 (28 + b) := fun z2 => by
    split
    · exact dist_lo (by omega)
    · rfl
  rw [h2, h1, lwr_lo (by omega) (by omega)]
theorem wr_reads {i p : Nat} {z : ZZ} (h : WR i z) (hp : p < 8) : WR i (readsZ z p) := by
  refine h.same fun b hb => ?_
  unfold readsZ
  split
  · rw [upd_ne (by omega), upd_ne (by omega), upd_ne (by omega), upd_ne (by omega)]
  · rw [upd_ne (by omega), upd_ne (by omega), upd_ne (by omega), upd_ne (by omega)]
theorem wr_upd {i j : Nat} {z : ZZ} {v : Int32} (h : WR i z) (hj : j < 28 ∨ 30 ≤ j) : WR i (upd z j v) := h.same fun b hb => upd_ne (by omega)
theorem wr_add {i : Nat} {z : ZZ} {a b c : Int32} (h : WR i z) (h6 : mN' z < 6) : WR i (addZ z a b c) := wr_upd (wr_upd (wr_upd (wr_upd h (by omega)) (by omega)) (by omega)) (by omega)
theorem rem_at {z : ZZ} {m j : Nat} (hj : j = 8 ∨ j = 28 ∨ j = 29) (hm : m < mN' z) (hM : mN' z ≤ 6) : remZ z m j = upd z 8 (nI (mN' z - 1)) j := by
  unfold remZ
  rw [remFavs_at, if_neg (by omega), remShift_out _ (by omega)]
theorem wr_rem {i m : Nat} {z : ZZ} (h : WR i z) (hm : m < mN' z) (hM : mN' z ≤ 6) : WR i (remZ z m) := h.same fun b hb => by
  rw [rem_at (by omega) hm hM, upd_ne (by omega)]
theorem wr_pass {i m : Nat} {z : ZZ} (h : WR i z) : WR i (passZ z m) := h.same fun b hb => by
  rw [pass_ps m (28 + b) (by omega)]
  unfold psZ
  rw [if_neg (by omega), if_neg (by omega)]
theorem erL_lo {z : ZZ} {b j : Nat} (hj : j < 30) : ∀ n, erLoop z b n j = z j
  | 0 => rfl
  | n + 1 => by
    rw [erLoop, erPage, fillC_out (by omega), upd_ne (by omega), upd_ne (by omega), erL_lo hj n]
theorem wr_erases {i b : Nat} {z : ZZ} (h : WR i z) (hi : i < 100000) : WR (i + 1) (erasesZ z b) := fun c hc => by
  unfold erasesZ
  rw [erL_lo (by omega)]
  obtain ⟨q, hq, e⟩ := h c hc
  by_cases hcb : 28 + c = 28 + b
  · rw [← hcb, upd_eq, e, nI_add]
    exact ⟨q + 1, by omega, rfl⟩
  · rw [upd_ne hcb]
    exact ⟨q, by omega, e⟩
theorem CS_L {A : AS} {h : AH} {z : ZZ} {k : Int32} (hA : CS A h) : CS A (setL h z k) := hA.moved fun a ha => setL_out ha
theorem CS.len {z : ZZ} {L : List ZZ} {T : List Int32} {h : AH} (hA : CS (z, L, T) h) : L.length ≤ 6 := by
  obtain ⟨t, f, r, h1, _⟩ := hA.2.2.1
  exact h1.2
theorem pk_more {L : List ZZ} {z : ZZ} (h : L.length < 6) : nI L.length + nI 1 = nI (pushL L z).length := by
  unfold pushL
  rw [if_neg (by omega), List.length_append, nI_add]
  rfl
theorem pk_full {L : List ZZ} {z : ZZ} (h : 6 ≤ L.length) (h6 : L.length ≤ 6) : nI L.length = nI (pushL L z).length := by
  have e : L.length = 6 := by omega
  unfold pushL
  rw [if_pos e, List.length_append, List.length_tail, e]
  rfl
section P4
variable {G : GG} {d n i p : Nat} {z zl : ZZ} {L : List ZZ} {T : List Int32} {k : Int32} {h0 h : AH} {w : W3} {K : AO → AH → W3 → Prop}
theorem CKc_L {r : Ans} {e1 e2 : Nat} (hr : r.1 = 0) (hK : ∀ h', CS r.2.2 h' → K (.inl (some (.int r.2.1))) (setL h' zl k) w) : CKc (setL h0 zl k) w K e1 e2 r :=
  ⟨fun _ h' hA hF => by
    have e := setL_of (h := h') (h1 := h0) (z := zl) (k := k) hF
    have h9 := hK h' hA
    rw [← e] at h9
    exact h9, fun e => (by rw [hr] at e; cases e), fun e => (by rw [hr] at e; cases e)⟩
theorem k_write {y : Int32} (hA : CS (z, L, T) h0) (hI : Ivz n z) (hp : p < 8) (hs : z (30 + p) = 0) (hK : ∀ h', CS (writesZ z p y, pushL L z, T) h' → K (.inl (some (.int (sumN (chg (writesZ z p y) p) 16)))) (setL h' zl k) w) : Cl G (d + 7) kX4_write [.ref 0, .int (nI p), .int y] (setL h0 zl k) w K := by
  have e : aWrite (z, L, T) (nI p) y = (0, sumN (chg (writesZ z p y) p) 16, (writesZ z p y, pushL L z, T)) := by
    unfold aWrite
    rw [if_pos (rg_yes hp (by omega)), ixN_nI (by omega)]
    exact if_pos hs
  refine c_write (A := (z, L, T)) (CS_L hA) hI ?_
  rw [e]
  exact CKc_L rfl hK
theorem k_read (hA : CS (z, L, T) h0) (hI : Ivz n z) (hp : p < 8) (hs : z (30 + p) = nI 1) (hK : ∀ h', CS (readsZ z p, pushL L z, T) h' → K (.inl (some (.int (readsR z p)))) (setL h' zl k) w) : Cl G (d + 7) kX4_read [.ref 0, .int (nI p)] (setL h0 zl k) w K := by
  have e : aRead (z, L, T) (nI p) = (0, readsR z p, (readsZ z p, pushL L z, T)) := by
    unfold aRead
    rw [if_pos (rg_yes hp (by omega)), ixN_nI (by omega)]
    exact if_pos hs
  refine c_read (A := (z, L, T)) (CS_L hA) hI ?_
  rw [e]
  exact CKc_L rfl hK
theorem k_copy {q : Nat} (hA : CS (z, L, T) h0) (hI : Ivz n z) (hp : p < 8) (hq : q < 8) (hs : z (30 + p) = nI 1) (hs2 : z (30 + q) = 0) (hK : ∀ h', CS (copyZ z p q, pushL L z, T) h' → K (.inl (some (.int (readsR z p)))) (setL h' zl k) w) : Cl G (d + 7) kX4_copy [.ref 0, .int (nI p), .int (nI q)] (setL h0 zl k) w K := by
  have e : aCopy (z, L, T) (nI p) (nI q) = (0, readsR z p, (copyZ z p q, pushL L z, T)) := by
    unfold aCopy
    rw [if_pos ⟨rg_yes hp (by omega), rg_yes hq (by omega)⟩, ixN_nI (by omega), ixN_nI (by omega)]
    exact if_pos ⟨hs, hs2⟩
  refine c_copy (A := (z, L, T)) (CS_L hA) hI ?_
  rw [e]
  exact CKc_L rfl hK
theorem k_erase {b : Nat} (hA : CS (z, L, T) h0) (hI : Ivz n z) (hb : b < 2) (hs : z (28 + b) < nI 100) (hK : ∀ h', CS (erasesZ z b, pushL L z, T) h' → K (.inl (some (.int (erasesZ z b (28 + b))))) (setL h' zl k) w) : Cl G (d + 7) kX4_erase [.ref 0, .int (nI b)] (setL h0 zl k) w K := by
  have e : aErase (z, L, T) (nI b) = (0, erasesZ z b (28 + b), (erasesZ z b, pushL L z, T)) := by
    unfold aErase
    rw [if_pos (rg_yes hb (by omega)), ixN_nI (by omega)]
    exact if_pos hs
  refine c_erase (A := (z, L, T)) (CS_L hA) hI ?_
  rw [e]
  exact CKc_L rfl hK
theorem k_set {j v : Nat} {xv : Int32} (hA : CS (z, L, T) h0) (hI : Ivz n z) (hj : j < 6) (ev : xv = nI v) (hv : v ≤ [60, 50, 8, 30, 100, 10].getD j 0) (hK : ∀ h', CS (upd z j (nI v), pushL L z, T) h' → K (.inl (some (.int (z j)))) (setL h' zl k) w) : Cl G (d + 7) kX4_set [.ref 0, .int (nI j), .int xv] (setL h0 zl k) w K := by
  subst ev
  have hm : ∀ j, j < 6 → [60, 50, 8, 30, 100, 10].getD j 0 ≤ 100 := by decide
  have hm1 := hm j hj
  have e : aSet (z, L, T) (nI j) (nI v) = (0, z j, (upd z j (nI v), pushL L z, T)) := by
    unfold aSet
    rw [if_pos (rg_yes hj (by omega)), ixN_nI (by omega)]
    refine if_pos ⟨nI_pos (by omega), ?_⟩
    rw [nI_ltI (by omega) (by omega)]
    omega
  refine c_set (A := (z, L, T)) (CS_L hA) hI ?_
  rw [e]
  exact CKc_L rfl hK
theorem k_add {xa xb xc a b c : Int32} (hA : CS (z, L, T) h0) (hI : Ivz n z) (ea : xa = a) (eb : xb = b) (ec : xc = c) (ha : offOK a) (hb : offOK b) (hc : offOK c) (h6 : mN' z < 6) (hK : ∀ h', CS (addZ z a b c, pushL L z, T) h' → K (.inl (some (.int (nI (mN' z))))) (setL h' zl k) w) : Cl G (d + 7) kX4_addMatch [.ref 0, .int xa, .int xb, .int xc] (setL h0 zl k) w K := by
  subst ea eb ec
  have h8 := hI.2.1.1
  have e : aAdd (z, L, T) xa xb xc = (0, nI (mN' z), (addZ z xa xb xc, pushL L z, T)) := by
    unfold aAdd
    rw [if_pos ⟨ha, hb, hc⟩]
    dsimp only
    rw [if_neg (by rw [h8, nI_eq (by omega) (by omega)]; omega), h8]
  refine c_addMatch (A := (z, L, T)) (CS_L hA) hI ?_
  rw [e]
  exact CKc_L rfl hK
theorem k_rem {m : Nat} (hA : CS (z, L, T) h0) (hI : Ivz n z) (hm : m < mN' z) (h1 : mN' z ≠ 1) (hK : ∀ h', CS (remZ z m, pushL L z, T) h' → K (.inl (some (.int (nI (mN' z - 1))))) (setL h' zl k) w) : Cl G (d + 7) kX4_removeMatch [.ref 0, .int (nI m)] (setL h0 zl k) w K := by
  have h6 := hI.2.1.2.2
  have e : aRem (z, L, T) (nI m) = (0, nI (mN' z - 1), (remZ z m, pushL L z, T)) := by
    unfold aRem
    dsimp only
    rw [if_pos (rg_yes hm (by omega)), ixN_nI (by omega), if_neg h1]
  refine c_removeMatch (A := (z, L, T)) (CS_L hA) hI ?_
  rw [e]
  exact CKc_L rfl hK
theorem k_pass {m : Nat} (hA : CS (z, L, T) h0) (hI : Ivz n z) (h1 : 1 ≤ m) (hm : m ≤ 100) (hK : ∀ h', CS (passZ z m, pushL L z, T) h' → K (.inl (some (.int (passZ z m 6)))) (setL h' zl k) w) : Cl G (d + 7) kX4_pass [.ref 0, .int (nI m)] (setL h0 zl k) w K := by
  have e : aPass (z, L, T) (nI m) = (0, passZ z m 6, (passZ z m, pushL L z, T)) := by
    unfold aPass
    rw [ixN_nI (by omega)]
    refine if_pos ⟨?_, ?_⟩
    · rw [nI_ltI (by omega) (by omega)]
      omega
    · rw [nI_ltI (by omega) (by omega)]
      omega
  refine c_pass (A := (z, L, T)) (CS_L hA) hI ?_
  rw [e]
  exact CKc_L rfl hK
end P4
