/-! ===== the numbers of the memory: what the calls do to them (out of whole, without its reference) ===== -/
-- 13.model1.lean.txt
/-! ===== the model: pure helpers ===== -/
section M1
variable {G : GG} {d : Nat} {h0 h : AH} {u : MS} {w : W3} {K : AO → AH → W3 → Prop}
end M1

-- 14.model2.lean.txt
/-! ===== the model: tries and readings ===== -/
theorem upd_ne {f : ZZ} {k j : Nat} {x : Int32} (h : j ≠ k) : upd f k x j = f j := by simp [upd, h]
theorem upd_eq {f : ZZ} {k : Nat} {x : Int32} : upd f k x k = x := by simp [upd]
def drI (perm q : Int32) : Int32 := q - q * perm / nI 1000
def permZ (z : ZZ) (p : Nat) : Int32 := z 1 + z (28 + p / 4)
theorem wrongN_congr {z q q' : ZZ} {p m : Nat} (h : ∀ c, c < 16 → q c = q' c) : wrongN z q p m = wrongN z q' p m := sumN_congr fun c hc => by rw [h c hc]
def okN (z q : ZZ) (p m : Nat) : Bool := decide (wrongN z q p m ≤ z 2)
theorem okN_congr {z q q' : ZZ} {p : Nat} (h : ∀ c, c < 16 → q c = q' c) : okN z q p = okN z q' p := funext fun m => by unfold okN; rw [wrongN_congr h]
def favN (z : ZZ) (p : Nat) : Nat := (z (46 + p)).toNatClampNeg
def mN' (z : ZZ) : Nat := (z 8).toNatClampNeg
def failsN (z : ZZ) (p : Nat) : Nat := failsF (okN z (chg z p) p) (favN z p) 99 (mN' z) 0 0
theorem failsF_le {ok : Nat → Bool} {f but : Nat} : ∀ {n t F : Nat}, failsF ok f but n t F ≤ F + n
  | 0, t, F => Nat.le_refl _
  | n + 1, t, F => by
    rw [failsF]
    split
    · omega
    · have := failsF_le (ok := ok) (f := f) (but := but) (n := n) (t := t + 1) (F := F + (if triedN f t = but then 0 else 1))
      split at this <;> split <;> omega
def readsR (z : ZZ) (p : Nat) : Int32 := if failsN z p = mN' z then -nI 1 else nI (failsN z p)
def feesI (z : ZZ) (F : Nat) : Int32 := z 4 * (if F < mN' z then nI F else nI F - nI 1)
def readsZ (z : ZZ) (p : Nat) : ZZ :=
  let z2 := upd (upd z (62 + p) (z (62 + p) + nI (failsN z p))) (70 + p) (z (70 + p) + feesI z (failsN z p))
  if failsN z p = mN' z then upd (upd z2 (30 + p) (nI 2)) 27 (z 27 + nI 1) else upd (upd z2 (54 + p) (z (54 + p) + nI 1)) (46 + p) (nI (triedN (favN z p) (failsN z p)))
/-- what the numbers of matches and favorites are -/
def MF (z : ZZ) : Prop := (z 8 = nI (mN' z) ∧ 1 ≤ mN' z ∧ mN' z ≤ 6) ∧ ∀ p, p < 8 → z (46 + p) = nI (favN z p) ∧ favN z p < mN' z
theorem triedN_lt {f t m : Nat} (hf : f < m) (ht : t < m) : triedN f t < m := by unfold triedN; split <;> (try split) <;> omega
section M2
variable {G : GG} {d : Nat} {h0 h : AH} {u : MS} {w : W3} {K : AO → AH → W3 → Prop}
theorem none_ne : ∀ m, m < 6 → (nI m = -nI 1 ↔ m = 99) := by
  intro m hm
  match m, hm with
  | 0, _ => decide
  | 1, _ => decide
  | 2, _ => decide
  | 3, _ => decide
  | 4, _ => decide
  | 5, _ => decide
  | m + 6, h => exact absurd h (by omega)
end M2

-- 15.model3.lean.txt
/-! ===== the model: writing, erasing, hours ===== -/
/-- the first i cells of the page p are what g says -/
def fillC (z : ZZ) (p : Nat) (g : Nat → Int32) (i : Nat) : ZZ := fun j => if 86 + 16 * p ≤ j ∧ j < 86 + 16 * p + i then g (j - (86 + 16 * p)) else z j
theorem fillC_0 {z : ZZ} {p : Nat} {g : Nat → Int32} : fillC z p g 0 = z := funext fun j => if_neg (by omega)
theorem fillC_s {z : ZZ} {p i : Nat} {g : Nat → Int32} {x : Int32} (hx : x = g i) : upd (fillC z p g i) (86 + 16 * p + i) x = fillC z p g (i + 1) := by
  funext j
  by_cases hj : j = 86 + 16 * p + i
  · subst hj
    rw [upd_eq, fillC, if_pos (by omega), hx]
    congr 1
    omega
  · rw [upd_ne hj, fillC, fillC]
    by_cases h1 : 86 + 16 * p ≤ j ∧ j < 86 + 16 * p + i
    · rw [if_pos h1, if_pos (by omega)]
    · rw [if_neg h1, if_neg (by omega)]
theorem fillC_out {z : ZZ} {p i j : Nat} {g : Nat → Int32} (h : j < 86 + 16 * p ∨ 86 + 16 * p + i ≤ j) : fillC z p g i j = z j := if_neg (by omega)
theorem fillC_in {z : ZZ} {p i c : Nat} {g : Nat → Int32} (h : c < i) : fillC z p g i (86 + 16 * p + c) = g c := by
  rw [fillC, if_pos (by omega)]
  congr 1
  omega
def distZ (z : ZZ) (p : Nat) : ZZ := if 0 < z (30 + p) then fillC z p (fun c => heldI (z (86 + 16 * p + c) + z 3)) 16 else z
def drawR (s many : Int32) : Int32 := s / nI 65536 - s / nI 65536 / many * many
def jitJ (z : ZZ) (p : Nat) : Int32 := z 0 + z 5 * z (28 + p / 4)
def wrLoop (z : ZZ) (p : Nat) (J : Int32) : Nat → ZZ
  | 0 => z
  | c + 1 => upd (upd (wrLoop z p J c) 7 (nextSeed (wrLoop z p J c 7))) (86 + 16 * p + c) (heldI (nI 50 + nI 100 * lvO (wrt (wrLoop z p J c) p c) + drawR (nextSeed (wrLoop z p J c 7)) (nI 2 * J + nI 1) - J))
def writesZ (z : ZZ) (p : Nat) (data : Int32) : ZZ :=
  let z1 := wrLoop (upd z (78 + p) data) p (jitJ z p) 16
  let z2 := if 0 < p % 4 then distZ z1 (p - 1) else z1
  let z3 := if p % 4 < 3 then distZ z2 (p + 1) else z2
  upd (upd (upd z3 (30 + p) (nI 1)) (38 + p) (z3 6)) (46 + p) (nI 0)
def erPage (z : ZZ) (p : Nat) : ZZ := fillC (upd (upd z (30 + p) (nI 0)) (78 + p) (nI 0)) p (fun _ => nI 0) 16
def erLoop (z : ZZ) (b : Nat) : Nat → ZZ
  | 0 => z
  | i + 1 => erPage (erLoop z b i) (4 * b + i)
def erasesZ (z : ZZ) (b : Nat) : ZZ := erLoop (upd z (28 + b) (z (28 + b) + nI 1)) b 4
def hrPage (z : ZZ) (p : Nat) : ZZ := if z (30 + p) = 0 then z else fillC z p (fun c => drI (permZ z p) (z (86 + 16 * p + c))) 16
def hrLoop (z : ZZ) : Nat → ZZ
  | 0 => z
  | p + 1 => hrPage (hrLoop z p) p
def hourZ (z : ZZ) : ZZ := upd (hrLoop z 8) 6 (hrLoop z 8 6 + nI 1)
def passZ (z : ZZ) : Nat → ZZ
  | 0 => z
  | n + 1 => hourZ (passZ z n)
section M3
variable {G : GG} {d : Nat} {h0 h : AH} {u : MS} {w : W3} {K : AO → AH → W3 → Prop}
theorem wr_78 {z : ZZ} {p : Nat} {J : Int32} (hp : p < 8) {j : Nat} (h7 : j ≠ 7) (hj : j < 86) : ∀ n, n ≤ 16 → wrLoop z p J n j = z j
  | 0, _ => rfl
  | n + 1, hn => by rw [wrLoop, upd_ne (by omega), upd_ne h7, wr_78 hp h7 hj n (by omega)]
end M3

-- 16.model4.lean.txt
/-! ===== the model: saved states, the public methods that write ===== -/
def pushL (L : List ZZ) (z : ZZ) : List ZZ := if L.length = 6 then L.tail ++ [z] else L ++ [z]
def inN (x : Int32) (n : Nat) : Prop := ∃ p, p < n ∧ x = nI p
theorem inN_of {x : Int32} {n : Nat} (hn : n < 2 ^ 31) (h1 : ¬ x < nI 0) (h2 : x < nI n) : inN x n := by
  rcases pk_ix x hn with h | h | h
  · exact absurd (by rw [nI_0]; exact h) h1
  · exact absurd h2 (Int32.not_lt.mpr h)
  · exact h
theorem inN_lt {x : Int32} {n : Nat} (hn : n < 2 ^ 31) (h : inN x n) : ¬ x < nI 0 ∧ x < nI n := by
  obtain ⟨p, hp, rfl⟩ := h
  exact ⟨by rw [nI_0]; exact nI_pos (by omega), (nI_ltI (by omega) hn).mpr hp⟩
theorem pushL_len {L : List ZZ} {z : ZZ} (h : L.length ≤ 6) : (pushL L z).length ≤ 6 := by
  unfold pushL
  split
  · simp; omega
  · simp; omega
section M4
variable {G : GG} {d : Nat} {h0 h : AH} {u : MS} {w : W3} {K : AO → AH → W3 → Prop}
abbrev offOK (x : Int32) : Prop := ¬ x < -nI 80 ∧ ¬ nI 80 < x
def fillH (hist z : ZZ) (S i : Nat) : ZZ := fun j => if 214 * S ≤ j ∧ j < 214 * S + i then z (j - 214 * S) else hist j
theorem fillH_0 {hist z : ZZ} {S : Nat} : fillH hist z S 0 = hist := funext fun j => if_neg (by omega)
theorem fillH_s {hist z : ZZ} {S i : Nat} : upd (fillH hist z S i) (214 * S + i) (z i) = fillH hist z S (i + 1) := by
  funext j
  by_cases hj : j = 214 * S + i
  · subst hj
    rw [upd_eq, fillH, if_pos (by omega)]
    congr 1
    omega
  · rw [upd_ne hj, fillH, fillH]
    by_cases h1 : 214 * S ≤ j ∧ j < 214 * S + i
    · rw [if_pos h1, if_pos (by omega)]
    · rw [if_neg h1, if_neg (by omega)]
def shH (hist : ZZ) (n : Nat) : ZZ := fun j => if j < n then hist (j + 214) else hist j
theorem shH_0 {hist : ZZ} : shH hist 0 = hist := funext fun j => if_neg (by omega)
theorem shH_s {hist : ZZ} {n : Nat} : upd (shH hist n) n (shH hist n (214 + n)) = shH hist (n + 1) := by
  funext j
  by_cases hj : j = n
  · subst hj
    rw [upd_eq, shH, shH, if_neg (by omega), if_pos (by omega), Nat.add_comm]
  · rw [upd_ne hj, shH, shH]
    by_cases h1 : j < n
    · rw [if_pos h1, if_pos (by omega)]
    · rw [if_neg h1, if_neg (by omega)]
end M4

-- 17.model5.lean.txt
/-! ===== what the calls answer, and the model's public methods that write ===== -/
/-- x is at most N -/
def bd (x : Int32) (N : Nat) : Prop := ∃ k, k ≤ N ∧ x = nI k
/-- what the number at the place j may be, after n readings -/
def PR (n j : Nat) (x : Int32) : Prop := if j < 6 then bd x ([60, 50, 8, 30, 100, 10].getD j 0) else if j = 7 then bd x 2147483647 else if 9 ≤ j ∧ j < 27 then offOK x else if 28 ≤ j ∧ j < 30 then bd x 100 else if 30 ≤ j ∧ j < 38 then bd x 2 else if 54 ≤ j ∧ j < 62 then bd x n else if 70 ≤ j ∧ j < 78 then bd x (500 * n) else if 86 ≤ j then bd x 450 else True
def Ivz (n : Nat) (z : ZZ) : Prop := (∀ j, j < 214 → PR n j (z j)) ∧ MF z
theorem PR_set {n j : Nat} {x : Int32} (h : j < 6) : PR n j x ↔ bd x ([60, 50, 8, 30, 100, 10].getD j 0) := by unfold PR; rw [if_pos h]
theorem PR_seed {n : Nat} {x : Int32} : PR n 7 x ↔ bd x 2147483647 := by unfold PR; rw [if_neg (by omega), if_pos rfl]
theorem PR_off {n j : Nat} {x : Int32} (h : 9 ≤ j ∧ j < 27) : PR n j x ↔ offOK x := by unfold PR; rw [if_neg (by omega), if_neg (by omega), if_pos h]
theorem PR_wear {n j : Nat} {x : Int32} (h : 28 ≤ j ∧ j < 30) : PR n j x ↔ bd x 100 := by unfold PR; rw [if_neg (by omega), if_neg (by omega), if_neg (by omega), if_pos h]
theorem PR_st {n j : Nat} {x : Int32} (h : 30 ≤ j ∧ j < 38) : PR n j x ↔ bd x 2 := by unfold PR; rw [if_neg (by omega), if_neg (by omega), if_neg (by omega), if_neg (by omega), if_pos h]
theorem PR_reads {n j : Nat} {x : Int32} (h : 54 ≤ j ∧ j < 62) : PR n j x ↔ bd x n := by unfold PR; rw [if_neg (by omega), if_neg (by omega), if_neg (by omega), if_neg (by omega), if_neg (by omega), if_pos h]
theorem PR_fees {n j : Nat} {x : Int32} (h : 70 ≤ j ∧ j < 78) : PR n j x ↔ bd x (500 * n) := by unfold PR; rw [if_neg (by omega), if_neg (by omega), if_neg (by omega), if_neg (by omega), if_neg (by omega), if_neg (by omega), if_pos h]
theorem PR_ch {n j : Nat} {x : Int32} (h : 86 ≤ j) : PR n j x ↔ bd x 450 := by unfold PR; rw [if_neg (by omega), if_neg (by omega), if_neg (by omega), if_neg (by omega), if_neg (by omega), if_neg (by omega), if_neg (by omega), if_pos h]
theorem PR_free {n j : Nat} {x : Int32} (h : j = 6 ∨ j = 8 ∨ j = 27 ∨ (38 ≤ j ∧ j < 54) ∨ (62 ≤ j ∧ j < 70) ∨ (78 ≤ j ∧ j < 86)) : PR n j x := by
  unfold PR
  rw [if_neg (by omega), if_neg (by omega), if_neg (by omega), if_neg (by omega), if_neg (by omega), if_neg (by omega), if_neg (by omega), if_neg (by omega)]
  trivial
theorem Ivz.s0 {n : Nat} {z : ZZ} (h : Ivz n z) : bd (z 0) 60 := (PR_set (by omega)).mp (h.1 0 (by omega))
theorem Ivz.s1 {n : Nat} {z : ZZ} (h : Ivz n z) : bd (z 1) 50 := (PR_set (by omega)).mp (h.1 1 (by omega))
theorem Ivz.s2 {n : Nat} {z : ZZ} (h : Ivz n z) : bd (z 2) 8 := (PR_set (by omega)).mp (h.1 2 (by omega))
theorem Ivz.s3 {n : Nat} {z : ZZ} (h : Ivz n z) : bd (z 3) 30 := (PR_set (by omega)).mp (h.1 3 (by omega))
theorem Ivz.s4 {n : Nat} {z : ZZ} (h : Ivz n z) : bd (z 4) 100 := (PR_set (by omega)).mp (h.1 4 (by omega))
theorem Ivz.s5 {n : Nat} {z : ZZ} (h : Ivz n z) : bd (z 5) 10 := (PR_set (by omega)).mp (h.1 5 (by omega))
theorem Ivz.seed {n : Nat} {z : ZZ} (h : Ivz n z) : bd (z 7) 2147483647 := PR_seed.mp (h.1 7 (by omega))
theorem Ivz.mf {n : Nat} {z : ZZ} (h : Ivz n z) : MF z := h.2
theorem Ivz.offs {n : Nat} {z : ZZ} (h : Ivz n z) (j : Nat) (hj : j < 18) : offOK (z (9 + j)) := (PR_off (by omega)).mp (h.1 _ (by omega))
theorem Ivz.wear {n : Nat} {z : ZZ} (h : Ivz n z) (b : Nat) (hb : b < 2) : bd (z (28 + b)) 100 := (PR_wear (by omega)).mp (h.1 _ (by omega))
theorem Ivz.st {n : Nat} {z : ZZ} (h : Ivz n z) (p : Nat) (hp : p < 8) : bd (z (30 + p)) 2 := (PR_st (by omega)).mp (h.1 _ (by omega))
theorem Ivz.reads {n : Nat} {z : ZZ} (h : Ivz n z) (p : Nat) (hp : p < 8) : bd (z (54 + p)) n := (PR_reads (by omega)).mp (h.1 _ (by omega))
theorem Ivz.fees {n : Nat} {z : ZZ} (h : Ivz n z) (p : Nat) (hp : p < 8) : bd (z (70 + p)) (500 * n) := (PR_fees (by omega)).mp (h.1 _ (by omega))
theorem Ivz.ch {n : Nat} {z : ZZ} (h : Ivz n z) (j : Nat) (hj : j < 128) : bd (z (86 + j)) 450 := (PR_ch (by omega)).mp (h.1 _ (by omega))
/-- the state of either side: the memory's numbers, the saved rows, the text -/
abbrev AS : Type := ZZ × List ZZ × List Int32
/-- what a call throws (0: nothing), answers and leaves -/
abbrev Ans : Type := Nat × Int32 × AS
abbrev rg (x : Int32) (n : Nat) : Prop := ¬ x < nI 0 ∧ x < nI n
theorem rg_yes {p n : Nat} (hp : p < n) (hn : n < 2 ^ 31) : rg (nI p) n := inN_lt hn ⟨p, hp, rfl⟩
theorem rg_no {x : Int32} {n : Nat} (hn : n < 2 ^ 31) (h : ¬ inN x n) : ¬ rg x n := fun q => h (inN_of hn q.1 q.2)
/-- the number of an int that is none below 0 -/
def ixN (x : Int32) : Nat := x.toNatClampNeg
theorem ixN_nI {p : Nat} (hp : p < 2 ^ 31) : ixN (nI p) = p := nI_clamp hp
def no (A : AS) (k : Nat) : Ans := (k, nI 0, A)
def aWrite (A : AS) (x y : Int32) : Ans := if rg x 8 then (if A.1 (30 + ixN x) = 0 then (0, sumN (chg (writesZ A.1 (ixN x) y) (ixN x)) 16, (writesZ A.1 (ixN x) y, pushL A.2.1 A.1, A.2.2)) else no A 2) else no A 1
def aRead (A : AS) (x : Int32) : Ans := if rg x 8 then (if A.1 (30 + ixN x) = nI 1 then (0, readsR A.1 (ixN x), (readsZ A.1 (ixN x), pushL A.2.1 A.1, A.2.2)) else no A 2) else no A 1
def aErase (A : AS) (x : Int32) : Ans := if rg x 2 then (if A.1 (28 + ixN x) < nI 100 then (0, erasesZ A.1 (ixN x) (28 + ixN x), (erasesZ A.1 (ixN x), pushL A.2.1 A.1, A.2.2)) else no A 2) else no A 1
def copyZ (z : ZZ) (p q : Nat) : ZZ := if readsR z p = -nI 1 then readsZ z p else writesZ (readsZ z p) q (readsZ z p (78 + p))
def aCopy (A : AS) (x y : Int32) : Ans := if rg x 8 ∧ rg y 8 then (if A.1 (30 + ixN x) = nI 1 ∧ A.1 (30 + ixN y) = 0 then (0, readsR A.1 (ixN x), (copyZ A.1 (ixN x) (ixN y), pushL A.2.1 A.1, A.2.2)) else no A 2) else no A 1
def aPass (A : AS) (x : Int32) : Ans := if ¬ x < nI 1 ∧ ¬ nI 100 < x then (0, passZ A.1 (ixN x) 6, (passZ A.1 (ixN x), pushL A.2.1 A.1, A.2.2)) else no A 1
def addZ (z : ZZ) (a b c : Int32) : ZZ := upd (upd (upd (upd z (9 + 3 * mN' z) a) (9 + 3 * mN' z + 1) b) (9 + 3 * mN' z + 2) c) 8 (z 8 + nI 1)
def aAdd (A : AS) (a b c : Int32) : Ans := if offOK a ∧ offOK b ∧ offOK c then (if A.1 8 = nI 6 then no A 2 else (0, A.1 8, (addZ A.1 a b c, pushL A.2.1 A.1, A.2.2))) else no A 1
def aSet (A : AS) (x y : Int32) : Ans := if rg x 6 then (if ¬ y < nI 0 ∧ ¬ nI ([60, 50, 8, 30, 100, 10].getD (ixN x) 0) < y then (0, A.1 (ixN x), (upd A.1 (ixN x) y, pushL A.2.1 A.1, A.2.2)) else no A 2) else no A 1
def aApp (A : AS) (x : Int32) : Ans := if ¬ x < nI 33 ∧ ¬ nI 126 < x then (if A.2.2.length = 60 then no A 2 else (0, nI (A.2.2.length + 1), (A.1, A.2.1, A.2.2 ++ [x]))) else no A 1
def aClear (A : AS) : Ans := (0, nI A.2.2.length, (A.1, A.2.1, []))
def aUndo (A : AS) : Ans := match A.2.1.getLast? with
  | none => no A 1
  | some r => (0, nI (A.2.1.length - 1), ((fun k => if k < 214 then r k else A.1 k), A.2.1.dropLast, A.2.2))
theorem bd_J {n : Nat} {z : ZZ} {p : Nat} (h : Ivz n z) (hp : p < 8) : ∃ J, J ≤ 1060 ∧ jitJ z p = nI J := by
  obtain ⟨a, ha, ea⟩ := h.s0
  obtain ⟨b, hb, eb⟩ := h.s5
  obtain ⟨c, hc, ec⟩ := h.wear (p / 4) (by omega)
  refine ⟨a + b * c, ?_, ?_⟩
  · have : b * c ≤ 10 * 100 := Nat.mul_le_mul hb hc
    omega
  · rw [jitJ, ea, eb, ec, pk_mul, nI_add]
theorem bd_J0 {n : Nat} {z : ZZ} {p : Nat} (h : Ivz n z) (hp : p < 8) : ¬ nI 2 * jitJ z p + nI 1 = 0 := by
  obtain ⟨J, hJ, e⟩ := bd_J h hp
  rw [e, pk_mul, nI_add, ← nI_0, nI_eq (by omega) (by omega)]
  omega
section M5
variable {G : GG} {d n : Nat} {h0 h : AH} {u : MS} {A : AS} {w : W3} {K : AO → AH → W3 → Prop}
theorem nI_le_ex {x : Int32} {N : Nat} (hN : N + 1 < 2 ^ 31) (h1 : ¬ x < nI 1) (h2 : ¬ nI N < x) : ∃ p, p ≤ N ∧ x = nI p := by
  rcases pk_ix x (show N + 1 < 2 ^ 31 from hN) with q | q | ⟨p, hp, rfl⟩
  · exact absurd (Int32.lt_trans q (by decide)) h1
  · exact absurd (Int32.lt_of_lt_of_le ((nI_ltI (by omega) hN).mpr (Nat.lt_succ_self N)) q) h2
  · exact ⟨p, by omega, rfl⟩
end M5

-- 18.model6.lean.txt
/-! ===== the model: matches, undo ===== -/
def remShift (z : ZZ) (a : Nat) : Nat → ZZ
  | 0 => z
  | i + 1 => upd (remShift z a i) (a + i) (remShift z a i (a + i + 3))
def remFav (m : Nat) (f : Int32) : Int32 := if f = nI m then nI 0 else if nI m < f then f - nI 1 else f
def remFavs (z : ZZ) (m : Nat) : Nat → ZZ
  | 0 => z
  | i + 1 => upd (remFavs z m i) (46 + i) (remFav m (remFavs z m i (46 + i)))
def remZ (z : ZZ) (m : Nat) : ZZ := remFavs (remShift (upd z 8 (nI (mN' z - 1))) (9 + 3 * m) (3 * (mN' z - 1) - 3 * m)) m 8
def aRem (A : AS) (x : Int32) : Ans := if rg x (mN' A.1) then (if mN' A.1 = 1 then no A 2 else (0, nI (mN' A.1 - 1), (remZ A.1 (ixN x), pushL A.2.1 A.1, A.2.2))) else no A 1
theorem remShift_8 {z : ZZ} {a : Nat} (ha : 9 ≤ a) : ∀ n, remShift z a n 8 = z 8
  | 0 => rfl
  | n + 1 => by rw [remShift, upd_ne (by omega), remShift_8 ha n]
theorem remFavs_8 {z : ZZ} {m : Nat} : ∀ n, remFavs z m n 8 = z 8
  | 0 => rfl
  | n + 1 => by rw [remFavs, upd_ne (by omega), remFavs_8 n]
section M6
variable {G : GG} {d n : Nat} {h0 h : AH} {u : MS} {A : AS} {w : W3} {K : AO → AH → W3 → Prop}
end M6

-- 19.model7.lean.txt
/-! ===== the model: what there is, and what would be ===== -/
def pgN (z : ZZ) (p : Nat) : Nat → Int32
  | 0 => z (30 + p)
  | 1 => if z (30 + p) = 0 then -nI 1 else z 6 - z (38 + p)
  | 2 => if z (30 + p) = nI 1 then z (46 + p) else -nI 1
  | 3 => z (54 + p)
  | 4 => z (62 + p)
  | 5 => z (70 + p)
  | _ => sumN (chg z p) 16
def cellN (z : ZZ) (p c q : Nat) : Int32 := if q = 0 then z (86 + 16 * p + c) else if q = 1 then (if z (30 + p) = 0 then -nI 1 else lvO (wrt z p c)) else if q - 10 < mN' z then rdBy z (z (86 + 16 * p + c)) (q - 10) else -nI 1
def cntP (z : ZZ) (s : Int32) : Nat → Nat
  | 0 => 0
  | p + 1 => cntP z s p + (if z (30 + p) = s then 1 else 0)
def cntN (z : ZZ) (S : Nat) : Nat → Int32
  | 0 => z 6
  | 1 => z 7
  | 2 => z 28
  | 3 => z 29
  | 4 => nI (cntP z (nI 1) 8)
  | 5 => nI (cntP z (nI 2) 8)
  | 6 => z 8
  | 7 => sumN (fun p => z (54 + p)) 8
  | 8 => sumN (fun p => z (62 + p)) 8
  | 9 => sumN (fun p => z (70 + p)) 8
  | 10 => z 27
  | _ => nI S
def wrN (z : ZZ) (p m : Nat) : Int32 := if z (30 + p) = 0 then -nI 1 else wrongN z (chg z p) p m
def ifrN (z : ZZ) (p q : Nat) : Int32 := if z (30 + p) = nI 1 then (if q = 0 then nI (failsN z p) else if q = 2 then feesI z (failsN z p) else if failsN z p = mN' z then -nI 1 else nI (triedN (favN z p) (failsN z p))) else -nI 1
def drN (perm q : Int32) : Nat → Int32
  | 0 => q
  | n + 1 => drI perm (drN perm q n)
abbrev lostB (z : ZZ) (p h : Nat) : Prop := failsF (okN z (fun c => drN (permZ z p) (chg z p c) h) p) (favN z p) 99 (mN' z) 0 0 = mN' z
def lifeF (z : ZZ) (p : Nat) : Nat → Nat → Int32
  | 0, _ => -nI 1
  | n + 1, h => if lostB z p h then nI h else lifeF z p n (h + 1)
def lifeN (z : ZZ) (p : Nat) : Int32 := if z (30 + p) = nI 1 then lifeF z p 301 0 else -nI 1
def wrongS (z : ZZ) (p : Nat) (s : Int32) : Int32 := sumN (fun c => onesB (btO (rdAs (chg z p c) s s s) ^^^ wrt z p c)) 16
def shOf (k : Nat) : Int32 := if k % 2 = 0 then nI (k / 2) else -nI (k / 2)
def shL (z : ZZ) (p : Nat) : Nat → Int32 × Int32
  | 0 => (nI 0, wrongS z p (nI 0))
  | i + 1 => if wrongS z p (shOf (i + 2)) < (shL z p i).2 then (shOf (i + 2), wrongS z p (shOf (i + 2))) else shL z p i
def shN (z : ZZ) (p q : Nat) : Int32 := if z (30 + p) = 0 then -nI 1 else if q = 0 then (shL z p 120).1 else (shL z p 120).2
def lostL (z : ZZ) (h : Nat) : Nat → Int32
  | 0 => nI 0
  | p + 1 => if z (30 + p) = nI 1 then lostL z h p ||| (if lostB z p h then nI 1 <<< (nI p &&& 31) else nI 0) else lostL z h p
def lwN (z : ZZ) (m : Nat) : Nat → Nat
  | 0 => 0
  | p + 1 => lwN z m p + (if z (30 + p) = nI 1 ∧ failsF (okN z (chg z p) p) (favN z p) m (mN' z) 0 0 = mN' z - 1 then 1 else 0)
def sprL (z : ZZ) : Nat → Int32 × Nat
  | 0 => (-nI 1, 99)
  | m + 1 => if lwN z m 8 < (sprL z m).2 then (nI m, lwN z m 8) else sprL z m
def sprN (z : ZZ) : Int32 := if mN' z = 1 then -nI 1 else (sprL z (mN' z)).1
abbrev ok (A : AS) (x : Int32) : Ans := (0, x, A)
def aPage (A : AS) (x y : Int32) : Ans := if rg x 8 then (if rg y 7 then ok A (pgN A.1 (ixN x) (ixN y)) else no A 2) else no A 1
def aData (A : AS) (x : Int32) : Ans := if rg x 8 then ok A (A.1 (78 + ixN x)) else no A 1
def aCell (A : AS) (x y v : Int32) : Ans := if rg x 8 ∧ rg y 16 then (if rg v 2 ∨ (¬ v < nI 10 ∧ ¬ nI 15 < v) then ok A (cellN A.1 (ixN x) (ixN y) (ixN v)) else no A 2) else no A 1
def aMatch (A : AS) (x y : Int32) : Ans := if rg x (mN' A.1) then (if rg y 3 then ok A (A.1 (9 + 3 * ixN x + ixN y)) else no A 2) else no A 1
def aCount (A : AS) (x : Int32) : Ans := if rg x 12 then ok A (cntN A.1 A.2.1.length (ixN x)) else no A 1
def aSetting (A : AS) (x : Int32) : Ans := if rg x 6 then ok A (A.1 (ixN x)) else no A 1
def aWrong (A : AS) (x y : Int32) : Ans := if rg x 8 ∧ rg y (mN' A.1) then ok A (wrN A.1 (ixN x) (ixN y)) else no A 1
def aIfRead (A : AS) (x y : Int32) : Ans := if rg x 8 then (if rg y 3 then ok A (ifrN A.1 (ixN x) (ixN y)) else no A 2) else no A 1
def aLife (A : AS) (x : Int32) : Ans := if rg x 8 then ok A (lifeN A.1 (ixN x)) else no A 1
def aShift (A : AS) (x y : Int32) : Ans := if rg x 8 then (if rg y 2 then ok A (shN A.1 (ixN x) (ixN y)) else no A 2) else no A 1
def aLost (A : AS) (x : Int32) : Ans := if rg x 301 then ok A (lostL A.1 (ixN x) 8) else no A 1
def aSpare (A : AS) : Ans := ok A (sprN A.1)
section M7
variable {G : GG} {d n : Nat} {h0 h : AH} {u : MS} {A : AS} {w : W3} {K : AO → AH → W3 → Prop}
end M7

-- 20.model8.lean.txt
/-! ===== the model: what would be, over hours, shifts and matches ===== -/
section M8
variable {G : GG} {d n : Nat} {h0 h : AH} {u : MS} {A : AS} {w : W3} {K : AO → AH → W3 → Prop}
theorem lost_congr {z q : ZZ} {p : Nat} {h : Nat} (hq : ∀ c, c < 16 → q c = drN (permZ z p) (chg z p c) h) : (failsF (okN z q p) (favN z p) 99 (mN' z) 0 0 = mN' z) = lostB z p h := by
  have e : okN z q p = okN z (fun c => drN (permZ z p) (chg z p c) h) p := okN_congr hq
  rw [e]
theorem lwN_le {z : ZZ} {m : Nat} : ∀ n, lwN z m n ≤ n
  | 0 => Nat.le_refl _
  | n + 1 => by
    have := lwN_le (z := z) (m := m) n
    rw [lwN]
    split <;> omega
theorem sprL_le {z : ZZ} : ∀ m, (sprL z m).2 ≤ 99
  | 0 => Nat.le_refl _
  | m + 1 => by
    have h1 := sprL_le (z := z) m
    have h2 := lwN_le (z := z) (m := m) 8
    rw [sprL]
    split
    · dsimp only; omega
    · exact h1
end M8

-- 21.model9.lean.txt
/-! ===== the model: the public methods that tell ===== -/
section M9
variable {G : GG} {d n : Nat} {h0 h : AH} {u : MS} {A : AS} {w : W3} {K : AO → AH → W3 → Prop}
end M9

-- 22.model10.lean.txt
/-! ===== the model: texts ===== -/
/-- a command: letter, number, word -/
abbrev CMD : Type := Int32 × Int32 × Int32
/-- what is due, the command under way, the commands that have ended -/
abbrev PS : Type := Nat × CMD × List CMD
abbrev inW (c lo hi : Int32) : Prop := ¬ c < lo ∧ ¬ hi < c
abbrev isE (s : PS) : Prop := s.1 = 12 ∨ (s.1 = 11 ∧ 0 < s.2.1.2.1)
def dgO (c : Int32) : Int32 := if inW c (nI 48) (nI 57) then c - nI 48 else if inW c (nI 97) (nI 102) then c - nI 97 + nI 10 else -nI 1
def tkR (s : PS) (c : Int32) : Option PS :=
  if c = nI 59 ∧ isE s then some (0, s.2.1, s.2.2 ++ [s.2.1])
  else if s.1 = 0 then (if c = nI 119 ∨ c = nI 114 ∨ c = nI 101 ∨ c = nI 104 then some ((if c = nI 104 then 11 else 1), (c, nI 0, nI 0), s.2.2) else none)
  else if s.1 = 1 then (if inW c (nI 48) (if s.2.1.1 = nI 101 then nI 49 else nI 55) then some ((if s.2.1.1 = nI 119 then 2 else 12), (s.2.1.1, c - nI 48, s.2.1.2.2), s.2.2) else none)
  else if s.1 = 2 then (if c = nI 61 then some (3, s.2.1, s.2.2) else none)
  else if s.1 = 11 then (if inW c (nI 48) (nI 57) ∧ inW (nI 10 * s.2.1.2.1 + c - nI 48) (nI 1) (nI 100) then some (11, (s.2.1.1, nI 10 * s.2.1.2.1 + c - nI 48, s.2.1.2.2), s.2.2) else none)
  else if s.1 = 12 then none
  else if dgO c = -nI 1 then none else some ((if s.1 = 10 then 12 else s.1 + 1), (s.2.1.1, s.2.1.2.1, s.2.1.2.2 <<< (nI 4 &&& 31) ||| dgO c), s.2.2)
def RP (parts : ZZ) (rd du : Int32) (s : PS) : Prop := rd = nI s.2.2.length ∧ du = nI s.1 ∧ s.1 ≤ 12 ∧ (∀ i cmd, s.2.2[i]? = some cmd → parts (3 * i) = cmd.1 ∧ parts (3 * i + 1) = cmd.2.1 ∧ parts (3 * i + 2) = cmd.2.2) ∧ (s.1 ≠ 0 → parts (3 * s.2.2.length) = s.2.1.1 ∧ parts (3 * s.2.2.length + 1) = s.2.1.2.1 ∧ parts (3 * s.2.2.length + 2) = s.2.1.2.2)
section M10
variable {G : GG} {d n : Nat} {h0 h : AH} {u : MS} {A : AS} {w : W3} {K : AO → AH → W3 → Prop}
theorem RP_cur {p' q' : ZZ} {R D : Nat} {cm : CMD} {dn : List CMD} (hR : R = dn.length) (hD : D ≤ 12) (hdone : ∀ i cmd, dn[i]? = some cmd → p' (3 * i) = cmd.1 ∧ p' (3 * i + 1) = cmd.2.1 ∧ p' (3 * i + 2) = cmd.2.2) (hq : ∀ j, j < 3 * R → q' j = p' j) (hc : D ≠ 0 → q' (3 * R) = cm.1 ∧ q' (3 * R + 1) = cm.2.1 ∧ q' (3 * R + 2) = cm.2.2) : RP q' (nI R) (nI D) (D, cm, dn) := by
  subst hR
  refine ⟨rfl, rfl, hD, fun i cmd hi => ?_, hc⟩
  have hl : i < dn.length := (List.getElem?_eq_some_iff.mp hi).1
  rw [hq _ (by omega), hq _ (by omega), hq _ (by omega)]
  exact hdone i cmd hi
end M10

-- 23.model11.lean.txt
/-! ===== the model: a text read through ===== -/
def prsN : PS → List Int32 → Nat
  | _, [] => 0
  | s, c :: t => match tkR s c with
    | none => 0
    | some s' => prsN s' t + 1
def prsS : PS → List Int32 → Option PS
  | s, [] => some s
  | s, c :: t => match tkR s c with
    | none => none
    | some s' => prsS s' t
def ps0 : PS := (0, (nI 0, nI 0, nI 0), [])
def pw (s : PS) : Nat := if s.1 = 0 then 0 else if s.1 = 1 ∨ (s.1 = 11 ∧ ¬ 0 < s.2.1.2.1) then 1 else 2
theorem prs_all : ∀ {t : List Int32} {s s' : PS}, prsS s t = some s' → prsN s t = t.length
  | [], _, _, _ => rfl
  | c :: t, s, s', h => by
    rw [prsS] at h
    rw [prsN]
    cases hk : tkR s c with
    | none => rw [hk] at h; cases h
    | some s1 => rw [hk] at h; simp [prs_all h]
theorem prs_less : ∀ {t : List Int32} {s : PS}, prsS s t = none → prsN s t < t.length
  | [], _, h => by cases h
  | c :: t, s, h => by
    rw [prsS] at h
    rw [prsN]
    cases hk : tkR s c with
    | none => simp
    | some s1 =>
      rw [hk] at h
      have := prs_less h
      simp
      exact this
theorem prsN_le : ∀ {t : List Int32} {s : PS}, prsN s t ≤ t.length
  | [], _ => Nat.le_refl _
  | c :: t, s => by
    rw [prsN]
    cases hk : tkR s c with
    | none => simp
    | some s1 => simp [prsN_le]
theorem tk_wt {s s' : PS} {c : Int32} (h : tkR s c = some s') : 3 * s'.2.2.length + pw s' ≤ 3 * s.2.2.length + pw s + 1 := by
  obtain ⟨D, ⟨lt, nm, wd⟩, dn⟩ := s
  unfold tkR at h
  dsimp only at h
  by_cases h59 : c = nI 59 ∧ isE (D, (lt, nm, wd), dn)
  · rw [if_pos h59] at h
    cases h
    have e : pw (D, (lt, nm, wd), dn) = 2 := by
      rcases h59.2 with e | ⟨e, e'⟩
      · dsimp only at e
        subst e
        rfl
      · dsimp only at e e'
        subst e
        simp [pw, e']
    rw [e]
    simp [pw]
    omega
  · rw [if_neg h59] at h
    by_cases h0 : D = 0
    · subst h0
      rw [if_pos rfl] at h
      split at h
      · cases h
        split <;> simp [pw, nI_0]
      · cases h
    rw [if_neg h0] at h
    by_cases h1 : D = 1
    · subst h1
      rw [if_pos rfl] at h
      by_cases hq : inW c (nI 48) (if lt = nI 101 then nI 49 else nI 55)
      · rw [if_pos hq] at h
        cases h
        split <;> simp [pw]
      · rw [if_neg hq] at h
        cases h
    rw [if_neg h1] at h
    by_cases h2 : D = 2
    · subst h2
      rw [if_pos rfl] at h
      split at h
      · cases h
        simp [pw]
      · cases h
    rw [if_neg h2] at h
    by_cases h11 : D = 11
    · subst h11
      rw [if_pos rfl] at h
      split at h
      · cases h
        simp [pw]
        split <;> split <;> omega
      · cases h
    rw [if_neg h11] at h
    by_cases h12 : D = 12
    · rw [if_pos h12] at h
      cases h
    rw [if_neg h12] at h
    split at h
    · cases h
    · cases h
      have e : pw (D, (lt, nm, wd), dn) = 2 := by
        rw [pw, if_neg h0, if_neg (by rintro (q | q); (· exact h1 q); exact h11 q.1)]
      rw [e]
      have : ∀ s : PS, pw s ≤ 2 := fun s => by unfold pw; split <;> (try split) <;> omega
      have := this (if D = 10 then 12 else D + 1, (lt, nm, wd <<< (nI 4 &&& 31) ||| dgO c), dn)
      dsimp only
      omega
def aErr (A : AS) : Ans := ok A (nI (prsN ps0 A.2.2))
section M11
variable {G : GG} {d n : Nat} {h0 h : AH} {u : MS} {A : AS} {w : W3} {K : AO → AH → W3 → Prop}
end M11

-- 24.inv.lean.txt
/-! ===== what the calls leave: bounds ===== -/
theorem bd.mono {x : Int32} {a b : Nat} (h : bd x a) (hab : a ≤ b) : bd x b := by
  obtain ⟨k, hk, e⟩ := h
  exact ⟨k, by omega, e⟩
theorem bd_nI {a b : Nat} (h : a ≤ b) : bd (nI a) b := ⟨a, h, rfl⟩
theorem bd_pos {x : Int32} (h : 0 ≤ x) : bd x 2147483647 := by
  rcases pk_ix x (show 2147483647 < 2 ^ 31 by decide) with q | q | ⟨p, hp, rfl⟩
  · exact absurd h (Int32.not_le.mpr q)
  · rcases pk_ix x (n := 0) (by decide) with r | r | r
    · exact absurd h (Int32.not_le.mpr r)
    · have e := i32_ge0 (z := x) (Int32.not_lt.mpr h)
      refine ⟨x.toNatClampNeg, ?_, ?_⟩
      · have := Int32.toInt_lt x
        omega
      · apply Int32.toInt_inj.mp
        have := Int32.toInt_lt x
        rw [i32_ge0 (nI_pos (n := x.toNatClampNeg) (by omega)), nI_clamp (by omega), e]
    · obtain ⟨p, hp, _⟩ := r
      omega
  · exact bd_nI (by omega)
theorem PR.mono {n m j : Nat} {x : Int32} (h : PR n j x) (hnm : n ≤ m) : PR m j x := by
  by_cases h1 : 54 ≤ j ∧ j < 62
  · exact (PR_reads h1).mpr (((PR_reads h1).mp h).mono hnm)
  · by_cases h2 : 70 ≤ j ∧ j < 78
    · exact (PR_fees h2).mpr (((PR_fees h2).mp h).mono (by omega))
    · unfold PR at h ⊢
      rw [if_neg h1, if_neg h2] at h ⊢
      exact h
theorem Ivz.mono {n m : Nat} {z : ZZ} (h : Ivz n z) (hnm : n ≤ m) : Ivz m z := ⟨fun j hj => (h.1 j hj).mono hnm, h.2⟩
theorem MF_congr {z z' : ZZ} (h : MF z) (h8 : z' 8 = z 8) (hf : ∀ p, p < 8 → z' (46 + p) = z (46 + p)) : MF z' := by
  have e : mN' z' = mN' z := by unfold mN'; rw [h8]
  refine ⟨by rw [e, h8]; exact h.1, fun p hp => ?_⟩
  have e2 : favN z' p = favN z p := by unfold favN; rw [hf p hp]
  rw [e, e2, hf p hp]
  exact h.2 p hp
/-- a change of one number that is neither the number of matches nor a favorite -/
theorem ivz_upd {n k : Nat} {z : ZZ} {x : Int32} (h : Ivz n z) (hk : k ≠ 8) (hk2 : k < 46 ∨ 54 ≤ k) (hx : PR n k x) : Ivz n (upd z k x) := by
  refine ⟨fun j hj => ?_, MF_congr h.2 (upd_ne (by omega)) (fun p hp => upd_ne (by omega))⟩
  by_cases e : j = k
  · subst e
    rw [upd_eq]
    exact hx
  · rw [upd_ne e]
    exact h.1 j hj
theorem ivz_fav {n p f : Nat} {z : ZZ} (h : Ivz n z) (hp : p < 8) (hf : f < mN' z) : Ivz n (upd z (46 + p) (nI f)) := by
  obtain ⟨h1, ⟨hM, hM1, hM6⟩, hF⟩ := h
  have e : mN' (upd z (46 + p) (nI f)) = mN' z := by unfold mN'; rw [upd_ne (by omega)]
  refine ⟨fun j hj => ?_, ⟨?_, ?_, ?_⟩, fun q hq => ?_⟩
  · by_cases ej : j = 46 + p
    · subst ej
      exact PR_free (by omega)
    · rw [upd_ne ej]
      exact h1 j hj
  · rw [e, upd_ne (by omega)]
    exact hM
  · rw [e]; exact hM1
  · rw [e]; exact hM6
  · rw [e]
    unfold favN
    by_cases eq : q = p
    · subst eq
      rw [upd_eq, nI_clamp (by omega)]
      exact ⟨rfl, hf⟩
    · rw [upd_ne (by omega)]
      exact hF q hq
theorem held_bd {v : Int32} : bd (heldI v) 450 := by
  unfold heldI
  split
  · split
    · obtain ⟨k, hk, e⟩ := bd_pos (x := v) (by assumption)
      subst e
      have hv : nI k ≤ nI 450 := by assumption
      rw [nI_leI (by omega) (by omega)] at hv
      exact bd_nI hv
    · exact bd_nI (by omega)
  · exact bd_nI (by omega)
theorem ivz_fill {n p i : Nat} {z : ZZ} {g : Nat → Int32} (h : Ivz n z) (hp : p < 8) (hg : ∀ c, c < i → bd (g c) 450) : Ivz n (fillC z p g i) := by
  refine ⟨fun j hj => ?_, MF_congr h.2 (fillC_out (by omega)) (fun q hq => fillC_out (by omega))⟩
  by_cases hj2 : 86 + 16 * p ≤ j ∧ j < 86 + 16 * p + i
  · rw [fillC, if_pos hj2]
    exact (PR_ch (by omega)).mpr (hg _ (by omega))
  · rw [fillC, if_neg hj2]
    exact h.1 j hj
theorem ivz_dist {n p : Nat} {z : ZZ} (h : Ivz n z) (hp : p < 8) : Ivz n (distZ z p) := by
  unfold distZ
  split
  · exact ivz_fill h hp fun c hc => held_bd
  · exact h
theorem and31 (y : Int64) : (y &&& 2147483647).toInt = ((y.toBitVec.toNat &&& 2147483647 : Nat) : Int) := by
  have hle : y.toBitVec.toNat &&& 2147483647 ≤ 2147483647 := Nat.and_le_right
  have h2 : (y &&& 2147483647).toBitVec.toNat = y.toBitVec.toNat &&& 2147483647 := by
    rw [Int64.toBitVec_and, BitVec.toNat_and]
    rfl
  show (y &&& 2147483647).toBitVec.toInt = _
  rw [BitVec.toInt_eq_toNat_cond, h2, if_pos (by omega)]
theorem seed_pos {s : Int32} : 0 ≤ nextSeed s := by
  unfold nextSeed
  generalize (1103515245 : Int64) * s.toInt64 + (12345 : Int64) = y
  have hle : y.toBitVec.toNat &&& 2147483647 ≤ 2147483647 := Nat.and_le_right
  rw [Int32.le_iff_toInt_le, Int64.toInt_toInt32, and31, Int.bmod_eq_of_le (by omega) (by omega)]
  show (0 : Int) ≤ _
  omega
theorem ivz_wrLoop {n p : Nat} {z : ZZ} {J : Int32} (h : Ivz n z) (hp : p < 8) : ∀ c, c ≤ 16 → Ivz n (wrLoop z p J c)
  | 0, _ => h
  | c + 1, hc => ivz_upd (ivz_upd (ivz_wrLoop h hp c (by omega)) (by omega) (by omega) (PR_seed.mpr (bd_pos seed_pos))) (by omega) (by omega) ((PR_ch (by omega)).mpr held_bd)
theorem ivz_writes {n p : Nat} {z : ZZ} {x : Int32} (h : Ivz n z) (hp : p < 8) : Ivz n (writesZ z p x) := by
  have h1 := ivz_wrLoop (J := jitJ z p) (ivz_upd (k := 78 + p) (x := x) h (by omega) (by omega) (PR_free (by omega))) hp 16 (Nat.le_refl _)
  have h2 : Ivz n (if 0 < p % 4 then distZ (wrLoop (upd z (78 + p) x) p (jitJ z p) 16) (p - 1) else wrLoop (upd z (78 + p) x) p (jitJ z p) 16) := by
    split
    · exact ivz_dist h1 (by omega)
    · exact h1
  unfold writesZ
  dsimp only
  generalize (if 0 < p % 4 then distZ (wrLoop (upd z (78 + p) x) p (jitJ z p) 16) (p - 1) else wrLoop (upd z (78 + p) x) p (jitJ z p) 16) = z2 at h2 ⊢
  have h3 : Ivz n (if p % 4 < 3 then distZ z2 (p + 1) else z2) := by
    split
    · exact ivz_dist h2 (by omega)
    · exact h2
  generalize (if p % 4 < 3 then distZ z2 (p + 1) else z2) = z3 at h3 ⊢
  have h4 := ivz_upd (k := 38 + p) (x := z3 6) (ivz_upd (k := 30 + p) (x := nI 1) h3 (by omega) (by omega) ((PR_st (by omega)).mpr (bd_nI (by omega)))) (by omega) (by omega) (PR_free (by omega))
  exact ivz_fav h4 hp (by have := h4.2.1.2.1; omega)
theorem ivz_erPage {n p : Nat} {z : ZZ} (h : Ivz n z) (hp : p < 8) : Ivz n (erPage z p) :=
  ivz_fill (ivz_upd (ivz_upd h (by omega) (by omega) ((PR_st (by omega)).mpr (bd_nI (by omega)))) (by omega) (by omega) (PR_free (by omega))) hp fun c hc => bd_nI (by omega)
theorem ivz_erLoop {n b : Nat} {z : ZZ} (h : Ivz n z) (hb : b < 2) : ∀ i, i ≤ 4 → Ivz n (erLoop z b i)
  | 0, _ => h
  | i + 1, hi => ivz_erPage (ivz_erLoop h hb i (by omega)) (by omega)
theorem ivz_erases {n b : Nat} {z : ZZ} (h : Ivz n z) (hb : b < 2) (hw : z (28 + b) < nI 100) : Ivz n (erasesZ z b) := by
  refine ivz_erLoop (ivz_upd h (by omega) (by omega) ((PR_wear (by omega)).mpr ?_)) hb 4 (Nat.le_refl _)
  obtain ⟨k, hk, e⟩ := h.wear b hb
  rw [e] at hw ⊢
  rw [nI_ltI (by omega) (by omega)] at hw
  rw [nI_add]
  exact bd_nI (by omega)
theorem perm_bd {n p : Nat} {z : ZZ} (h : Ivz n z) (hp : p < 8) : bd (permZ z p) 150 := by
  obtain ⟨a, ha, ea⟩ := h.s1
  obtain ⟨b, hb, eb⟩ := h.wear (p / 4) (by omega)
  rw [permZ, ea, eb, nI_add]
  exact bd_nI (by omega)
theorem dr_nI {k m : Nat} (hk : k ≤ 450) (hm : m ≤ 150) : drI (nI m) (nI k) = nI (k - k * m / 1000) := by
  have h1 : k * m ≤ 450 * 150 := Nat.mul_le_mul hk hm
  have h2 : k * m / 1000 ≤ k := by
    have h3 : k * m ≤ k * 150 := Nat.mul_le_mul_left k hm
    omega
  rw [drI, pk_mul, pk_div (by omega) (by omega) (by omega), pk_sub h2]
theorem dr_bd {perm q : Int32} (hp : bd perm 150) (hq : bd q 450) : bd (drI perm q) 450 := by
  obtain ⟨m, hm, rfl⟩ := hp
  obtain ⟨k, hk, rfl⟩ := hq
  rw [dr_nI hk hm]
  exact bd_nI (by omega)
theorem ivz_hrPage {n p : Nat} {z : ZZ} (h : Ivz n z) (hp : p < 8) : Ivz n (hrPage z p) := by
  unfold hrPage
  split
  · exact h
  · refine ivz_fill h hp fun c hc => dr_bd (perm_bd h hp) ?_
    have := h.ch (16 * p + c) (by omega)
    rw [show 86 + (16 * p + c) = 86 + 16 * p + c by omega] at this
    exact this
theorem ivz_hrLoop {n : Nat} {z : ZZ} (h : Ivz n z) : ∀ p, p ≤ 8 → Ivz n (hrLoop z p)
  | 0, _ => h
  | p + 1, hp => ivz_hrPage (ivz_hrLoop h p (by omega)) (by omega)
theorem ivz_hour {n : Nat} {z : ZZ} (h : Ivz n z) : Ivz n (hourZ z) := ivz_upd (ivz_hrLoop h 8 (Nat.le_refl _)) (by omega) (by omega) (PR_free (by omega))
theorem ivz_pass {n : Nat} {z : ZZ} (h : Ivz n z) : ∀ k, Ivz n (passZ z k)
  | 0 => h
  | k + 1 => ivz_hour (ivz_pass h k)
theorem failsN_le {z : ZZ} {p : Nat} : failsN z p ≤ mN' z := by
  have := failsF_le (ok := okN z (chg z p) p) (f := favN z p) (but := 99) (n := mN' z) (t := 0) (F := 0)
  unfold failsN
  omega
theorem fees_bd {n p : Nat} {z : ZZ} (h : Ivz n z) : bd (feesI z (failsN z p)) 500 := by
  obtain ⟨a, ha, ea⟩ := h.s4
  have h1 := failsN_le (z := z) (p := p)
  obtain ⟨_, hM1, hM6⟩ := h.2.1
  unfold feesI
  rw [ea]
  split
  · rw [pk_mul]
    have : a * failsN z p ≤ 100 * 5 := Nat.mul_le_mul ha (by omega)
    exact bd_nI (by omega)
  · rw [pk_sub (by omega), pk_mul]
    have : a * (failsN z p - 1) ≤ 100 * 5 := Nat.mul_le_mul ha (by omega)
    exact bd_nI (by omega)
theorem ivz_reads {n p : Nat} {z : ZZ} (h : Ivz n z) (hp : p < 8) : Ivz (n + 1) (readsZ z p) := by
  obtain ⟨a, ha, ea⟩ := h.fees p hp
  obtain ⟨b, hb, eb⟩ := fees_bd (p := p) h
  obtain ⟨c, hc, ec⟩ := h.reads p hp
  have h2 := ivz_upd (k := 70 + p) (x := z (70 + p) + feesI z (failsN z p)) (ivz_upd (k := 62 + p) (x := z (62 + p) + nI (failsN z p)) (h.mono (Nat.le_succ n)) (by omega) (by omega) (PR_free (by omega))) (by omega) (by omega) ((PR_fees (by omega)).mpr (by rw [ea, eb, nI_add]; exact bd_nI (by omega)))
  unfold readsZ
  dsimp only
  have hm : mN' (upd (upd z (62 + p) (z (62 + p) + nI (failsN z p))) (70 + p) (z (70 + p) + feesI z (failsN z p))) = mN' z := by
    unfold mN'
    rw [upd_ne (by omega), upd_ne (by omega)]
  generalize upd (upd z (62 + p) (z (62 + p) + nI (failsN z p))) (70 + p) (z (70 + p) + feesI z (failsN z p)) = z2 at h2 hm ⊢
  split
  · exact ivz_upd (ivz_upd h2 (by omega) (by omega) ((PR_st (by omega)).mpr (bd_nI (by omega)))) (by omega) (by omega) (PR_free (by omega))
  · have hlt : failsN z p < mN' z := by
      have := failsN_le (z := z) (p := p)
      omega
    refine ivz_fav (ivz_upd h2 (by omega) (by omega) ((PR_reads (by omega)).mpr (by rw [ec, nI_add]; exact bd_nI (by omega)))) hp ?_
    have : mN' (upd z2 (54 + p) (z (54 + p) + nI 1)) = mN' z := by
      rw [← hm]
      unfold mN'
      rw [upd_ne (by omega)]
    rw [this]
    exact triedN_lt (h.2.2 p hp).2 hlt
theorem rg_bd {x : Int32} {N : Nat} (hN : N + 1 < 2 ^ 31) (h1 : ¬ x < nI 0) (h2 : ¬ nI N < x) : bd x N := by
  rcases pk_ix x hN with q | q | ⟨p, hp, rfl⟩
  · exact absurd (by rw [nI_0]; exact q) h1
  · exact absurd (Int32.lt_of_lt_of_le ((nI_ltI (by omega) hN).mpr (Nat.lt_succ_self N)) q) h2
  · exact bd_nI (by omega)
theorem ivz_set {n p : Nat} {z : ZZ} {y : Int32} (h : Ivz n z) (hp : p < 6) (h1 : ¬ y < nI 0) (h2 : ¬ nI ([60, 50, 8, 30, 100, 10].getD p 0) < y) : Ivz n (upd z p y) := by
  refine ivz_upd h (by omega) (by omega) ((PR_set hp).mpr (rg_bd ?_ h1 h2))
  match p, hp with
  | 0, _ => decide
  | 1, _ => decide
  | 2, _ => decide
  | 3, _ => decide
  | 4, _ => decide
  | 5, _ => decide
  | p + 6, h => exact absurd h (by omega)
/-- a change of the number of matches, with its favorites below it -/
theorem ivz_M {n N : Nat} {z : ZZ} (h : ∀ j, j < 214 → PR n j (z j)) (h1 : 1 ≤ N) (h6 : N ≤ 6) (h8 : z 8 = nI N) (hf : ∀ p, p < 8 → ∃ f, f < N ∧ z (46 + p) = nI f) : Ivz n z := by
  have e : mN' z = N := by unfold mN'; rw [h8, nI_clamp (by omega)]
  refine ⟨h, ⟨by rw [e, h8], by omega, by omega⟩, fun p hp => ?_⟩
  obtain ⟨f, hf1, hf2⟩ := hf p hp
  have e2 : favN z p = f := by unfold favN; rw [hf2, nI_clamp (by omega)]
  rw [e2, e, hf2]
  exact ⟨rfl, hf1⟩
theorem ivz_add {n : Nat} {z : ZZ} {a b c : Int32} (h : Ivz n z) (ha : offOK a) (hb : offOK b) (hc : offOK c) (h6 : ¬ z 8 = nI 6) : Ivz n (addZ z a b c) := by
  obtain ⟨h1, ⟨hM, hM1, hM6⟩, hF⟩ := id h
  have hM5 : mN' z ≤ 5 := by
    rcases Nat.lt_or_ge (mN' z) 6 with q | q
    · omega
    · exact absurd (by rw [hM]; congr 1; omega) h6
  have h2 := ivz_upd (k := 9 + 3 * mN' z + 2) (x := c) (ivz_upd (k := 9 + 3 * mN' z + 1) (x := b) (ivz_upd (k := 9 + 3 * mN' z) (x := a) h (by omega) (by omega) ((PR_off (by omega)).mpr ha)) (by omega) (by omega) ((PR_off (by omega)).mpr hb)) (by omega) (by omega) ((PR_off (by omega)).mpr hc)
  refine ivz_M (N := mN' z + 1) (fun j hj => ?_) (by omega) (by omega) ?_ (fun p hp => ?_)
  · unfold addZ
    by_cases ej : j = 8
    · subst ej
      exact PR_free (by omega)
    · rw [upd_ne ej]
      exact h2.1 j hj
  · unfold addZ
    rw [upd_eq, hM, nI_add]
  · unfold addZ
    rw [upd_ne (by omega), upd_ne (by omega), upd_ne (by omega), upd_ne (by omega)]
    exact ⟨favN z p, by have := (hF p hp).2; omega, (hF p hp).1⟩
theorem remShift_out {z : ZZ} {a j : Nat} : ∀ n, (j < a ∨ a + n ≤ j) → remShift z a n j = z j
  | 0, _ => rfl
  | n + 1, h => by rw [remShift, upd_ne (by omega), remShift_out n (by omega)]
theorem remShift_PR {z : ZZ} {a m : Nat} (ha : 9 ≤ a) (h : ∀ j, j < 214 → PR m j (z j)) : ∀ n, a + n + 3 ≤ 27 → ∀ j, j < 214 → PR m j (remShift z a n j)
  | 0, _ => h
  | n + 1, hn => by
    intro j hj
    rw [remShift]
    by_cases ej : j = a + n
    · subst ej
      rw [upd_eq]
      have := remShift_PR ha h n (by omega) (a + n + 3) (by omega)
      exact (PR_off (by omega)).mpr ((PR_off (by omega)).mp this)
    · rw [upd_ne ej]
      exact remShift_PR ha h n (by omega) j hj
theorem remFavs_at {z : ZZ} {m j : Nat} : ∀ n, remFavs z m n j = if 46 ≤ j ∧ j < 46 + n then remFav m (z j) else z j
  | 0 => by rw [if_neg (by omega)]; rfl
  | n + 1 => by
    rw [remFavs]
    by_cases ej : j = 46 + n
    · subst ej
      rw [upd_eq, remFavs_at n, if_neg (by omega), if_pos (by omega)]
    · rw [upd_ne ej, remFavs_at n]
      by_cases h : 46 ≤ j ∧ j < 46 + n
      · rw [if_pos h, if_pos (by omega)]
      · rw [if_neg h, if_neg (by omega)]
theorem ivz_rem {n m : Nat} {z : ZZ} (h : Ivz n z) (hm : m < mN' z) (h1 : ¬ mN' z = 1) : Ivz n (remZ z m) := by
  obtain ⟨hp1, ⟨hM, hM1, hM6⟩, hF⟩ := id h
  have hz : ∀ j, j < 214 → PR n j (upd z 8 (nI (mN' z - 1)) j) := fun j hj => by
    by_cases ej : j = 8
    · subst ej
      exact PR_free (by omega)
    · rw [upd_ne ej]
      exact hp1 j hj
  have h2 := remShift_PR (a := 9 + 3 * m) (by omega) hz (3 * (mN' z - 1) - 3 * m) (by omega)
  have h3 : ∀ j, (j < 9 + 3 * m ∨ 9 + 3 * m + (3 * (mN' z - 1) - 3 * m) ≤ j) → remShift (upd z 8 (nI (mN' z - 1))) (9 + 3 * m) (3 * (mN' z - 1) - 3 * m) j = upd z 8 (nI (mN' z - 1)) j := fun j hj => remShift_out _ hj
  refine ivz_M (N := mN' z - 1) (fun j hj => ?_) (by omega) (by omega) ?_ (fun p hp => ?_)
  · unfold remZ
    rw [remFavs_at]
    split
    · exact PR_free (by omega)
    · exact h2 j hj
  · unfold remZ
    rw [remFavs_at, if_neg (by omega), h3 _ (by omega), upd_eq]
  · unfold remZ
    rw [remFavs_at, if_pos (by omega), h3 _ (by omega), upd_ne (by omega)]
    obtain ⟨ef, hf⟩ := hF p hp
    rw [ef]
    unfold remFav
    by_cases e1 : favN z p = m
    · rw [if_pos (by rw [e1])]
      exact ⟨0, by omega, rfl⟩
    · rw [if_neg (by rw [nI_eq (by omega) (by omega)]; exact e1)]
      by_cases e2 : m < favN z p
      · rw [if_pos ((nI_ltI (by omega) (by omega)).mpr e2), pk_sub (by omega)]
        exact ⟨favN z p - 1, by omega, rfl⟩
      · rw [if_neg (by rw [nI_ltI (by omega) (by omega)]; exact e2)]
        exact ⟨favN z p, by omega, rfl⟩
theorem ivz_same {n : Nat} {z z' : ZZ} (h : Ivz n z) (he : ∀ k, k < 214 → z' k = z k) : Ivz n z' :=
  ⟨fun j hj => by rw [he j hj]; exact h.1 j hj, MF_congr h.2 (he 8 (by omega)) fun p hp => he _ (by omega)⟩
/-- the invariant of a state: after n readings at most -/
def IA (n : Nat) (A : AS) : Prop := Ivz n A.1 ∧ (∀ r, r ∈ A.2.1 → Ivz n r) ∧ A.2.1.length ≤ 6 ∧ A.2.2.length ≤ 60 ∧ ∀ c, c ∈ A.2.2 → inW c (nI 33) (nI 126)
theorem push_mem {L : List ZZ} {z r : ZZ} (h : r ∈ pushL L z) : r ∈ L ∨ r = z := by
  unfold pushL at h
  split at h
  · rcases List.mem_append.mp h with q | q
    · exact Or.inl (List.mem_of_mem_tail q)
    · exact Or.inr (by simpa using q)
  · rcases List.mem_append.mp h with q | q
    · exact Or.inl q
    · exact Or.inr (by simpa using q)
theorem IA.mono {n m : Nat} {A : AS} (h : IA n A) (hnm : n ≤ m) : IA m A := ⟨h.1.mono hnm, fun r hr => (h.2.1 r hr).mono hnm, h.2.2⟩
theorem IA.push {n m : Nat} {A : AS} {z' : ZZ} (h : IA n A) (hnm : n ≤ m) (hz : Ivz m z') : IA m (z', pushL A.2.1 A.1, A.2.2) :=
  ⟨hz, fun r hr => (push_mem hr).elim (fun q => (h.2.1 r q).mono hnm) (fun q => by subst q; exact h.1.mono hnm), pushL_len h.2.2.1, h.2.2.2⟩

-- 25.model12.lean.txt
/-! ===== the model: a row of commands carried out ===== -/
def okC (c : CMD) : Prop := (c.1 = nI 119 ∧ ∃ p, p < 8 ∧ c.2.1 = nI p) ∨ (c.1 = nI 114 ∧ ∃ p, p < 8 ∧ c.2.1 = nI p) ∨ (c.1 = nI 101 ∧ ∃ p, p < 2 ∧ c.2.1 = nI p) ∨ (c.1 = nI 104 ∧ ∃ p, 1 ≤ p ∧ p ≤ 100 ∧ c.2.1 = nI p)
def canC (z : ZZ) (c : CMD) : Bool := if c.1 = nI 119 then decide (z (30 + ixN c.2.1) = 0) else if c.1 = nI 114 then decide (z (30 + ixN c.2.1) = nI 1) else if c.1 = nI 101 then decide (z (28 + ixN c.2.1) < nI 100) else true
def doC (z : ZZ) (c : CMD) : ZZ := if c.1 = nI 119 then writesZ z (ixN c.2.1) c.2.2 else if c.1 = nI 114 then readsZ z (ixN c.2.1) else if c.1 = nI 101 then erasesZ z (ixN c.2.1) else passZ z (ixN c.2.1)
def lsC (z : ZZ) (c : CMD) : Bool := if c.1 = nI 114 then decide (readsR z (ixN c.2.1) = -nI 1) else false
def runL (z : ZZ) : List CMD → ZZ × Nat
  | [] => (z, 0)
  | c :: t => if canC z c = true then (if lsC z c = true then (doC z c, 1) else ((runL (doC z c) t).1, (runL (doC z c) t).2 + 1)) else (z, 0)
def aRun (A : AS) : Ans := match prsS ps0 A.2.2 with
  | none => no A 1
  | some s => if isE s then (0, nI (runL A.1 (s.2.2 ++ [s.2.1])).2, ((runL A.1 (s.2.2 ++ [s.2.1])).1, pushL A.2.1 A.1, [])) else no A 1
def IPs (s : PS) : Prop := (∀ c, c ∈ s.2.2 → okC c) ∧ (s.1 = 1 → s.2.1.1 = nI 119 ∨ s.2.1.1 = nI 114 ∨ s.2.1.1 = nI 101) ∧ (2 ≤ s.1 ∧ s.1 ≤ 10 → s.2.1.1 = nI 119 ∧ ∃ p, p < 8 ∧ s.2.1.2.1 = nI p) ∧ (s.1 = 11 → s.2.1.1 = nI 104 ∧ ∃ p, p ≤ 100 ∧ s.2.1.2.1 = nI p) ∧ (s.1 = 12 → okC s.2.1) ∧ s.1 ≤ 12
theorem ip_ended {s : PS} (h : IPs s) (he : isE s) : okC s.2.1 := by
  rcases he with e | ⟨e, e2⟩
  · exact h.2.2.2.2.1 e
  · obtain ⟨h1, p, hp, h2⟩ := h.2.2.2.1 e
    refine Or.inr (Or.inr (Or.inr ⟨h1, p, ?_, hp, h2⟩))
    rw [h2, ← nI_0, nI_ltI (by omega) (by omega)] at e2
    omega
theorem dig_nI {c : Int32} {a b : Nat} (hb : b < 1000) (hab : a ≤ b) (h1 : ¬ c < nI a) (h2 : ¬ nI b < c) : ∃ p, a ≤ p ∧ p ≤ b ∧ c = nI p := by
  obtain ⟨p, hp, e⟩ := rg_bd (N := b) (by omega) (fun q => h1 (Int32.lt_of_lt_of_le q ((nI_leI (by omega) (by omega)).mpr (Nat.zero_le _)))) h2
  refine ⟨p, ?_, hp, e⟩
  rw [e, nI_ltI (by omega) (by omega)] at h1
  omega
theorem tk_ip {s s' : PS} {c : Int32} (h : tkR s c = some s') (hs : IPs s) : IPs s' := by
  have hs0 := hs
  obtain ⟨D, ⟨lt, nm, wd⟩, dn⟩ := s
  obtain ⟨i1, i2, i3, i4, i5, i6⟩ := hs
  unfold tkR at h
  dsimp only at h i1 i2 i3 i4 i5 i6
  by_cases h59 : c = nI 59 ∧ isE (D, (lt, nm, wd), dn)
  · rw [if_pos h59] at h
    cases h
    refine ⟨fun c hc => ?_, fun q => (by cases q), fun q => absurd q.1 (by simp), fun q => (by cases q), fun q => (by cases q), Nat.zero_le _⟩
    rcases List.mem_append.mp hc with q | q
    · exact i1 c q
    · have : c = (lt, nm, wd) := by simpa using q
      subst this
      exact ip_ended hs0 h59.2
  · rw [if_neg h59] at h
    by_cases h0 : D = 0
    · rw [if_pos h0] at h
      split at h
      · next hq =>
        cases h
        by_cases hh : c = nI 104
        · rw [if_pos hh]
          exact ⟨i1, fun q => (by cases q), fun q => absurd q.2 (by simp), fun _ => ⟨hh, 0, by omega, rfl⟩, fun q => (by cases q), by simp⟩
        · rw [if_neg hh]
          exact ⟨i1, fun _ => by rcases hq with q | q | q | q; (· exact Or.inl q); (· exact Or.inr (Or.inl q)); (· exact Or.inr (Or.inr q)); exact absurd q hh, fun q => absurd q.1 (by simp), fun q => (by cases q), fun q => (by cases q), by simp⟩
      · cases h
    rw [if_neg h0] at h
    by_cases h1 : D = 1
    · rw [if_pos h1] at h
      by_cases hq : inW c (nI 48) (if lt = nI 101 then nI 49 else nI 55)
      · rw [if_pos hq] at h
        cases h
        by_cases hw : lt = nI 119
        · rw [if_pos hw]
          rw [if_neg (by rw [hw]; decide)] at hq
          obtain ⟨p, hp1, hp2, e⟩ := dig_nI (by omega) (by omega) hq.1 hq.2
          exact ⟨i1, fun q => (by cases q), fun _ => ⟨hw, p - 48, by omega, by rw [e, pk_sub hp1]⟩, fun q => (by cases q), fun q => (by cases q), by simp⟩
        · rw [if_neg hw]
          refine ⟨i1, fun q => (by cases q), fun q => absurd q.2 (by simp), fun q => (by cases q), fun _ => ?_, by simp⟩
          rcases i2 h1 with q | q | q
          · exact absurd q hw
          · rw [if_neg (by rw [q]; decide)] at hq
            obtain ⟨p, hp1, hp2, e⟩ := dig_nI (by omega) (by omega) hq.1 hq.2
            exact Or.inr (Or.inl ⟨q, p - 48, by omega, by rw [e, pk_sub hp1]⟩)
          · rw [if_pos q] at hq
            obtain ⟨p, hp1, hp2, e⟩ := dig_nI (by omega) (by omega) hq.1 hq.2
            exact Or.inr (Or.inr (Or.inl ⟨q, p - 48, by omega, by rw [e, pk_sub hp1]⟩))
      · rw [if_neg hq] at h
        cases h
    rw [if_neg h1] at h
    by_cases h2 : D = 2
    · rw [if_pos h2] at h
      split at h
      · cases h
        exact ⟨i1, fun q => (by cases q), fun _ => i3 (by omega), fun q => (by cases q), fun q => (by cases q), by simp⟩
      · cases h
    rw [if_neg h2] at h
    by_cases h11 : D = 11
    · rw [if_pos h11] at h
      split at h
      · next hq =>
        cases h
        obtain ⟨e1, p, hp, e2⟩ := i4 h11
        obtain ⟨q, hq1, hq2, e⟩ := dig_nI (by omega) (by omega) hq.2.1 hq.2.2
        exact ⟨i1, fun q => (by cases q), fun q => absurd q.2 (by simp), fun _ => ⟨e1, q, hq2, e⟩, fun q => (by cases q), by simp⟩
      · cases h
    rw [if_neg h11] at h
    by_cases h12 : D = 12
    · rw [if_pos h12] at h
      cases h
    rw [if_neg h12] at h
    split at h
    · cases h
    · cases h
      obtain ⟨e1, p, hp, e2⟩ := i3 (by omega)
      by_cases h10 : D = 10
      · rw [if_pos h10]
        exact ⟨i1, fun q => (by cases q), fun q => absurd q.2 (by simp), fun q => (by cases q), fun _ => Or.inl ⟨e1, p, hp, e2⟩, by simp⟩
      · rw [if_neg h10]
        exact ⟨i1, fun q => absurd q (by show ¬ D + 1 = 1; omega), fun _ => ⟨e1, p, hp, e2⟩, fun q => absurd q (by show ¬ D + 1 = 11; omega), fun q => absurd q (by show ¬ D + 1 = 12; omega), by show D + 1 ≤ 12; omega⟩
theorem prs_ip : ∀ {t : List Int32} {s s' : PS}, prsS s t = some s' → IPs s → IPs s'
  | [], _, _, h, hs => by cases h; exact hs
  | c :: t, s, s', h, hs => by
    rw [prsS] at h
    cases hk : tkR s c with
    | none => rw [hk] at h; cases h
    | some s1 => rw [hk] at h; exact prs_ip h (tk_ip hk hs)
theorem ip0 : IPs ps0 := ⟨fun c hc => (by cases hc), fun q => (by cases q), fun q => absurd q.1 (by simp [ps0]), fun q => (by cases q), fun q => (by cases q), Nat.zero_le _⟩

-- 26.model13.lean.txt
/-! ===== the model: run ===== -/
theorem ivz_do {n : Nat} {z : ZZ} {c : CMD} (h : Ivz n z) (hc : okC c) (hcan : canC z c = true) : Ivz (n + 1) (doC z c) := by
  rcases hc with ⟨e, p, hp, e2⟩ | ⟨e, p, hp, e2⟩ | ⟨e, p, hp, e2⟩ | ⟨e, p, hp0, hp, e2⟩
  · rw [doC, if_pos e, e2, ixN_nI (by omega)]
    exact (ivz_writes h hp).mono (by omega)
  · rw [doC, if_neg (by rw [e]; decide), if_pos e, e2, ixN_nI (by omega)]
    exact ivz_reads h hp
  · rw [canC, if_neg (by rw [e]; decide), if_neg (by rw [e]; decide), if_pos e, e2, ixN_nI (by omega)] at hcan
    rw [doC, if_neg (by rw [e]; decide), if_neg (by rw [e]; decide), if_pos e, e2, ixN_nI (by omega)]
    exact (ivz_erases h hp (of_decide_eq_true hcan)).mono (by omega)
  · rw [doC, if_neg (by rw [e]; decide), if_neg (by rw [e]; decide), if_neg (by rw [e]; decide)]
    exact (ivz_pass h _).mono (by omega)
section M13
variable {G : GG} {d n : Nat} {h0 h : AH} {u : MS} {A : AS} {w : W3} {K : AO → AH → W3 → Prop}
end M13

-- 27.model14.lean.txt
/-! ===== the model: the digest of a page ===== -/
def mx (h v : Int64) : Int64 := 31 * h + v
def fN (f : Nat → Int64) : Nat → Int64 → Int64
  | 0, h => h
  | i + 1, h => mx (fN f i h) (f i)
def fC (z : ZZ) (p : Nat) : Nat → Int64 → Int64
  | 0, h => h
  | c + 1, h => mx (mx (mx (fC z p c h) (cellN z p c 0).toInt64) (cellN z p c 1).toInt64) (cellN z p c 10).toInt64
def dPage (z : ZZ) (p : Nat) (h : Int64) : Int64 :=
  mx (mx (mx (fN (fun q => (ifrN z p q).toInt64) 3 (fN (fun m => (wrN z p m).toInt64) (mN' z) (fC z p 16 (mx (fN (fun q => (pgN z p q).toInt64) 7 h) (z (78 + p)).toInt64)))) (lifeN z p).toInt64) (shN z p 0).toInt64) (shN z p 1).toInt64
section M14
variable {G : GG} {d n : Nat} {h0 h : AH} {u : MS} {A : AS} {w : W3} {K : AO → AH → W3 → Prop}
end M14

-- 28.model15.lean.txt
/-! ===== the model: mean fee, digest ===== -/
def mnD (z : ZZ) : UInt64 := if sumN (fun p => z (54 + p)) 8 = 0 then FP.dconst0 else FP.ddiv (FP.i2d (sumN (fun p => z (70 + p)) 8)) (FP.i2d (sumN (fun p => z (54 + p)) 8))
/-- what is asked of the mean as a double -/
def DZ (z : ZZ) : Prop := (¬ sumN (fun p => z (54 + p)) 8 = 0 → vf_n64 (FP.ddiv (FP.i2d (sumN (fun p => z (70 + p)) 8)) (FP.i2d (sumN (fun p => z (54 + p)) 8)))) ∧ FP.dcmp (mnD z) (mnD z) = some .eq
def fP (z : ZZ) : Nat → Int64 → Int64
  | 0, h => h
  | p + 1, h => dPage z p (fP z p h)
def digN (A : AS) : Int64 :=
  fN (fun k => (A.2.2.getD k 0).toInt64) A.2.2.length (mx (mx (mx (mx (fP A.1 8 (fN (fun k => (A.1 (9 + k)).toInt64) (3 * mN' A.1) (fN (fun k => (A.1 k).toInt64) 6 (fN (fun q => (cntN A.1 A.2.1.length q).toInt64) 12 2437)))) (lostL A.1 24 8).toInt64) (sprN A.1).toInt64) (mnD A.1).toInt64) (nI A.2.2.length).toInt64)
section M15
variable {G : GG} {d n : Nat} {h0 h : AH} {u : MS} {A : AS} {w : W3} {K : AO → AH → W3 → Prop}
end M15

-- 29.model16.lean.txt
/-! ===== the model: its constructor ===== -/
def z0L (i : Nat) : ZZ := fun j => if j = 0 then nI 10 else if j = 1 then nI 4 else if j = 2 then nI 2 else if j = 3 then nI 3 else if j = 4 then nI 5 else if j = 5 then nI 1 else if j = 7 then nI 1 else if j = 8 then nI 3 else if 12 ≤ j ∧ j < 12 + i then -nI 10 * nI (j - 11) else if 15 ≤ j ∧ j < 15 + i then -nI 20 * nI (j - 14) else nI 0
section M16
variable {G : GG} {d n : Nat} {h0 h : AH} {u : MS} {A : AS} {w : W3} {K : AO → AH → W3 → Prop}
end M16

