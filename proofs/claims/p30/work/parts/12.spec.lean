/-! ===== helpers for walks; the numbers of the memory ===== -/
theorem ix_nI {n : Nat} : nI n = nI n := rfl
theorem ix_add {a b : Int32} {i j : Nat} (ha : a = nI i) (hb : b = nI j) : a + b = nI (i + j) := by rw [ha, hb, nI_add]
theorem ix_mul {a b : Int32} {i j : Nat} (ha : a = nI i) (hb : b = nI j) : a * b = nI (i * j) := by rw [ha, hb, pk_mul]
theorem ix_sub {a b : Int32} {i j : Nat} (ha : a = nI i) (hb : b = nI j) (h : j ≤ i) : a - b = nI (i - j) := by rw [ha, hb, pk_sub h]
theorem ix_div {a b : Int32} {i j : Nat} (ha : a = nI i) (hb : b = nI j) (h1 : i < 2 ^ 31) (h2 : 0 < j) (h3 : j < 2 ^ 31) : a / b = nI (i / j) := by rw [ha, hb, pk_div h1 h2 h3]
theorem ix_ex {x : Int32} {i : Nat} {P : Nat → Prop} (hx : x = nI i) (hP : P i) : ∃ j, x = nI j ∧ P j := ⟨i, hx, hP⟩
theorem ix_upd {f : Nat → Int32} {k j i : Nat} {x : Int32} (h : j ≠ k) (hf : f j = nI i) : upd f k x j = nI i := by simp [upd, h, hf]
theorem cl_use {G : GG} {C : CK} {d k : Nat} {args : List Value} {h : AH} {w : W3} {K : AO → AH → W3 → Prop} (hC : C = Cl G) (hx : Cl G d k args h w K) : C d k args h w K := by rw [hC]; exact hx
theorem wp_use {G : GG} {d k T0 s0 : Nat} {K : AO → AH → W3 → Prop} {W' : WK} {pc : Nat} {lv : AL} {st : List Value} {h : AH} {w : W3} (hW : W' = wp G d k T0 s0 K) (hx : wp G d k T0 s0 K pc lv st h w) : W' pc lv st h w := by rw [hW]; exact hx
/-- the first list knows no more than the second -/
def leL : AL → AL → Prop
  | [], [] => True
  | none :: t, _ :: s => leL t s
  | some v :: t, a :: s => a = some v ∧ leL t s
  | _, _ => False
theorem leL_s : ∀ {a b : AL}, leL a b → a.length = b.length ∧ ∀ (i : Nat) (v : Value), a[i]? = some (some v) → b[i]? = some (some v)
  | [], [], _ => ⟨rfl, fun i v h => by simp at h⟩
  | [], _ :: _, h => h.elim
  | none :: t, [], h => h.elim
  | some _ :: t, [], h => h.elim
  | none :: t, x :: s, h => by
    obtain ⟨h1, h2⟩ := leL_s (a := t) (b := s) h
    refine ⟨by simp [h1], fun i v hi => ?_⟩
    match i, hi with
    | 0, hi => simp at hi
    | i + 1, hi => simpa using h2 i v (by simpa using hi)
  | some u :: t, x :: s, h => by
    obtain ⟨h0, h⟩ := h
    obtain ⟨h1, h2⟩ := leL_s (a := t) (b := s) h
    refine ⟨by simp [h1], fun i v hi => ?_⟩
    match i, hi with
    | 0, hi => simpa [h0] using hi
    | i + 1, hi => simpa using h2 i v (by simpa using hi)
theorem wp.le {G : GG} {d k T0 s0 : Nat} {K : AO → AH → W3 → Prop} {pc : Nat} {lv lv' : AL} {st : List Value} {h : AH} {w : W3} (hx : wp G d k T0 s0 K pc lv' st h w) (hl : leL lv' lv) : wp G d k T0 s0 K pc lv st h w := hx.less (leL_s hl).1 (leL_s hl).2
theorem br_le {x y : Int32} {a b : Nat} {A B : Prop} (hx : x = nI a) (hy : y = nI b) (ha : a < 2 ^ 31) (hb : b < 2 ^ 31) (f : a ≤ b → A) (g : b < a → B) : (x ≤ y → A) ∧ (¬ x ≤ y → B) := by
  subst hx hy
  rw [nI_leI ha hb]
  exact ⟨f, fun z => g (by omega)⟩
theorem br_lt {x y : Int32} {a b : Nat} {A B : Prop} (hx : x = nI a) (hy : y = nI b) (ha : a < 2 ^ 31) (hb : b < 2 ^ 31) (f : a < b → A) (g : b ≤ a → B) : (x < y → A) ∧ (¬ x < y → B) := by
  subst hx hy
  rw [nI_ltI ha hb]
  exact ⟨f, fun z => g (by omega)⟩
theorem br_eq {x y : Int32} {a b : Nat} {A B : Prop} (hx : x = nI a) (hy : y = nI b) (ha : a < 2 ^ 31) (hb : b < 2 ^ 31) (f : a = b → A) (g : a ≠ b → B) : (x = y → A) ∧ (¬ x = y → B) := by
  subst hx hy
  rw [nI_eq ha hb]
  exact ⟨f, g⟩
theorem br_ne {x y : Int32} {a b : Nat} {A B : Prop} (hx : x = nI a) (hy : y = nI b) (ha : a < 2 ^ 31) (hb : b < 2 ^ 31) (f : a ≠ b → A) (g : a = b → B) : (¬ x = y → A) ∧ (x = y → B) := by
  subst hx hy
  rw [nI_eq ha hb]
  exact ⟨f, g⟩
theorem br_eq0 {x : Int32} {a : Nat} {A B : Prop} (hx : x = nI a) (ha : a < 2 ^ 31) (f : a = 0 → A) (g : a ≠ 0 → B) : (x = 0 → A) ∧ (¬ x = 0 → B) := by
  subst hx
  rw [← nI_0, nI_eq ha (by omega)]
  exact ⟨f, g⟩
theorem br_ne0 {x : Int32} {a : Nat} {A B : Prop} (hx : x = nI a) (ha : a < 2 ^ 31) (f : a ≠ 0 → A) (g : a = 0 → B) : (¬ x = 0 → A) ∧ (x = 0 → B) := by
  subst hx
  rw [← nI_0, nI_eq ha (by omega)]
  exact ⟨f, g⟩
theorem br_le0 {x : Int32} {a : Nat} {A B : Prop} (hx : x = nI a) (ha : a < 2 ^ 31) (f : a = 0 → A) (g : a ≠ 0 → B) : (x ≤ 0 → A) ∧ (¬ x ≤ 0 → B) := by
  subst hx
  rw [← nI_0, nI_leI ha (by omega)]
  exact ⟨fun z => f (by omega), fun z => g (by omega)⟩
theorem br_gt0 {x : Int32} {a : Nat} {A B : Prop} (hx : x = nI a) (ha : a < 2 ^ 31) (f : a ≠ 0 → A) (g : a = 0 → B) : (0 < x → A) ∧ (¬ 0 < x → B) := by
  subst hx
  rw [← nI_0, nI_ltI (by omega) ha]
  exact ⟨fun z => f (by omega), fun z => g (by omega)⟩
theorem br_lt0 {x : Int32} {a : Nat} {A B : Prop} (hx : x = nI a) (ha : a < 2 ^ 31) (g : B) : (x < 0 → A) ∧ (¬ x < 0 → B) := by
  subst hx
  exact ⟨fun z => absurd z (nI_pos ha), fun _ => g⟩
theorem br_ge0 {x : Int32} {a : Nat} {A B : Prop} (hx : x = nI a) (ha : a < 2 ^ 31) (g : A) : (0 ≤ x → A) ∧ (¬ 0 ≤ x → B) := by
  subst hx
  exact ⟨fun _ => g, fun z => absurd (nI_pos' ha) z⟩
theorem br_tab {x : Int32} {a : Nat} {lo : Int} {A B : Prop} (hx : x = nI a) (ha : a < 2 ^ 31) (f : (a : Int) = lo → A) (g : ¬ (a : Int) = lo → B) : (x.toInt = lo → A) ∧ (¬ x.toInt = lo → B) := by
  subst hx
  rw [i32_ge0 (nI_pos ha), nI_clamp ha]
  exact ⟨f, g⟩
/-- a loop that counts up, seen from behind -/
theorem upto {W : Nat → Prop} (n : Nat) (hn : W n) (hs : ∀ i, i < n → W (i + 1) → W i) : W 0 := by
  have key : ∀ j, j ≤ n → W (n - j) := by
    intro j
    induction j with
    | zero => intro _; exact hn
    | succ j ih =>
      intro hj
      have h1 := ih (by omega)
      rw [show n - j = n - (j + 1) + 1 by omega] at h1
      exact hs _ (by omega) h1
  have h2 := key n (Nat.le_refl _)
  rw [Nat.sub_self] at h2
  exact h2
def sumN (f : Nat → Int32) : Nat → Int32
  | 0 => 0
  | n + 1 => sumN f n + f n
theorem sumN_congr {f g : Nat → Int32} : ∀ {n : Nat}, (∀ i, i < n → f i = g i) → sumN f n = sumN g n
  | 0, _ => rfl
  | n + 1, h => by rw [sumN, sumN, sumN_congr (fun i hi => h i (by omega)), h n (by omega)]
abbrev ZZ : Type := Nat → Int32
-- the model's pure functions, in its own words
def rdAs (q a b c : Int32) : Int32 := (if q < nI 100 + a then nI 0 else nI 1) + (if q < nI 200 + b then nI 0 else nI 1) + (if q < nI 300 + c then nI 0 else nI 1)
def rdBy (z : ZZ) (q : Int32) (m : Nat) : Int32 := rdAs q (z (9 + 3 * m)) (z (9 + 3 * m + 1)) (z (9 + 3 * m + 2))
def lvO (b : Int32) : Int32 := if b = nI 3 then nI 0 else if b = nI 1 then nI 1 else if b = 0 then nI 2 else nI 3
def btO (l : Int32) : Int32 := if l = 0 then nI 3 else if l = nI 1 then nI 1 else if l = nI 2 then nI 0 else nI 2
def wrtW (word : Int32) (c : Nat) : Int32 := (word.toUInt32 >>> ((nI 2 * nI c).toUInt32 &&& Int32.toUInt32 31)).toInt32 &&& nI 3
def wrt (z : ZZ) (p c : Nat) : Int32 := wrtW (z (78 + p)) c
def onesB (b : Int32) : Int32 := (b &&& nI 1) + ((b >>> (nI 1 &&& 31)) &&& nI 1)
def wrongN (z : ZZ) (q : ZZ) (p m : Nat) : Int32 := sumN (fun c => onesB (btO (rdBy z (q c) m) ^^^ wrt z p c)) 16
def triedN (f t : Nat) : Nat := if t = 0 then f else if t ≤ f then t - 1 else t
/-- how many tries of the charges q fail, of those from the turn t on, without a match; 'n' turns are left -/
def failsF (ok : Nat → Bool) (f but : Nat) : Nat → Nat → Nat → Nat
  | 0, _, fails => fails
  | n + 1, t, fails => if triedN f t ≠ but ∧ ok (triedN f t) = true then fails else failsF ok f but n (t + 1) (fails + (if triedN f t = but then 0 else 1))
def heldI (v : Int32) : Int32 := if 0 ≤ v then (if v ≤ nI 450 then v else nI 450) else nI 0
def nextSeed (s : Int32) : Int32 := ((1103515245 : Int64) * s.toInt64 + (12345 : Int64) &&& (2147483647 : Int64)).toInt32
def chg (z : ZZ) (p : Nat) : ZZ := fun c => z (86 + 16 * p + c)
/-- the model's object and its rows: numbers 154 to 159 -/
abbrev MS : Type := ZZ × ZZ × ZZ × ZZ × ZZ × Int32 × Int32 × Int32 × Int32 × Int32 × Int64
abbrev MS.z (u : MS) : ZZ := u.1
abbrev MS.hist (u : MS) : ZZ := u.2.1
abbrev MS.text (u : MS) : ZZ := u.2.2.1
abbrev MS.ch (u : MS) : ZZ := u.2.2.2.1
abbrev MS.parts (u : MS) : ZZ := u.2.2.2.2.1
abbrev MS.states (u : MS) : Int32 := u.2.2.2.2.2.1
abbrev MS.len (u : MS) : Int32 := u.2.2.2.2.2.2.1
abbrev MS.thr (u : MS) : Int32 := u.2.2.2.2.2.2.2.1
abbrev MS.read (u : MS) : Int32 := u.2.2.2.2.2.2.2.2.1
abbrev MS.due (u : MS) : Int32 := u.2.2.2.2.2.2.2.2.2.1
abbrev MS.hash (u : MS) : Int64 := u.2.2.2.2.2.2.2.2.2.2
def mdC (u : MS) : Nat → AC := fun o => match o with
  | 0 => .inr (5, [.ref 155, .int u.2.2.2.2.2.1, .ref 156, .int u.2.2.2.2.2.2.1, .ref 157, .int u.2.2.2.2.2.2.2.1, .ref 158, .ref 159, .int u.2.2.2.2.2.2.2.2.1, .int u.2.2.2.2.2.2.2.2.2.1, .long u.2.2.2.2.2.2.2.2.2.2])
  | 1 => .inl (0, 214, .inl u.1)
  | 2 => .inl (0, 1284, .inl u.2.1)
  | 3 => .inl (0, 60, .inl u.2.2.1)
  | 4 => .inl (0, 16, .inl u.2.2.2.1)
  | _ => .inl (0, 72, .inl u.2.2.2.2.1)
def setM (h : AH) (u : MS) : AH := fun a => bif Nat.ble 154 a && Nat.ble a 159 then mdC u (a - 154) else h a
theorem setM_up {h : AH} {u u' : MS} {k : Nat} {e : AC} (hk : k < 6) (he : mdC u' k = e) (ho : ∀ j, j < 6 → j ≠ k → mdC u' j = mdC u j) : upA (setM h u) (154 + k) e = setM h u' := by
  funext a
  by_cases ha : a = 154 + k
  · subst ha
    rw [upA_eq, setM, Nat.ble_eq_true_of_le (by omega), Nat.ble_eq_true_of_le (by omega : 154 + k ≤ 159), Nat.add_sub_cancel_left, he]
    rfl
  · simp only [upA, if_neg ha, setM]
    cases hb : (Nat.ble 154 a && Nat.ble a 159) with
    | false => simp only [cond_false]
    | true =>
      simp only [Bool.and_eq_true] at hb
      have h1 := Nat.le_of_ble_eq_true hb.1
      have h2 := Nat.le_of_ble_eq_true hb.2
      simp only [cond_true]
      rw [ho (a - 154) (by omega) (by omega)]
theorem six {P : Nat → Prop} (h0 : P 0) (h1 : P 1) (h2 : P 2) (h3 : P 3) (h4 : P 4) (h5 : P 5) : ∀ j, j < 6 → P j := by
  intro j hj
  match j, hj with
  | 0, _ => exact h0
  | 1, _ => exact h1
  | 2, _ => exact h2
  | 3, _ => exact h3
  | 4, _ => exact h4
  | 5, _ => exact h5
  | j + 6, h => exact absurd h (by omega)
theorem setM_z {h : AH} {u : MS} {z' : ZZ} : upA (setM h u) 155 (.inl (0, 214, .inl z')) = setM h (z', u.2) := setM_up (k := 1) (by omega) rfl (six (fun _ => rfl) (fun q => absurd rfl q) (fun _ => rfl) (fun _ => rfl) (fun _ => rfl) (fun _ => rfl))
theorem setM_hist {h : AH} {u : MS} {z' : ZZ} : upA (setM h u) 156 (.inl (0, 1284, .inl z')) = setM h (u.1, z', u.2.2) := setM_up (k := 2) (by omega) rfl (six (fun _ => rfl) (fun _ => rfl) (fun q => absurd rfl q) (fun _ => rfl) (fun _ => rfl) (fun _ => rfl))
theorem setM_text {h : AH} {u : MS} {z' : ZZ} : upA (setM h u) 157 (.inl (0, 60, .inl z')) = setM h (u.1, u.2.1, z', u.2.2.2) := setM_up (k := 3) (by omega) rfl (six (fun _ => rfl) (fun _ => rfl) (fun _ => rfl) (fun q => absurd rfl q) (fun _ => rfl) (fun _ => rfl))
theorem setM_ch {h : AH} {u : MS} {z' : ZZ} : upA (setM h u) 158 (.inl (0, 16, .inl z')) = setM h (u.1, u.2.1, u.2.2.1, z', u.2.2.2.2) := setM_up (k := 4) (by omega) rfl (six (fun _ => rfl) (fun _ => rfl) (fun _ => rfl) (fun _ => rfl) (fun q => absurd rfl q) (fun _ => rfl))
theorem setM_parts {h : AH} {u : MS} {z' : ZZ} : upA (setM h u) 159 (.inl (0, 72, .inl z')) = setM h (u.1, u.2.1, u.2.2.1, u.2.2.2.1, z', u.2.2.2.2.2) := setM_up (k := 5) (by omega) rfl (six (fun _ => rfl) (fun _ => rfl) (fun _ => rfl) (fun _ => rfl) (fun _ => rfl) (fun q => absurd rfl q))
theorem setM_obj {h : AH} {u : MS} {a b c e f : Int32} {g : Int64} : upA (setM h u) 154 (.inr (5, [.ref 155, .int a, .ref 156, .int b, .ref 157, .int c, .ref 158, .ref 159, .int e, .int f, .long g])) = setM h (u.1, u.2.1, u.2.2.1, u.2.2.2.1, u.2.2.2.2.1, a, b, c, e, f, g) := setM_up (k := 0) (by omega) rfl (six (fun q => absurd rfl q) (fun _ => rfl) (fun _ => rfl) (fun _ => rfl) (fun _ => rfl) (fun _ => rfl))
