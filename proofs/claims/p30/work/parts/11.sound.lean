/-! ===== the condition generator is sound ===== -/
section VCS
variable {G : GG} {d k T0 s0 : Nat} {K : AO → AH → W3 → Prop} {pc : Nat} {lv : AL} {st : List Value} {h : AH} {w : W3}
theorem wp.step {pc' : Nat} {lv' : AL} {st' : List Value} {h' : AH} {w' : W3} (hx : wp G d k T0 s0 K pc' lv' st' h' w') (m1 : w.2.1 ≤ w'.2.1) (m2 : w.2.2 ≤ w'.2.2)
    (rule : ∀ {p : Program} {e : Env} {R : Room} {s : State} {m : MethodId} {args : Array Value} {below : List Frame} {meth : Method} {c : Code} {Q : State → Prop}, CTX G d k T0 p e R s m args meth c → w'.2.1 ≤ T0 + R.cells → w'.2.2 ≤ s0 + R.slots → AW G k T0 s0 p e R s m args below meth c Q pc' lv' st' h' w' → AW G k T0 s0 p e R s m args below meth c Q pc lv st h w) : wp G d k T0 s0 K pc lv st h w := by
  obtain ⟨F, hK, n1, n2, hr⟩ := hx
  exact ⟨F, hK, Nat.le_trans m1 n1, Nat.le_trans m2 n2, fun p e R s m args below meth c C g1 g2 => rule C (by rw [g1]; exact n1) (by rw [g2]; exact n2) (hr p e R s m args below meth c C g1 g2)⟩
theorem wp.ends (F : AF) (hK : K F.1 F.2.1 F.2.2) (m1 : w.2.1 ≤ F.2.2.2.1) (m2 : w.2.2 ≤ F.2.2.2.2)
    (rule : ∀ {p : Program} {e : Env} {R : Room} {s : State} {m : MethodId} {args : Array Value} {below : List Frame} {meth : Method} {c : Code}, CTX G d k T0 p e R s m args meth c → F.2.2.2.1 ≤ T0 + R.cells → F.2.2.2.2 ≤ s0 + R.slots → AW G k T0 s0 p e R s m args below meth c (QF G F below args s R) pc lv st h w) : wp G d k T0 s0 K pc lv st h w :=
  ⟨F, hK, m1, m2, fun p e R s m args below meth c C g1 g2 => rule C (Nat.le_of_eq g1.symm) (Nat.le_of_eq g2.symm)⟩
/-- two roads -/
theorem wp.if2 {a b : Prop} {pa pb : Nat} {st' : List Value} (hab : a ∨ b) (ha : a → wp G d k T0 s0 K pa lv st' h w) (hb : b → wp G d k T0 s0 K pb lv st' h w) (hn : a → b → False)
    (rule : ∀ {p : Program} {e : Env} {R : Room} {s : State} {m : MethodId} {args : Array Value} {below : List Frame} {meth : Method} {c : Code} {Q : State → Prop}, CTX G d k T0 p e R s m args meth c → (a → AW G k T0 s0 p e R s m args below meth c Q pa lv st' h w) → (b → AW G k T0 s0 p e R s m args below meth c Q pb lv st' h w) → AW G k T0 s0 p e R s m args below meth c Q pc lv st h w) : wp G d k T0 s0 K pc lv st h w := by
  rcases hab with q | q
  · exact (ha q).step (Nat.le_refl _) (Nat.le_refl _) fun C _ _ x => rule C (fun _ => x) (fun z => (hn q z).elim)
  · exact (hb q).step (Nat.le_refl _) (Nat.le_refl _) fun C _ _ x => rule C (fun z => (hn z q).elim) (fun _ => x)
theorem vI_s {q : Int32 → List Value → Prop} (hv : vI st q) : ∃ x t, st = .int x :: t ∧ q x t := by
  unfold vI at hv; split at hv
  · exact ⟨_, _, rfl, hv⟩
  · exact hv.elim
theorem vII_s {q : Int32 → Int32 → List Value → Prop} (hv : vII st q) : ∃ x y t, st = .int y :: .int x :: t ∧ q x y t := by
  unfold vII at hv; split at hv
  · exact ⟨_, _, _, rfl, hv⟩
  · exact hv.elim
theorem vL_s {q : Int64 → List Value → Prop} (hv : vL st q) : ∃ x t, st = .long x :: t ∧ q x t := by
  unfold vL at hv; split at hv
  · exact ⟨_, _, rfl, hv⟩
  · exact hv.elim
theorem vLL_s {q : Int64 → Int64 → List Value → Prop} (hv : vLL st q) : ∃ x y t, st = .long y :: .long x :: t ∧ q x y t := by
  unfold vLL at hv; split at hv
  · exact ⟨_, _, _, rfl, hv⟩
  · exact hv.elim
theorem vLI_s {q : Int64 → Int32 → List Value → Prop} (hv : vLI st q) : ∃ x y t, st = .int y :: .long x :: t ∧ q x y t := by
  unfold vLI at hv; split at hv
  · exact ⟨_, _, _, rfl, hv⟩
  · exact hv.elim
theorem vD_s {q : UInt64 → List Value → Prop} (hv : vD st q) : ∃ x t, st = .double x :: t ∧ q x t := by
  unfold vD at hv; split at hv
  · exact ⟨_, _, rfl, hv⟩
  · exact hv.elim
theorem vDD_s {q : UInt64 → UInt64 → List Value → Prop} (hv : vDD st q) : ∃ x y t, st = .double y :: .double x :: t ∧ q x y t := by
  unfold vDD at hv; split at hv
  · exact ⟨_, _, _, rfl, hv⟩
  · exact hv.elim
theorem vldI_s {i : Nat} {q : Value → Prop} (hv : vldI lv i q) : ∃ x, lv[i]? = some (some (.int x)) ∧ q (.int x) := by
  unfold vldI at hv; split at hv
  · rename_i x hx; exact ⟨x, lget_some hx, hv⟩
  · exact hv.elim
theorem vldL_s {i : Nat} {q : Value → Prop} (hv : vldL lv i q) : ∃ x, lv[i]? = some (some (.long x)) ∧ q (.long x) := by
  unfold vldL at hv; split at hv
  · rename_i x hx; exact ⟨x, lget_some hx, hv⟩
  · exact hv.elim
theorem vldD_s {i : Nat} {q : Value → Prop} (hv : vldD lv i q) : ∃ x, lv[i]? = some (some (.double x)) ∧ q (.double x) := by
  unfold vldD at hv; split at hv
  · rename_i x hx; exact ⟨x, lget_some hx, hv⟩
  · exact hv.elim
theorem vldA_s {i : Nat} {q : Value → Prop} (hv : vldA lv i q) : (∃ x, lv[i]? = some (some (.ref x)) ∧ q (.ref x)) ∨ ∃ x, lv[i]? = some (some (.retAddr x)) ∧ q (.retAddr x) := by
  unfold vldA at hv; split at hv
  · rename_i x hx; exact Or.inl ⟨x, lget_some hx, hv⟩
  · rename_i x hx; exact Or.inr ⟨x, lget_some hx, hv⟩
  · exact hv.elim
theorem bif_t {b : Bool} {q : Prop} (hv : bif b then q else False) : b = true ∧ q := by
  cases b
  · exact hv.elim
  · exact ⟨rfl, hv⟩
theorem ini_s {r : Option FieldType} {q : Prop} (hv : iniP r st q) : r = none ∧ ∃ b t, st = .ref b :: t ∧ q := by
  unfold iniP at hv
  split at hv
  · split at hv
    · exact ⟨rfl, _, _, rfl, hv⟩
    · exact hv.elim
  · exact hv.elim
theorem lsw_s {W0 : Nat → Prop} {x dflt : Int} : ∀ {ps : List (Int × Int)}, lswP W0 pc x dflt ps → W0 ((pc : Int) + Op.lookupswitch.offset ps dflt x).toNat
  | [], hv => hv
  | q :: t, hv => by
    obtain ⟨a, o⟩ := q
    rw [Op.lookupswitch.offset]
    by_cases hx : x = a
    · rw [if_pos hx.symm]; exact hv.1 hx
    · rw [if_neg (fun e => hx e.symm)]; exact lsw_s (hv.2 hx)
theorem lsw_in {x dflt : Int} : ∀ {ps : List (Int × Int)}, Op.lookupswitch.offset ps dflt x = dflt ∨ ∃ q ∈ ps, Op.lookupswitch.offset ps dflt x = q.2
  | [] => Or.inl rfl
  | (a, o) :: t => by
    rw [Op.lookupswitch.offset]
    by_cases hx : a = x
    · rw [if_pos hx]; exact Or.inr ⟨_, List.mem_cons_self, rfl⟩
    · rw [if_neg hx]
      rcases lsw_in (x := x) (dflt := dflt) (ps := t) with q | ⟨q, h1, h2⟩
      · exact Or.inl q
      · exact Or.inr ⟨q, List.mem_cons_of_mem _ h1, h2⟩
theorem tsw_s {W0 : Nat → Prop} {x dflt : Int} : ∀ {l : List Int} {lo : Int}, tswP W0 pc x dflt lo l → ((x < lo ∨ lo + l.length ≤ x) ∧ W0 ((pc : Int) + dflt).toNat) ∨ ∃ o, (lo ≤ x ∧ x < lo + l.length) ∧ l[(x - lo).toNat]? = some o ∧ W0 ((pc : Int) + o).toNat
  | [], lo, hv => Or.inl ⟨by simp; omega, hv⟩
  | o :: t, lo, hv => by
    by_cases hx : x = lo
    · refine Or.inr ⟨o, ⟨by omega, by simp; omega⟩, ?_, hv.1 hx⟩
      rw [hx, Int.sub_self]; rfl
    · rcases tsw_s (l := t) (lo := lo + 1) (hv.2 hx) with ⟨h1, h2⟩ | ⟨o', h1, h2, h3⟩
      · refine Or.inl ⟨?_, h2⟩
        simp only [List.length_cons]
        omega
      · refine Or.inr ⟨o', by simp only [List.length_cons]; omega, ?_, h3⟩
        rw [show (x - lo).toNat = (x - (lo + 1)).toNat + 1 by omega]
        exact h2
theorem exc_s {W' : WK} {j : Nat} {lv0 : AL} {st0 : List Value} {p0 : Nat} {F1 : AF} (hk : k < nMeth) (hW : ∀ pc lv st h w, W' pc lv st h w → wp G d k T0 s0 K pc lv st h w) (hv : excP k p0 j lv0 F1.2.1 F1.2.2 W' K) :
    ∃ F : AF, K F.1 F.2.1 F.2.2 ∧ F1.2.2.2.1 ≤ F.2.2.2.1 ∧ F1.2.2.2.2 ≤ F.2.2.2.2 ∧ ∀ (p : Program) (e : Env) (R : Room) (s : State) (m : MethodId) (args : Array Value) (below : List Frame) (meth : Method) (c : Code), CTX G d k T0 p e R s m args meth c → T0 + R.cells = F.2.2.2.1 → s0 + R.slots = F.2.2.2.2 → j < 3 → AWX G k T0 s0 p e R s m args below meth c (QF G F below args s R) p0 lv0 st0 F1.2.1 F1.2.2 j := by
  unfold excP at hv
  split at hv
  · rename_i hh
    exact ⟨(.inr j, F1.2.1, F1.2.2), hv, Nat.le_refl _, Nat.le_refl _, fun p e R s m args below meth c C g1 g2 hj => aw_out C hj hh rfl (Nat.le_of_eq g1.symm) (Nat.le_of_eq g2.symm)⟩
  · split at hv
    · rename_i t ht
      split at hv
      · rename_i i len _ he
        obtain ⟨hd, -, hl⟩ := ce_ok hk he
        obtain ⟨F, hK, n1, n2, hr⟩ := hW _ _ _ _ _ hv.2
        exact ⟨F, hK, n1, n2, fun p e R s m args below meth c C g1 g2 hj => aw_catch C ht hj (Or.inl ⟨hd, by simpa [lenB] using hl⟩) hv.1 (hr p e R s m args below meth c C g1 g2)⟩
      · rename_i i len _ he
        obtain ⟨hd, -, hl⟩ := ce_ok hk he
        obtain ⟨F, hK, n1, n2, hr⟩ := hW _ _ _ _ _ hv.2
        exact ⟨F, hK, n1, n2, fun p e R s m args below meth c C g1 g2 hj => aw_catch C ht hj (Or.inr ⟨i, hd, by simpa [lenB] using hl, rfl⟩) hv.1 (hr p e R s m args below meth c C g1 g2)⟩
      · exact hv.elim
    · exact hv.elim
/-- behind a call, by what the callee came to -/
theorem back_s {W' : WK} {st0 : List Value} {p0 : Nat} {F1 : AF} (hk : k < nMeth) (hW : ∀ pc lv st h w, W' pc lv st h w → wp G d k T0 s0 K pc lv st h w) (hv : backP k p0 lv st0 W' K F1.1 F1.2.1 F1.2.2) :
    ∃ F : AF, K F.1 F.2.1 F.2.2 ∧ F1.2.2.2.1 ≤ F.2.2.2.1 ∧ F1.2.2.2.2 ≤ F.2.2.2.2 ∧ ∀ (p : Program) (e : Env) (R : Room) (s : State) (m : MethodId) (args : Array Value) (below : List Frame) (meth : Method) (c : Code), CTX G d k T0 p e R s m args meth c → T0 + R.cells = F.2.2.2.1 → s0 + R.slots = F.2.2.2.2 →
      (∀ v : Option Value, F1.1 = .inl v → AW G k T0 s0 p e R s m args below meth c (QF G F below args s R) (p0 + 3) lv (v.toList ++ st0) F1.2.1 F1.2.2) ∧ (∀ j : Nat, F1.1 = .inr j → j < 3 → AWX G k T0 s0 p e R s m args below meth c (QF G F below args s R) p0 lv st0 F1.2.1 F1.2.2 j) := by
  obtain ⟨o1, h1, w1⟩ := F1
  cases o1 with
  | inl v =>
    obtain ⟨F, hK, n1, n2, hr⟩ := hW _ _ _ _ _ (show W' (p0 + 3) lv (v.toList ++ st0) h1 w1 from hv)
    refine ⟨F, hK, n1, n2, fun p e R s m args below meth c C g1 g2 => ⟨?_, fun j hj => by cases hj⟩⟩
    intro v' hv'
    cases hv'
    exact hr p e R s m args below meth c C g1 g2
  | inr j =>
    obtain ⟨F, hK, n1, n2, hr⟩ := exc_s (st0 := st0) (F1 := (.inr j, h1, w1)) hk hW hv
    refine ⟨F, hK, n1, n2, fun p e R s m args below meth c C g1 g2 => ⟨(fun v hv' => by cases hv'), ?_⟩⟩
    intro j' hj' hlt
    cases hj'
    exact hr p e R s m args below meth c C g1 g2 hlt
theorem call_s {W' : WK} {x n : Nat} (hk : k < nMeth) (hW : ∀ pc lv st h w, W' pc lv st h w → wp G d k T0 s0 K pc lv st h w) (hv : callP d k x pc n lv st h w W' (Cl G) K)
    (rule : ∀ {d' : Nat}, d = d' + 1 → n ≤ st.length → ((st.drop n).map fun v => v.category).sum ≤ 8 → ∀ {F1 : AF} {p : Program} {e : Env} {R : Room} {s : State} {m : MethodId} {args : Array Value} {below : List Frame} {meth : Method} {c : Code} {Q : State → Prop}, CTX G (d' + 1) k T0 p e R s m args meth c → CM G d' x (st.take n).reverse h w F1 → F1.2.2.2.1 ≤ T0 + R.cells → F1.2.2.2.2 ≤ s0 + R.slots → (∀ v : Option Value, F1.1 = .inl v → AW G k T0 s0 p e R s m args below meth c Q (pc + 3) lv (v.toList ++ st.drop n) F1.2.1 F1.2.2) → (∀ j : Nat, F1.1 = .inr j → j < 3 → AWX G k T0 s0 p e R s m args below meth c Q pc lv (st.drop n) F1.2.1 F1.2.2 j) → AW G k T0 s0 p e R s m args below meth c Q pc lv st h w) : wp G d k T0 s0 K pc lv st h w := by
  unfold callP at hv
  cases d with
  | zero => exact hv.elim
  | succ d' =>
    obtain ⟨hb, hv⟩ := bif_t hv
    simp only [Bool.and_eq_true] at hb
    obtain ⟨F1, hb1, hM⟩ := hv
    obtain ⟨F, hK, n1, n2, hr⟩ := back_s hk hW hb1
    refine ⟨F, hK, Nat.le_trans hM.1 n1, Nat.le_trans hM.2.1 n2, fun p e R s m args below meth c C g1 g2 => ?_⟩
    obtain ⟨r1, r2⟩ := hr p e R s m args below meth c C g1 g2
    exact rule rfl (Nat.le_of_ble_eq_true hb.2) (sm8_le hb.1) C hM (by rw [g1]; exact n1) (by rw [g2]; exact n2) r1 r2
end VCS
theorem st_split {α : Type} (st : List α) (n : Nat) : ((st.take n).reverse).reverse ++ st.drop n = st := by rw [List.reverse_reverse, List.take_append_drop]
/-- the receiver stands deepest of a call's arguments -/
theorem st_recv {st : List Value} {n b : Nat} {t : List Value} (hn : 0 < n) (h : st.drop (n - 1) = .ref b :: t) : ∃ as : List Value, (st.take n).reverse = .ref b :: as ∧ as.length + 1 = n ∧ st = as.reverse ++ .ref b :: t ∧ t = st.drop n := by
  have h1 : n - 1 < st.length := by
    rcases Nat.lt_or_ge (n - 1) st.length with q | q
    · exact q
    · rw [List.drop_eq_nil_of_le q] at h; cases h
  refine ⟨(st.take (n - 1)).reverse, ?_, ?_, ?_, ?_⟩
  · have e1 : st.take n = st.take (n - 1) ++ [.ref b] := by
      have := List.take_add_one (l := st) (i := n - 1)
      rw [show n - 1 + 1 = n by omega] at this
      rw [this]
      have h2 : st[n - 1]? = some (.ref b) := by
        have := List.getElem?_drop (xs := st) (i := n - 1) (j := 0)
        rw [h] at this
        simpa using this.symm
      rw [h2]; rfl
    rw [e1]; simp
  · simp; omega
  · rw [List.reverse_reverse, ← h, List.take_append_drop]
  · have := List.drop_drop (l := st) (i := 1) (j := n - 1)
    rw [h] at this
    rw [show n - 1 + 1 = n by omega] at this
    simpa using this
theorem mN_all : (List.range (nMeth - 1)).all (fun k => decide ((mz k).2.2.2.2 = 0 ∨ 0 < mN k)) = true := by decide +kernel
theorem mN_pos {x : Nat} (hx : x + 1 < nMeth) (h : (mz x).2.2.2.2 ≠ 0) : 0 < mN x := by
  have := of_decide_eq_true (List.all_eq_true.mp mN_all x (List.mem_range.mpr (by omega)))
  omega
set_option maxHeartbeats 4000000 in
theorem vc1_sound {G : GG} {d k T0 s0 : Nat} {K : AO → AH → W3 → Prop} {pc : Nat} {lv : AL} {st : List Value} {h : AH} {w : W3} {W' : WK} {e : CE} (hk : k < nMeth) (he : ce k pc = some e) (hW : ∀ pc lv st h w, W' pc lv st h w → wp G d k T0 s0 K pc lv st h w) (hv : vc1 G d k W' (Cl G) K e pc lv st h w) : wp G d k T0 s0 K pc lv st h w := by
  obtain ⟨hd0, hl, hn0⟩ := ce_ok hk he
  obtain ⟨ins, len, x, y, z, v⟩ := e
  have hd : decode (mB k) pc = .ok (ins, len) := hd0
  have hn : lenB ins len = true := hn0
  clear hd0 hn0
  cases ins
  case iconst a =>
    obtain rfl : len = 1 := by simpa [lenB] using hn
    have hq := of_decide_eq_true (show decide (v = _) = true from hl)
    subst hq
    exact (hW _ _ _ _ _ hv).step (Nat.le_refl _) (Nat.le_refl _) fun C _ _ x => aw_iconst C hd x
  case bipush a =>
    obtain rfl : len = 2 := by simpa [lenB] using hn
    have hq := of_decide_eq_true (show decide (v = _) = true from hl)
    subst hq
    exact (hW _ _ _ _ _ hv).step (Nat.le_refl _) (Nat.le_refl _) fun C _ _ x => aw_bipush C hd x
  case sipush a =>
    obtain rfl : len = 3 := by simpa [lenB] using hn
    have hq := of_decide_eq_true (show decide (v = _) = true from hl)
    subst hq
    exact (hW _ _ _ _ _ hv).step (Nat.le_refl _) (Nat.le_refl _) fun C _ _ x => aw_sipush C hd x
  case lconst a =>
    obtain rfl : len = 1 := by simpa [lenB] using hn
    exact (hW _ _ _ _ _ hv).step (Nat.le_refl _) (Nat.le_refl _) fun C _ _ x => aw_lconst C hd x
  case dconst a =>
    obtain rfl : len = 1 := by simpa [lenB] using hn
    match a, hd, hv with
    | 0, hd, hv => exact (hW _ _ _ _ _ hv).step (Nat.le_refl _) (Nat.le_refl _) fun C _ _ x => aw_dconst0 C hd x
    | 1, hd, hv => exact (hW _ _ _ _ _ hv).step (Nat.le_refl _) (Nat.le_refl _) fun C _ _ x => aw_dconst1 C hd x
  case ldc a =>
    obtain rfl : len = 2 := by simpa [lenB] using hn
    cases v with
    | int q => exact (hW _ _ _ _ _ hv).step (Nat.le_refl _) (Nat.le_refl _) fun C _ _ x => aw_ldc C hd hl x
    | _ => exact hv.elim
  case ldc_w a =>
    obtain rfl : len = 3 := by simpa [lenB] using hn
    cases v with
    | int q => exact (hW _ _ _ _ _ hv).step (Nat.le_refl _) (Nat.le_refl _) fun C _ _ x => aw_ldcw C hd hl x
    | _ => exact hv.elim
  case ldc2_w a =>
    obtain rfl : len = 3 := by simpa [lenB] using hn
    cases v with
    | long q => exact (hW _ _ _ _ _ hv).step (Nat.le_refl _) (Nat.le_refl _) fun C _ _ x => aw_ldc2 C hd hl x
    | double q => exact (hW _ _ _ _ _ hv).step (Nat.le_refl _) (Nat.le_refl _) fun C _ _ x => aw_ldc2d C hd hl x
    | _ => exact hv.elim
  case iload a =>
    obtain rfl : len = 2 := by simpa [lenB] using hn
    have hv : vldI lv a (fun v => W' (pc + 2) lv (v :: st) h w) := hv
    obtain ⟨q, h1, hv⟩ := vldI_s hv
    exact (hW _ _ _ _ _ hv).step (Nat.le_refl _) (Nat.le_refl _) fun C _ _ x => aw_iload C hd h1 x
  case iload_n a =>
    obtain rfl : len = 1 := by simpa [lenB] using hn
    have hv : vldI lv a (fun v => W' (pc + 1) lv (v :: st) h w) := hv
    obtain ⟨q, h1, hv⟩ := vldI_s hv
    exact (hW _ _ _ _ _ hv).step (Nat.le_refl _) (Nat.le_refl _) fun C _ _ x => aw_iload_n C hd h1 x
  case lload a =>
    obtain rfl : len = 2 := by simpa [lenB] using hn
    have hv : vldL lv a (fun v => W' (pc + 2) lv (v :: st) h w) := hv
    obtain ⟨q, h1, hv⟩ := vldL_s hv
    exact (hW _ _ _ _ _ hv).step (Nat.le_refl _) (Nat.le_refl _) fun C _ _ x => aw_lload C hd h1 x
  case lload_n a =>
    obtain rfl : len = 1 := by simpa [lenB] using hn
    have hv : vldL lv a (fun v => W' (pc + 1) lv (v :: st) h w) := hv
    obtain ⟨q, h1, hv⟩ := vldL_s hv
    exact (hW _ _ _ _ _ hv).step (Nat.le_refl _) (Nat.le_refl _) fun C _ _ x => aw_lload_n C hd h1 x
  case dload a =>
    obtain rfl : len = 2 := by simpa [lenB] using hn
    have hv : vldD lv a (fun v => W' (pc + 2) lv (v :: st) h w) := hv
    obtain ⟨q, h1, hv⟩ := vldD_s hv
    exact (hW _ _ _ _ _ hv).step (Nat.le_refl _) (Nat.le_refl _) fun C _ _ x => aw_dload C hd h1 x
  case dload_n a =>
    obtain rfl : len = 1 := by simpa [lenB] using hn
    have hv : vldD lv a (fun v => W' (pc + 1) lv (v :: st) h w) := hv
    obtain ⟨q, h1, hv⟩ := vldD_s hv
    exact (hW _ _ _ _ _ hv).step (Nat.le_refl _) (Nat.le_refl _) fun C _ _ x => aw_dload_n C hd h1 x
  case aload a =>
    obtain rfl : len = 2 := by simpa [lenB] using hn
    have hv : vldA lv a (fun v => W' (pc + 2) lv (v :: st) h w) := hv
    rcases vldA_s hv with ⟨q, h1, hv⟩ | ⟨q, h1, hv⟩
    · exact (hW _ _ _ _ _ hv).step (Nat.le_refl _) (Nat.le_refl _) fun C _ _ x => aw_aload C hd h1 x
    · exact (hW _ _ _ _ _ hv).step (Nat.le_refl _) (Nat.le_refl _) fun C _ _ x => aw_aload_x C hd h1 x
  case aload_n a =>
    obtain rfl : len = 1 := by simpa [lenB] using hn
    have hv : vldA lv a (fun v => W' (pc + 1) lv (v :: st) h w) := hv
    rcases vldA_s hv with ⟨q, h1, hv⟩ | ⟨q, h1, hv⟩
    · exact (hW _ _ _ _ _ hv).step (Nat.le_refl _) (Nat.le_refl _) fun C _ _ x => aw_aload_n C hd h1 x
    · exact (hW _ _ _ _ _ hv).step (Nat.le_refl _) (Nat.le_refl _) fun C _ _ x => aw_aload_nx C hd h1 x
  case istore a =>
    obtain rfl : len = 2 := by simpa [lenB] using hn
    obtain ⟨q, t, rfl, hv⟩ := vI_s hv
    obtain ⟨hb, hv⟩ := bif_t hv
    exact (hW _ _ _ _ _ hv).step (Nat.le_refl _) (Nat.le_refl _) fun C _ _ x => aw_istore C hd (Nat.le_of_ble_eq_true hb) x
  case istore_n a =>
    obtain rfl : len = 1 := by simpa [lenB] using hn
    obtain ⟨q, t, rfl, hv⟩ := vI_s hv
    obtain ⟨hb, hv⟩ := bif_t hv
    exact (hW _ _ _ _ _ hv).step (Nat.le_refl _) (Nat.le_refl _) fun C _ _ x => aw_istore_n C hd (Nat.le_of_ble_eq_true hb) x
  case lstore a =>
    obtain rfl : len = 2 := by simpa [lenB] using hn
    obtain ⟨q, t, rfl, hv⟩ := vL_s hv
    obtain ⟨hb, hv⟩ := bif_t hv
    exact (hW _ _ _ _ _ hv).step (Nat.le_refl _) (Nat.le_refl _) fun C _ _ x => aw_lstore C hd (Nat.le_of_ble_eq_true hb) x
  case lstore_n a =>
    obtain rfl : len = 1 := by simpa [lenB] using hn
    obtain ⟨q, t, rfl, hv⟩ := vL_s hv
    obtain ⟨hb, hv⟩ := bif_t hv
    exact (hW _ _ _ _ _ hv).step (Nat.le_refl _) (Nat.le_refl _) fun C _ _ x => aw_lstore_n C hd (Nat.le_of_ble_eq_true hb) x
  case dstore a =>
    obtain rfl : len = 2 := by simpa [lenB] using hn
    obtain ⟨q, t, rfl, hv⟩ := vD_s hv
    obtain ⟨hb, hv⟩ := bif_t hv
    exact (hW _ _ _ _ _ hv).step (Nat.le_refl _) (Nat.le_refl _) fun C _ _ x => aw_dstore C hd (Nat.le_of_ble_eq_true hb) x
  case dstore_n a =>
    obtain rfl : len = 1 := by simpa [lenB] using hn
    obtain ⟨q, t, rfl, hv⟩ := vD_s hv
    obtain ⟨hb, hv⟩ := bif_t hv
    exact (hW _ _ _ _ _ hv).step (Nat.le_refl _) (Nat.le_refl _) fun C _ _ x => aw_dstore_n C hd (Nat.le_of_ble_eq_true hb) x
  case astore a =>
    obtain rfl : len = 2 := by simpa [lenB] using hn
    match st, hv with
    | .ref q :: t, hv =>
      obtain ⟨hb, hv⟩ := bif_t hv
      exact (hW _ _ _ _ _ hv).step (Nat.le_refl _) (Nat.le_refl _) fun C _ _ x => aw_astore C hd (Nat.le_of_ble_eq_true hb) x
  case astore_n a =>
    obtain rfl : len = 1 := by simpa [lenB] using hn
    match st, hv with
    | .ref q :: t, hv =>
      obtain ⟨hb, hv⟩ := bif_t hv
      exact (hW _ _ _ _ _ hv).step (Nat.le_refl _) (Nat.le_refl _) fun C _ _ x => aw_astore_n C hd (Nat.le_of_ble_eq_true hb) x
  case iinc a b =>
    obtain rfl : len = 3 := by simpa [lenB] using hn
    have hq := of_decide_eq_true (show decide (v = .int (Int32.ofInt b)) = true from hl)
    subst hq
    have hv : vldI lv a (fun v => incP (.int (Int32.ofInt b)) v fun r => bif Nat.ble (a + 1) (mL k) then W' (pc + 3) (st1 lv a (some r)) st h w else False) := hv
    obtain ⟨q, h1, hv⟩ := vldI_s hv
    have hv : bif Nat.ble (a + 1) (mL k) then W' (pc + 3) (st1 lv a (some (.int (q + Int32.ofInt b)))) st h w else False := hv
    obtain ⟨hb, hv⟩ := bif_t hv
    exact (hW _ _ _ _ _ hv).step (Nat.le_refl _) (Nat.le_refl _) fun C _ _ x => aw_iinc C hd h1 (Nat.le_of_ble_eq_true hb) x
  case iadd  =>
    obtain rfl : len = 1 := by simpa [lenB] using hn
    obtain ⟨q1, q2, t, rfl, hv⟩ := vII_s hv
    exact (hW _ _ _ _ _ hv).step (Nat.le_refl _) (Nat.le_refl _) fun C _ _ x => aw_iadd C hd x
  case isub  =>
    obtain rfl : len = 1 := by simpa [lenB] using hn
    obtain ⟨q1, q2, t, rfl, hv⟩ := vII_s hv
    exact (hW _ _ _ _ _ hv).step (Nat.le_refl _) (Nat.le_refl _) fun C _ _ x => aw_isub C hd x
  case imul  =>
    obtain rfl : len = 1 := by simpa [lenB] using hn
    obtain ⟨q1, q2, t, rfl, hv⟩ := vII_s hv
    exact (hW _ _ _ _ _ hv).step (Nat.le_refl _) (Nat.le_refl _) fun C _ _ x => aw_imul C hd x
  case iand  =>
    obtain rfl : len = 1 := by simpa [lenB] using hn
    obtain ⟨q1, q2, t, rfl, hv⟩ := vII_s hv
    exact (hW _ _ _ _ _ hv).step (Nat.le_refl _) (Nat.le_refl _) fun C _ _ x => aw_iand C hd x
  case ior  =>
    obtain rfl : len = 1 := by simpa [lenB] using hn
    obtain ⟨q1, q2, t, rfl, hv⟩ := vII_s hv
    exact (hW _ _ _ _ _ hv).step (Nat.le_refl _) (Nat.le_refl _) fun C _ _ x => aw_ior C hd x
  case ixor  =>
    obtain rfl : len = 1 := by simpa [lenB] using hn
    obtain ⟨q1, q2, t, rfl, hv⟩ := vII_s hv
    exact (hW _ _ _ _ _ hv).step (Nat.le_refl _) (Nat.le_refl _) fun C _ _ x => aw_ixor C hd x
  case ishl  =>
    obtain rfl : len = 1 := by simpa [lenB] using hn
    obtain ⟨q1, q2, t, rfl, hv⟩ := vII_s hv
    exact (hW _ _ _ _ _ hv).step (Nat.le_refl _) (Nat.le_refl _) fun C _ _ x => aw_ishl C hd x
  case ishr  =>
    obtain rfl : len = 1 := by simpa [lenB] using hn
    obtain ⟨q1, q2, t, rfl, hv⟩ := vII_s hv
    exact (hW _ _ _ _ _ hv).step (Nat.le_refl _) (Nat.le_refl _) fun C _ _ x => aw_ishr C hd x
  case iushr  =>
    obtain rfl : len = 1 := by simpa [lenB] using hn
    obtain ⟨q1, q2, t, rfl, hv⟩ := vII_s hv
    exact (hW _ _ _ _ _ hv).step (Nat.le_refl _) (Nat.le_refl _) fun C _ _ x => aw_iushr C hd x
  case idiv  =>
    obtain rfl : len = 1 := by simpa [lenB] using hn
    obtain ⟨q1, q2, t, rfl, hne, hv⟩ := vII_s hv
    exact (hW _ _ _ _ _ hv).step (Nat.le_refl _) (Nat.le_refl _) fun C _ _ x => aw_idiv C hd hne x
  case irem  =>
    obtain rfl : len = 1 := by simpa [lenB] using hn
    obtain ⟨q1, q2, t, rfl, hne, hv⟩ := vII_s hv
    exact (hW _ _ _ _ _ hv).step (Nat.le_refl _) (Nat.le_refl _) fun C _ _ x => aw_irem C hd hne x
  case ladd  =>
    obtain rfl : len = 1 := by simpa [lenB] using hn
    obtain ⟨q1, q2, t, rfl, hv⟩ := vLL_s hv
    exact (hW _ _ _ _ _ hv).step (Nat.le_refl _) (Nat.le_refl _) fun C _ _ x => aw_ladd C hd x
  case lsub  =>
    obtain rfl : len = 1 := by simpa [lenB] using hn
    obtain ⟨q1, q2, t, rfl, hv⟩ := vLL_s hv
    exact (hW _ _ _ _ _ hv).step (Nat.le_refl _) (Nat.le_refl _) fun C _ _ x => aw_lsub C hd x
  case lmul  =>
    obtain rfl : len = 1 := by simpa [lenB] using hn
    obtain ⟨q1, q2, t, rfl, hv⟩ := vLL_s hv
    exact (hW _ _ _ _ _ hv).step (Nat.le_refl _) (Nat.le_refl _) fun C _ _ x => aw_lmul C hd x
  case land  =>
    obtain rfl : len = 1 := by simpa [lenB] using hn
    obtain ⟨q1, q2, t, rfl, hv⟩ := vLL_s hv
    exact (hW _ _ _ _ _ hv).step (Nat.le_refl _) (Nat.le_refl _) fun C _ _ x => aw_land C hd x
  case lcmp  =>
    obtain rfl : len = 1 := by simpa [lenB] using hn
    obtain ⟨q1, q2, t, rfl, hv⟩ := vLL_s hv
    exact (hW _ _ _ _ _ hv).step (Nat.le_refl _) (Nat.le_refl _) fun C _ _ x => aw_lcmp C hd x
  case lrem  =>
    obtain rfl : len = 1 := by simpa [lenB] using hn
    obtain ⟨q1, q2, t, rfl, hne, hv⟩ := vLL_s hv
    exact (hW _ _ _ _ _ hv).step (Nat.le_refl _) (Nat.le_refl _) fun C _ _ x => aw_lrem C hd hne x
  case lshl  =>
    obtain rfl : len = 1 := by simpa [lenB] using hn
    obtain ⟨q1, q2, t, rfl, hv⟩ := vLI_s hv
    exact (hW _ _ _ _ _ hv).step (Nat.le_refl _) (Nat.le_refl _) fun C _ _ x => aw_lshl C hd x
  case ineg  =>
    obtain rfl : len = 1 := by simpa [lenB] using hn
    obtain ⟨q1, t, rfl, hv⟩ := vI_s hv
    exact (hW _ _ _ _ _ hv).step (Nat.le_refl _) (Nat.le_refl _) fun C _ _ x => aw_ineg C hd x
  case i2l  =>
    obtain rfl : len = 1 := by simpa [lenB] using hn
    obtain ⟨q1, t, rfl, hv⟩ := vI_s hv
    exact (hW _ _ _ _ _ hv).step (Nat.le_refl _) (Nat.le_refl _) fun C _ _ x => aw_i2l C hd x
  case l2i  =>
    obtain rfl : len = 1 := by simpa [lenB] using hn
    obtain ⟨q1, t, rfl, hv⟩ := vL_s hv
    exact (hW _ _ _ _ _ hv).step (Nat.le_refl _) (Nat.le_refl _) fun C _ _ x => aw_l2i C hd x
  case i2d  =>
    obtain rfl : len = 1 := by simpa [lenB] using hn
    obtain ⟨q1, t, rfl, hv⟩ := vI_s hv
    exact (hW _ _ _ _ _ hv).step (Nat.le_refl _) (Nat.le_refl _) fun C _ _ x => aw_i2d C hd x
  case d2l  =>
    obtain rfl : len = 1 := by simpa [lenB] using hn
    obtain ⟨q1, t, rfl, hv⟩ := vD_s hv
    exact (hW _ _ _ _ _ hv).step (Nat.le_refl _) (Nat.le_refl _) fun C _ _ x => aw_d2l C hd x
  case dcmp a =>
    obtain rfl : len = 1 := by simpa [lenB] using hn
    obtain ⟨q1, q2, t, rfl, hv⟩ := vDD_s hv
    exact (hW _ _ _ _ _ hv).step (Nat.le_refl _) (Nat.le_refl _) fun C _ _ x => aw_dcmp C hd x
  case ddiv  =>
    obtain rfl : len = 1 := by simpa [lenB] using hn
    obtain ⟨q1, q2, t, rfl, hne, hv⟩ := vDD_s hv
    exact (hW _ _ _ _ _ hv).step (Nat.le_refl _) (Nat.le_refl _) fun C _ _ x => aw_ddiv C hd hne x
  case dmul  =>
    obtain rfl : len = 1 := by simpa [lenB] using hn
    obtain ⟨q1, q2, t, rfl, hne, hv⟩ := vDD_s hv
    exact (hW _ _ _ _ _ hv).step (Nat.le_refl _) (Nat.le_refl _) fun C _ _ x => aw_dmul C hd hne x
  case dsub  =>
    obtain rfl : len = 1 := by simpa [lenB] using hn
    obtain ⟨q1, q2, t, rfl, hne, hv⟩ := vDD_s hv
    exact (hW _ _ _ _ _ hv).step (Nat.le_refl _) (Nat.le_refl _) fun C _ _ x => aw_dsub C hd hne x
  case dup  =>
    obtain rfl : len = 1 := by simpa [lenB] using hn
    match st, hv with
    | .int q :: t, hv => exact (hW _ _ _ _ _ hv).step (Nat.le_refl _) (Nat.le_refl _) fun C _ _ x => aw_dup C hd rfl x
    | .ref q :: t, hv => exact (hW _ _ _ _ _ hv).step (Nat.le_refl _) (Nat.le_refl _) fun C _ _ x => aw_dup C hd rfl x
  case dup2  =>
    obtain rfl : len = 1 := by simpa [lenB] using hn
    match st, hv with
    | .int q :: .ref q2 :: t, hv => exact (hW _ _ _ _ _ hv).step (Nat.le_refl _) (Nat.le_refl _) fun C _ _ x => aw_dup2 C hd rfl rfl x
  case ifCond a b =>
    obtain rfl : len = 3 := by simpa [lenB] using hn
    obtain ⟨q1, t, rfl, hv⟩ := vI_s hv
    have ht : (pc : Int) + b = (x : Int) := by simpa [lkd] using hl
    cases a with
    | eq => exact wp.if2 (Classical.em _) (fun q => hW _ _ _ _ _ (hv.1 q)) (fun q => hW _ _ _ _ _ (hv.2 q)) (fun a b => b a) fun C => aw_if_eq C hd ht
    | ne => exact wp.if2 (Classical.em _).symm (fun q => hW _ _ _ _ _ (hv.1 q)) (fun q => hW _ _ _ _ _ (hv.2 q)) (fun a b => a b) fun C => aw_if_ne C hd ht
    | lt => exact wp.if2 (Classical.em _) (fun q => hW _ _ _ _ _ (hv.1 q)) (fun q => hW _ _ _ _ _ (hv.2 q)) (fun a b => b a) fun C => aw_if_lt C hd ht
    | ge => exact wp.if2 (Classical.em _) (fun q => hW _ _ _ _ _ (hv.1 q)) (fun q => hW _ _ _ _ _ (hv.2 q)) (fun a b => b a) fun C => aw_if_ge C hd ht
    | gt => exact wp.if2 (Classical.em _) (fun q => hW _ _ _ _ _ (hv.1 q)) (fun q => hW _ _ _ _ _ (hv.2 q)) (fun a b => b a) fun C => aw_if_gt C hd ht
    | le => exact wp.if2 (Classical.em _) (fun q => hW _ _ _ _ _ (hv.1 q)) (fun q => hW _ _ _ _ _ (hv.2 q)) (fun a b => b a) fun C => aw_if_le C hd ht
  case if_icmp a b =>
    obtain rfl : len = 3 := by simpa [lenB] using hn
    obtain ⟨q1, q2, t, rfl, hv⟩ := vII_s hv
    have ht : (pc : Int) + b = (x : Int) := by simpa [lkd] using hl
    cases a with
    | eq => exact wp.if2 (Classical.em _) (fun q => hW _ _ _ _ _ (hv.1 q)) (fun q => hW _ _ _ _ _ (hv.2 q)) (fun a b => b a) fun C => aw_icmp_eq C hd ht
    | ne => exact wp.if2 (Classical.em _).symm (fun q => hW _ _ _ _ _ (hv.1 q)) (fun q => hW _ _ _ _ _ (hv.2 q)) (fun a b => a b) fun C => aw_icmp_ne C hd ht
    | lt => exact wp.if2 (Classical.em _) (fun q => hW _ _ _ _ _ (hv.1 q)) (fun q => hW _ _ _ _ _ (hv.2 q)) (fun a b => b a) fun C => aw_icmp_lt C hd ht
    | ge => exact wp.if2 (Classical.em _) (fun q => hW _ _ _ _ _ (hv.1 q)) (fun q => hW _ _ _ _ _ (hv.2 q)) (fun a b => b a) fun C => aw_icmp_ge C hd ht
    | gt => exact wp.if2 (Classical.em _) (fun q => hW _ _ _ _ _ (hv.1 q)) (fun q => hW _ _ _ _ _ (hv.2 q)) (fun a b => b a) fun C => aw_icmp_gt C hd ht
    | le => exact wp.if2 (Classical.em _) (fun q => hW _ _ _ _ _ (hv.1 q)) (fun q => hW _ _ _ _ _ (hv.2 q)) (fun a b => b a) fun C => aw_icmp_le C hd ht
  case goto a =>
    obtain rfl : len = 3 := by simpa [lenB] using hn
    have ht : (pc : Int) + a = (x : Int) := by simpa [lkd] using hl
    exact (hW _ _ _ _ _ hv).step (Nat.le_refl _) (Nat.le_refl _) fun C _ _ x => aw_goto C hd ht x
  case lookupswitch a b =>
    obtain ⟨q1, t, rfl, hv⟩ := vI_s hv
    simp only [lkd, Bool.and_eq_true, decide_eq_true_eq] at hl
    obtain ⟨⟨l1, l2⟩, l3⟩ := hl
    have hge : 0 ≤ (pc : Int) + Op.lookupswitch.offset b.toList a q1.toInt := by
      rcases lsw_in (x := q1.toInt) (dflt := a) (ps := b.toList) with e | ⟨q, e1, e2⟩
      · rw [e]; exact l1
      · rw [e2]; exact of_decide_eq_true (List.all_eq_true.mp l2 q e1)
    exact (hW _ _ _ _ _ (lsw_s hv)).step (Nat.le_refl _) (Nat.le_refl _) fun C _ _ x => aw_lookup C hd l3 rfl (by omega) x
  case tableswitch a lo hi b =>
    obtain ⟨q1, t, rfl, hv⟩ := vI_s hv
    simp only [lkd, Bool.and_eq_true, decide_eq_true_eq] at hl
    obtain ⟨⟨l1, l2⟩, l3⟩ := hl
    have hlen : (b.toList.length : Int) = hi - lo + 1 := by rw [Array.length_toList]; exact l3
    rcases tsw_s hv with ⟨h1, hv⟩ | ⟨o, h1, h2, hv⟩
    · exact (hW _ _ _ _ _ hv).step (Nat.le_refl _) (Nat.le_refl _) fun C _ _ x => aw_tableOut C hd (by omega) (by omega) x
    · have hge : 0 ≤ (pc : Int) + o := of_decide_eq_true (List.all_eq_true.mp l2 o (List.mem_of_getElem? h2))
      exact (hW _ _ _ _ _ hv).step (Nat.le_refl _) (Nat.le_refl _) fun C _ _ x => aw_tableIn C hd (by omega) (by omega) (by rw [← Array.getElem?_toList]; exact h2) (by omega) x
  case getfield a =>
    obtain rfl : len = 3 := by simpa [lenB] using hn
    match st, hv with
    | .ref q :: t, hv =>
      obtain ⟨fs, he1, hv⟩ := hv
      simp only [lkd] at hl
      cases hc : clsL[x]? with
      | none => rw [hc] at hl; cases hl
      | some q9 =>
        obtain ⟨Cn, T, n⟩ := q9
        rw [hc] at hl
        simp only [Bool.and_eq_true, decide_eq_true_eq] at hl
        cases hg : vget fs y with
        | none => rw [hg] at hv; exact hv.elim
        | some u =>
          rw [hg] at hv
          exact (hW _ _ _ _ _ hv).step (Nat.le_refl _) (Nat.le_refl _) fun C _ _ x => aw_getfield C hd hc hl.1.1 hl.1.2 hl.2 he1 (vget_some hg) x
  case putfield a =>
    obtain rfl : len = 3 := by simpa [lenB] using hn
    match st, hv with
    | u :: .ref q :: t, hv =>
      obtain ⟨hf, hv⟩ := bif_t hv
      obtain ⟨fs, he1, hv⟩ := hv
      obtain ⟨hb, hv⟩ := bif_t hv
      simp only [lkd] at hl
      cases hc : clsL[x]? with
      | none => rw [hc] at hl; cases hl
      | some q9 =>
        obtain ⟨Cn, T, n⟩ := q9
        rw [hc] at hl
        simp only [Bool.and_eq_true, Bool.or_eq_true, decide_eq_true_eq] at hl
        exact (hW _ _ _ _ _ hv).step (Nat.le_refl _) (Nat.le_refl _) fun C _ _ x => aw_putfield C hd hc hl.1.1.1.1 hl.1.1.1.2 hl.1.1.2 hl.1.2 hf hl.2 he1 (Nat.le_of_ble_eq_true hb) x
  case getstatic a =>
    obtain rfl : len = 3 := by simpa [lenB] using hn
    simp only [lkd, Bool.and_eq_true, decide_eq_true_eq] at hl
    obtain ⟨l1, l2⟩ := hl
    by_cases hy : y = 0
    · rw [if_pos hy] at l2
      exact (hW _ _ _ _ _ hv).step (Nat.le_refl _) (Nat.le_refl _) fun C _ _ x => aw_getstatic C hd l1 l2 x
    · rw [if_neg hy] at l2
      simp only [Bool.and_eq_true, decide_eq_true_eq] at l2
      exact (hW _ _ _ _ _ hv).step (Nat.le_refl _) (Nat.le_refl _) fun C _ _ x => aw_getstaticN C hd l1 l2.1 l2.2 x
  case iaload  =>
    obtain rfl : len = 1 := by simpa [lenB] using hn
    match st, hv with
    | .int i :: .ref q :: t, hv =>
      obtain ⟨n, f, he1, j, rfl, ⟨h1, h2⟩, hv⟩ := hv
      exact (hW _ _ _ _ _ hv).step (Nat.le_refl _) (Nat.le_refl _) fun C _ _ x => aw_iaload C hd he1 (vp_in_nI h1 (by omega)) (by rw [nI_clamp (by omega)]; exact x)
    | .int i :: .retAddr q :: t, hv =>
      obtain ⟨j, rfl, ⟨h0, h1, h2⟩, hv⟩ := hv
      exact (hW _ _ _ _ _ hv).step (Nat.le_refl _) (Nat.le_refl _) fun C _ _ x => aw_iaload_x C hd h0 (vp_in_nI h1 (by omega)) (by rw [nI_clamp (by omega)]; exact x)
  case iastore  =>
    obtain rfl : len = 1 := by simpa [lenB] using hn
    match st, hv with
    | .int u :: .int i :: .ref q :: t, hv =>
      obtain ⟨n, f, he1, j, rfl, ⟨h1, h2⟩, hv⟩ := hv
      exact (hW _ _ _ _ _ hv).step (Nat.le_refl _) (Nat.le_refl _) fun C _ _ x => aw_iastore C hd he1 (vp_in_nI h1 (by omega)) (by rw [nI_clamp (by omega)]; exact x)
  case aaload  =>
    obtain rfl : len = 1 := by simpa [lenB] using hn
    match st, hv with
    | .int i :: .ref q :: t, hv =>
      obtain ⟨tk, n, f, he1, htk, j, r, rfl, ⟨h1, h2⟩, h3, hv⟩ := hv
      exact (hW _ _ _ _ _ hv).step (Nat.le_refl _) (Nat.le_refl _) fun C _ _ x => aw_aaload C hd htk he1 (vp_in_nI h1 (by omega)) (by rw [nI_clamp (by omega)]; exact h3) x
  case aastore  =>
    obtain rfl : len = 1 := by simpa [lenB] using hn
    match st, hv with
    | .ref r :: .int i :: .ref q :: t, hv =>
      obtain ⟨tk, n, f, he1, htk, j, vs, rfl, ⟨h1, h2⟩, h3, hv⟩ := hv
      exact (hW _ _ _ _ _ hv).step (Nat.le_refl _) (Nat.le_refl _) fun C _ _ x => aw_aastore C hd htk he1 (vp_in_nI h1 (by omega)) h3 (by rw [nI_clamp (by omega)]; exact x)
  case arraylength  =>
    obtain rfl : len = 1 := by simpa [lenB] using hn
    match st, hv with
    | .retAddr q :: t, hv => exact (hW _ _ _ _ _ hv.2).step (Nat.le_refl _) (Nat.le_refl _) fun C _ _ x => aw_alen_x C hd hv.1 x
  case new a =>
    obtain rfl : len = 3 := by simpa [lenB] using hn
    simp only [lkd] at hl
    cases hx : Nat.ble 100 x with
    | true =>
      have hx1 := Nat.le_of_ble_eq_true hx
      have hv : bif Nat.ble 100 x then (6 ≤ d ∧ (bif sm8 st then K (.inr (x - 100)) h (w.1, w.2.1 + 1, w.2.2 + 6) else False)) else _ := hv
      rw [hx] at hv
      obtain ⟨h6, hv⟩ := hv
      obtain ⟨hb, hv⟩ := bif_t hv
      have hc : clsL[x]? = none := List.getElem?_eq_none (by show 6 ≤ x; omega)
      rw [hc] at hl
      simp only [Bool.and_eq_true, decide_eq_true_eq] at hl
      obtain ⟨⟨l1, l2⟩, l3⟩ := hl
      unfold thrOK at l3
      rcases (Bool.or_eq_true _ _).mp l3 with l3 | l3
      · unfold thrA at l3
        split at l3
        · rename_i l1' y1 is l2' y2 ic l3' y3 l4' y4 g3 g4 g6 g9
          simp only [Bool.and_eq_true, decide_eq_true_eq, List.any_eq_true] at l3
          obtain ⟨⟨⟨⟨rfl, rfl, rfl, rfl⟩, ⟨q, hq1, hq2, hq3⟩⟩, hex⟩, hh⟩ := l3
          refine wp.ends (.inr (x - 100), h, (w.1, w.2.1 + 1, w.2.2 + 6)) hv (Nat.le_succ _) (Nat.le_add_right _ _) fun C c1 c2 => ?_
          exact aw_throw C h6 (by omega) l2 hex ⟨q, hq1, hq2, hq3⟩ hh hd (ce_ok hk g3).1 (ce_ok hk g4).1 (ce_ok hk g6).1 (ce_ok hk g9).1 (sm8_le hb) rfl c1 c2
        · cases l3
      · unfold thrB at l3
        split at l3
        · rename_i l1' y1 is l2' y2 ic l3' y3 l4' y4 g3 g4 g6 g9
          simp only [Bool.and_eq_true, decide_eq_true_eq, List.any_eq_true] at l3
          obtain ⟨⟨⟨⟨rfl, rfl, rfl, rfl⟩, ⟨q, hq1, hq2, hq3⟩⟩, hex⟩, hh⟩ := l3
          refine wp.ends (.inr (x - 100), h, (w.1, w.2.1 + 1, w.2.2 + 6)) hv (Nat.le_succ _) (Nat.le_add_right _ _) fun C c1 c2 => ?_
          exact aw_throwW C h6 (by omega) l2 hex ⟨q, hq1, hq2, hq3⟩ hh hd (ce_ok hk g3).1 (ce_ok hk g4).1 (ce_ok hk g6).1 (ce_ok hk g9).1 (sm8_le hb) rfl c1 c2
        · cases l3
    | false =>
      have hv : bif Nat.ble 100 x then _ else w.2.1 = w.1 ∧ W' (pc + 3) lv (.ref w.1 :: st) (upA h w.1 (.inr (x, dfl x (insW x)))) (w.1 + 1, w.2.1 + 1, w.2.2 + insW x) := hv
      rw [hx] at hv
      obtain ⟨h1, hv⟩ := hv
      cases hc : clsL[x]? with
      | none =>
        rw [hc] at hl
        simp only [Bool.and_eq_true, decide_eq_true_eq] at hl
        rw [Nat.ble_eq_true_of_le hl.1.1.1] at hx
        cases hx
      | some q9 =>
        obtain ⟨Cn, T, n⟩ := q9
        rw [hc] at hl
        have hn9 : insW x = n := by
          match x, hc with
          | 0, hc => cases hc; rfl
          | 1, hc => cases hc; rfl
          | 2, hc => cases hc; rfl
          | 3, hc => cases hc; rfl
          | 4, hc => cases hc; rfl
          | 5, hc => cases hc; rfl
          | x + 6, hc => simp [clsL] at hc
        rw [hn9] at hv
        exact (hW _ _ _ _ _ hv).step (Nat.le_succ _) (Nat.le_add_right _ _) fun C c1 c2 x => aw_new C hd hc hl h1 c1 c2 x
  case newarray a =>
    obtain rfl : len = 2 := by simpa [lenB] using hn
    obtain ⟨i, t, rfl, hv9⟩ := vI_s hv
    simp only [lkd, decide_eq_true_eq] at hl
    rcases hl with ⟨rfl, rfl⟩ | ⟨rfl, rfl⟩
    · obtain ⟨n, rfl, h1, h2, hv2⟩ := hv9
      exact (hW _ _ _ _ _ hv2).step (Nat.le_succ _) (Nat.le_add_right _ _) fun C c1 c2 x => aw_newint C hd h1 h2 c1 c2 x
    · exact False.elim hv9
  case anewarray a =>
    obtain rfl : len = 3 := by simpa [lenB] using hn
    obtain ⟨i, t, rfl, n, rfl, h1, h2, hv2⟩ := vI_s hv
    simp only [lkd] at hl
    by_cases hx : x = 2
    · rw [if_pos hx] at hl
      subst hx
      exact (hW _ _ _ _ _ hv2).step (Nat.le_succ _) (Nat.le_add_right _ _) fun C c1 c2 x => aw_newref C hd (by omega) (E := RX3) rfl (Or.inl rfl) hl h1 h2 c1 c2 x
    · rw [if_neg hx] at hl
      simp only [Bool.and_eq_true, decide_eq_true_eq] at hl
      obtain ⟨rfl, hl⟩ := hl
      exact (hW _ _ _ _ _ hv2).step (Nat.le_succ _) (Nat.le_add_right _ _) fun C c1 c2 x => aw_newref C hd (by omega) (E := RX2) rfl (Or.inr rfl) hl h1 h2 c1 c2 x
  case invokevirtual a =>
    obtain rfl : len = 3 := by simpa [lenB] using hn
    simp only [lkd, Bool.and_eq_true, decide_eq_true_eq] at hl
    obtain ⟨⟨l1, l2, l2'⟩, l3⟩ := hl
    have hv : recP x st h (callP d k x pc (mN x) lv st h w W' (Cl G) K) := hv
    unfold recP at hv
    split at hv
    · rename_i b t hdr
      obtain ⟨ci, fs, he1, ⟨⟨Cn, T, n⟩, hc, hq⟩, hv⟩ := hv
      have hq : Cn = (mY x).cls := hq
      subst hq
      have hpos : 0 < mN x := mN_pos l1 (by omega)
      obtain ⟨as, r1, r2, r3, r4⟩ := st_recv hpos hdr
      refine call_s hk hW hv fun {d'} hd1 hle hs8 {F1} {p} {e} {R} {s} {m} {args} {below} {meth} {c} {Q} C hM c1 c2 kr kx => ?_
      rw [r1] at hM
      rw [← r4] at kr kx hs8
      rw [r3]
      exact aw_callV C hd l1 l2 l2' l3 hc he1 r2 hs8 hM c1 c2 kr kx
    · exact hv.elim
  case invokestatic a =>
    obtain rfl : len = 3 := by simpa [lenB] using hn
    have hv : bif Nat.ble 1000 x then _ else callP d k x pc (mN x) lv st h w W' (Cl G) K := hv
    simp only [lkd] at hl
    cases hb : Nat.ble 1000 x with
    | false =>
      rw [hb] at hv
      have hx9 : ¬ 1000 ≤ x := fun q => by rw [Nat.ble_eq_true_of_le q] at hb; cases hb
      rw [if_neg (by omega), if_neg (by omega), if_neg (by omega), if_neg (by omega)] at hl
      simp only [Bool.and_eq_true, decide_eq_true_eq] at hl
      obtain ⟨⟨l1, l2⟩, l3⟩ := hl
      refine call_s hk hW hv fun {d'} hd1 hle hs8 {F1} {p} {e} {R} {s} {m} {args} {below} {meth} {c} {Q} C hM c1 c2 kr kx => ?_
      have h9 := aw_callS (as := (st.take (mN x)).reverse) C hd l1 l2 l3 (by rw [List.length_reverse, List.length_take]; omega) hs8 hM c1 c2 kr kx
      rw [st_split] at h9
      exact h9
    | true =>
      rw [hb] at hv
      have hv : natP G d x pc lv st h w W' := hv
      cases d with
      | zero => exact hv.elim
      | succ d' =>
        unfold natP at hv
        by_cases e0 : x = 1000
        · subst e0
          rw [if_pos rfl] at hl
          have hv : cpyP G pc lv st h w W' := hv
          unfold cpyP at hv
          split at hv
          · obtain ⟨hs, n', dp', sp', rfl, rfl, rfl, n0, f, n1, g, g1, g2, ⟨g3, g4, g5, g6⟩, hv⟩ := hv
            exact (hW _ _ _ _ _ hv).step (Nat.le_refl _) (Nat.le_refl _) fun C _ _ x => aw_copy C hd hl (sm8_le hs) g1 g2 g3 g4 g5 g6 x
          · obtain ⟨hs, n', dp', sp', rfl, rfl, rfl, n1, g, g2, ⟨g0, g3, g4, g5, g6⟩, hv⟩ := hv
            exact (hW _ _ _ _ _ hv).step (Nat.le_refl _) (Nat.le_refl _) fun C _ _ x => aw_copy_x C hd hl (sm8_le hs) g0 g2 g3 g4 g5 g6 x
          · exact hv.elim
        · rw [show Nat.beq x 1000 = false by cases hq : Nat.beq x 1000 with | false => rfl | true => exact absurd (Nat.eq_of_beq_eq_true hq) e0] at hv
          rw [if_neg e0] at hl
          by_cases e1 : x = 1001
          · subst e1
            rw [if_pos rfl] at hl
            exact False.elim hv
          · rw [show Nat.beq x 1001 = false by cases hq : Nat.beq x 1001 with | false => rfl | true => exact absurd (Nat.eq_of_beq_eq_true hq) e1] at hv
            rw [if_neg e1] at hl
            by_cases e2 : x = 1004
            · subst e2
              rw [if_pos rfl] at hl
              obtain ⟨q1, q2, t, rfl, hv⟩ := vII_s hv
              obtain ⟨hs, hv⟩ := bif_t hv
              exact (hW _ _ _ _ _ hv).step (Nat.le_refl _) (Nat.le_refl _) fun C c1 c2 x => aw_max C hd hl (sm8_le hs) c1 c2 x
            · rw [show Nat.beq x 1004 = false by cases hq : Nat.beq x 1004 with | false => rfl | true => exact absurd (Nat.eq_of_beq_eq_true hq) e2] at hv
              rw [if_neg e2] at hl
              by_cases e3 : x = 1005
              · subst e3
                rw [if_pos rfl] at hl
                obtain ⟨q1, q2, t, rfl, hv⟩ := vII_s hv
                obtain ⟨hs, hv⟩ := bif_t hv
                exact (hW _ _ _ _ _ hv).step (Nat.le_refl _) (Nat.le_refl _) fun C c1 c2 x => aw_min C hd hl (sm8_le hs) c1 c2 x
              · rw [show Nat.beq x 1005 = false by cases hq : Nat.beq x 1005 with | false => rfl | true => exact absurd (Nat.eq_of_beq_eq_true hq) e3] at hv
                exact hv.elim
  case invokespecial a =>
    obtain rfl : len = 3 := by simpa [lenB] using hn
    have hv : bif Nat.beq x 1002 then objP d pc lv st h w W' else bif Nat.ble 1000 x then False else iniP (mR x) (st.drop (mN x - 1)) (callP d k x pc (mN x) lv st h w W' (Cl G) K) := hv
    simp only [lkd] at hl
    by_cases e0 : x = 1002
    · subst e0
      rw [if_pos rfl] at hl
      have hv : objP d pc lv st h w W' := hv
      cases d with
      | zero => exact hv.elim
      | succ d' =>
        unfold objP at hv
        split at hv
        · rename_i heq
          cases heq
        · split at hv
          · obtain ⟨hs, hv⟩ := bif_t hv
            exact (hW _ _ _ _ _ hv).step (Nat.le_refl _) (Nat.le_refl _) fun C _ _ x => aw_objInit C hd hl (sm8_le hs) x
          · exact hv.elim
    · rw [show Nat.beq x 1002 = false by cases hq : Nat.beq x 1002 with | false => rfl | true => exact absurd (Nat.eq_of_beq_eq_true hq) e0] at hv
      rw [if_neg e0] at hl
      cases hb : Nat.ble 1000 x with
      | true => rw [hb] at hv; exact hv.elim
      | false =>
        rw [hb] at hv
        have hx9 : ¬ 1000 ≤ x := fun q => by rw [Nat.ble_eq_true_of_le q] at hb; cases hb
        rw [if_neg (by omega)] at hl
        simp only [Bool.and_eq_true, decide_eq_true_eq] at hl
        obtain ⟨⟨l1, l2, l2'⟩, l3⟩ := hl
        have hv : iniP (mR x) (st.drop (mN x - 1)) (callP d k x pc (mN x) lv st h w W' (Cl G) K) := hv
        obtain ⟨hrt, b, t, hdr, hv⟩ := ini_s hv
        · have hpos : 0 < mN x := mN_pos l1 (by omega)
          obtain ⟨as, r1, r2, r3, r4⟩ := st_recv hpos hdr
          refine call_s hk hW hv fun {d'} hd1 hle hs8 {F1} {p} {e} {R} {s} {m} {args} {below} {meth} {c} {Q} C hM c1 c2 kr kx => ?_
          rw [r1] at hM
          rw [← r4] at kr kx hs8
          rw [r3]
          refine aw_callI (y := y) (z := z) C hd l1 l2 l2' hrt ?_ r2 hs8 hM c1 c2 kr kx
          by_cases hy : y = 0
          · rw [if_pos hy] at l3 ⊢; exact l3
          · rw [if_neg hy] at l3 ⊢
            simp only [Bool.and_eq_true, decide_eq_true_eq] at l3
            exact l3
  case lreturn  =>
    obtain rfl : len = 1 := by simpa [lenB] using hn
    match st, hv with
    | [.long q], hv =>
      have hv : match mR k with
        | some .long => K (.inl (some (.long q))) h w
        | _ => False := hv
      split at hv
      · rename_i hr
        exact wp.ends (.inl (some (.long q)), h, w) hv (Nat.le_refl _) (Nat.le_refl _) fun C c1 c2 => aw_lret C hd hr rfl c1 c2
      · exact hv.elim
  case dreturn  =>
    obtain rfl : len = 1 := by simpa [lenB] using hn
    match st, hv with
    | [.double q], hv =>
      have hv : match mR k with
        | some .double => K (.inl (some (.double q))) h w
        | _ => False := hv
      split at hv
      · rename_i hr
        exact wp.ends (.inl (some (.double q)), h, w) hv (Nat.le_refl _) (Nat.le_refl _) fun C c1 c2 => aw_dret C hd hr rfl c1 c2
      · exact hv.elim
  case ireturn  =>
    obtain rfl : len = 1 := by simpa [lenB] using hn
    match st, hv with
    | [.int q], hv =>
      have hv : match mR k with
        | some .int => K (.inl (some (.int q))) h w
        | some .boolean => (q = 0 ∨ q = 1) ∧ K (.inl (some (.int q))) h w
        | _ => False := hv
      split at hv
      · rename_i hr
        exact wp.ends (.inl (some (.int q)), h, w) hv (Nat.le_refl _) (Nat.le_refl _) fun C c1 c2 => aw_iret C hd hr rfl c1 c2
      · rename_i hr
        exact wp.ends (.inl (some (.int q)), h, w) hv.2 (Nat.le_refl _) (Nat.le_refl _) fun C c1 c2 => aw_zret C hd hr hv.1 rfl c1 c2
      · exact hv.elim
  case return_  =>
    obtain rfl : len = 1 := by simpa [lenB] using hn
    match st, hv with
    | [], hv =>
      have hv : match mR k with
        | none => K (.inl none) h w
        | _ => False := hv
      split at hv
      · rename_i hr
        exact wp.ends (.inl none, h, w) hv (Nat.le_refl _) (Nat.le_refl _) fun C c1 c2 => aw_vret C hd hr rfl c1 c2
      · exact hv.elim
  all_goals exact hv.elim
theorem vc_sound {G : GG} {d k T0 s0 : Nat} {K : AO → AH → W3 → Prop} (hk : k < nMeth) (cuts : List Nat) : ∀ (n : Nat) (pc : Nat) (lv : AL) (st : List Value) (h : AH) (w : W3), vc G d k (wp G d k T0 s0 K) (Cl G) K cuts n pc lv st h w → wp G d k T0 s0 K pc lv st h w
  | 0, pc, lv, st, h, w, hv => hv
  | n + 1, pc, lv, st, h, w, hv => by
    unfold vc at hv
    cases hc : ce k pc with
    | none => rw [hc] at hv; exact hv.elim
    | some e =>
      rw [hc] at hv
      refine vc1_sound hk hc (fun pc' lv' st' h' w' hx => ?_) hv
      cases hb : cutB cuts pc pc' with
      | true => rw [hb] at hx; exact hx
      | false => rw [hb] at hx; exact vc_sound hk cuts n pc' lv' st' h' w' hx
/-- how it is used: W' and C stay as names, so that whnf stops at them -/
theorem wp_vc {G : GG} {d k T0 s0 : Nat} {K : AO → AH → W3 → Prop} {pc : Nat} {lv : AL} {st : List Value} {h : AH} {w : W3} (cuts : List Nat) (n : Nat) (hk : Nat.ble (k + 1) nMeth = true)
    (hv : ∀ (W' : WK) (C : CK), W' = wp G d k T0 s0 K → C = Cl G → vc G d k W' C K cuts n pc lv st h w) : wp G d k T0 s0 K pc lv st h w :=
  vc_sound (Nat.le_of_ble_eq_true hk) cuts n pc lv st h w (hv _ _ rfl rfl)
