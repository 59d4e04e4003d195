/-! ===== the Strings and the statics at the law's start ===== -/
def stm (i : Nat) : Term := match i with
  | 0 => .string RX0 26
  | 1 => .string RX0 86
  | 2 => .string RX0 88
  | 3 => .string RX0 90
  | 4 => .string RX0 92
  | _ => .string RX0 94
abbrev nrw : List Cond := flatC (Jvm.Cond.and given_1 narrow_1)
set_option maxRecDepth 100000 in
theorem sr_exact : ∀ i, i < 6 → Cond.exactly (stm i) "java/lang/String" ∈ nrw := by decide +kernel
set_option maxRecDepth 100000 in
theorem sr_coder : ∀ i, i < 6 → Cond.eq (.field (stm i) "java/lang/String" "coder" "B") (.int 0) ∈ nrw := by decide +kernel
set_option maxRecDepth 100000 in
theorem sr_arr : ∀ i, i < 6 → Cond.arrayOf (.field (stm i) "java/lang/String" "value" "[B") .byte ∈ nrw := by decide +kernel
set_option maxRecDepth 100000 in
theorem sr_len : ∀ i, i < 6 → Cond.eq (.length (.field (stm i) "java/lang/String" "value" "[B")) (.int (Int32.ofNat (sLen.getD i 0))) ∈ nrw := by decide +kernel
set_option maxRecDepth 100000 in
theorem sr_el : ∀ i, i < 6 → ∀ j, j < sLen.getD i 0 → Cond.eq (.elem (.field (stm i) "java/lang/String" "value" "[B") (.int (Int32.ofNat j))) (.int ((sByt.getD i []).getD j 0)) ∈ nrw := by decide +kernel
set_option maxRecDepth 100000 in
theorem sr_ne : ∀ i, i < 6 → ∀ j, j < 6 → i ≠ j → (Cond.not (Cond.eq (stm i) (stm j)) ∈ nrw ∨ Cond.not (Cond.eq (stm j) (stm i)) ∈ nrw) := by decide +kernel
theorem eq_ref {args : Array Value} {s : State} {t u : Term} {a : Nat} (ht : t.eval args s none [] s = some (.ref a)) (h : (Cond.eq t u).before args s = true) : u.eval args s none [] s = some (.ref a) := by
  cases hv : u.eval args s none [] s with
  | none => simp [Cond.before, Cond.holds, Cond.value, ht, hv] at h
  | some w =>
    simp only [Cond.before, Cond.holds, Cond.value, ht, hv] at h
    cases w <;> simp_all
set_option maxHeartbeats 4000000 in
set_option maxRecDepth 100000 in
theorem st_str {s : State} {args : Array Value} (hts : ∀ w ∈ lw_tbl, w.before args s = true) (hgv : (Jvm.Cond.and given_1 narrow_1).before args s = true) :
    ∃ (adK adV : Nat → Nat) (F : Value), ∀ E : mEnv, mAd E 30 = adK → mAd E 31 = adV → E.2.2.2 = F → mStr E (fun q : Nat => s.heap.size ≤ q) s := by
  have hs : ∀ w ∈ nrw, w.before args s = true := flat_of_before _ hgv
  have hA : ∀ a : Nat, a < s.heap.size → ¬ (fun q : Nat => s.heap.size ≤ q) a := fun a h => Nat.not_le.mpr h
  obtain ⟨adK, adV, hS, hE⟩ := vk_Sof (args := args) (s := s) (N := 6) (tm := stm) (len := sLen) (byt := sByt) (A := fun q : Nat => s.heap.size ≤ q) (by decide) (fun i hi => hs _ (sr_exact i hi)) (fun i hi => hs _ (sr_coder i hi)) (fun i hi => hs _ (sr_arr i hi)) (fun i hi => hs _ (sr_len i hi)) (fun i hi j hj => hs _ (sr_el i hi j hj)) (fun i j hi hj hne => (sr_ne i hi j hj hne).imp (hs _) (hs _)) hA
  have hC := va_Zof (A := fun q : Nat => s.heap.size ≤ q) (hts (.laysStatic "java/lang/String" "COMPACT_STRINGS" "Z") (by decide +kernel)) (hts (.initialized "java/lang/String") (by decide +kernel)) (va_eqi (z := 1) (hs (Cond.eq (.static "java/lang/String" "COMPACT_STRINGS" "Z") (.int 1)) (by decide +kernel))) hA
  have hF := va_Zqof (A := fun q : Nat => s.heap.size ≤ q) (hts (.laysStatic "jdk/internal/util/Preconditions" "SIOOBE_FORMATTER" "Ljava/util/function/BiFunction;") (by decide +kernel)) (hts (.initialized "jdk/internal/util/Preconditions") (by decide +kernel)) (hs (Cond.isRef (.static "jdk/internal/util/Preconditions" "SIOOBE_FORMATTER" "Ljava/util/function/BiFunction;")) (by decide +kernel)) hA
  obtain ⟨F, hF1, hF2⟩ : ∃ F, va_Z "jdk/internal/util/Preconditions" "SIOOBE_FORMATTER" "Ljava/util/function/BiFunction;" F (fun q : Nat => s.heap.size ≤ q) s s.heap ∧ (F = .null ∨ ∃ a, F = .ref a) := by
    rcases hF with h | ⟨t, h⟩
    · exact ⟨.null, h, Or.inl rfl⟩
    · exact ⟨.ref t, h, Or.inr ⟨t, rfl⟩⟩
  have hq := eq_ref (u := .string RX1 70) (hE 5 (by decide)) (hs (Cond.eq (stm 5) (.string RX1 70)) (by decide +kernel))
  refine ⟨adK, adV, F, fun E e1 e2 e3 => ?_⟩
  unfold mStr
  rw [e1, e2, e3]
  refine ⟨hS, fun q hq9 => ?_, hC, hF1, hF2⟩
  simp only [sTab, List.mem_cons, List.not_mem_nil, or_false] at hq9
  rcases hq9 with rfl | rfl | rfl | rfl | rfl | rfl | rfl
  · exact vk_R.of (A := args) (hts (.stringRef RX0 26 "") (by decide +kernel)) (hE 0 (by decide))
  · exact vk_R.of (A := args) (hts (.stringRef RX0 86 "kKDDD;") (by decide +kernel)) (hE 1 (by decide))
  · exact vk_R.of (A := args) (hts (.stringRef RX0 88 "tD;") (by decide +kernel)) (hE 2 (by decide))
  · exact vk_R.of (A := args) (hts (.stringRef RX0 90 "lD;") (by decide +kernel)) (hE 3 (by decide))
  · exact vk_R.of (A := args) (hts (.stringRef RX0 92 "gDDD;") (by decide +kernel)) (hE 4 (by decide))
  · exact vk_R.of (A := args) (hts (.stringRef RX0 94 "\x72fphcgwb") (by decide +kernel)) (hE 5 (by decide))
  · exact vk_R.of (A := args) (hts (.stringRef RX1 70 "\x72fphcgwb") (by decide +kernel)) hq
/-! ===== the classes, and the cells at the loop's start ===== -/
theorem st_K {s : State} {args : Array Value} (hts : ∀ w ∈ GW, w.before args s = true) : ∃ (D : va_G) (cA : ClassId), va_K D vwCl [(cA, .int)] s := by
  obtain ⟨c0, iS0, hKn0⟩ := u_known (C := RX0) (T := TX0) (N := 3) (n := 3) hts (fun w hw => inW_ok (oW_in0 w hw)) (hts (.instantiable RX0 3) (inW_ok (by decide +kernel)))
  obtain ⟨c1, iS1, hKn1⟩ := u_known (C := RX1) (T := TX1) (N := 11) (n := 11) hts (fun w hw => inW_ok (oW_in1 w hw)) (hts (.instantiable RX1 11) (inW_ok (by decide +kernel)))
  obtain ⟨c2, iS2, hKn2⟩ := u_known (C := RX2) (T := TX2) (N := 9) (n := 9) hts (fun w hw => inW_ok (oW_in2 w hw)) (hts (.instantiable RX2 9) (inW_ok (by decide +kernel)))
  obtain ⟨c3, iS3, hKn3⟩ := u_known (C := RX3) (T := TX3) (N := 30) (n := 30) hts (fun w hw => inW_ok (oW_in3 w hw)) (hts (.instantiable RX3 30) (inW_ok (by decide +kernel)))
  obtain ⟨cA, kA, comp, h1, h2, h3⟩ := Cond.arrayClass_spec (show (Cond.arrayClass (newarray.typeOf .int)).holds args s none s [] = true from hts _ (inW_ok gw_arr))
  refine ⟨(fun k => if k = 0 then c0 else if k = 1 then c1 else if k = 2 then c2 else c3, fun k => if k = 0 then iS0 else if k = 1 then iS1 else if k = 2 then iS2 else iS3), cA, ?_, ?_⟩
  · intro k q hq
    match k, hq with
    | 0, hq => cases hq; exact hKn0
    | 1, hq => cases hq; exact hKn1
    | 2, hq => cases hq; exact hKn2
    | 3, hq => cases hq; exact hKn3
    | k + 4, hq => simp [vwCl] at hq
  · intro k q hq
    match k, hq with
    | 0, hq => cases hq; exact ⟨fun n z => ⟨fun k h => (by cases h), kA, h2, comp, h3⟩, h1⟩
    | k + 1, hq => simp at hq
def mpos (t i : Nat) : Nat := if t = 0 then 0 else if t ≤ 6 then 1 + 6 * i + (t - 1) else t + 18
def mEof (D : va_G) (cA : ClassId) (A : List Nat) (adK adV : Nat → Nat) (F : Value) : mEnv := (D, cA, fun t i => if t = 30 then adK i else if t = 31 then adV i else A.getD (mpos t i) 0, F)
def w0 : mW := (fun t _ k => if t = 1 ∧ k = 10 then -1 else if t = 11 ∧ k = 21 then -9 else 0, fun _ _ _ => 0)
def adT : ST → List Nat := fun (a, b, c, d, f, g, h) => [a.1, a.2.1, a.2.2.1, a.2.2.2.1, a.2.2.2.2.1, a.2.2.2.2.2, b.1, b.2.1, b.2.2.1, b.2.2.2.1, b.2.2.2.2.1, b.2.2.2.2.2, c.1, c.2.1, c.2.2.1, c.2.2.2.1, c.2.2.2.2.1, c.2.2.2.2.2, d.1, d.2.1, d.2.2.1, d.2.2.2.1, d.2.2.2.2.1, d.2.2.2.2.2, f.1, f.2, g, h]
def adM : SMo → List Nat := fun (a0, a1, a2, a3, a4, a5, a6, a10, a11, a12, a13, a17, a28) => [a0, a1, a2, a3, a4, a5, a6, a10, a11, a12, a13, a17, a28]
set_option maxHeartbeats 4000000 in
set_option maxRecDepth 100000 in
theorem w0_ws (D : va_G) (cA : ClassId) (adK adV : Nat → Nat) (F : Value) (h0 h1 : Nat) (u : ST) (v : SMo) : mWs (mEof D cA (h0 :: (adT u ++ h1 :: adM v)) adK adV F) w0 = wdT cA h0 u ++ wdM cA h1 v := by
  obtain ⟨⟨a0, a1, a2, a3, a4, a5⟩, ⟨b0, b1, b2, b3, b4, b5⟩, ⟨c0, c1, c2, c3, c4, c5⟩, ⟨d0, d1, d2, d3, d4, d5⟩, ⟨f0, f1⟩, g, h⟩ := u
  obtain ⟨v0, v1, v2, v3, v4, v5, v6, v10, v11, v12, v13, v17, v28⟩ := v
  rfl
def Y0 : Yd := (fun _ => 0, fun _ => 0, fun _ => 0, fun _ => 0, fun _ => false, fun _ => 0, 0, 0, 0, 0, 99)
def st0 : St := (Y0, false, Y0, fun _ => 0, 0, fun _ => 0, 0, fun _ => 0)
theorem YI0 : YI Y0 := ⟨Nat.zero_le _, fun j hj => absurd hj (Nat.not_lt_zero j), fun _ => Nat.zero_le _, fun j hj => absurd (show false = true from hj) Bool.false_ne_true, fun _ _ => rfl, fun _ => Nat.zero_le _, fun _ _ => rfl, show (0 : Nat) < 4 by decide, show (0 : Nat) < 100000 by decide⟩
theorem SI0 : SI st0 := ⟨⟨YI0, Nat.zero_le _, rfl, rfl⟩, fun h => absurd (show false = true from h) Bool.false_ne_true, Nat.zero_le _, Nat.zero_le _, fun j hj => absurd hj (Nat.not_lt_zero j)⟩
theorem Kls0 : KlsAt w0 st0 := by
  refine ⟨⟨0, ⟨fun j _ => nI_0.symm, fun j _ => nI_0.symm, fun j _ => nI_0.symm, fun j _ => nI_0.symm, fun j _ => nI_0.symm⟩, ?_, ?_, ?_, ?_, ?_, ?_⟩, ?_, fun h => absurd (show false = true from h) Bool.false_ne_true, ?_, ?_, fun j hj => absurd hj (Nat.not_lt_zero j), fun j _ => nI_0.symm⟩
  · decide
  · decide
  · decide
  · decide
  · decide
  · decide
  · decide
  · refine ⟨?_, ?_, Nat.zero_le _, fun j hj => absurd hj (Nat.not_lt_zero j)⟩
    · decide
    · exact fun j hj => absurd hj (Nat.not_lt_zero j)
  · decide
theorem Mdl0 : MdlAt w0 st0 := by
  refine ⟨⟨0, ⟨fun j _ => nI_0.symm, fun j _ => nI_0.symm, fun j _ => nI_0.symm, fun j _ => nI_0.symm, fun j _ => nI_0.symm, fun j _ => nI_0.symm⟩, ?_, ?_, ?_, ?_, ?_⟩, ?_, fun h => absurd (show false = true from h) Bool.false_ne_true, ⟨?_, fun j hj => absurd hj (Nat.not_lt_zero j), fun j hj => absurd hj (Nat.not_lt_zero j)⟩, ?_, fun j hj => absurd hj (Nat.not_lt_zero j), fun j _ => nI_0.symm⟩
  · decide
  · decide
  · decide
  · decide
  · decide
  · decide
  · decide
  · decide
theorem MdlAt.sm {w u : mW} {st : St} (h : MdlAt w st) (hs : Sm (fun t _ => 11 ≤ t) w u) : MdlAt u st := by
  obtain ⟨⟨g, h1⟩, h2, h3, h4, h5, h6, h7⟩ := h
  have ef : ∀ k, mgf u 11 0 k = mgf w 11 0 k := fun k => hs.1 11 0 k (by decide)
  have ea : ∀ t, 11 ≤ t → mga u t 0 = mga w t 0 := fun t ht => hs.2 t 0 ht
  refine ⟨⟨g, ?_⟩, by rw [ef]; exact h2, ?_, by rw [ef, ea 19 (by decide)]; exact h4, by rw [ef]; exact h5, by rw [ea 24 (by decide)]; exact h6, by rw [ea 12 (by decide)]; exact h7⟩
  · unfold MYd at h1 ⊢
    rw [ea 13 (by decide), ea 14 (by decide), ea 15 (by decide), ea 16 (by decide), ea 17 (by decide), ea 18 (by decide), ef 7, ef 8, ef 9, ef 22, ef 21]
    exact h1
  · intro hb
    have h3 := h3 hb
    unfold KeptAt at h3 ⊢
    rw [ea 23 (by decide)]
    exact h3
