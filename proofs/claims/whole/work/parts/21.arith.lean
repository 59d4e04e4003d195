/-! ===== numbers and bits ===== -/
theorem nI_and (a b : Nat) : nI a &&& nI b = nI (a &&& b) := by
  apply Int32.toBitVec_inj.mp
  unfold nI
  simp only [Int32.toBitVec_and, Int32.toBitVec_ofNat']
  apply BitVec.eq_of_getLsbD_eq
  intro i hi
  simp [BitVec.getLsbD_ofNat, hi]
theorem nI_or (a b : Nat) : nI a ||| nI b = nI (a ||| b) := by
  apply Int32.toBitVec_inj.mp
  unfold nI
  simp only [Int32.toBitVec_or, Int32.toBitVec_ofNat']
  apply BitVec.eq_of_getLsbD_eq
  intro i hi
  simp [BitVec.getLsbD_ofNat, hi]
theorem nI_xor (a b : Nat) : nI a ^^^ nI b = nI (a ^^^ b) := by
  apply Int32.toBitVec_inj.mp
  unfold nI
  simp only [Int32.toBitVec_xor, Int32.toBitVec_ofNat']
  apply BitVec.eq_of_getLsbD_eq
  intro i hi
  simp [BitVec.getLsbD_ofNat, hi]
theorem bts_lt (q : Nat → Bool) : ∀ k, bts q k < 2 ^ k
  | 0 => by simp [bts]
  | k + 1 => by
    have h := bts_lt q k
    have h2 : 2 ^ (k + 1) = 2 * 2 ^ k := by rw [Nat.pow_succ, Nat.mul_comm]
    unfold bts
    split <;> omega
theorem bts_bit (q : Nat → Bool) : ∀ k j, (bts q k).testBit j = (decide (j < k) && q j)
  | 0, j => by simp [bts]
  | k + 1, j => by
    have h := bts_bit q k j
    have hl := bts_lt q k
    unfold bts
    by_cases hq : q k = true
    · rw [if_pos hq, Nat.add_comm, ← Nat.one_mul (2 ^ k), Nat.mul_comm 1, Nat.testBit_two_pow_mul_add _ hl]
      by_cases hj : j < k
      · rw [if_pos hj, h]
        simp [hj]; omega
      · rw [if_neg hj]
        by_cases hjk : j = k
        · subst hjk; simp [hq]
        · have : j - k ≠ 0 := by omega
          have h3 : ¬ j < k + 1 := by omega
          simp [h3]
          cases hh : j - k with
          | zero => omega
          | succ z => simp [Nat.testBit_succ]
    · rw [if_neg hq, Nat.add_zero, h]
      by_cases hj : j < k
      · simp [hj]; omega
      · by_cases hjk : j = k
        · subst hjk; simp [hq]
        · have h3 : ¬ j < k + 1 := by omega
          simp [hj, h3]
theorem bts_ext {q : Nat → Bool} {x k : Nat} (hx : x < 2 ^ k) (h : ∀ j, j < k → x.testBit j = q j) : x = bts q k := by
  apply Nat.eq_of_testBit_eq
  intro j
  rw [bts_bit]
  by_cases hj : j < k
  · simp [hj, h j hj]
  · have : x < 2 ^ j := Nat.lt_of_lt_of_le hx (Nat.pow_le_pow_right (by decide) (by omega))
    rw [Nat.testBit_lt_two_pow this]
    simp [hj]
theorem bts_congr {q q' : Nat → Bool} {k : Nat} (h : ∀ j, j < k → q j = q' j) : bts q k = bts q' k := by
  apply bts_ext (bts_lt q k)
  intro j hj
  rw [bts_bit]
  simp [hj, h j hj]
theorem bts_cut {q : Nat → Bool} {n : Nat} (h : ∀ j, q j = true → j < n) (hn : n ≤ 8) : bts q n = bts q 8 := by
  refine bts_ext (Nat.lt_of_lt_of_le (bts_lt q n) (Nat.pow_le_pow_right (by decide) hn)) (fun j hj => ?_)
  rw [bts_bit]
  by_cases hjn : j < n
  · simp [hjn]
  · cases hq : q j with
    | false => simp
    | true => exact absurd (h j hq) hjn
theorem b256 (q : Nat → Bool) : bts q 8 < 256 := bts_lt q 8
theorem tb_shr : ∀ m, m < 256 → ∀ c, c < 8 → mshr (nI m) (nI c) &&& nI 1 = nI (if m.testBit c then 1 else 0) := by decide +kernel
theorem tb_shl : ∀ c, c < 8 → mshl (nI 1) (nI c) = nI (2 ^ c) := by decide +kernel
theorem tb_not : ∀ m, m < 256 → ∀ c, c < 256 → nI m &&& (nI c ^^^ (-1)) = nI (m &&& (255 - c)) := by decide +kernel
theorem tb_m1 : ∀ m, m < 256 → nI m &&& (-1) = nI m := by decide +kernel
theorem tb_m1b : ∀ c, c < 8 → mshr (-1) (nI c) &&& nI 1 = nI 1 := by decide +kernel
theorem tb_pow : ∀ c, c < 8 → 2 ^ c < 256 := by decide
theorem tb_tp : ∀ c, c < 8 → ∀ j, j < 8 → (2 ^ c).testBit j = decide (j = c) := by decide
theorem tb_neg : ∀ c, c < 256 → ∀ j, j < 8 → (255 - c).testBit j = !c.testBit j := by decide +kernel
theorem b_at {q : Nat → Bool} {c : Nat} (hc : c < 8) : mshr (nI (bts q 8)) (nI c) &&& nI 1 = nI (if q c then 1 else 0) := by
  rw [tb_shr _ (b256 q) c hc, bts_bit]
  simp [hc]
theorem b_or {q : Nat → Bool} {c : Nat} (hc : c < 8) : nI (bts q 8) ||| mshl (nI 1) (nI c) = nI (bts (va_up q c true) 8) := by
  rw [tb_shl c hc, nI_or]
  congr 1
  refine bts_ext (Nat.or_lt_two_pow (b256 q) (tb_pow c hc)) (fun j hj => ?_)
  rw [Nat.testBit_or, bts_bit, tb_tp c hc j hj]
  unfold va_up
  by_cases h : j = c <;> simp [h, hj, hc]
theorem b_xor {q : Nat → Bool} {c : Nat} (hc : c < 8) : nI (bts q 8) ^^^ mshl (nI 1) (nI c) = nI (bts (va_up q c (!q c)) 8) := by
  rw [tb_shl c hc, nI_xor]
  congr 1
  refine bts_ext (Nat.xor_lt_two_pow (b256 q) (tb_pow c hc)) (fun j hj => ?_)
  rw [Nat.testBit_xor, bts_bit, tb_tp c hc j hj]
  unfold va_up
  by_cases h : j = c <;> simp [h, hj, hc]
theorem b_and {q q' : Nat → Bool} : nI (bts q 8) &&& nI (bts q' 8) = nI (bts (fun j => q j && q' j) 8) := by
  rw [nI_and]
  congr 1
  refine bts_ext (Nat.and_lt_two_pow _ (b256 q')) (fun j hj => ?_)
  rw [Nat.testBit_and, bts_bit, bts_bit]
  simp [hj]
theorem b_andn {q q' : Nat → Bool} : nI (bts q 8) &&& (nI (bts q' 8) ^^^ (-1)) = nI (bts (fun j => q j && !q' j) 8) := by
  rw [tb_not _ (b256 q) _ (b256 q')]
  congr 1
  refine bts_ext (Nat.and_lt_two_pow _ (by omega)) (fun j hj => ?_)
  rw [Nat.testBit_and, tb_neg _ (b256 q') j hj, bts_bit, bts_bit]
  simp [hj]
theorem b_pow {c : Nat} (hc : c < 8) : mshl (nI 1) (nI c) = nI (bts (fun j => j == c) 8) := by
  rw [tb_shl c hc]
  congr 1
  refine bts_ext (tb_pow c hc) (fun j hj => ?_)
  rw [tb_tp c hc j hj]
  by_cases h : j = c <;> simp [h]
theorem b_clr {q : Nat → Bool} {c : Nat} (hc : c < 8) : nI (bts q 8) &&& (mshl (nI 1) (nI c) ^^^ (-1)) = nI (bts (va_up q c false) 8) := by
  rw [b_pow hc, b_andn]
  congr 1
  refine bts_congr (fun j hj => ?_)
  unfold va_up
  by_cases h : j = c <;> simp [h]
theorem b_zero : nI 0 = nI (bts (fun _ => false) 8) := by decide
theorem b_eq0 {q : Nat → Bool} : nI (bts q 8) = nI 0 ↔ ∀ j, j < 8 → q j = false := by
  rw [nI_eq (Nat.lt_trans (b256 q) (by decide)) (by decide)]
  constructor
  · intro h j hj
    have := bts_bit q 8 j
    rw [h] at this
    simpa [hj] using this.symm
  · intro h
    exact (bts_ext (q := q) (x := 0) (k := 8) (by decide) (fun j hj => by rw [h j hj]; simp)).symm
theorem b_inj {q q' : Nat → Bool} : nI (bts q 8) = nI (bts q' 8) ↔ ∀ j, j < 8 → q j = q' j := by
  rw [nI_eq (Nat.lt_trans (b256 q) (by decide)) (Nat.lt_trans (b256 q') (by decide))]
  constructor
  · intro h j hj
    have h1 := bts_bit q 8 j
    have h2 := bts_bit q' 8 j
    rw [h, h2] at h1
    simpa [hj] using h1.symm
  · exact fun h => bts_congr h
theorem cnt_congr {q q' : Nat → Bool} : ∀ {k : Nat}, (∀ j, j < k → q j = q' j) → cnt q k = cnt q' k
  | 0, _ => rfl
  | k + 1, h => by
    unfold cnt
    rw [cnt_congr (fun j hj => h j (by omega)), h k (by omega)]
theorem cnt_le (q : Nat → Bool) : ∀ k, cnt q k ≤ k
  | 0 => Nat.le_refl _
  | k + 1 => by
    have := cnt_le q k
    unfold cnt
    split <;> omega
theorem cnt_cut {q : Nat → Bool} {n : Nat} (h : ∀ j, q j = true → j < n) : ∀ {m : Nat}, n ≤ m → cnt q m = cnt q n
  | 0, hm => by have : n = 0 := by omega
                subst this; rfl
  | m + 1, hm => by
    by_cases e : n = m + 1
    · rw [e]
    · have hq : q m ≠ true := fun z => by have := h m z; omega
      show cnt q m + (if q m = true then 1 else 0) = cnt q n
      rw [if_neg hq, cnt_cut h (by omega)]
      rfl
theorem imn_n {a b : Nat} (ha : a < 2 ^ 31) (hb : b < 2 ^ 31) : imn (nI a) (nI b) = nI (if b < a then b else a) := by
  unfold imn
  by_cases h : b < a
  · rw [if_pos ((nI_ltI hb ha).mpr h), if_pos h]
  · rw [if_neg (fun z => h ((nI_ltI hb ha).mp z)), if_neg h]
theorem imx_n {a b : Nat} (ha : a < 2 ^ 31) (hb : b < 2 ^ 31) : imx (nI a) (nI b) = nI (if a < b then b else a) := by
  unfold imx
  by_cases h : a < b
  · rw [if_pos ((nI_ltI ha hb).mpr h), if_pos h]
  · rw [if_neg (fun z => h ((nI_ltI ha hb).mp z)), if_neg h]
theorem mrem_n {a b : Nat} (ha : a < 2 ^ 31) (h0 : 0 < b) (hb : b < 2 ^ 31) : mrem (nI a) (nI b) = nI (a % b) := pk_rem ha h0 hb
theorem far_le : ∀ a, a < 24 → ∀ b, b < 24 → far a b ≤ 8 := by decide +kernel
theorem stp_lt : ∀ c, c < 24 → ∀ way, way < 5 → (stp c way).all (fun t => decide (t < 24)) = true := by decide +kernel
theorem nI_m1 {a : Nat} (h : a < 2 ^ 31) : (nI a = -1) = False := by
  apply eq_false
  intro e
  have := congrArg Int32.toInt e
  rw [nI_toInt h] at this
  have h2 : (-1 : Int32).toInt = -1 := by decide
  omega
theorem nI_m9 {a : Nat} (h : a < 2 ^ 31) : (nI a = -9) = False := by
  apply eq_false
  intro e
  have := congrArg Int32.toInt e
  rw [nI_toInt h] at this
  have h2 : (-9 : Int32).toInt = -9 := by decide
  omega
