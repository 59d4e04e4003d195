/-! ===== letters: what they tell, and the class's Letters ===== -/
/-- the letters of kinds, in their order -/
def ktab : List Nat := [114, 102, 112, 104, 99, 103, 119, 98]
def kix (c : Nat) : Option Nat := fst1 (fun j => ktab.getD j 0 == c) 8
/-- a letter's statement: what must stand at its places (75 a kind, 68 a digit) -/
def shp (c : Nat) : List Nat := if c = 107 then [107, 75, 68, 68, 68, 59] else if c = 116 then [116, 68, 59] else if c = 108 then [108, 68, 59] else if c = 103 then [103, 68, 68, 68, 59] else []
def fitC (cls c : Nat) : Bool := if cls = 75 then (kix c).isSome else if cls = 68 then decide (48 ≤ c ∧ c ≤ 57) else c == cls
def fbad (t : Nat → Nat) (n : Nat) : Nat → List Nat → Option Nat
  | _, [] => none
  | q, c :: cs => if q < n ∧ fitC c (t q) = true then fbad t n (q + 1) cs else some q
/-- the fault of the statement that begins at p -/
def stE (t : Nat → Nat) (n p : Nat) : Option Nat := if p < n then (match shp (t p) with
  | [] => some p
  | c :: cs => fbad t n p (c :: cs)) else some p
def sln (c : Nat) : Nat := (shp c).length
/-- the first fault of form from the statement at p on -/
def prs (t : Nat → Nat) (n : Nat) : Nat → Nat → Option Nat
  | 0, _ => none
  | f + 1, p => match stE t n p with
    | some q => some q
    | none => if p + sln (t p) < n then prs t n f (p + sln (t p)) else none
def dgt (t : Nat → Nat) (p : Nat) : Nat := t p - 48
def cel (t : Nat → Nat) (p : Nat) : Nat := 10 * dgt t p + dgt t (p + 1)
/-- the statement at p is told -/
def telS (t : Nat → Nat) (D : Yd) (p : Nat) : Option Yd :=
  if t p = 107 then (if addB D ((kix (t (p + 1))).getD 0) (cel t (p + 2)) (dgt t (p + 4)) then some (addY D ((kix (t (p + 1))).getD 0) (cel t (p + 2)) (dgt t (p + 4))) else none)
  else if t p = 116 then (if (decide (dgt t (p + 1) < dn D) && !isC D (dgt t (p + 1))) = true then some (us D (va_up (ds D) (dgt t (p + 1)) (!ds D (dgt t (p + 1))))) else none)
  else if t p = 108 then (if dgt t (p + 1) < 4 then some (ul D (dgt t (p + 1))) else none)
  else (if (decide (dgt t (p + 1) < dn D) && decide (cel t (p + 2) < 24)) = true then some (uc D (va_up (dc D) (dgt t (p + 1)) (cel t (p + 2)))) else none)
/-- the statements from p on, m being told already: the fault's place, or the yard and how many -/
def telN (t : Nat → Nat) (n : Nat) : Nat → Yd → Nat → Nat → Nat ⊕ (Yd × Nat)
  | 0, D, _, m => .inr (D, m)
  | f + 1, D, p, m => if p < n then (match telS t D p with
    | none => .inl p
    | some E => telN t n f E (p + sln (t p)) (m + 1)) else .inr (D, m)
def LetAt (w : mW) (t : Nat → Nat) (n : Nat) : Prop := mgf w 7 0 1 = nI n ∧ (∀ j, j < n → mga w 8 0 j = nI (t j)) ∧ n ≤ 96 ∧ ∀ j, j < n → t j < 256
/-- which constant a statement's form is -/
def shS (c : Nat) : Nat := if c = 107 then 1 else if c = 116 then 2 else if c = 108 then 3 else if c = 103 then 4 else 0
theorem shS_lt (c : Nat) : shS c < 6 := by unfold shS; repeat' split
                                           all_goals decide
/-- the letter of a form's place -/
def shc (k i : Nat) : Nat := ((sByt.getD k []).getD i 0).toNatClampNeg
theorem shc_ok : ∀ k, k < 6 → ∀ i, i < 8 → i < sLen.getD k 0 → mchr (((sByt.getD k []).getD i 0) &&& nI 255) = nI (shc k i) ∧ shc k i < 256 := by decide
theorem shp_S (c : Nat) : (shp c).length = sLen.getD (shS c) 0 ∧ ∀ i, i < (shp c).length → (shp c)[i]? = some (shc (shS c) i) := by
  unfold shp shS
  split
  · exact ⟨by decide, by decide⟩
  · split
    · exact ⟨by decide, by decide⟩
    · split
      · exact ⟨by decide, by decide⟩
      · split
        · exact ⟨by decide, by decide⟩
        · exact ⟨by decide, fun i hi => by simp at hi⟩
theorem kb_ok : ∀ c, c < 256 → ∀ j, j < 8 → ((sByt.getD 5 []).getD j 0 = mbyt (nI c)) = (ktab.getD j 0 = c) := by
  have h : ∀ c, c < 256 → ∀ j, j < 8 → (decide ((sByt.getD 5 []).getD j 0 = mbyt (nI c)) = decide (ktab.getD j 0 = c)) := by decide +kernel
  intro c hc j hj
  exact propext (decide_eq_decide.mp (h c hc j hj))
theorem mchr_n : ∀ c, c < 256 → mchr (nI c) = nI c := by decide +kernel
section LE
variable {l : Launch} {d : Nat} {w : mW} {t : Nat → Nat} {n : Nat}
theorem ev_isLatin1 (k : Nat) : Cl l d MJ0_isLatin1_aae02 [mR 30 k] w (fun r u => u = w ∧ r = some (mI (nI 1))) := by
  show Ev l d MJ0_isLatin1_aae02 0 [some (mR 30 k)] [] w _
  refine Ev.blk kJ0_isLatin1_aae02_0 rfl trivial ?_
  refine Ev.br tJ0_isLatin1_aae02_3 rfl (fun c3 => ?_) (fun c3 => ?_)
  · exact absurd c3 (by decide)
  · refine Ev.blk kJ0_isLatin1_aae02_6 rfl trivial ?_
    refine Ev.br tJ0_isLatin1_aae02_10 rfl (fun c10 => ?_) (fun c10 => ?_)
    · exact absurd rfl c10
    · refine Ev.blk kJ0_isLatin1_aae02_13 rfl trivial ?_
      refine Ev.jmp tJ0_isLatin1_aae02_14 ?_
      refine Ev.iret tJ0_isLatin1_aae02_18 rfl rfl ?_
      exact ⟨rfl, rfl⟩
theorem ev_checkIndex3 {i N : Nat} (hi : i < N) (hN : N < 1000) : Cl l d MJ3_checkIndex_8e157 [mI (nI i), mI (nI N), mR 32 0] w (fun r u => u = w ∧ ∃ x, r = some (mI x)) := by
  show Ev l d MJ3_checkIndex_8e157 0 [some (mI (nI i)), some (mI (nI N)), some (mR 32 0)] [] w _
  refine Ev.blk kJ3_checkIndex_8e157_0 rfl trivial ?_
  refine Ev.br tJ3_checkIndex_8e157_1 rfl (fun c1 => ?_) (fun c1 => ?_)
  · exact absurd c1 (nI_nlt (Nat.zero_le _) (by omega))
  · refine Ev.blk kJ3_checkIndex_8e157_4 rfl trivial ?_
    refine Ev.br tJ3_checkIndex_8e157_6 rfl (fun c6 => ?_) (fun c6 => ?_)
    · refine Ev.blk kJ3_checkIndex_8e157_16 rfl trivial ?_
      refine Ev.iret tJ3_checkIndex_8e157_17 rfl rfl ?_
      exact ⟨rfl, _, rfl⟩
    · exact absurd (nI_lt hi (by omega)) c6
theorem ev_checkIndex2 (hd : 1 ≤ d) {i N : Nat} (hi : i < N) (hN : N < 1000) : Cl l d MJ0_checkIndex_df160 [mI (nI i), mI (nI N)] w (fun r u => u = w ∧ r = none) := by
  show Ev l d MJ0_checkIndex_df160 0 [some (mI (nI i)), some (mI (nI N))] [] w _
  refine Ev.blk kJ0_checkIndex_df160_0 rfl trivial ?_
  refine Ev.cS (d1 := d - 1) (ev_checkIndex3 hi hN) tJ0_checkIndex_df160_5 qJ0_1059 rfl ⟨rfl, rfl, rfl⟩ (by omega) ?_
  rintro _ _ ⟨rfl, x, rfl⟩
  refine Ev.blk kJ0_checkIndex_df160_8 rfl trivial ?_
  refine Ev.vret tJ0_checkIndex_df160_9 rfl ?_
  exact ⟨rfl, rfl⟩
theorem ev_charAtL (hd : 2 ≤ d) {k i : Nat} (hk : k < 6) (hi : i < sLen.getD k 0) : Cl l d MJ1_charAt_3b067 [mR 31 k, mI (nI i)] w (fun r u => u = w ∧ r = some (mI (nI (shc k i)))) := by
  show Ev l d MJ1_charAt_3b067 0 [some (mR 31 k), some (mI (nI i))] [] w _
  have hl8 : ∀ k, k < 6 → sLen.getD k 0 ≤ 8 := by decide
  have h8 := hl8 k hk
  have hs := shc_ok k hk i (by omega) hi
  refine Ev.blk kJ1_charAt_3b067_0 rfl trivial ?_
  refine Ev.cS (d1 := d - 1) (ev_checkIndex2 (by omega) hi (by omega)) tJ1_charAt_3b067_3 qJ1_9 rfl ⟨rfl, rfl, rfl⟩ (by omega) ?_
  rintro _ _ ⟨rfl, rfl⟩
  refine Ev.blk kJ1_charAt_3b067_6 rfl ⟨trivial, vinN hi (by omega)⟩ ?_
  rw [ixN (by omega), hs.1]
  refine Ev.iret tJ1_charAt_3b067_14 rfl (pk_charN (by omega)).1 ?_
  exact ⟨rfl, rfl⟩
theorem ev_charAt (hd : 3 ≤ d) {k i : Nat} (hk : k < 6) (hi : i < sLen.getD k 0) : Cl l d MJ0_charAt_5068e [mR 30 k, mI (nI i)] w (fun r u => u = w ∧ r = some (mI (nI (shc k i)))) := by
  show Ev l d MJ0_charAt_5068e 0 [some (mR 30 k), some (mI (nI i))] [] w _
  have hl8 : ∀ k, k < 6 → sLen.getD k 0 ≤ 8 := by decide
  have h8 := hl8 k hk
  have hs := shc_ok k hk i (by omega) hi
  refine Ev.blk kJ0_charAt_5068e_0 rfl trivial ?_
  refine Ev.cV (d1 := d - 1) (ev_isLatin1 k) tJ0_charAt_5068e_1 qJ0_492 rfl rfl (by decide) ⟨rfl, rfl, rfl⟩ (by omega) ?_
  rintro _ _ ⟨rfl, rfl⟩
  refine Ev.br tJ0_charAt_5068e_4 rfl (fun c4 => ?_) (fun c4 => ?_)
  · exact absurd c4 (by decide)
  · refine Ev.blk kJ0_charAt_5068e_7 rfl trivial ?_
    refine Ev.cS (d1 := d - 1) (ev_charAtL (by omega) hk hi) tJ0_charAt_5068e_12 qJ0_495 rfl ⟨rfl, rfl, rfl⟩ (by omega) ?_
    rintro _ _ ⟨rfl, rfl⟩
    refine Ev.iret tJ0_charAt_5068e_15 rfl (pk_charN (by omega)).1 ?_
    exact ⟨rfl, rfl⟩
theorem ev_canEncode {c : Nat} (hc : c < 256) : Cl l d MJ1_canEncode_9a6ad [mI (nI c)] w (fun r u => u = w ∧ r = some (mI (nI 1))) := by
  show Ev l d MJ1_canEncode_9a6ad 0 [some (mI (nI c))] [] w _
  refine Ev.blk kJ1_canEncode_9a6ad_0 rfl trivial ?_
  refine Ev.br tJ1_canEncode_9a6ad_1 rfl (fun c1 => ?_) (fun c1 => ?_)
  · exact absurd c1 (nI_nlt (Nat.zero_le _) (by omega))
  · refine Ev.blk kJ1_canEncode_9a6ad_4 rfl trivial ?_
    refine Ev.br tJ1_canEncode_9a6ad_8 rfl (fun c8 => ?_) (fun c8 => ?_)
    · exact absurd c8 (nI_nlt (by omega) (by omega))
    · refine Ev.blk kJ1_canEncode_9a6ad_11 rfl trivial ?_
      refine Ev.jmp tJ1_canEncode_9a6ad_12 ?_
      refine Ev.iret tJ1_canEncode_9a6ad_16 rfl rfl ?_
      exact ⟨rfl, rfl⟩
theorem ev_indexOfChar {c : Nat} (hc : c < 256) : Cl l d MJ1_indexOfChar_4cfef [mR 31 5, mI (nI c), mI (nI 0), mI (nI 8)] w (fun r u => u = w ∧ r = some (mI (oM1 (kix c)))) := by
  show Ev l d MJ1_indexOfChar_4cfef 0 [some (mR 31 5), some (mI (nI c)), some (mI (nI 0)), some (mI (nI 8)), none, none] [] w _
  refine Ev.blk kJ1_indexOfChar_4cfef_0 rfl trivial ?_
  refine Ev.for (fun j L u => u = w ∧ L = [some (mR 31 5), some (mI (nI c)), some (mI (nI 0)), some (mI (nI 8)), some (mI (mbyt (nI c))), some (mI (nI j))] ∧ fst1 (fun j => ktab.getD j 0 == c) j = none) 8 ?_ ?_ 0 (by decide) ⟨rfl, rfl, rfl⟩
  · rintro L u ⟨rfl, rfl, h0⟩
    refine Ev.blk kJ1_indexOfChar_4cfef_7 rfl trivial ?_
    refine Ev.br tJ1_indexOfChar_4cfef_10 rfl (fun c10 => ?_) (fun c10 => ?_)
    · refine Ev.blk kJ1_indexOfChar_4cfef_31 rfl trivial ?_
      refine Ev.iret tJ1_indexOfChar_4cfef_32 rfl rfl ?_
      exact ⟨rfl, by unfold kix; rw [h0]; rfl⟩
    · exact absurd (nI_le (Nat.le_refl _) (by decide)) c10
  · rintro j L u hj ⟨rfl, rfl, h0⟩ k
    refine Ev.blk kJ1_indexOfChar_4cfef_7 rfl trivial ?_
    refine Ev.br tJ1_indexOfChar_4cfef_10 rfl (fun c10 => ?_) (fun c10 => ?_)
    · exact absurd c10 (nI_ge hj (by decide))
    · refine Ev.blk kJ1_indexOfChar_4cfef_13 rfl ⟨trivial, vinN hj (by decide)⟩ ?_
      rw [ix8 hj]
      refine Ev.br tJ1_indexOfChar_4cfef_19 rfl (fun c19 => ?_) (fun c19 => ?_)
      · rw [kb_ok c hc j hj] at c19
        refine Ev.blk kJ1_indexOfChar_4cfef_25 rfl trivial ?_
        refine Ev.jmp tJ1_indexOfChar_4cfef_28 ?_
        refine k _ _ ⟨rfl, by rw [nI_add], ?_⟩
        unfold fst1
        rw [h0]
        have : (ktab.getD j 0 == c) = false := beq_false_of_ne c19
        simp only [this]
        rfl
      · rw [kb_ok c hc j hj] at c19
        refine Ev.blk kJ1_indexOfChar_4cfef_22 rfl trivial ?_
        refine Ev.iret tJ1_indexOfChar_4cfef_24 rfl rfl ?_
        refine ⟨rfl, ?_⟩
        unfold kix
        rw [fst1_some h0 (by simpa using c19) hj]
        rfl
theorem ev_indexOfL (hd : 1 ≤ d) {c : Nat} (hc : c < 256) : Cl l d MJ1_indexOf_4cfef [mR 31 5, mI (nI c), mI (nI 0), mI (nI 8)] w (fun r u => u = w ∧ r = some (mI (oM1 (kix c)))) := by
  show Ev l d MJ1_indexOf_4cfef 0 [some (mR 31 5), some (mI (nI c)), some (mI (nI 0)), some (mI (nI 8))] [] w _
  refine Ev.blk kJ1_indexOf_4cfef_0 rfl trivial ?_
  refine Ev.cS (d1 := d - 1) (ev_canEncode hc) tJ1_indexOf_4cfef_1 qJ1_88 rfl ⟨rfl, rfl, rfl⟩ (by omega) ?_
  rintro _ _ ⟨rfl, rfl⟩
  refine Ev.br tJ1_indexOf_4cfef_4 rfl (fun c4 => ?_) (fun c4 => ?_)
  · refine Ev.blk kJ1_indexOf_4cfef_9 rfl trivial ?_
    refine Ev.mmax tJ1_indexOf_4cfef_11 qJ1_92 (by omega) (Nat.le_of_ble_eq_true rfl) ?_
    rw [show imx (nI 0) (nI 0) = nI 0 by decide]
    refine Ev.blk kJ1_indexOf_4cfef_14 rfl trivial ?_
    refine Ev.mmin tJ1_indexOf_4cfef_18 qJ1_38 (by omega) (Nat.le_of_ble_eq_true rfl) ?_
    rw [show imn (nI 8) (nI (sLen.getD 5 0)) = nI 8 by decide]
    refine Ev.blk kJ1_indexOf_4cfef_21 rfl trivial ?_
    refine Ev.br tJ1_indexOf_4cfef_24 rfl (fun c24 => ?_) (fun c24 => ?_)
    · refine Ev.blk kJ1_indexOf_4cfef_29 rfl trivial ?_
      refine Ev.cS (d1 := d - 1) (ev_indexOfChar hc) tJ1_indexOf_4cfef_33 qJ1_95 rfl ⟨rfl, rfl, rfl⟩ (by omega) ?_
      rintro _ _ ⟨rfl, rfl⟩
      refine Ev.iret tJ1_indexOf_4cfef_36 rfl rfl ?_
      exact ⟨rfl, rfl⟩
    · exact absurd (by decide) c24
  · exact absurd (by decide) c4
theorem ev_indexOf2 (hd : 2 ≤ d) {c : Nat} (hc : c < 256) : Cl l d MJ0_indexOf_7cf53 [mR 30 5, mI (nI c), mI (nI 0)] w (fun r u => u = w ∧ r = some (mI (oM1 (kix c)))) := by
  show Ev l d MJ0_indexOf_7cf53 0 [some (mR 30 5), some (mI (nI c)), some (mI (nI 0))] [] w _
  refine Ev.blk kJ0_indexOf_7cf53_0 rfl trivial ?_
  refine Ev.cV (d1 := d - 1) (ev_isLatin1 5) tJ0_indexOf_7cf53_1 qJ0_492 rfl rfl (by decide) ⟨rfl, rfl, rfl⟩ (by omega) ?_
  rintro _ _ ⟨rfl, rfl⟩
  refine Ev.br tJ0_indexOf_7cf53_4 rfl (fun c4 => ?_) (fun c4 => ?_)
  · exact absurd c4 (by decide)
  · refine Ev.blk kJ0_indexOf_7cf53_7 rfl trivial ?_
    refine Ev.cV (d1 := d - 1) (ev_strlen (k := 5) (by omega) (by decide)) tJ0_indexOf_7cf53_14 qJ0_505 rfl rfl (by decide) ⟨rfl, rfl, rfl⟩ (by omega) ?_
    rintro _ _ ⟨rfl, rfl⟩
    refine Ev.cS (d1 := d - 1) (ev_indexOfL (by omega) hc) tJ0_indexOf_7cf53_17 qJ0_637 rfl ⟨rfl, rfl, rfl⟩ (by omega) ?_
    rintro _ _ ⟨rfl, rfl⟩
    refine Ev.jmp tJ0_indexOf_7cf53_20 ?_
    refine Ev.iret tJ0_indexOf_7cf53_36 rfl rfl ?_
    exact ⟨rfl, rfl⟩
theorem ev_indexOf (hd : 3 ≤ d) {c : Nat} (hc : c < 256) : Cl l d MJ0_indexOf_0f7a4 [mR 30 5, mI (nI c)] w (fun r u => u = w ∧ r = some (mI (oM1 (kix c)))) := by
  show Ev l d MJ0_indexOf_0f7a4 0 [some (mR 30 5), some (mI (nI c))] [] w _
  refine Ev.blk kJ0_indexOf_0f7a4_0 rfl trivial ?_
  refine Ev.cV (d1 := d - 1) (ev_indexOf2 (by omega) hc) tJ0_indexOf_0f7a4_3 qJ0_633 rfl rfl (by decide) ⟨rfl, rfl, rfl⟩ (by omega) ?_
  rintro _ _ ⟨rfl, rfl⟩
  refine Ev.iret tJ0_indexOf_0f7a4_6 rfl rfl ?_
  exact ⟨rfl, rfl⟩
theorem ev_fitsShape (hd : 4 ≤ d) {c q : Nat} (hc : c < 256) (hq : q < 256) : Cl l d MX0_fitsShape [mI (nI c), mI (nI q)] w (fun r u => u = w ∧ r = some (mI (bI (fitC q c)))) := by
  show Ev l d MX0_fitsShape 0 [some (mI (nI c)), some (mI (nI q))] [] w _
  refine Ev.blk kX0_fitsShape_0 rfl trivial ?_
  refine Ev.br tX0_fitsShape_3 rfl (fun c3 => ?_) (fun c3 => ?_)
  · try simp (disch := omega) only [nI_eq, nI_leI, nI_ltI, Classical.not_not] at c3
    refine Ev.blk kX0_fitsShape_22 rfl trivial ?_
    refine Ev.br tX0_fitsShape_25 rfl (fun c25 => ?_) (fun c25 => ?_)
    · try simp (disch := omega) only [nI_eq, nI_leI, nI_ltI, Classical.not_not] at c25
      refine Ev.blk kX0_fitsShape_46 rfl trivial ?_
      refine Ev.br tX0_fitsShape_48 rfl (fun c48 => ?_) (fun c48 => ?_)
      · try simp (disch := omega) only [nI_eq, nI_leI, nI_ltI, Classical.not_not] at c48
        refine Ev.blk kX0_fitsShape_55 rfl trivial ?_
        refine Ev.iret tX0_fitsShape_56 rfl rfl ?_
        refine ⟨rfl, ?_⟩
        unfold fitC
        first
          | (rw [if_pos (by omega), hk]; rfl)
          | (rw [if_neg (by omega), if_pos (by omega)]
             first | exact bI_f (by omega) | exact bI_t (by omega))
          | (rw [if_neg (by omega), if_neg (by omega)]
             first
               | (rw [show (c == q) = true by simp; omega]; rfl)
               | (rw [show (c == q) = false by simp; omega]; rfl))
      · try simp (disch := omega) only [nI_eq, nI_leI, nI_ltI, Classical.not_not] at c48
        refine Ev.blk kX0_fitsShape_51 rfl trivial ?_
        refine Ev.jmp tX0_fitsShape_52 ?_
        refine Ev.iret tX0_fitsShape_56 rfl rfl ?_
        refine ⟨rfl, ?_⟩
        unfold fitC
        first
          | (rw [if_pos (by omega), hk]; rfl)
          | (rw [if_neg (by omega), if_pos (by omega)]
             first | exact bI_f (by omega) | exact bI_t (by omega))
          | (rw [if_neg (by omega), if_neg (by omega)]
             first
               | (rw [show (c == q) = true by simp; omega]; rfl)
               | (rw [show (c == q) = false by simp; omega]; rfl))
    · try simp (disch := omega) only [nI_eq, nI_leI, nI_ltI, Classical.not_not] at c25
      refine Ev.blk kX0_fitsShape_28 rfl trivial ?_
      refine Ev.br tX0_fitsShape_31 rfl (fun c31 => ?_) (fun c31 => ?_)
      · try simp (disch := omega) only [nI_eq, nI_leI, nI_ltI, Classical.not_not] at c31
        refine Ev.blk kX0_fitsShape_44 rfl trivial ?_
        refine Ev.iret tX0_fitsShape_45 rfl rfl ?_
        refine ⟨rfl, ?_⟩
        unfold fitC
        first
          | (rw [if_pos (by omega), hk]; rfl)
          | (rw [if_neg (by omega), if_pos (by omega)]
             first | exact bI_f (by omega) | exact bI_t (by omega))
          | (rw [if_neg (by omega), if_neg (by omega)]
             first
               | (rw [show (c == q) = true by simp; omega]; rfl)
               | (rw [show (c == q) = false by simp; omega]; rfl))
      · try simp (disch := omega) only [nI_eq, nI_leI, nI_ltI, Classical.not_not] at c31
        refine Ev.blk kX0_fitsShape_34 rfl trivial ?_
        refine Ev.br tX0_fitsShape_37 rfl (fun c37 => ?_) (fun c37 => ?_)
        · try simp (disch := omega) only [nI_eq, nI_leI, nI_ltI, Classical.not_not] at c37
          refine Ev.blk kX0_fitsShape_44 rfl trivial ?_
          refine Ev.iret tX0_fitsShape_45 rfl rfl ?_
          refine ⟨rfl, ?_⟩
          unfold fitC
          first
            | (rw [if_pos (by omega), hk]; rfl)
            | (rw [if_neg (by omega), if_pos (by omega)]
               first | exact bI_f (by omega) | exact bI_t (by omega))
            | (rw [if_neg (by omega), if_neg (by omega)]
               first
                 | (rw [show (c == q) = true by simp; omega]; rfl)
                 | (rw [show (c == q) = false by simp; omega]; rfl))
        · try simp (disch := omega) only [nI_eq, nI_leI, nI_ltI, Classical.not_not] at c37
          refine Ev.blk kX0_fitsShape_40 rfl trivial ?_
          refine Ev.jmp tX0_fitsShape_41 ?_
          refine Ev.iret tX0_fitsShape_45 rfl rfl ?_
          refine ⟨rfl, ?_⟩
          unfold fitC
          first
            | (rw [if_pos (by omega), hk]; rfl)
            | (rw [if_neg (by omega), if_pos (by omega)]
               first | exact bI_f (by omega) | exact bI_t (by omega))
            | (rw [if_neg (by omega), if_neg (by omega)]
               first
                 | (rw [show (c == q) = true by simp; omega]; rfl)
                 | (rw [show (c == q) = false by simp; omega]; rfl))
  · try simp (disch := omega) only [nI_eq, nI_leI, nI_ltI, Classical.not_not] at c3
    refine Ev.blk kX0_fitsShape_6 rfl trivial ?_
    rw [mchr_n c hc]
    refine Ev.cV (d1 := d - 1) (ev_indexOf (by omega) hc) tX0_fitsShape_10 qX0_96 rfl rfl (by decide) ⟨rfl, rfl, rfl⟩ (by omega) ?_
    rintro _ _ ⟨rfl, rfl⟩
    refine Ev.br tX0_fitsShape_13 rfl (fun c13 => ?_) (fun c13 => ?_)
    · have hk : (kix c).isSome = false := by
        cases hz : kix c with
        | none => rfl
        | some j => rw [hz] at c13; exact absurd c13 (nI_nlt (Nat.zero_le _) (by have := (fst1_spec hz).1; omega))
      refine Ev.blk kX0_fitsShape_20 rfl trivial ?_
      refine Ev.iret tX0_fitsShape_21 rfl rfl ?_
      refine ⟨rfl, ?_⟩
      unfold fitC
      first
        | (rw [if_pos (by omega), hk]; rfl)
        | (rw [if_neg (by omega), if_pos (by omega)]
           first | exact bI_f (by omega) | exact bI_t (by omega))
        | (rw [if_neg (by omega), if_neg (by omega)]
           first
             | (rw [show (c == q) = true by simp; omega]; rfl)
             | (rw [show (c == q) = false by simp; omega]; rfl))
    · have hk : (kix c).isSome = true := by
        cases hz : kix c with
        | none => rw [hz] at c13; exact absurd (by decide) c13
        | some j => rfl
      refine Ev.blk kX0_fitsShape_16 rfl trivial ?_
      refine Ev.jmp tX0_fitsShape_17 ?_
      refine Ev.iret tX0_fitsShape_21 rfl rfl ?_
      refine ⟨rfl, ?_⟩
      unfold fitC
      first
        | (rw [if_pos (by omega), hk]; rfl)
        | (rw [if_neg (by omega), if_pos (by omega)]
           first | exact bI_f (by omega) | exact bI_t (by omega))
        | (rw [if_neg (by omega), if_neg (by omega)]
           first
             | (rw [show (c == q) = true by simp; omega]; rfl)
             | (rw [show (c == q) = false by simp; omega]; rfl))
theorem ev_hasRoom (hL : LetAt w t n) : Cl l d MX0_hasRoom [mR 7 0] w (fun r u => u = w ∧ r = some (mI (bI (decide (n < 96))))) := by
  show Ev l d MX0_hasRoom 0 [some (mR 7 0)] [] w _
  have hn := hL.2.2.1
  refine Ev.blk kX0_hasRoom_0 rfl trivial ?_
  simp only [hL.1]
  refine Ev.br tX0_hasRoom_6 rfl (fun c6 => ?_) (fun c6 => ?_)
  · try simp (disch := omega) only [nI_eq, nI_leI, nI_ltI, Classical.not_not] at c6
    refine Ev.blk kX0_hasRoom_13 rfl trivial ?_
    refine Ev.iret tX0_hasRoom_14 rfl rfl ?_
    refine ⟨rfl, ?_⟩
    first | exact bI_f (by omega) | exact bI_t (by omega)
  · try simp (disch := omega) only [nI_eq, nI_leI, nI_ltI, Classical.not_not] at c6
    refine Ev.blk kX0_hasRoom_9 rfl trivial ?_
    refine Ev.jmp tX0_hasRoom_10 ?_
    refine Ev.iret tX0_hasRoom_14 rfl rfl ?_
    refine ⟨rfl, ?_⟩
    first | exact bI_f (by omega) | exact bI_t (by omega)
theorem ev_size (hL : LetAt w t n) : Cl l d MX0_size [mR 7 0] w (fun r u => u = w ∧ r = some (mI (nI n))) := by
  show Ev l d MX0_size 0 [some (mR 7 0)] [] w _
  refine Ev.blk kX0_size_0 rfl trivial ?_
  simp only [hL.1]
  refine Ev.iret tX0_size_4 rfl rfl ?_
  exact ⟨rfl, rfl⟩
theorem ev_statementCount : Cl l d MX0_statementCount [mR 7 0] w (fun r u => u = w ∧ r = some (mI (mgf w 7 0 2))) := by
  show Ev l d MX0_statementCount 0 [some (mR 7 0)] [] w _
  refine Ev.blk kX0_statementCount_0 rfl trivial ?_
  refine Ev.iret tX0_statementCount_4 rfl rfl ?_
  exact ⟨rfl, rfl⟩
/-- the letters alone are changed -/
def OffL (w w1 : mW) : Prop := (∀ t i k, t ≠ 7 → mgf w1 t i k = mgf w t i k) ∧ ∀ t i, t ≠ 8 → mga w1 t i = mga w t i
theorem OffL.rf : OffL w w := ⟨fun _ _ _ _ => rfl, fun _ _ _ => rfl⟩
theorem OffL.tr {w1 w2 : mW} (h : OffL w w1) (k : OffL w1 w2) : OffL w w2 := ⟨fun t i j hn => (k.1 t i j hn).trans (h.1 t i j hn), fun t i hn => (k.2 t i hn).trans (h.2 t i hn)⟩
theorem OffL.pf {k : Nat} {v : Int32} : OffL w (mpf w 7 0 k v) := ⟨fun t i k' hn => mgf_pfn (fun ⟨a, _⟩ => hn a), fun _ _ _ => rfl⟩
theorem OffL.pA {f : Nat → Int32} : OffL w (mpA w 8 0 f) := ⟨fun _ _ _ _ => rfl, fun t' i hn => mga_pAn (fun ⟨a, _⟩ => hn a)⟩
theorem ev_hear (hL : LetAt w t n) (hd : 1 ≤ d) (hn : n < 96) {c : Nat} (hc : c < 256) : Cl l d MX0_hear [mR 7 0, mI (nI c)] w (fun r u => r = some (mI (nI (n + 1))) ∧ OffL w u ∧ LetAt u (va_up t n c) (n + 1)) := by
  show Ev l d MX0_hear 0 [some (mR 7 0), some (mI (nI c))] [] w _
  refine Ev.blk kX0_hear_0 rfl trivial ?_
  refine Ev.cV (d1 := d - 1) (ev_hasRoom hL) tX0_hear_1 qX0_22 rfl rfl (by decide) ⟨rfl, rfl, rfl⟩ (by omega) ?_
  rintro _ _ ⟨rfl, rfl⟩
  refine Ev.br tX0_hear_4 rfl (fun c4 => ?_) (fun c4 => ?_)
  · rw [bI_0] at c4
    exact absurd c4 (by simp; omega)
  · refine Ev.blk kX0_hear_7 rfl ⟨trivial, by rw [hL.1]; exact vinN (show n < 96 from hn) (by decide)⟩ ?_
    simp only [mgf_pA, hL.1, nI_add, ixN (show n < 1000 by omega)]
    refine Ev.blk kX0_hear_27 rfl trivial ?_
    rw [mgf_pf]
    refine Ev.iret tX0_hear_31 rfl rfl ?_
    refine ⟨rfl, OffL.pA.tr OffL.pf, mgf_pf, fun j hj => ?_, by omega, fun j hj => ?_⟩
    · rw [mga_pf, mga_pA]
      unfold upd va_up
      by_cases e : j = n
      · rw [if_pos e, if_pos e]
      · rw [if_neg e, if_neg e]
        exact hL.2.1 j (by omega)
    · unfold va_up
      by_cases e : j = n
      · rw [if_pos e]; exact hc
      · rw [if_neg e]; exact hL.2.2.2 j (by omega)
theorem ev_forget : Cl l d MX0_forget [mR 7 0] w (fun r u => r = none ∧ OffL w u ∧ LetAt u t 0) := by
  show Ev l d MX0_forget 0 [some (mR 7 0)] [] w _
  refine Ev.blk kX0_forget_0 rfl trivial ?_
  refine Ev.vret tX0_forget_5 rfl ?_
  exact ⟨rfl, OffL.pf, mgf_pf, fun j hj => by omega, by omega, fun j hj => by omega⟩
theorem ev_signAt (hL : LetAt w t n) {p : Nat} (hp : p < 1000) : Cl l d MX0_signAt [mR 7 0, mI (nI p)] w (fun r u => u = w ∧ r = some (mI (if p < n then nI (t p) else -1))) := by
  show Ev l d MX0_signAt 0 [some (mR 7 0), some (mI (nI p))] [] w _
  have hn := hL.2.2.1
  refine Ev.blk kX0_signAt_0 rfl trivial ?_
  refine Ev.br tX0_signAt_1 rfl (fun c1 => ?_) (fun c1 => ?_)
  · exact absurd c1 (nI_nlt (Nat.zero_le _) (by omega))
  · try simp (disch := omega) only [nI_eq, nI_leI, nI_ltI, Classical.not_not] at c1
    refine Ev.blk kX0_signAt_4 rfl trivial ?_
    simp only [hL.1]
    refine Ev.br tX0_signAt_9 rfl (fun c9 => ?_) (fun c9 => ?_)
    · try simp (disch := omega) only [nI_eq, nI_leI, nI_ltI, Classical.not_not] at c9
      refine Ev.blk kX0_signAt_21 rfl trivial ?_
      refine Ev.iret tX0_signAt_22 rfl rfl ?_
      refine ⟨rfl, ?_⟩
      first
        | (rw [if_neg (by omega)])
        | (rw [if_pos (by omega)])
    · try simp (disch := omega) only [nI_eq, nI_leI, nI_ltI, Classical.not_not] at c9
      refine Ev.blk kX0_signAt_12 rfl ⟨trivial, vinN (show p < 96 by omega) (by decide)⟩ ?_
      rw [ixN hp, hL.2.1 p (by omega)]
      refine Ev.jmp tX0_signAt_18 ?_
      refine Ev.iret tX0_signAt_22 rfl rfl ?_
      refine ⟨rfl, ?_⟩
      first
        | (rw [if_neg (by omega)])
        | (rw [if_pos (by omega)])
theorem ev_digitAt (hL : LetAt w t n) (hd : 1 ≤ d) {p : Nat} (hp : p < n) (h48 : 48 ≤ t p) : Cl l d MX0_digitAt [mR 7 0, mI (nI p)] w (fun r u => u = w ∧ r = some (mI (nI (dgt t p)))) := by
  show Ev l d MX0_digitAt 0 [some (mR 7 0), some (mI (nI p))] [] w _
  have hn := hL.2.2.1
  refine Ev.blk kX0_digitAt_0 rfl trivial ?_
  refine Ev.cV (d1 := d - 1) (ev_signAt hL (by omega)) tX0_digitAt_2 qX0_56 rfl rfl (by decide) ⟨rfl, rfl, rfl⟩ (by omega) ?_
  rintro _ _ ⟨rfl, rfl⟩
  rw [if_pos hp]
  refine Ev.blk kX0_digitAt_5 rfl trivial ?_
  rw [pk_sub h48]
  refine Ev.iret tX0_digitAt_8 rfl rfl ?_
  exact ⟨rfl, rfl⟩
theorem ev_cellAt (hL : LetAt w t n) (hd : 2 ≤ d) {p : Nat} (hp : p + 1 < n) (h48 : 48 ≤ t p) (h49 : 48 ≤ t (p + 1)) : Cl l d MX0_cellAt [mR 7 0, mI (nI p)] w (fun r u => u = w ∧ r = some (mI (nI (cel t p)))) := by
  show Ev l d MX0_cellAt 0 [some (mR 7 0), some (mI (nI p))] [] w _
  refine Ev.blk kX0_cellAt_0 rfl trivial ?_
  refine Ev.cV (d1 := d - 1) (ev_digitAt hL (by omega) (by omega) h48) tX0_cellAt_4 qX0_66 rfl rfl (by decide) ⟨rfl, rfl, rfl⟩ (by omega) ?_
  rintro _ _ ⟨rfl, rfl⟩
  refine Ev.blk kX0_cellAt_7 rfl trivial ?_
  rw [pk_mul, nI_add]
  refine Ev.cV (d1 := d - 1) (ev_digitAt hL (by omega) hp h49) tX0_cellAt_12 qX0_66 rfl rfl (by decide) ⟨rfl, rfl, rfl⟩ (by omega) ?_
  rintro _ _ ⟨rfl, rfl⟩
  refine Ev.blk kX0_cellAt_15 rfl trivial ?_
  rw [nI_add]
  refine Ev.iret tX0_cellAt_16 rfl rfl ?_
  exact ⟨rfl, rfl⟩
theorem ev_kindAt (hL : LetAt w t n) (hd : 4 ≤ d) {p : Nat} (hp : p < n) : Cl l d MX0_kindAt [mR 7 0, mI (nI p)] w (fun r u => u = w ∧ r = some (mI (oM1 (kix (t p))))) := by
  show Ev l d MX0_kindAt 0 [some (mR 7 0), some (mI (nI p))] [] w _
  have hn := hL.2.2.1
  have h256 := hL.2.2.2 p hp
  refine Ev.blk kX0_kindAt_0 rfl trivial ?_
  refine Ev.cV (d1 := d - 1) (ev_signAt hL (by omega)) tX0_kindAt_4 qX0_56 rfl rfl (by decide) ⟨rfl, rfl, rfl⟩ (by omega) ?_
  rintro _ _ ⟨rfl, rfl⟩
  rw [if_pos hp]
  refine Ev.blk kX0_kindAt_7 rfl trivial ?_
  rw [mchr_n _ h256]
  refine Ev.cV (d1 := d - 1) (ev_indexOf (by omega) h256) tX0_kindAt_8 qX0_96 rfl rfl (by decide) ⟨rfl, rfl, rfl⟩ (by omega) ?_
  rintro _ _ ⟨rfl, rfl⟩
  refine Ev.iret tX0_kindAt_11 rfl rfl ?_
  exact ⟨rfl, rfl⟩
theorem ev_shapeAt (hL : LetAt w t n) (hd : 1 ≤ d) {p : Nat} (hp : p < n) : Cl l d MX0_shapeAt [mR 7 0, mI (nI p)] w (fun r u => u = w ∧ r = some (mR 30 (shS (t p)))) := by
  show Ev l d MX0_shapeAt 0 [some (mR 7 0), some (mI (nI p))] [] w _
  have hn := hL.2.2.1
  have h256 := hL.2.2.2 p hp
  refine Ev.blk kX0_shapeAt_0 rfl trivial ?_
  refine Ev.cV (d1 := d - 1) (ev_signAt hL (by omega)) tX0_shapeAt_2 qX0_56 rfl rfl (by decide) ⟨rfl, rfl, rfl⟩ (by omega) ?_
  rintro _ _ ⟨rfl, rfl⟩
  rw [if_pos hp]
  have sw : ∀ c, c < 256 → mswo sX0_shapeAt_5 (nI c) = if c = 107 then 43 else if c = 116 then 46 else if c = 108 then 49 else if c = 103 then 52 else 55 := by decide +kernel
  have hsw := sw _ h256
  unfold shS
  by_cases h1 : t p = 107
  · rw [if_pos h1] at hsw ⊢
    refine Ev.sw (tgt := 48) tX0_shapeAt_5 hsw (by decide) ?_
    refine Ev.blk kX0_shapeAt_48 rfl trivial ?_
    refine Ev.aret tX0_shapeAt_50 (by decide) rfl ?_
    exact ⟨rfl, rfl⟩
  · rw [if_neg h1] at hsw ⊢
    by_cases h2 : t p = 116
    · rw [if_pos h2] at hsw ⊢
      refine Ev.sw (tgt := 51) tX0_shapeAt_5 hsw (by decide) ?_
      refine Ev.blk kX0_shapeAt_51 rfl trivial ?_
      refine Ev.aret tX0_shapeAt_53 (by decide) rfl ?_
      exact ⟨rfl, rfl⟩
    · rw [if_neg h2] at hsw ⊢
      by_cases h3 : t p = 108
      · rw [if_pos h3] at hsw ⊢
        refine Ev.sw (tgt := 54) tX0_shapeAt_5 hsw (by decide) ?_
        refine Ev.blk kX0_shapeAt_54 rfl trivial ?_
        refine Ev.aret tX0_shapeAt_56 (by decide) rfl ?_
        exact ⟨rfl, rfl⟩
      · rw [if_neg h3] at hsw ⊢
        by_cases h4 : t p = 103
        · rw [if_pos h4] at hsw ⊢
          refine Ev.sw (tgt := 57) tX0_shapeAt_5 hsw (by decide) ?_
          refine Ev.blk kX0_shapeAt_57 rfl trivial ?_
          refine Ev.aret tX0_shapeAt_59 (by decide) rfl ?_
          exact ⟨rfl, rfl⟩
        · rw [if_neg h4] at hsw ⊢
          refine Ev.sw (tgt := 60) tX0_shapeAt_5 hsw (by decide) ?_
          refine Ev.blk kX0_shapeAt_60 rfl trivial ?_
          refine Ev.aret tX0_shapeAt_62 (by decide) rfl ?_
          exact ⟨rfl, rfl⟩
end LE
