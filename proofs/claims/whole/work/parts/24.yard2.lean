/-! ===== the class's yard: reads ===== -/
def oM1 : Option Nat → Int32
  | some t => nI t
  | none => -1
def plq (D : Yd) (j : Nat) : Bool := decide (j < dn D) && !isC D j
def sfq (D : Yd) (j : Nat) : Bool := decide (j < dn D) && (j == da D || (dl D == 1 && edg (dc D j)))
def frb (D : Yd) (i : Nat) : Int32 := if dk D i = 1 then -1 else if dk D i = 2 then mshl (nI 1) (nI (df D i)) else nI 0
theorem tb_bc : ∀ m, m < 256 → ∀ z, z = nI m → (let a := z - (mushr z (nI 1) &&& nI 1431655765); let b := (a &&& nI 858993459) + (mushr a (nI 2) &&& nI 858993459); let c := (b + mushr b (nI 4)) &&& nI 252645135; let e := c + mushr c (nI 8); let f := e + mushr e (nI 16); f &&& nI 63) = nI (cnt (fun j => m.testBit j) 8) := by
  have h : ∀ m, m < 256 → (let z := nI m; let a := z - (mushr z (nI 1) &&& nI 1431655765); let b := (a &&& nI 858993459) + (mushr a (nI 2) &&& nI 858993459); let c := (b + mushr b (nI 4)) &&& nI 252645135; let e := c + mushr c (nI 8); let f := e + mushr e (nI 16); f &&& nI 63) = nI (cnt (fun j => m.testBit j) 8) := by decide +kernel
  intro m hm z hz
  subst hz
  exact h m hm
section Y2
variable {l : Launch} {d : Nat} {w : mW} {y : Nat} {D : Yd}
theorem ev_kindOf (hY : YardAt w y D) (hI : YI D) (hd : 1 ≤ d) {i : Nat} (hi : i < dn D) : Cl l d MX1_kindOf [mR 1 y, mI (nI i)] w (fun r u => u = w ∧ r = some (mI (nI (dk D i)))) := by
  show Ev l d MX1_kindOf 0 [some (mR 1 y), some (mI (nI i))] [] w _
  have h8 := hI.1
  have hi8 : i < 8 := by omega
  refine Ev.blk kX1_kindOf_0 rfl trivial ?_
  refine Ev.cV (d1 := d - 1) (ev_has_i hY h8 hi) tX1_kindOf_2 qX1_52 rfl rfl (by decide) ⟨rfl, rfl, rfl⟩ (by omega) ?_
  rintro _ _ ⟨rfl, rfl⟩
  refine Ev.br tX1_kindOf_5 rfl (fun c5 => ?_) (fun c5 => ?_)
  · exact absurd c5 (by decide)
  · refine Ev.blk kX1_kindOf_8 rfl ⟨trivial, vinN hi8 (by decide)⟩ ?_
    simp only [ix8 hi8, hY.k hi8]
    refine Ev.jmp tX1_kindOf_14 ?_
    refine Ev.iret tX1_kindOf_18 rfl rfl ?_
    exact ⟨rfl, rfl⟩
theorem ev_cellOf (hY : YardAt w y D) (hI : YI D) (hd : 1 ≤ d) {i : Nat} (hi : i < dn D) : Cl l d MX1_cellOf [mR 1 y, mI (nI i)] w (fun r u => u = w ∧ r = some (mI (nI (dc D i)))) := by
  show Ev l d MX1_cellOf 0 [some (mR 1 y), some (mI (nI i))] [] w _
  have h8 := hI.1
  have hi8 : i < 8 := by omega
  refine Ev.blk kX1_cellOf_0 rfl trivial ?_
  refine Ev.cV (d1 := d - 1) (ev_has_i hY h8 hi) tX1_cellOf_2 qX1_52 rfl rfl (by decide) ⟨rfl, rfl, rfl⟩ (by omega) ?_
  rintro _ _ ⟨rfl, rfl⟩
  refine Ev.br tX1_cellOf_5 rfl (fun c5 => ?_) (fun c5 => ?_)
  · exact absurd c5 (by decide)
  · refine Ev.blk kX1_cellOf_8 rfl ⟨trivial, vinN hi8 (by decide)⟩ ?_
    simp only [ix8 hi8, hY.c hi8]
    refine Ev.jmp tX1_cellOf_14 ?_
    refine Ev.iret tX1_cellOf_18 rfl rfl ?_
    exact ⟨rfl, rfl⟩
theorem ev_friendOf (hY : YardAt w y D) (hI : YI D) (hd : 1 ≤ d) {i : Nat} (hi : i < dn D) : Cl l d MX1_friendOf [mR 1 y, mI (nI i)] w (fun r u => u = w ∧ r = some (mI (nI (df D i)))) := by
  show Ev l d MX1_friendOf 0 [some (mR 1 y), some (mI (nI i))] [] w _
  have h8 := hI.1
  have hi8 : i < 8 := by omega
  refine Ev.blk kX1_friendOf_0 rfl trivial ?_
  refine Ev.cV (d1 := d - 1) (ev_has_i hY h8 hi) tX1_friendOf_2 qX1_52 rfl rfl (by decide) ⟨rfl, rfl, rfl⟩ (by omega) ?_
  rintro _ _ ⟨rfl, rfl⟩
  refine Ev.br tX1_friendOf_5 rfl (fun c5 => ?_) (fun c5 => ?_)
  · exact absurd c5 (by decide)
  · refine Ev.blk kX1_friendOf_8 rfl ⟨trivial, vinN hi8 (by decide)⟩ ?_
    simp only [ix8 hi8, hY.f hi8]
    refine Ev.jmp tX1_friendOf_14 ?_
    refine Ev.iret tX1_friendOf_18 rfl rfl ?_
    exact ⟨rfl, rfl⟩
theorem ev_tiredOf (hY : YardAt w y D) (hI : YI D) (hd : 1 ≤ d) {i : Nat} (hi : i < dn D) : Cl l d MX1_tiredOf [mR 1 y, mI (nI i)] w (fun r u => u = w ∧ r = some (mI (nI (dt D i)))) := by
  show Ev l d MX1_tiredOf 0 [some (mR 1 y), some (mI (nI i))] [] w _
  have h8 := hI.1
  have hi8 : i < 8 := by omega
  refine Ev.blk kX1_tiredOf_0 rfl trivial ?_
  refine Ev.cV (d1 := d - 1) (ev_has_i hY h8 hi) tX1_tiredOf_2 qX1_52 rfl rfl (by decide) ⟨rfl, rfl, rfl⟩ (by omega) ?_
  rintro _ _ ⟨rfl, rfl⟩
  refine Ev.br tX1_tiredOf_5 rfl (fun c5 => ?_) (fun c5 => ?_)
  · exact absurd c5 (by decide)
  · refine Ev.blk kX1_tiredOf_8 rfl ⟨trivial, vinN hi8 (by decide)⟩ ?_
    simp only [ix8 hi8, hY.t hi8]
    refine Ev.jmp tX1_tiredOf_14 ?_
    refine Ev.iret tX1_tiredOf_18 rfl rfl ?_
    exact ⟨rfl, rfl⟩
theorem ev_isStanding (hY : YardAt w y D) (hI : YI D) (hd : 1 ≤ d) {i : Nat} (hi : i < dn D) : Cl l d MX1_isStanding [mR 1 y, mI (nI i)] w (fun r u => u = w ∧ r = some (mI (bI (ds D i)))) := by
  show Ev l d MX1_isStanding 0 [some (mR 1 y), some (mI (nI i))] [] w _
  have h8 := hI.1
  have hi8 : i < 8 := by omega
  refine Ev.blk kX1_isStanding_0 rfl trivial ?_
  refine Ev.cV (d1 := d - 1) (ev_has_i hY h8 hi) tX1_isStanding_2 qX1_52 rfl rfl (by decide) ⟨rfl, rfl, rfl⟩ (by omega) ?_
  rintro _ _ ⟨rfl, rfl⟩
  refine Ev.br tX1_isStanding_5 rfl (fun c5 => ?_) (fun c5 => ?_)
  · exact absurd c5 (by decide)
  · refine Ev.blk kX1_isStanding_8 rfl trivial ?_
    simp only [hY.s, b_at hi8]
    refine Ev.br tX1_isStanding_17 rfl (fun c17 => ?_) (fun c17 => ?_)
    · refine Ev.blk kX1_isStanding_24 rfl trivial ?_
      refine Ev.iret tX1_isStanding_25 rfl rfl ?_
      refine ⟨rfl, ?_⟩
      cases hs : ds D i
      · first | rfl | (rw [hs] at c17; exact absurd c17 (by decide))
      · first | rfl | (rw [hs] at c17; exact absurd c17 (by decide))
    · refine Ev.blk kX1_isStanding_20 rfl trivial ?_
      refine Ev.jmp tX1_isStanding_21 ?_
      refine Ev.iret tX1_isStanding_25 rfl rfl ?_
      refine ⟨rfl, ?_⟩
      cases hs : ds D i
      · first | rfl | (rw [hs] at c17; exact absurd c17 (by decide))
      · first | rfl | (rw [hs] at c17; exact absurd c17 (by decide))
theorem ev_isCatcher (hY : YardAt w y D) (hI : YI D) (hd : 1 ≤ d) {i : Nat} (hi : i < dn D) : Cl l d MX1_isCatcher [mR 1 y, mI (nI i)] w (fun r u => u = w ∧ r = some (mI (bI (isC D i)))) := by
  show Ev l d MX1_isCatcher 0 [some (mR 1 y), some (mI (nI i))] [] w _
  have h8 := hI.1
  have hi8 : i < 8 := by omega
  have hk8 := (hI.2.1 i hi).1
  refine Ev.blk kX1_isCatcher_0 rfl trivial ?_
  refine Ev.cV (d1 := d - 1) (ev_has_i hY h8 hi) tX1_isCatcher_2 qX1_52 rfl rfl (by decide) ⟨rfl, rfl, rfl⟩ (by omega) ?_
  rintro _ _ ⟨rfl, rfl⟩
  refine Ev.br tX1_isCatcher_5 rfl (fun c5 => ?_) (fun c5 => ?_)
  · exact absurd c5 (by decide)
  · try simp (disch := omega) only [nI_eq, nI_leI, nI_ltI] at c5
    refine Ev.blk kX1_isCatcher_8 rfl ⟨trivial, vinN hi8 (by decide)⟩ ?_
    simp only [ix8 hi8, hY.k hi8]
    refine Ev.br tX1_isCatcher_15 rfl (fun c15 => ?_) (fun c15 => ?_)
    · try simp (disch := omega) only [nI_eq, nI_leI, nI_ltI] at c15
      refine Ev.blk kX1_isCatcher_22 rfl trivial ?_
      refine Ev.iret tX1_isCatcher_23 rfl rfl ?_
      refine ⟨rfl, ?_⟩
      unfold isC
      first | exact bI_f (by omega) | exact bI_t (by omega)
    · try simp (disch := omega) only [nI_eq, nI_leI, nI_ltI] at c15
      refine Ev.blk kX1_isCatcher_18 rfl trivial ?_
      refine Ev.jmp tX1_isCatcher_19 ?_
      refine Ev.iret tX1_isCatcher_23 rfl rfl ?_
      refine ⟨rfl, ?_⟩
      unfold isC
      first | exact bI_f (by omega) | exact bI_t (by omega)
theorem ev_freedBy (hY : YardAt w y D) (hI : YI D) (hd : 1 ≤ d) {i o : Nat} (hi : i < 8) (ho : o < 8) : Cl l d MX1_freedBy [mR 1 y, mI (nI i), mI (nI o)] w (fun r u => u = w ∧ r = some (mI (nI (dr D (8 * i + o))))) := by
  show Ev l d MX1_freedBy 0 [some (mR 1 y), some (mI (nI i)), some (mI (nI o))] [] w _
  have h8 := hI.1
  have hz := hI.2.2.2.2.2.2.1 (8 * i + o)
  have e1 : (8 * i + o) / 8 = i := by omega
  have e2 : (8 * i + o) % 8 = o := by omega
  rw [e1, e2] at hz
  have hh : ∀ j, j < 8 → hasI D (nI j) = false → dn D ≤ j := fun j hj h => by
    rcases Nat.lt_or_ge j (dn D) with g | g
    · rw [hasI_t g h8] at h; cases h
    · exact g
  refine Ev.blk kX1_freedBy_0 rfl trivial ?_
  refine Ev.cV (d1 := d - 1) (ev_has hY (nI i)) tX1_freedBy_2 qX1_52 rfl rfl (by decide) ⟨rfl, rfl, rfl⟩ (by omega) ?_
  rintro _ _ ⟨rfl, rfl⟩
  refine Ev.br tX1_freedBy_5 rfl (fun c5 => ?_) (fun c5 => ?_)
  · try rw [bI_0] at c5
    refine Ev.blk kX1_freedBy_30 rfl trivial ?_
    refine Ev.iret tX1_freedBy_31 rfl rfl ?_
    refine ⟨rfl, ?_⟩
    first | rfl | (rw [hz (Or.inl (hh i hi c5))]) | (rw [hz (Or.inr (hh o ho c13))])
  · try rw [bI_0] at c5
    refine Ev.blk kX1_freedBy_8 rfl trivial ?_
    refine Ev.cV (d1 := d - 1) (ev_has hY (nI o)) tX1_freedBy_10 qX1_52 rfl rfl (by decide) ⟨rfl, rfl, rfl⟩ (by omega) ?_
    rintro _ _ ⟨rfl, rfl⟩
    refine Ev.br tX1_freedBy_13 rfl (fun c13 => ?_) (fun c13 => ?_)
    · try rw [bI_0] at c13
      refine Ev.blk kX1_freedBy_30 rfl trivial ?_
      refine Ev.iret tX1_freedBy_31 rfl rfl ?_
      refine ⟨rfl, ?_⟩
      first | rfl | (rw [hz (Or.inl (hh i hi c5))]) | (rw [hz (Or.inr (hh o ho c13))])
    · try rw [bI_0] at c13
      refine Ev.blk kX1_freedBy_16 rfl ⟨trivial, (by rw [pk_mul, nI_add]; exact vinN (by show 8 * i + o < 64; omega) (by decide))⟩ ?_
      rw [pk_mul, nI_add, ixN (by omega), hY.r (by omega)]
      refine Ev.jmp tX1_freedBy_27 ?_
      refine Ev.iret tX1_freedBy_31 rfl rfl ?_
      refine ⟨rfl, ?_⟩
      first | rfl | (rw [hz (Or.inl (hh i hi c5))]) | (rw [hz (Or.inr (hh o ho c13))])
theorem ev_childrenCount (hY : YardAt w y D) : Cl l d MX1_childrenCount [mR 1 y] w (fun r u => u = w ∧ r = some (mI (nI (dn D)))) := by
  show Ev l d MX1_childrenCount 0 [some (mR 1 y)] [] w _
  refine Ev.blk kX1_childrenCount_0 rfl trivial ?_
  simp only [hY.n]
  refine Ev.iret tX1_childrenCount_4 rfl rfl ?_
  exact ⟨rfl, rfl⟩
theorem ev_standingBits (hY : YardAt w y D) : Cl l d MX1_standingBits [mR 1 y] w (fun r u => u = w ∧ r = some (mI (nI (bts (ds D) 8)))) := by
  show Ev l d MX1_standingBits 0 [some (mR 1 y)] [] w _
  refine Ev.blk kX1_standingBits_0 rfl trivial ?_
  simp only [hY.s]
  refine Ev.iret tX1_standingBits_4 rfl rfl ?_
  exact ⟨rfl, rfl⟩
theorem ev_lawNow (hY : YardAt w y D) : Cl l d MX1_lawNow [mR 1 y] w (fun r u => u = w ∧ r = some (mI (nI (dl D)))) := by
  show Ev l d MX1_lawNow 0 [some (mR 1 y)] [] w _
  refine Ev.blk kX1_lawNow_0 rfl trivial ?_
  simp only [hY.l]
  refine Ev.iret tX1_lawNow_4 rfl rfl ?_
  exact ⟨rfl, rfl⟩
theorem ev_secondNow (hY : YardAt w y D) : Cl l d MX1_secondNow [mR 1 y] w (fun r u => u = w ∧ r = some (mI (nI (de D)))) := by
  show Ev l d MX1_secondNow 0 [some (mR 1 y)] [] w _
  refine Ev.blk kX1_secondNow_0 rfl trivial ?_
  simp only [hY.e]
  refine Ev.iret tX1_secondNow_4 rfl rfl ?_
  exact ⟨rfl, rfl⟩
theorem ev_freeings (hY : YardAt w y D) : Cl l d MX1_freeingsSinceCopied [mR 1 y] w (fun r u => u = w ∧ r = some (mI (nI (dg D)))) := by
  show Ev l d MX1_freeingsSinceCopied 0 [some (mR 1 y)] [] w _
  refine Ev.blk kX1_freeingsSinceCopied_0 rfl trivial ?_
  simp only [hY.g]
  refine Ev.iret tX1_freeingsSinceCopied_4 rfl rfl ?_
  exact ⟨rfl, rfl⟩
theorem ev_bitCount (q : Nat → Bool) : Cl l d MJ6_bitCount_0f7a4 [mI (nI (bts q 8))] w (fun r u => u = w ∧ r = some (mI (nI (cnt q 8)))) := by
  show Ev l d MJ6_bitCount_0f7a4 0 [some (mI (nI (bts q 8)))] [] w _
  refine Ev.blk kJ6_bitCount_0f7a4_0 rfl trivial ?_
  refine Ev.iret tJ6_bitCount_0f7a4_52 rfl rfl ?_
  refine ⟨rfl, ?_⟩
  have h := tb_bc _ (b256 q) _ rfl
  rw [show cnt q 8 = cnt (fun j => (bts q 8).testBit j) 8 from cnt_congr (fun j hj => by rw [bts_bit]; simp [hj])]
  exact congrArg (fun z => some (mI z)) h
theorem ev_standingCount (hY : YardAt w y D) (hd : 1 ≤ d) : Cl l d MX1_standingCount [mR 1 y] w (fun r u => u = w ∧ r = some (mI (nI (cnt (ds D) 8)))) := by
  show Ev l d MX1_standingCount 0 [some (mR 1 y)] [] w _
  refine Ev.blk kX1_standingCount_0 rfl trivial ?_
  simp only [hY.s]
  refine Ev.cS (d1 := d - 1) (ev_bitCount (ds D)) tX1_standingCount_4 qX1_56 rfl ⟨rfl, rfl, rfl⟩ (by omega) ?_
  rintro _ _ ⟨rfl, rfl⟩
  refine Ev.iret tX1_standingCount_7 rfl rfl ?_
  exact ⟨rfl, rfl⟩
theorem ev_isEdge {c : Nat} (hc : c < 24) : Cl l d MX1_isEdge [mI (nI c)] w (fun r u => u = w ∧ r = some (mI (bI (edg c)))) := by
  show Ev l d MX1_isEdge 0 [some (mI (nI c)), none, none] [] w _
  have e1 : nI c / nI 6 = nI (c / 6) := pk_div (by omega) (by omega) (by omega)
  have e2 : mrem (nI c) (nI 6) = nI (c % 6) := mrem_n (by omega) (by omega) (by omega)
  refine Ev.blk kX1_isEdge_0 rfl ⟨⟨trivial, (by decide)⟩, (by decide)⟩ ?_
  simp only [e1, e2]
  refine Ev.br tX1_isEdge_11 rfl (fun c11 => ?_) (fun c11 => ?_)
  · try simp (disch := omega) only [nI_eq, nI_leI, nI_ltI] at c11
    refine Ev.blk kX1_isEdge_28 rfl trivial ?_
    refine Ev.jmp tX1_isEdge_29 ?_
    refine Ev.iret tX1_isEdge_33 rfl rfl ?_
    refine ⟨rfl, ?_⟩
    first
      | (rw [show edg c = true by unfold edg; simp; omega]; rfl)
      | (rw [show edg c = false by unfold edg; simp; omega]; rfl)
  · try simp (disch := omega) only [nI_eq, nI_leI, nI_ltI] at c11
    refine Ev.blk kX1_isEdge_14 rfl trivial ?_
    refine Ev.br tX1_isEdge_16 rfl (fun c16 => ?_) (fun c16 => ?_)
    · try simp (disch := omega) only [nI_eq, nI_leI, nI_ltI] at c16
      refine Ev.blk kX1_isEdge_28 rfl trivial ?_
      refine Ev.jmp tX1_isEdge_29 ?_
      refine Ev.iret tX1_isEdge_33 rfl rfl ?_
      refine ⟨rfl, ?_⟩
      first
        | (rw [show edg c = true by unfold edg; simp; omega]; rfl)
        | (rw [show edg c = false by unfold edg; simp; omega]; rfl)
    · try simp (disch := omega) only [nI_eq, nI_leI, nI_ltI] at c16
      refine Ev.blk kX1_isEdge_19 rfl trivial ?_
      refine Ev.br tX1_isEdge_20 rfl (fun c20 => ?_) (fun c20 => ?_)
      · try simp (disch := omega) only [nI_eq, nI_leI, nI_ltI] at c20
        refine Ev.blk kX1_isEdge_28 rfl trivial ?_
        refine Ev.jmp tX1_isEdge_29 ?_
        refine Ev.iret tX1_isEdge_33 rfl rfl ?_
        refine ⟨rfl, ?_⟩
        first
          | (rw [show edg c = true by unfold edg; simp; omega]; rfl)
          | (rw [show edg c = false by unfold edg; simp; omega]; rfl)
      · try simp (disch := omega) only [nI_eq, nI_leI, nI_ltI] at c20
        refine Ev.blk kX1_isEdge_23 rfl trivial ?_
        refine Ev.br tX1_isEdge_25 rfl (fun c25 => ?_) (fun c25 => ?_)
        · try simp (disch := omega) only [nI_eq, nI_leI, nI_ltI] at c25
          refine Ev.blk kX1_isEdge_32 rfl trivial ?_
          refine Ev.iret tX1_isEdge_33 rfl rfl ?_
          refine ⟨rfl, ?_⟩
          first
            | (rw [show edg c = true by unfold edg; simp; omega]; rfl)
            | (rw [show edg c = false by unfold edg; simp; omega]; rfl)
        · try simp (disch := omega) only [nI_eq, nI_leI, nI_ltI] at c25
          refine Ev.blk kX1_isEdge_28 rfl trivial ?_
          refine Ev.jmp tX1_isEdge_29 ?_
          refine Ev.iret tX1_isEdge_33 rfl rfl ?_
          refine ⟨rfl, ?_⟩
          first
            | (rw [show edg c = true by unfold edg; simp; omega]; rfl)
            | (rw [show edg c = false by unfold edg; simp; omega]; rfl)
theorem ev_cellBehind {c way : Nat} (hc : c < 24) (hw : way < 5) : Cl l d MX1_cellBehind [mI (nI c), mI (nI way)] w (fun r u => u = w ∧ r = some (mI (oM1 (stp c way)))) := by
  show Ev l d MX1_cellBehind 0 [some (mI (nI c)), some (mI (nI way)), none, none] [] w _
  have e1 : nI c / nI 6 = nI (c / 6) := pk_div (by omega) (by omega) (by omega)
  have e2 : mrem (nI c) (nI 6) = nI (c % 6) := mrem_n (by omega) (by omega) (by omega)
  refine Ev.blk kX1_cellBehind_0 rfl ⟨⟨trivial, by decide⟩, by decide⟩ ?_
  simp only [e1, e2]
  match way, hw with
  | 0, _ =>
    refine Ev.sw (tgt := 44) tX1_cellBehind_11 (off := 33) (by decide) (by decide) ?_
    refine Ev.blk kX1_cellBehind_44 rfl trivial ?_
    refine Ev.iret tX1_cellBehind_45 rfl rfl ?_
    exact ⟨rfl, rfl⟩
  | 1, _ =>
    refine Ev.sw (tgt := 46) tX1_cellBehind_11 (off := 35) (by decide) (by decide) ?_
    refine Ev.blk kX1_cellBehind_46 rfl trivial ?_
    refine Ev.br tX1_cellBehind_47 rfl (fun c47 => ?_) (fun c47 => ?_)
    · try simp (disch := omega) only [nI_eq, nI_leI, nI_ltI] at c47
      refine Ev.blk kX1_cellBehind_57 rfl trivial ?_
      refine Ev.iret tX1_cellBehind_58 rfl rfl ?_
      refine ⟨rfl, ?_⟩
      simp only [stp]
      first
        | (rw [if_neg (by omega)]; rfl)
        | (rw [if_pos (by omega), pk_sub (by omega)]; rfl)
    · try simp (disch := omega) only [nI_eq, nI_leI, nI_ltI] at c47
      refine Ev.blk kX1_cellBehind_50 rfl trivial ?_
      refine Ev.jmp tX1_cellBehind_54 ?_
      refine Ev.iret tX1_cellBehind_58 rfl rfl ?_
      refine ⟨rfl, ?_⟩
      simp only [stp]
      first
        | (rw [if_neg (by omega)]; rfl)
        | (rw [if_pos (by omega), pk_sub (by omega)]; rfl)
  | 2, _ =>
    refine Ev.sw (tgt := 59) tX1_cellBehind_11 (off := 48) (by decide) (by decide) ?_
    refine Ev.blk kX1_cellBehind_59 rfl trivial ?_
    refine Ev.br tX1_cellBehind_61 rfl (fun c61 => ?_) (fun c61 => ?_)
    · try simp (disch := omega) only [nI_eq, nI_leI, nI_ltI] at c61
      refine Ev.blk kX1_cellBehind_71 rfl trivial ?_
      refine Ev.iret tX1_cellBehind_72 rfl rfl ?_
      refine ⟨rfl, ?_⟩
      simp only [stp]
      first
        | (rw [if_neg (by omega)]; rfl)
        | (rw [if_pos (by omega), nI_add]; rfl)
    · try simp (disch := omega) only [nI_eq, nI_leI, nI_ltI] at c61
      refine Ev.blk kX1_cellBehind_64 rfl trivial ?_
      refine Ev.jmp tX1_cellBehind_68 ?_
      refine Ev.iret tX1_cellBehind_72 rfl rfl ?_
      refine ⟨rfl, ?_⟩
      simp only [stp]
      first
        | (rw [if_neg (by omega)]; rfl)
        | (rw [if_pos (by omega), nI_add]; rfl)
  | 3, _ =>
    refine Ev.sw (tgt := 73) tX1_cellBehind_11 (off := 62) (by decide) (by decide) ?_
    refine Ev.blk kX1_cellBehind_73 rfl trivial ?_
    refine Ev.br tX1_cellBehind_74 rfl (fun c74 => ?_) (fun c74 => ?_)
    · try simp (disch := omega) only [nI_eq, nI_leI, nI_ltI] at c74
      refine Ev.blk kX1_cellBehind_83 rfl trivial ?_
      refine Ev.iret tX1_cellBehind_84 rfl rfl ?_
      refine ⟨rfl, ?_⟩
      simp only [stp]
      first
        | (rw [if_neg (by omega)]; rfl)
        | (rw [if_pos (by omega), pk_sub (by omega)]; rfl)
    · try simp (disch := omega) only [nI_eq, nI_leI, nI_ltI] at c74
      refine Ev.blk kX1_cellBehind_77 rfl trivial ?_
      refine Ev.jmp tX1_cellBehind_80 ?_
      refine Ev.iret tX1_cellBehind_84 rfl rfl ?_
      refine ⟨rfl, ?_⟩
      simp only [stp]
      first
        | (rw [if_neg (by omega)]; rfl)
        | (rw [if_pos (by omega), pk_sub (by omega)]; rfl)
  | 4, _ =>
    refine Ev.sw (tgt := 85) tX1_cellBehind_11 (off := 74) (by decide) (by decide) ?_
    refine Ev.blk kX1_cellBehind_85 rfl trivial ?_
    refine Ev.br tX1_cellBehind_87 rfl (fun c87 => ?_) (fun c87 => ?_)
    · try simp (disch := omega) only [nI_eq, nI_leI, nI_ltI] at c87
      refine Ev.blk kX1_cellBehind_96 rfl trivial ?_
      refine Ev.iret tX1_cellBehind_97 rfl rfl ?_
      refine ⟨rfl, ?_⟩
      simp only [stp]
      first
        | (rw [if_neg (by omega)]; rfl)
        | (rw [if_pos (by omega), nI_add]; rfl)
    · try simp (disch := omega) only [nI_eq, nI_leI, nI_ltI] at c87
      refine Ev.blk kX1_cellBehind_90 rfl trivial ?_
      refine Ev.jmp tX1_cellBehind_93 ?_
      refine Ev.iret tX1_cellBehind_97 rfl rfl ?_
      refine ⟨rfl, ?_⟩
      simp only [stp]
      first
        | (rw [if_neg (by omega)]; rfl)
        | (rw [if_pos (by omega), nI_add]; rfl)
end Y2
