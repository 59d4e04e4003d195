/-! ===== the class's yard: its small methods ===== -/
def bI (b : Bool) : Int32 := if b then nI 1 else nI 0
theorem bI_0 (b : Bool) : (bI b = nI 0) = (b = false) := by cases b <;> decide
theorem bI_1 (b : Bool) : (bI b = nI 1) = (b = true) := by cases b <;> decide
theorem bI_nar (b : Bool) : narrow .boolean (.int (bI b)) = .int (bI b) := by cases b <;> rfl
theorem bI_f {P : Prop} [Decidable P] (h : ¬ P) : some (mI (nI 0)) = some (mI (bI (decide P))) := by rw [decide_eq_false h]; rfl
theorem bI_t {P : Prop} [Decidable P] (h : P) : some (mI (nI 1)) = some (mI (bI (decide P))) := by rw [decide_eq_true h]; rfl
def hasI (D : Yd) (c : Int32) : Bool := decide (nI 0 ≤ c ∧ c < nI (dn D))
theorem hasI_t {D : Yd} {i : Nat} (h : i < dn D) (hn : dn D ≤ 8) : hasI D (nI i) = true := by
  unfold hasI
  simp only [decide_eq_true_eq]
  exact ⟨(nI_leI (by omega) (by omega)).mpr (by omega), (nI_ltI (by omega) (by omega)).mpr h⟩
theorem hasI_of {D : Yd} {c : Int32} (h : hasI D c = true) (hn : dn D ≤ 8) : ∃ i, i < dn D ∧ c = nI i := by
  unfold hasI at h
  simp only [decide_eq_true_eq] at h
  obtain ⟨h1, h2⟩ := h
  rcases pk_ix c (n := dn D) (by omega) with g | g | ⟨j, g1, g2⟩
  · exact absurd g (by intro z; exact (Int32.not_lt.mpr h1) z)
  · exact absurd h2 (Int32.not_lt.mpr g)
  · exact ⟨j, g1, g2⟩
def apC (a b : Int32) : Int32 := (if nI 0 ≤ a / nI 6 - b / nI 6 then a / nI 6 - b / nI 6 else -(a / nI 6 - b / nI 6)) + (if nI 0 ≤ mrem a (nI 6) - mrem b (nI 6) then mrem a (nI 6) - mrem b (nI 6) else -(mrem a (nI 6) - mrem b (nI 6)))
theorem apC_far : ∀ a, a < 24 → ∀ b, b < 24 → apC (nI a) (nI b) = nI (far a b) := by decide +kernel
section Y1
variable {l : Launch} {d : Nat} {w : mW} {y : Nat} {D : Yd}
theorem ev_isCell (c : Int32) : Cl l d MX1_isCell [mI c] w (fun r u => u = w ∧ r = some (mI (bI (decide (nI 0 ≤ c ∧ c < nI 24))))) := by
  show Ev l d MX1_isCell 0 [some (mI c)] [] w _
  refine Ev.blk kX1_isCell_0 rfl trivial ?_
  refine Ev.br tX1_isCell_1 rfl (fun c1 => ?_) (fun c1 => ?_)
  · refine Ev.blk kX1_isCell_14 rfl trivial ?_
    refine Ev.iret tX1_isCell_15 rfl rfl ?_
    refine ⟨rfl, ?_⟩
    simp only [Int32.le_iff_toInt_le, Int32.lt_iff_toInt_lt] at *
    first | exact bI_f (by omega) | exact bI_t (by omega)
  · refine Ev.blk kX1_isCell_4 rfl trivial ?_
    refine Ev.br tX1_isCell_7 rfl (fun c7 => ?_) (fun c7 => ?_)
    · refine Ev.blk kX1_isCell_14 rfl trivial ?_
      refine Ev.iret tX1_isCell_15 rfl rfl ?_
      refine ⟨rfl, ?_⟩
      simp only [Int32.le_iff_toInt_le, Int32.lt_iff_toInt_lt] at *
      first | exact bI_f (by omega) | exact bI_t (by omega)
    · refine Ev.blk kX1_isCell_10 rfl trivial ?_
      refine Ev.jmp tX1_isCell_11 ?_
      refine Ev.iret tX1_isCell_15 rfl rfl ?_
      refine ⟨rfl, ?_⟩
      simp only [Int32.le_iff_toInt_le, Int32.lt_iff_toInt_lt] at *
      first | exact bI_f (by omega) | exact bI_t (by omega)
theorem ev_has (hY : YardAt w y D) (c : Int32) : Cl l d MX1_has [mR 1 y, mI c] w (fun r u => u = w ∧ r = some (mI (bI (hasI D c)))) := by
  show Ev l d MX1_has 0 [some (mR 1 y), some (mI c)] [] w _
  have hn := hY.n
  refine Ev.blk kX1_has_0 rfl trivial ?_
  try simp only [hn]
  refine Ev.br tX1_has_1 rfl (fun c1 => ?_) (fun c1 => ?_)
  · refine Ev.blk kX1_has_16 rfl trivial ?_
    try simp only [hn]
    refine Ev.iret tX1_has_17 rfl rfl ?_
    refine ⟨rfl, ?_⟩
    unfold hasI
    clear hY hn
    simp only [Int32.le_iff_toInt_le, Int32.lt_iff_toInt_lt] at *
    first | exact bI_f (by omega) | exact bI_t (by omega)
  · refine Ev.blk kX1_has_4 rfl trivial ?_
    try simp only [hn]
    refine Ev.br tX1_has_9 rfl (fun c9 => ?_) (fun c9 => ?_)
    · refine Ev.blk kX1_has_16 rfl trivial ?_
      try simp only [hn]
      refine Ev.iret tX1_has_17 rfl rfl ?_
      refine ⟨rfl, ?_⟩
      unfold hasI
      clear hY hn
      simp only [Int32.le_iff_toInt_le, Int32.lt_iff_toInt_lt] at *
      first | exact bI_f (by omega) | exact bI_t (by omega)
    · refine Ev.blk kX1_has_12 rfl trivial ?_
      try simp only [hn]
      refine Ev.jmp tX1_has_13 ?_
      refine Ev.iret tX1_has_17 rfl rfl ?_
      refine ⟨rfl, ?_⟩
      unfold hasI
      clear hY hn
      simp only [Int32.le_iff_toInt_le, Int32.lt_iff_toInt_lt] at *
      first | exact bI_f (by omega) | exact bI_t (by omega)
theorem ev_has_i (hY : YardAt w y D) (hI : dn D ≤ 8) {i : Nat} (hi : i < dn D) : Cl l d MX1_has [mR 1 y, mI (nI i)] w (fun r u => u = w ∧ r = some (mI (nI 1))) :=
  (ev_has hY (nI i)).mono (fun r u h => ⟨h.1, by rw [h.2, hasI_t hi hI]; rfl⟩)
theorem ev_apart {a b : Nat} (ha : a < 24) (hb : b < 24) : Cl l d MX1_apart [mI (nI a), mI (nI b)] w (fun r u => u = w ∧ r = some (mI (nI (far a b)))) := by
  show Ev l d MX1_apart 0 [some (mI (nI a)), some (mI (nI b)), none, none] [] w _
  have key := apC_far a ha b hb
  unfold apC at key
  refine Ev.blk kX1_apart_0 rfl ⟨⟨⟨⟨trivial, (by decide)⟩, (by decide)⟩, (by decide)⟩, (by decide)⟩ ?_
  refine Ev.br tX1_apart_21 rfl (fun c21 => ?_) (fun c21 => ?_)
  · refine Ev.blk kX1_apart_29 rfl trivial ?_
    refine Ev.blk kX1_apart_30 rfl trivial ?_
    refine Ev.br tX1_apart_31 rfl (fun c31 => ?_) (fun c31 => ?_)
    · refine Ev.blk kX1_apart_39 rfl trivial ?_
      refine Ev.blk kX1_apart_40 rfl trivial ?_
      refine Ev.iret tX1_apart_41 rfl rfl ?_
      refine ⟨rfl, ?_⟩
      simp only [c21, c31, if_true, if_false] at key
      rw [← key]
    · refine Ev.blk kX1_apart_34 rfl trivial ?_
      refine Ev.jmp tX1_apart_36 ?_
      refine Ev.blk kX1_apart_40 rfl trivial ?_
      refine Ev.iret tX1_apart_41 rfl rfl ?_
      refine ⟨rfl, ?_⟩
      simp only [c21, c31, if_true, if_false] at key
      rw [← key]
  · refine Ev.blk kX1_apart_24 rfl trivial ?_
    refine Ev.jmp tX1_apart_26 ?_
    refine Ev.blk kX1_apart_30 rfl trivial ?_
    refine Ev.br tX1_apart_31 rfl (fun c31 => ?_) (fun c31 => ?_)
    · refine Ev.blk kX1_apart_39 rfl trivial ?_
      refine Ev.blk kX1_apart_40 rfl trivial ?_
      refine Ev.iret tX1_apart_41 rfl rfl ?_
      refine ⟨rfl, ?_⟩
      simp only [c21, c31, if_true, if_false] at key
      rw [← key]
    · refine Ev.blk kX1_apart_34 rfl trivial ?_
      refine Ev.jmp tX1_apart_36 ?_
      refine Ev.blk kX1_apart_40 rfl trivial ?_
      refine Ev.iret tX1_apart_41 rfl rfl ?_
      refine ⟨rfl, ?_⟩
      simp only [c21, c31, if_true, if_false] at key
      rw [← key]
theorem ev_catcherApart (hY : YardAt w y D) (hI : YI D) (hd : 1 ≤ d) {c : Nat} (hc : c < 24) : Cl l d MX1_catcherApart [mR 1 y, mI (nI c)] w (fun r u => u = w ∧ r = some (mI (nI (cap D c)))) := by
  show Ev l d MX1_catcherApart 0 [some (mR 1 y), some (mI (nI c)), none, none] [] w _
  refine Ev.blk kX1_catcherApart_0 rfl trivial ?_
  have hn := hY.n
  have h8 := hI.1
  have hcl : ∀ i, capL D c i ≤ 99 := fun i => by
    induction i with
    | zero => exact Nat.le_refl _
    | succ i ih => unfold capL; repeat' split
                   all_goals omega
  refine Ev.for (fun i L u => u = w ∧ L = [some (mR 1 y), some (mI (nI c)), some (mI (nI (capL D c i))), some (mI (nI i))]) (dn D) ?_ ?_ 0 (Nat.zero_le _) ⟨rfl, rfl⟩
  · rintro L u ⟨rfl, rfl⟩
    refine Ev.blk kX1_catcherApart_5 rfl trivial ?_
    simp only [hn]
    refine Ev.br tX1_catcherApart_10 rfl (fun c10 => ?_) (fun c10 => ?_)
    · refine Ev.blk kX1_catcherApart_44 rfl trivial ?_
      refine Ev.iret tX1_catcherApart_45 rfl rfl ?_
      exact ⟨rfl, rfl⟩
    · exact absurd (nI_le (Nat.le_refl _) (by omega)) c10
  · rintro i L u hi ⟨rfl, rfl⟩ k
    have hi8 : i < 8 := by omega
    have hk := hY.k hi8
    have hcc := hY.c hi8
    have hci := (hI.2.1 i hi).2.1
    have hcl := hcl i
    have hfr := far_le c hc (dc D i) hci
    have hkk := (hI.2.1 i hi).1
    refine Ev.blk kX1_catcherApart_5 rfl trivial ?_
    simp only [hn]
    refine Ev.br tX1_catcherApart_10 rfl (fun c10 => ?_) (fun c10 => ?_)
    · exact absurd c10 (nI_ge hi (by omega))
    · refine Ev.blk kX1_catcherApart_13 rfl ⟨trivial, vinN hi8 (by decide)⟩ ?_
      simp only [ix8 hi8, hk]
      refine Ev.br tX1_catcherApart_20 rfl (fun c20 => ?_) (fun c20 => ?_)
      · refine Ev.blk kX1_catcherApart_38 rfl trivial ?_
        refine Ev.jmp tX1_catcherApart_41 ?_
        refine k _ _ ⟨rfl, ?_⟩
        rw [nI_add]
        rw [nI_ltI (by omega) (by omega)] at c20
        have e : capL D c (i + 1) = if 4 ≤ dk D i then (if far c (dc D i) < capL D c i then far c (dc D i) else capL D c i) else capL D c i := by
          show (if isC D i = true then _ else _) = _
          simp only [isC, decide_eq_true_eq]
        rw [e]
        first
          | (have e2 : ¬ 4 ≤ dk D i := by omega
             simp only [e2, if_false])
          | (have e2 : 4 ≤ dk D i := by omega
             simp only [e2, if_true])
      · refine Ev.blk kX1_catcherApart_23 rfl ⟨trivial, vinN hi8 (by decide)⟩ ?_
        simp only [ix8 hi8, hcc]
        refine Ev.cS (d1 := d - 1) (ev_apart hc hci) tX1_catcherApart_31 qX1_100 rfl ⟨rfl, rfl, rfl⟩ (by omega) ?_
        rintro _ _ ⟨rfl, rfl⟩
        refine Ev.mmin tX1_catcherApart_34 qX1_103 (by omega) (by decide) ?_
        rw [imn_n (by omega) (by omega)]
        refine Ev.blk kX1_catcherApart_37 rfl trivial ?_
        refine Ev.blk kX1_catcherApart_38 rfl trivial ?_
        refine Ev.jmp tX1_catcherApart_41 ?_
        refine k _ _ ⟨rfl, ?_⟩
        rw [nI_add]
        rw [nI_ltI (by omega) (by omega)] at c20
        have e : capL D c (i + 1) = if 4 ≤ dk D i then (if far c (dc D i) < capL D c i then far c (dc D i) else capL D c i) else capL D c i := by
          show (if isC D i = true then _ else _) = _
          simp only [isC, decide_eq_true_eq]
        rw [e]
        first
          | (have e2 : ¬ 4 ≤ dk D i := by omega
             simp only [e2, if_false])
          | (have e2 : 4 ≤ dk D i := by omega
             simp only [e2, if_true])
end Y1
