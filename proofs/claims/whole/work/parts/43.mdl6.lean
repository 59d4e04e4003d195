/-! ===== the reference's calls 1 ===== -/
def MdlAt (w : mW) (st : St) : Prop :=
  (∃ g, MYd w (ug (sN st) g)) ∧ mgf w 11 0 18 = bI (sB st) ∧ (sB st = true → KeptAt w (110 * 0) (sK st)) ∧ (mgf w 11 0 14 = nI (sL st) ∧ (∀ j, j < sL st → mga w 19 0 j = nI (sT st j)) ∧ ∀ j, j < sL st → sT st j < 256) ∧ mgf w 11 0 29 = nI (sM st) ∧ (∀ j, j < sM st → mga w 24 0 j = nI (sR st j)) ∧ ∀ j, j < 7 → mga w 12 0 j = nI (sF st j)
def MP (w : mW) (p : Int32 × St) (r : Option mV) (u : mW) : Prop := r = some (mI p.1) ∧ Sm (fun t _ => t ≤ 10) w u ∧ MdlAt u p.2
def MPJ (w : mW) (p : Int64 × St) (r : Option mV) (u : mW) : Prop := r = some (mJ p.1) ∧ Sm (fun t _ => t ≤ 10) w u ∧ MdlAt u p.2
/-- all that a call's work may change, but what is kept for the image -/
def OffF (w u : mW) : Prop := Om (fun k => k ≠ 14 ∧ k ≠ 18 ∧ k ≠ 29) (fun t => 13 ≤ t ∧ t ≤ 23 ∧ t ≠ 19) w u ∧ ∀ j, j < 110 → mga u 23 0 j = mga w 23 0 j
section MA
variable {w u v : mW} {st : St} {D : Yd} {g : Nat}
theorem OffF.rf : OffF w w := ⟨Om.rf, fun _ _ => rfl⟩
theorem OffF.tr (h : OffF w u) (k : OffF u v) : OffF w v := ⟨h.1.tr k.1, fun j hj => (k.2 j hj).trans (h.2 j hj)⟩
theorem OffK.F (h : OffK w u) : OffF w u := ⟨h.1.sub (fun k z => by omega) (fun t z => by omega), h.2⟩
theorem OffM.F (h : OffM w u) : OffF w u := (OffK.ofM h).F
theorem OffF.pf {k : Nat} {x : Int32} (hk : k ≠ 14 ∧ k ≠ 18 ∧ k ≠ 29) : OffF w (mpf w 11 0 k x) := ⟨Om.pf hk, fun _ _ => rfl⟩
theorem OffF.pA {t : Nat} {f : Nat → Int32} (ht : 13 ≤ t ∧ t ≤ 22 ∧ t ≠ 19) : OffF w (mpA w t 0 f) := ⟨Om.pA (by omega), fun j _ => by rw [mga_pAn (by omega)]⟩
theorem OffF.lo (h : OffF w u) : Sm (fun t _ => t ≤ 10) w u := ⟨fun t i k hp => h.1.1 t i k (by omega), fun t i hp => h.1.2 t i (by omega)⟩
theorem KeptAt.low {b : Nat} (h : KeptAt w b D) (hI : YI D) (hb : b + 107 ≤ 110) (he : ∀ j, j < 110 → mga u 23 0 j = mga w 23 0 j) : KeptAt u b D := by
  have h8 := hI.1
  obtain ⟨a1, a2, a3, a4, a5, a6, a7, a8, a9⟩ := h
  refine ⟨fun j hj => ?_, fun j hj => ?_, fun j hj => ?_, fun j hj => ?_, fun j hj => ?_, fun j hj => ?_, ?_, ?_, ?_⟩
  · rw [he _ (by omega)]; exact a1 j hj
  · rw [he _ (by omega)]; exact a2 j hj
  · rw [he _ (by omega)]; exact a3 j hj
  · rw [he _ (by omega)]; exact a4 j hj
  · rw [he _ (by omega)]; exact a5 j hj
  · rw [he _ (by omega)]; exact a6 j hj
  · rw [he _ (by omega)]; exact a7
  · rw [he _ (by omega)]; exact a8
  · rw [he _ (by omega)]; exact a9
theorem MdlAt.nowF (h : MdlAt w st) (hS : SI st) (ho : OffF w u) (hM : MYd u (ug D g)) : MdlAt u (vN st D) := by
  obtain ⟨-, h2, h3, h4, h5, h6, h7⟩ := h
  refine ⟨⟨g, hM⟩, (ho.1.1 11 0 18 (by decide)).trans h2, fun hb => (h3 hb).low (hS.2.1 hb).1 (by decide) ho.2, ⟨(ho.1.1 11 0 14 (by decide)).trans h4.1, ?_, h4.2.2⟩, (ho.1.1 11 0 29 (by decide)).trans h5, ?_, ?_⟩
  · rw [ho.1.2 19 0 (by decide)]; exact h4.2.1
  · rw [ho.1.2 24 0 (by decide)]; exact h6
  · rw [ho.1.2 12 0 (by decide)]; exact h7
theorem MdlAt.keepF (h : MdlAt w st) (hS : SI st) (ho : OffF w u) (hM : MYd u (ug (sN st) g)) : MdlAt u st := h.nowF hS ho hM
theorem MdlAt.cnt (h : MdlAt w st) {k : Nat} (hk : k < 7) : MdlAt (mpA w 12 0 (upd (mga w 12 0) k (nI (sF st k + 1)))) (rfs st k) := by
  obtain ⟨⟨g, h1⟩, h2, h3, h4, h5, h6, h7⟩ := h
  refine ⟨⟨g, h1.of (fun t a b => mga_pAn (by omega)) (fun _ _ => rfl)⟩, h2, fun hb => (h3 hb).of (mga_pAn (by decide)), ⟨h4.1, ?_, h4.2.2⟩, h5, ?_, ?_⟩
  · rw [mga_pAn (by decide)]; exact h4.2.1
  · rw [mga_pAn (by decide)]; exact h6
  · rw [mga_pA]; exact upd_nI h7
theorem Sm12 {f : Nat → Int32} {t : Nat} (ht : 11 ≤ t) : Sm (fun t _ => t ≤ 10) w (mpA w t 0 f) := ⟨fun _ _ _ _ => rfl, fun t' i h => mga_pAn (by omega)⟩
theorem SmF {k : Nat} {x : Int32} : Sm (fun t _ => t ≤ 10) w (mpf w 11 0 k x) := ⟨fun t i k' h => mgf_pfn (by omega), fun _ _ _ => rfl⟩
end MA
section M6
variable {l : Launch} {d : Nat} {w : mW} {st : St}
theorem em_no (hC : MdlAt w st) {why : Int32} (hr : RC why) : Cl l d MX3_no [mR 11 0, mI why] w (fun r u => MP w (RF st why) r u) := by
  show Ev l d MX3_no 0 [some (mR 11 0), some (mI why)] [] w _
  obtain ⟨⟨h1, h2⟩, h3, -⟩ := rc_k hr
  unfold RF
  generalize hk : ix (-why) = k at *
  have h7 := hC.2.2.2.2.2.2 k h2
  refine Ev.blk kX3_no_0 rfl ⟨⟨trivial, by rw [h3]; exact vinN h2 (by decide)⟩, by rw [h3]; exact vinN h2 (by decide)⟩ ?_
  rw [h3, ixN (by omega), h7, nI_add]
  exact Ev.iret tX3_no_12 rfl rfl ⟨rfl, Sm12 (by decide), hC.cnt h2⟩
theorem em_lower (hC : MdlAt w st) {why : Int32} (hr : RC why) : Cl l d MX3_lower [mR 11 0, mI why] w (fun r u => MP w (nI 1000000000 - why, (RF st why).2) r u) := by
  show Ev l d MX3_lower 0 [some (mR 11 0), some (mI why)] [] w _
  obtain ⟨⟨h1, h2⟩, h3, -⟩ := rc_k hr
  unfold RF
  generalize hk : ix (-why) = k at *
  have h7 := hC.2.2.2.2.2.2 k h2
  refine Ev.blk kX3_lower_0 rfl ⟨⟨trivial, by rw [h3]; exact vinN h2 (by decide)⟩, by rw [h3]; exact vinN h2 (by decide)⟩ ?_
  rw [h3, ixN (by omega), h7, nI_add]
  exact Ev.iret tX3_lower_15 rfl rfl ⟨rfl, Sm12 (by decide), hC.cnt h2⟩
theorem em_lowest (hC : MdlAt w st) {why : Int32} (hr : RC why) : Cl l d MX3_lowest [mR 11 0, mI why] w (fun r u => MPJ w (lN 4000000000000000000 - why.toInt64, (RF st why).2) r u) := by
  show Ev l d MX3_lowest 0 [some (mR 11 0), some (mI why)] [] w _
  obtain ⟨⟨h1, h2⟩, h3, -⟩ := rc_k hr
  unfold RF
  generalize hk : ix (-why) = k at *
  have h7 := hC.2.2.2.2.2.2 k h2
  refine Ev.blk kX3_lowest_0 rfl ⟨⟨trivial, by rw [h3]; exact vinN h2 (by decide)⟩, by rw [h3]; exact vinN h2 (by decide)⟩ ?_
  rw [h3, ixN (by omega), h7, nI_add]
  exact Ev.lret tX3_lowest_17 rfl ⟨rfl, Sm12 (by decide), hC.cnt h2⟩
theorem em_child (hC : MdlAt w st) (hS : SI st) (hd : 5 ≤ d) (c x : Int32) : Cl l d MX3_child [mR 11 0, mI c, mI x] w (fun r u => MP w (P_child st c x) r u) := by
  show Ev l d MX3_child 0 [some (mR 11 0), some (mI c), some (mI x)] [] w _
  obtain ⟨g, hM⟩ := hC.1
  have hI : YI (ug (sN st) g) := hS.1.1
  unfold P_child
  by_cases hh : hasI (sN st) c = true
  · obtain ⟨i, hi, rfl⟩ := hasI_of hh hI.1
    have hi8 : i < 8 := Nat.lt_of_lt_of_le hi hI.1
    rw [if_pos hh, ixC (by omega)]
    refine Ev.blk kX3_child_0 rfl trivial ?_
    refine Ev.cV (d1 := d - 1) (em_isChildB hM hh) tX3_child_2 qX3_106 rfl rfl (by decide) ⟨rfl, rfl, rfl⟩ (by omega) ?_
    rintro _ _ ⟨rfl, rfl⟩
    refine Ev.br tX3_child_5 rfl (fun c5 => ?_) (fun c5 => ?_)
    · refine Ev.blk kX3_child_14 rfl trivial ?_
      by_cases s15_0 : x = nI 0
      · subst s15_0
        refine Ev.sw (tgt := 48) tX3_child_15 (off := 33) (by decide) (by decide) ?_
        refine Ev.blk kX3_child_48 rfl ⟨trivial, vinN hi8 (by decide)⟩ ?_
        rw [ix8 hi8, hM.k hi]
        refine Ev.iret tX3_child_54 rfl rfl ?_
        rw [if_pos rfl]; exact ⟨rfl, Sm.rf, hC⟩
      by_cases s15_1 : x = nI 1
      · subst s15_1
        refine Ev.sw (tgt := 55) tX3_child_15 (off := 40) (by decide) (by decide) ?_
        refine Ev.blk kX3_child_55 rfl ⟨trivial, vinN hi8 (by decide)⟩ ?_
        rw [ix8 hi8, hM.c hi]
        refine Ev.iret tX3_child_61 rfl rfl ?_
        rw [if_neg (by decide), if_pos rfl]; exact ⟨rfl, Sm.rf, hC⟩
      by_cases s15_2 : x = nI 2
      · subst s15_2
        refine Ev.sw (tgt := 62) tX3_child_15 (off := 47) (by decide) (by decide) ?_
        refine Ev.blk kX3_child_62 rfl ⟨trivial, vinN hi8 (by decide)⟩ ?_
        rw [ix8 hi8, hM.f hi]
        refine Ev.iret tX3_child_68 rfl rfl ?_
        rw [if_neg (by decide), if_neg (by decide), if_pos rfl]; exact ⟨rfl, Sm.rf, hC⟩
      by_cases s15_3 : x = nI 3
      · subst s15_3
        refine Ev.sw (tgt := 69) tX3_child_15 (off := 54) (by decide) (by decide) ?_
        refine Ev.blk kX3_child_69 rfl ⟨trivial, vinN hi8 (by decide)⟩ ?_
        rw [ix8 hi8, hM.s hi8]
        refine Ev.iret tX3_child_75 rfl rfl ?_
        rw [if_neg (by decide), if_neg (by decide), if_neg (by decide), if_pos rfl]; exact ⟨rfl, Sm.rf, hC⟩
      by_cases s15_4 : x = nI 4
      · subst s15_4
        refine Ev.sw (tgt := 76) tX3_child_15 (off := 61) (by decide) (by decide) ?_
        refine Ev.blk kX3_child_76 rfl ⟨trivial, vinN hi8 (by decide)⟩ ?_
        rw [ix8 hi8, hM.t hi8]
        refine Ev.iret tX3_child_82 rfl rfl ?_
        rw [if_neg (by decide), if_neg (by decide), if_neg (by decide), if_neg (by decide), if_pos rfl]; exact ⟨rfl, Sm.rf, hC⟩
      refine Ev.sw (tgt := 83) tX3_child_15 (off := 68) (mswo_out (n := 4) (by decide) (fun j hj => by rcases (show j = 0 ∨ j = 1 ∨ j = 2 ∨ j = 3 ∨ j = 4 by omega) with rfl | rfl | rfl | rfl | rfl <;> assumption)) (by decide) ?_
      refine Ev.blk kX3_child_83 rfl trivial ?_
      refine Ev.cV (d1 := d - 1) (em_no hC rfl2) tX3_child_86 qX3_70 rfl rfl (by decide) ⟨rfl, rfl, rfl⟩ (by omega) ?_
      rintro _ _ ⟨rfl, hS2, hC2⟩
      refine Ev.iret tX3_child_89 rfl rfl ?_
      rw [if_neg s15_0, if_neg s15_1, if_neg s15_2, if_neg s15_3, if_neg s15_4]; exact ⟨rfl, hS2, hC2⟩
    · exact absurd (show ¬ bI true = nI 0 by decide) c5
  · rw [if_neg hh]
    refine Ev.blk kX3_child_0 rfl trivial ?_
    refine Ev.cV (d1 := d - 1) (em_isChild hM c) tX3_child_2 qX3_106 rfl rfl (by decide) ⟨rfl, rfl, rfl⟩ (by omega) ?_
    rintro _ _ ⟨rfl, rfl⟩
    refine Ev.br tX3_child_5 rfl (fun c5 => ?_) (fun c5 => ?_)
    · exact absurd (hasI_f hh) c5
    · refine Ev.blk kX3_child_8 rfl trivial ?_
      refine Ev.cV (d1 := d - 1) (em_no hC rfl1) tX3_child_10 qX3_70 rfl rfl (by decide) ⟨rfl, rfl, rfl⟩ (by omega) ?_
      rintro _ _ ⟨rfl, hS2, hC2⟩
      refine Ev.iret tX3_child_13 rfl rfl ?_
      exact ⟨rfl, hS2, hC2⟩
theorem em_go (hC : MdlAt w st) (hS : SI st) (hd : 5 ≤ d) (c x : Int32) : Cl l d MX3_go [mR 11 0, mI c, mI x] w (fun r u => MP w (P_go st c x) r u) := by
  show Ev l d MX3_go 0 [some (mR 11 0), some (mI c), some (mI x), none] [] w _
  obtain ⟨g, hM⟩ := hC.1
  have hI : YI (ug (sN st) g) := hS.1.1
  unfold P_go
  by_cases hh : hasI (sN st) c = true
  · by_cases hx : cellI x = true
    · obtain ⟨i, hi, rfl⟩ := hasI_of hh hI.1
      have hi8 : i < 8 := Nat.lt_of_lt_of_le hi hI.1
      obtain ⟨k, hk, rfl⟩ := cellI_ok hx
      rw [if_pos ⟨hh, hx⟩, ixC (by omega), ixC (by omega)]
      refine Ev.blk kX3_go_0 rfl trivial ?_
      refine Ev.cV (d1 := d - 1) (em_isChildB hM hh) tX3_go_2 qX3_106 rfl rfl (by decide) ⟨rfl, rfl, rfl⟩ (by omega) ?_
      rintro _ _ ⟨rfl, rfl⟩
      refine Ev.br tX3_go_5 rfl (fun c5 => ?_) (fun c5 => ?_)
      · exact absurd c5 (by decide)
      · refine Ev.blk kX3_go_8 rfl trivial ?_
        refine Ev.cS (d1 := d - 1) (em_isCellB hx) tX3_go_9 qX3_99 rfl ⟨rfl, rfl, rfl⟩ (by omega) ?_
        rintro _ _ ⟨rfl, rfl⟩
        refine Ev.br tX3_go_12 rfl (fun c12 => ?_) (fun c12 => ?_)
        · refine Ev.blk kX3_go_21 rfl ⟨⟨trivial, vinN hi8 (by decide)⟩, vinN hi8 (by decide)⟩ ?_
          rw [ix8 hi8, hM.c hi]
          refine Ev.iret tX3_go_36 rfl rfl ?_
          exact ⟨rfl, Sm12 (by decide), hC.nowF hS (OffF.pA (by decide)) (D := uc (sN st) (va_up (dc (sN st)) i k)) (g := g) hM.pc⟩
        · exact absurd (show ¬ bI true = nI 0 by decide) c12
    · rw [if_neg (fun z => hx z.2)]
      refine Ev.blk kX3_go_0 rfl trivial ?_
      refine Ev.cV (d1 := d - 1) (em_isChildB hM hh) tX3_go_2 qX3_106 rfl rfl (by decide) ⟨rfl, rfl, rfl⟩ (by omega) ?_
      rintro _ _ ⟨rfl, rfl⟩
      refine Ev.br tX3_go_5 rfl (fun c5 => ?_) (fun c5 => ?_)
      · exact absurd c5 (by decide)
      · refine Ev.blk kX3_go_8 rfl trivial ?_
        refine Ev.cS (d1 := d - 1) (em_isCell x) tX3_go_9 qX3_99 rfl ⟨rfl, rfl, rfl⟩ (by omega) ?_
        rintro _ _ ⟨rfl, rfl⟩
        refine Ev.br tX3_go_12 rfl (fun c12 => ?_) (fun c12 => ?_)
        · exact absurd (bI_ff hx) c12
        · refine Ev.blk kX3_go_15 rfl trivial ?_
          refine Ev.cV (d1 := d - 1) (em_no hC rfl1) tX3_go_17 qX3_70 rfl rfl (by decide) ⟨rfl, rfl, rfl⟩ (by omega) ?_
          rintro _ _ ⟨rfl, hS2, hC2⟩
          refine Ev.iret tX3_go_20 rfl rfl ?_
          exact ⟨rfl, hS2, hC2⟩
  · rw [if_neg (fun z => hh z.1)]
    refine Ev.blk kX3_go_0 rfl trivial ?_
    refine Ev.cV (d1 := d - 1) (em_isChild hM c) tX3_go_2 qX3_106 rfl rfl (by decide) ⟨rfl, rfl, rfl⟩ (by omega) ?_
    rintro _ _ ⟨rfl, rfl⟩
    refine Ev.br tX3_go_5 rfl (fun c5 => ?_) (fun c5 => ?_)
    · refine Ev.blk kX3_go_15 rfl trivial ?_
      refine Ev.cV (d1 := d - 1) (em_no hC rfl1) tX3_go_17 qX3_70 rfl rfl (by decide) ⟨rfl, rfl, rfl⟩ (by omega) ?_
      rintro _ _ ⟨rfl, hS2, hC2⟩
      refine Ev.iret tX3_go_20 rfl rfl ?_
      exact ⟨rfl, hS2, hC2⟩
    · exact absurd (hasI_f hh) c5
theorem em_touch (hC : MdlAt w st) (hS : SI st) (hd : 5 ≤ d) (c : Int32) : Cl l d MX3_touch [mR 11 0, mI c] w (fun r u => MP w (P_touch st c) r u) := by
  show Ev l d MX3_touch 0 [some (mR 11 0), some (mI c), none] [] w _
  obtain ⟨g, hM⟩ := hC.1
  have hI : YI (ug (sN st) g) := hS.1.1
  unfold P_touch
  by_cases hh : hasI (sN st) c = true
  · obtain ⟨i, hi, rfl⟩ := hasI_of hh hI.1
    have hi8 : i < 8 := Nat.lt_of_lt_of_le hi hI.1
    rw [if_pos hh, ixC (by omega)]
    by_cases hc : isC (sN st) i = true
    · rw [if_pos hc]
      refine Ev.blk kX3_touch_0 rfl trivial ?_
      refine Ev.cV (d1 := d - 1) (em_isChildB hM hh) tX3_touch_2 qX3_106 rfl rfl (by decide) ⟨rfl, rfl, rfl⟩ (by omega) ?_
      rintro _ _ ⟨rfl, rfl⟩
      refine Ev.br tX3_touch_5 rfl (fun c5 => ?_) (fun c5 => ?_)
      · refine Ev.blk kX3_touch_12 rfl trivial ?_
        refine Ev.cV (d1 := d - 1) (em_isCatcherB hM hI hi hc) tX3_touch_14 qX3_109 rfl rfl (by decide) ⟨rfl, rfl, rfl⟩ (by omega) ?_
        rintro _ _ ⟨rfl, rfl⟩
        refine Ev.br tX3_touch_17 rfl (fun c17 => ?_) (fun c17 => ?_)
        · exact absurd c17 (by decide)
        · refine Ev.blk kX3_touch_20 rfl trivial ?_
          refine Ev.jmp tX3_touch_22 ?_
          refine Ev.blk kX3_touch_26 rfl trivial ?_
          refine Ev.br tX3_touch_28 rfl (fun c28 => ?_) (fun c28 => ?_)
          · exact absurd c28 (by decide)
          · refine Ev.blk kX3_touch_31 rfl trivial ?_
            refine Ev.cV (d1 := d - 1) (em_no hC rfl3) tX3_touch_33 qX3_70 rfl rfl (by decide) ⟨rfl, rfl, rfl⟩ (by omega) ?_
            rintro _ _ ⟨rfl, hS2, hC2⟩
            refine Ev.iret tX3_touch_36 rfl rfl ?_
            exact ⟨rfl, hS2, hC2⟩
      · exact absurd (show ¬ bI true = nI 0 by decide) c5
    · rw [if_neg hc]
      have hb : ∀ b : Bool, nI 1 - bI b = bI (!b) := by decide
      refine Ev.blk kX3_touch_0 rfl trivial ?_
      refine Ev.cV (d1 := d - 1) (em_isChildB hM hh) tX3_touch_2 qX3_106 rfl rfl (by decide) ⟨rfl, rfl, rfl⟩ (by omega) ?_
      rintro _ _ ⟨rfl, rfl⟩
      refine Ev.br tX3_touch_5 rfl (fun c5 => ?_) (fun c5 => ?_)
      · refine Ev.blk kX3_touch_12 rfl trivial ?_
        refine Ev.cV (d1 := d - 1) (em_isCatcherB hM hI hi (bl_f hc)) tX3_touch_14 qX3_109 rfl rfl (by decide) ⟨rfl, rfl, rfl⟩ (by omega) ?_
        rintro _ _ ⟨rfl, rfl⟩
        refine Ev.br tX3_touch_17 rfl (fun c17 => ?_) (fun c17 => ?_)
        · refine Ev.blk kX3_touch_25 rfl trivial ?_
          refine Ev.blk kX3_touch_26 rfl trivial ?_
          refine Ev.br tX3_touch_28 rfl (fun c28 => ?_) (fun c28 => ?_)
          · refine Ev.blk kX3_touch_37 rfl ⟨⟨⟨trivial, vinN hi8 (by decide)⟩, vinN hi8 (by decide)⟩, vinN hi8 (by decide)⟩ ?_
            simp only [ix8 hi8, hM.s hi8, hb, mga_pA]
            refine Ev.iret tX3_touch_57 rfl rfl ?_
            refine ⟨?_, Sm12 (by decide), hC.nowF hS (OffF.pA (by decide)) (D := us (sN st) (va_up (ds (sN st)) i (!ds (sN st) i))) (g := g) (hM.ps rfl)⟩
            show some (mI (if i = i then bI (!ds (sN st) i) else mga _ 16 0 i)) = _
            rw [if_pos rfl]
          · exact absurd rfl c28
        · exact absurd rfl c17
      · exact absurd (show ¬ bI true = nI 0 by decide) c5
  · rw [if_neg hh]
    refine Ev.blk kX3_touch_0 rfl trivial ?_
    refine Ev.cV (d1 := d - 1) (em_isChild hM c) tX3_touch_2 qX3_106 rfl rfl (by decide) ⟨rfl, rfl, rfl⟩ (by omega) ?_
    rintro _ _ ⟨rfl, rfl⟩
    refine Ev.br tX3_touch_5 rfl (fun c5 => ?_) (fun c5 => ?_)
    · exact absurd (hasI_f hh) c5
    · refine Ev.blk kX3_touch_8 rfl trivial ?_
      refine Ev.jmp tX3_touch_9 ?_
      refine Ev.blk kX3_touch_26 rfl trivial ?_
      refine Ev.br tX3_touch_28 rfl (fun c28 => ?_) (fun c28 => ?_)
      · exact absurd c28 (by decide)
      · refine Ev.blk kX3_touch_31 rfl trivial ?_
        refine Ev.cV (d1 := d - 1) (em_no hC rfl1) tX3_touch_33 qX3_70 rfl rfl (by decide) ⟨rfl, rfl, rfl⟩ (by omega) ?_
        rintro _ _ ⟨rfl, hS2, hC2⟩
        refine Ev.iret tX3_touch_36 rfl rfl ?_
        exact ⟨rfl, hS2, hC2⟩
theorem em_law (hC : MdlAt w st) (hS : SI st) (hd : 5 ≤ d) (v : Int32) : Cl l d MX3_law [mR 11 0, mI v] w (fun r u => MP w (P_law st v) r u) := by
  show Ev l d MX3_law 0 [some (mR 11 0), some (mI v), none] [] w _
  obtain ⟨g, hM⟩ := hC.1
  unfold P_law
  have hin := em_isIn (l := l) (d := d - 1) (w := w) v (nI 0) (nI 3)
  by_cases hv : nI 0 ≤ v ∧ v < nI 4
  · obtain ⟨k, hk, rfl⟩ : ∃ k, k < 4 ∧ v = nI k := by
      rcases pk_ix v (n := 4) (by decide) with g | g | ⟨j, g1, g2⟩
      · exact absurd g (Int32.not_lt.mpr hv.1)
      · exact absurd hv.2 (Int32.not_lt.mpr g)
      · exact ⟨j, g1, g2⟩
    rw [decide_eq_true (show nI 0 ≤ nI k ∧ nI k ≤ nI 3 from ⟨hv.1, nI_le (by omega) (by decide)⟩)] at hin
    rw [if_pos hv, ixC (by omega)]
    refine Ev.blk kX3_law_0 rfl trivial ?_
    refine Ev.cS (d1 := d - 1) (hin) tX3_law_3 qX3_81 rfl ⟨rfl, rfl, rfl⟩ (by omega) ?_
    rintro _ _ ⟨rfl, rfl⟩
    refine Ev.br tX3_law_6 rfl (fun c6 => ?_) (fun c6 => ?_)
    · refine Ev.blk kX3_law_16 rfl trivial ?_
      rw [hM.l]
      refine Ev.iret tX3_law_27 rfl rfl ?_
      exact ⟨rfl, SmF, hC.nowF hS (OffF.pf (by decide)) (D := ul (sN st) k) (g := g) hM.pL⟩
    · exact absurd (show ¬ bI true = nI 0 by decide) c6
  · have hnv : ¬ (nI 0 ≤ v ∧ v ≤ nI 3) := fun z => hv ⟨z.1, by
      have z1 := Int32.le_iff_toInt_le.mp z.2
      rw [Int32.lt_iff_toInt_lt]
      rw [nI_toInt (by decide)] at z1 ⊢
      omega⟩
    rw [decide_eq_false hnv] at hin
    rw [if_neg hv]
    refine Ev.blk kX3_law_0 rfl trivial ?_
    refine Ev.cS (d1 := d - 1) (hin) tX3_law_3 qX3_81 rfl ⟨rfl, rfl, rfl⟩ (by omega) ?_
    rintro _ _ ⟨rfl, rfl⟩
    refine Ev.br tX3_law_6 rfl (fun c6 => ?_) (fun c6 => ?_)
    · exact absurd rfl c6
    · refine Ev.blk kX3_law_9 rfl trivial ?_
      refine Ev.cV (d1 := d - 1) (em_no hC rfl2) tX3_law_12 qX3_70 rfl rfl (by decide) ⟨rfl, rfl, rfl⟩ (by omega) ?_
      rintro _ _ ⟨rfl, hS2, hC2⟩
      refine Ev.iret tX3_law_15 rfl rfl ?_
      exact ⟨rfl, hS2, hC2⟩
theorem em_far' (hC : MdlAt w st) (hd : 5 ≤ d) (a b : Int32) : Cl l d MX3_far [mR 11 0, mI a, mI b] w (fun r u => MP w (P_far st a b) r u) := by
  show Ev l d MX3_far 0 [some (mR 11 0), some (mI a), some (mI b)] [] w _
  unfold P_far
  by_cases ha : cellI a = true
  · by_cases hb : cellI b = true
    · obtain ⟨i, hi, rfl⟩ := cellI_ok ha
      obtain ⟨k, hk, rfl⟩ := cellI_ok hb
      rw [if_pos ⟨ha, hb⟩, ixC (by omega), ixC (by omega)]
      refine Ev.blk kX3_far_0 rfl trivial ?_
      refine Ev.cS (d1 := d - 1) (em_isCellB ha) tX3_far_1 qX3_99 rfl ⟨rfl, rfl, rfl⟩ (by omega) ?_
      rintro _ _ ⟨rfl, rfl⟩
      refine Ev.br tX3_far_4 rfl (fun c4 => ?_) (fun c4 => ?_)
      · exact absurd c4 (by decide)
      · refine Ev.blk kX3_far_7 rfl trivial ?_
        refine Ev.cS (d1 := d - 1) (em_isCellB hb) tX3_far_8 qX3_99 rfl ⟨rfl, rfl, rfl⟩ (by omega) ?_
        rintro _ _ ⟨rfl, rfl⟩
        refine Ev.br tX3_far_11 rfl (fun c11 => ?_) (fun c11 => ?_)
        · exact absurd c11 (by decide)
        · refine Ev.blk kX3_far_14 rfl trivial ?_
          refine Ev.cS (d1 := d - 1) (em_farOf (by omega) hi hk) tX3_far_16 qX3_146 rfl ⟨rfl, rfl, rfl⟩ (by omega) ?_
          rintro _ _ ⟨rfl, rfl⟩
          refine Ev.jmp tX3_far_19 ?_
          refine Ev.iret tX3_far_27 rfl rfl ?_
          exact ⟨rfl, Sm.rf, hC⟩
    · rw [if_neg (fun z => hb z.2)]
      refine Ev.blk kX3_far_0 rfl trivial ?_
      refine Ev.cS (d1 := d - 1) (em_isCellB ha) tX3_far_1 qX3_99 rfl ⟨rfl, rfl, rfl⟩ (by omega) ?_
      rintro _ _ ⟨rfl, rfl⟩
      refine Ev.br tX3_far_4 rfl (fun c4 => ?_) (fun c4 => ?_)
      · exact absurd c4 (by decide)
      · refine Ev.blk kX3_far_7 rfl trivial ?_
        refine Ev.cS (d1 := d - 1) (em_isCell b) tX3_far_8 qX3_99 rfl ⟨rfl, rfl, rfl⟩ (by omega) ?_
        rintro _ _ ⟨rfl, rfl⟩
        refine Ev.br tX3_far_11 rfl (fun c11 => ?_) (fun c11 => ?_)
        · refine Ev.blk kX3_far_22 rfl trivial ?_
          refine Ev.cV (d1 := d - 1) (em_no hC rfl1) tX3_far_24 qX3_70 rfl rfl (by decide) ⟨rfl, rfl, rfl⟩ (by omega) ?_
          rintro _ _ ⟨rfl, hS2, hC2⟩
          refine Ev.iret tX3_far_27 rfl rfl ?_
          exact ⟨rfl, hS2, hC2⟩
        · exact absurd (bI_ff hb) c11
  · rw [if_neg (fun z => ha z.1)]
    refine Ev.blk kX3_far_0 rfl trivial ?_
    refine Ev.cS (d1 := d - 1) (em_isCell a) tX3_far_1 qX3_99 rfl ⟨rfl, rfl, rfl⟩ (by omega) ?_
    rintro _ _ ⟨rfl, rfl⟩
    refine Ev.br tX3_far_4 rfl (fun c4 => ?_) (fun c4 => ?_)
    · refine Ev.blk kX3_far_22 rfl trivial ?_
      refine Ev.cV (d1 := d - 1) (em_no hC rfl1) tX3_far_24 qX3_70 rfl rfl (by decide) ⟨rfl, rfl, rfl⟩ (by omega) ?_
      rintro _ _ ⟨rfl, hS2, hC2⟩
      refine Ev.iret tX3_far_27 rfl rfl ?_
      exact ⟨rfl, hS2, hC2⟩
    · exact absurd (bI_ff ha) c4
theorem em_seconds (hC : MdlAt w st) (hS : SI st) (hd : 8 ≤ d) (n : Int32) : Cl l d MX3_seconds [mR 11 0, mI n] w (fun r u => MP w (P_seconds st n) r u) := by
  show Ev l d MX3_seconds 0 [some (mR 11 0), some (mI n), none, none] [] w _
  obtain ⟨g, hM⟩ := hC.1
  have hI : YI (ug (sN st) g) := hS.1.1
  have hse : de (sN st) ≤ 999 := hS.1.2.1
  unfold P_seconds
  have bad : ∀ why, RC why → wSec st n = why → Ev l d MX3_seconds 27 [some (mR 11 0), some (mI n), some (mI why), none] [] w (fun r u => MP w (GO st (wSec st n) (nI (de (sN st) + ix n), vN st (ug (passN (sN st) (ix n)) 0))) r u) := by
    intro why hr he
    rw [he, GO_no (rc_k hr).2.2]
    refine Ev.blk kX3_seconds_27 rfl trivial ?_
    refine Ev.br tX3_seconds_28 rfl (fun c28 => ?_) (fun c28 => ?_)
    · exact absurd c28 (rc_k hr).2.2
    · refine Ev.blk kX3_seconds_31 rfl trivial ?_
      refine Ev.cV (d1 := d - 1) (em_no hC hr) tX3_seconds_33 qX3_70 rfl rfl (by decide) ⟨rfl, rfl, rfl⟩ (by omega) ?_
      rintro _ _ ⟨rfl, hS2, hC2⟩
      refine Ev.iret tX3_seconds_36 rfl rfl ?_
      exact ⟨rfl, hS2, hC2⟩
  by_cases hw : outs n (nI 1) (nI 60) = nI 0
  · by_cases hm : nI 999 < nI (de (sN st)) + n
    · have e : wSec st n = -6 := if_pos ⟨hw, hm⟩
      refine Ev.blk kX3_seconds_0 rfl trivial ?_
      refine Ev.cS (d1 := d - 1) (em_bound n (nI 1) (nI 60)) tX3_seconds_4 qX3_63 rfl ⟨rfl, rfl, rfl⟩ (by omega) ?_
      rintro _ _ ⟨rfl, rfl⟩
      rw [hw]
      refine Ev.blk kX3_seconds_7 rfl trivial ?_
      refine Ev.br tX3_seconds_9 rfl (fun c9 => ?_) (fun c9 => ?_)
      · exact absurd rfl c9
      · refine Ev.blk kX3_seconds_12 rfl trivial ?_
        rw [hM.e]
        refine Ev.br tX3_seconds_21 rfl (fun c21 => ?_) (fun c21 => ?_)
        · exact absurd hm (Int32.not_lt.mpr c21)
        · refine Ev.blk kX3_seconds_24 rfl trivial ?_
          exact bad _ (Or.inr (Or.inr (Or.inr (Or.inr rfl)))) e
    · have e : wSec st n = nI 0 := by
        unfold wSec
        rw [if_neg (fun z => hm z.2)]
        exact hw
      rw [GO_ok e]
      obtain ⟨k, h1, h2, rfl⟩ := outs_ok (by omega) (by omega) hw
      rw [ixC (by omega)]
      have loop : Ev l d MX3_seconds 39 [some (mR 11 0), some (mI (nI k)), some (mI (nI 0)), some (mI (nI 0))] [] w (fun r u => MP w (nI (de (sN st) + k), vN st (ug (passN (sN st) k) 0)) r u) := by
        refine Ev.for (fun j L u => OffF w u ∧ (∃ g', MYd u (ug (passN (sN st) j) g')) ∧ L = [some (mR 11 0), some (mI (nI k)), some (mI (nI 0)), some (mI (nI j))]) k ?_ ?_ 0 (Nat.zero_le _) ⟨OffF.rf, ⟨g, hM⟩, rfl⟩
        · rintro L u ⟨ho, ⟨g', hE⟩, rfl⟩
          have hee : de (ug (passN (sN st) k) g') = de (sN st) + k := (passN_n k).2.2.2.2.2
          refine Ev.blk kX3_seconds_39 rfl trivial ?_
          refine Ev.br tX3_seconds_41 rfl (fun c41 => ?_) (fun c41 => ?_)
          · refine Ev.blk kX3_seconds_54 rfl trivial ?_
            rw [hE.e, hee]
            refine Ev.iret tX3_seconds_58 rfl rfl ?_
            exact ⟨rfl, ho.lo, hC.nowF hS ho (D := ug (passN (sN st) k) 0) (g := g') hE⟩
          · exact absurd (nI_le (Nat.le_refl _) (by omega)) c41
        · rintro j L u hj ⟨ho, ⟨g', hE⟩, rfl⟩ kk
          have hIj : YI (ug (passN (sN st) j) g') := hS.1.pass (by omega)
          obtain ⟨g2, e2⟩ := pass_g (D := passN (sN st) j) (g := g')
          refine Ev.blk kX3_seconds_39 rfl trivial ?_
          refine Ev.br tX3_seconds_41 rfl (fun c41 => ?_) (fun c41 => ?_)
          · exact absurd c41 (nI_ge hj (by omega))
          · refine Ev.blk kX3_seconds_44 rfl trivial ?_
            refine Ev.cV (d1 := d - 1) (em_goes hE hIj (by omega)) tX3_seconds_45 qX3_208 rfl rfl (by decide) ⟨rfl, rfl, rfl⟩ (by omega) ?_
            rintro _ _ ⟨rfl, oM, hM2⟩
            rw [e2] at hM2
            refine Ev.blk kX3_seconds_48 rfl trivial ?_
            refine Ev.jmp tX3_seconds_51 ?_
            exact kk _ _ ⟨ho.tr (OffM.F oM), ⟨g2, hM2⟩, by rw [nI_add]⟩
      refine Ev.blk kX3_seconds_0 rfl trivial ?_
      refine Ev.cS (d1 := d - 1) (em_bound (nI k) (nI 1) (nI 60)) tX3_seconds_4 qX3_63 rfl ⟨rfl, rfl, rfl⟩ (by omega) ?_
      rintro _ _ ⟨rfl, rfl⟩
      rw [hw]
      refine Ev.blk kX3_seconds_7 rfl trivial ?_
      refine Ev.br tX3_seconds_9 rfl (fun c9 => ?_) (fun c9 => ?_)
      · exact absurd rfl c9
      · refine Ev.blk kX3_seconds_12 rfl trivial ?_
        rw [hM.e]
        refine Ev.br tX3_seconds_21 rfl (fun c21 => ?_) (fun c21 => ?_)
        · refine Ev.blk kX3_seconds_27 rfl trivial ?_
          refine Ev.br tX3_seconds_28 rfl (fun c28 => ?_) (fun c28 => ?_)
          · refine Ev.blk kX3_seconds_37 rfl trivial ?_
            exact loop
          · exact absurd rfl c28
        · exact absurd (Int32.not_lt.mp hm) c21
  · have e : wSec st n = outs n (nI 1) (nI 60) := if_neg (fun z => hw z.1)
    refine Ev.blk kX3_seconds_0 rfl trivial ?_
    refine Ev.cS (d1 := d - 1) (em_bound n (nI 1) (nI 60)) tX3_seconds_4 qX3_63 rfl ⟨rfl, rfl, rfl⟩ (by omega) ?_
    rintro _ _ ⟨rfl, rfl⟩
    refine Ev.blk kX3_seconds_7 rfl trivial ?_
    refine Ev.br tX3_seconds_9 rfl (fun c9 => ?_) (fun c9 => ?_)
    · exact bad _ (outs_rcn hw) e
    · exact absurd hw c9
theorem em_stand (hC : MdlAt w st) (hS : SI st) (hd : 9 ≤ d) (n : Int32) : Cl l d MX3_stand [mR 11 0, mI n] w (fun r u => MP w (P_stand st n) r u) := by
  show Ev l d MX3_stand 0 [some (mR 11 0), some (mI n), none] [] w _
  obtain ⟨g, hM⟩ := hC.1
  have hI : YI (sN st) := hS.1.1
  have hse : de (sN st) ≤ 999 := hS.1.2.1
  unfold P_stand
  refine Ev.blk kX3_stand_0 rfl trivial ?_
  refine Ev.cS (d1 := d - 1) (em_bound n (nI 0) (nI 60)) tX3_stand_4 qX3_63 rfl ⟨rfl, rfl, rfl⟩ (by omega) ?_
  rintro _ _ ⟨rfl, rfl⟩
  refine Ev.blk kX3_stand_7 rfl trivial ?_
  refine Ev.br tX3_stand_9 rfl (fun c9 => ?_) (fun c9 => ?_)
  · rw [GO_ok c9]
    obtain ⟨k, h1, h2, rfl⟩ := outs_ok (by omega) (by omega) c9
    rw [ixC (by omega)]
    refine Ev.blk kX3_stand_18 rfl trivial ?_
    refine Ev.cV (d1 := d - 1) (em_goesInMind (i := 0) hM hI hS.1.2.2.1 (by omega) h2 (by decide) (by omega)) tX3_stand_21 qX3_232 rfl rfl (by decide) ⟨rfl, rfl, rfl⟩ (by omega) ?_
    rintro _ _ ⟨rfl, oK, hE, g23, g24, g25, g26, g27⟩
    refine Ev.blk kX3_stand_24 rfl trivial ?_
    rw [g25]
    refine Ev.iret tX3_stand_28 rfl rfl ?_
    exact ⟨rfl, oK.F.lo, hC.keepF hS oK.F hE⟩
  · refine Ev.blk kX3_stand_12 rfl trivial ?_
    refine Ev.cV (d1 := d - 1) (em_no hC (outs_rcn c9)) tX3_stand_14 qX3_70 rfl rfl (by decide) ⟨rfl, rfl, rfl⟩ (by omega) ?_
    rintro _ _ ⟨rfl, hS2, hC2⟩
    refine Ev.iret tX3_stand_17 rfl rfl ?_
    rw [GO_no c9]; exact ⟨rfl, hS2, hC2⟩
theorem em_where (hC : MdlAt w st) (hS : SI st) (hd : 9 ≤ d) (c n : Int32) : Cl l d MX3_where [mR 11 0, mI c, mI n] w (fun r u => MP w (P_where st c n) r u) := by
  show Ev l d MX3_where 0 [some (mR 11 0), some (mI c), some (mI n), none] [] w _
  obtain ⟨g, hM⟩ := hC.1
  have hI : YI (sN st) := hS.1.1
  have hse : de (sN st) ≤ 999 := hS.1.2.1
  unfold P_where
  have bad : ∀ why, RC why → wWhere st c n = why → Ev l d MX3_where 19 [some (mR 11 0), some (mI c), some (mI n), none] [mI why] w (fun r u => MP w (GO st (wWhere st c n) (nI (dc (passN (sN st) (ix n)) (ix c)), st)) r u) := by
    intro why hr he
    rw [he, GO_no (rc_k hr).2.2]
    refine Ev.blk kX3_where_19 rfl trivial ?_
    refine Ev.br tX3_where_21 rfl (fun c21 => ?_) (fun c21 => ?_)
    · exact absurd c21 (rc_k hr).2.2
    · refine Ev.blk kX3_where_24 rfl trivial ?_
      refine Ev.cV (d1 := d - 1) (em_no hC hr) tX3_where_26 qX3_70 rfl rfl (by decide) ⟨rfl, rfl, rfl⟩ (by omega) ?_
      rintro _ _ ⟨rfl, hS2, hC2⟩
      refine Ev.iret tX3_where_29 rfl rfl ?_
      exact ⟨rfl, hS2, hC2⟩
  by_cases hh : hasI (sN st) c = true
  · have e : wWhere st c n = outs n (nI 0) (nI 60) := if_pos hh
    by_cases hw : outs n (nI 0) (nI 60) = nI 0
    · rw [GO_ok (e.trans hw)]
      obtain ⟨k, h1, h2, rfl⟩ := outs_ok (by omega) (by omega) hw
      obtain ⟨i, hi, rfl⟩ := hasI_of hh hI.1
      have hi8 : i < 8 := Nat.lt_of_lt_of_le hi hI.1
      rw [ixC (by omega), ixC (by omega)]
      refine Ev.blk kX3_where_0 rfl trivial ?_
      refine Ev.cV (d1 := d - 1) (em_isChildB hM hh) tX3_where_2 qX3_106 rfl rfl (by decide) ⟨rfl, rfl, rfl⟩ (by omega) ?_
      rintro _ _ ⟨rfl, rfl⟩
      refine Ev.br tX3_where_5 rfl (fun c5 => ?_) (fun c5 => ?_)
      · refine Ev.blk kX3_where_12 rfl trivial ?_
        refine Ev.cS (d1 := d - 1) (em_bound (nI k) (nI 0) (nI 60)) tX3_where_16 qX3_63 rfl ⟨rfl, rfl, rfl⟩ (by omega) ?_
        rintro _ _ ⟨rfl, rfl⟩
        rw [hw]
        refine Ev.blk kX3_where_19 rfl trivial ?_
        refine Ev.br tX3_where_21 rfl (fun c21 => ?_) (fun c21 => ?_)
        · refine Ev.blk kX3_where_30 rfl trivial ?_
          refine Ev.cV (d1 := d - 1) (em_goesInMind (i := i) hM hI hS.1.2.2.1 (by omega) h2 hi8 (by omega)) tX3_where_33 qX3_232 rfl rfl (by decide) ⟨rfl, rfl, rfl⟩ (by omega) ?_
          rintro _ _ ⟨rfl, oK, hE, g23, g24, g25, g26, g27⟩
          refine Ev.blk kX3_where_36 rfl trivial ?_
          rw [g27 hi]
          refine Ev.iret tX3_where_40 rfl rfl ?_
          exact ⟨rfl, oK.F.lo, hC.keepF hS oK.F hE⟩
        · exact absurd rfl c21
      · exact absurd (show ¬ bI true = nI 0 by decide) c5
    · skip
      refine Ev.blk kX3_where_0 rfl trivial ?_
      refine Ev.cV (d1 := d - 1) (em_isChildB hM hh) tX3_where_2 qX3_106 rfl rfl (by decide) ⟨rfl, rfl, rfl⟩ (by omega) ?_
      rintro _ _ ⟨rfl, rfl⟩
      refine Ev.br tX3_where_5 rfl (fun c5 => ?_) (fun c5 => ?_)
      · refine Ev.blk kX3_where_12 rfl trivial ?_
        refine Ev.cS (d1 := d - 1) (em_bound n (nI 0) (nI 60)) tX3_where_16 qX3_63 rfl ⟨rfl, rfl, rfl⟩ (by omega) ?_
        rintro _ _ ⟨rfl, rfl⟩
        exact bad _ (outs_rcn hw) e
      · exact absurd (show ¬ bI true = nI 0 by decide) c5
  · have e : wWhere st c n = -1 := if_neg hh
    refine Ev.blk kX3_where_0 rfl trivial ?_
    refine Ev.cV (d1 := d - 1) (em_isChild hM c) tX3_where_2 qX3_106 rfl rfl (by decide) ⟨rfl, rfl, rfl⟩ (by omega) ?_
    rintro _ _ ⟨rfl, rfl⟩
    refine Ev.br tX3_where_5 rfl (fun c5 => ?_) (fun c5 => ?_)
    · exact absurd (hasI_f hh) c5
    · refine Ev.blk kX3_where_8 rfl trivial ?_
      refine Ev.jmp tX3_where_9 ?_
      exact bad _ rfl1 e
theorem plN_0 {D : Yd} (hI : YI D) : (nI (plN D) = nI 0) = (hasP D = false) := by
  have h : plN D ≤ dn D := cnt_le _ _
  have h8 := hI.1
  unfold hasP
  apply propext
  rw [nI_eq (by omega) (by omega)]
  by_cases e : plN D = 0
  · rw [e]; simp
  · rw [beq_false_of_ne e]
    exact ⟨fun z => absurd z e, fun z => by cases z⟩
theorem em_frees (hC : MdlAt w st) (hS : SI st) (hd : 9 ≤ d) (n : Int32) : Cl l d MX3_frees [mR 11 0, mI n] w (fun r u => MP w (P_frees st n) r u) := by
  show Ev l d MX3_frees 0 [some (mR 11 0), some (mI n), none] [] w _
  obtain ⟨g, hM⟩ := hC.1
  have hI : YI (sN st) := hS.1.1
  have hse : de (sN st) ≤ 999 := hS.1.2.1
  unfold P_frees
  refine Ev.blk kX3_frees_0 rfl trivial ?_
  refine Ev.cS (d1 := d - 1) (em_bound n (nI 0) (nI 60)) tX3_frees_4 qX3_63 rfl ⟨rfl, rfl, rfl⟩ (by omega) ?_
  rintro _ _ ⟨rfl, rfl⟩
  refine Ev.blk kX3_frees_7 rfl trivial ?_
  refine Ev.br tX3_frees_9 rfl (fun c9 => ?_) (fun c9 => ?_)
  · rw [GO_ok c9]
    obtain ⟨k, h1, h2, rfl⟩ := outs_ok (by omega) (by omega) c9
    rw [ixC (by omega)]
    refine Ev.blk kX3_frees_18 rfl trivial ?_
    refine Ev.cV (d1 := d - 1) (em_goesInMind (i := 0) hM hI hS.1.2.2.1 (by omega) h2 (by decide) (by omega)) tX3_frees_21 qX3_232 rfl rfl (by decide) ⟨rfl, rfl, rfl⟩ (by omega) ?_
    rintro _ _ ⟨rfl, oK, hE, g23, g24, g25, g26, g27⟩
    refine Ev.blk kX3_frees_24 rfl trivial ?_
    rw [g26]
    refine Ev.iret tX3_frees_28 rfl rfl ?_
    exact ⟨rfl, oK.F.lo, hC.keepF hS oK.F hE⟩
  · refine Ev.blk kX3_frees_12 rfl trivial ?_
    refine Ev.cV (d1 := d - 1) (em_no hC (outs_rcn c9)) tX3_frees_14 qX3_70 rfl rfl (by decide) ⟨rfl, rfl, rfl⟩ (by omega) ?_
    rintro _ _ ⟨rfl, hS2, hC2⟩
    refine Ev.iret tX3_frees_17 rfl rfl ?_
    rw [GO_no c9]; exact ⟨rfl, hS2, hC2⟩
theorem avI_n {D : Yd} {k : Nat} (hk : k < 1000) : avI D k k = if nI k = nI 0 then nI (bts (ds D) 8) else nI (bts (alw D k) 8) := by
  unfold avI alwI
  by_cases e : k = 0
  · rw [if_pos e, if_pos (by rw [e])]
  · rw [if_neg e, if_neg e, if_neg (by rw [nI_eq (by omega) (by omega)]; exact e)]
theorem em_never (hC : MdlAt w st) (hS : SI st) (hd : 9 ≤ d) (n : Int32) : Cl l d MX3_never [mR 11 0, mI n] w (fun r u => MP w (P_never st n) r u) := by
  show Ev l d MX3_never 0 [some (mR 11 0), some (mI n), none] [] w _
  obtain ⟨g, hM⟩ := hC.1
  have hI : YI (sN st) := hS.1.1
  have hse : de (sN st) ≤ 999 := hS.1.2.1
  unfold P_never
  refine Ev.blk kX3_never_0 rfl trivial ?_
  refine Ev.cS (d1 := d - 1) (em_bound n (nI 0) (nI 60)) tX3_never_4 qX3_63 rfl ⟨rfl, rfl, rfl⟩ (by omega) ?_
  rintro _ _ ⟨rfl, rfl⟩
  refine Ev.blk kX3_never_7 rfl trivial ?_
  refine Ev.br tX3_never_9 rfl (fun c9 => ?_) (fun c9 => ?_)
  · rw [GO_ok c9]
    obtain ⟨k, h1, h2, rfl⟩ := outs_ok (by omega) (by omega) c9
    rw [ixC (by omega)]
    refine Ev.blk kX3_never_18 rfl trivial ?_
    refine Ev.cV (d1 := d - 1) (em_goesInMind (i := 0) hM hI hS.1.2.2.1 (by omega) h2 (by decide) (by omega)) tX3_never_21 qX3_232 rfl rfl (by decide) ⟨rfl, rfl, rfl⟩ (by omega) ?_
    rintro _ _ ⟨rfl, oK, hE, g23, g24, g25, g26, g27⟩
    refine Ev.blk kX3_never_24 rfl trivial ?_
    rw [g24, avI_n (by omega)]
    refine Ev.iret tX3_never_28 rfl rfl ?_
    exact ⟨rfl, oK.F.lo, hC.keepF hS oK.F hE⟩
  · refine Ev.blk kX3_never_12 rfl trivial ?_
    refine Ev.cV (d1 := d - 1) (em_no hC (outs_rcn c9)) tX3_never_14 qX3_70 rfl rfl (by decide) ⟨rfl, rfl, rfl⟩ (by omega) ?_
    rintro _ _ ⟨rfl, hS2, hC2⟩
    refine Ev.iret tX3_never_17 rfl rfl ?_
    rw [GO_no c9]; exact ⟨rfl, hS2, hC2⟩
theorem em_mayFree (hC : MdlAt w st) (hS : SI st) (hd : 5 ≤ d) (c : Int32) : Cl l d MX3_mayFree [mR 11 0, mI c] w (fun r u => MP w (P_mayFree st c) r u) := by
  show Ev l d MX3_mayFree 0 [some (mR 11 0), some (mI c)] [] w _
  obtain ⟨g, hM⟩ := hC.1
  have hI : YI (ug (sN st) g) := hS.1.1
  unfold P_mayFree
  by_cases hh : hasI (sN st) c = true
  · obtain ⟨i, hi, rfl⟩ := hasI_of hh hI.1
    have hi8 : i < 8 := Nat.lt_of_lt_of_le hi hI.1
    rw [if_pos hh, ixC (by omega)]
    by_cases hc : isC (sN st) i = true
    · have hk4 : 4 ≤ dk (sN st) i := by unfold isC at hc; simpa using hc
      have hnm : nearMay (sN st) i = none := (nearMay0 (D := sN st) (i := i) (by omega) (by omega)).1
      have e : (if ds (sN st) i = true then none else nearMay (sN st) i) = none := by rw [hnm]; split <;> rfl
      rw [e]
      refine Ev.blk kX3_mayFree_0 rfl trivial ?_
      refine Ev.cV (d1 := d - 1) (em_isChildB hM hh) tX3_mayFree_2 qX3_106 rfl rfl (by decide) ⟨rfl, rfl, rfl⟩ (by omega) ?_
      rintro _ _ ⟨rfl, rfl⟩
      refine Ev.br tX3_mayFree_5 rfl (fun c5 => ?_) (fun c5 => ?_)
      · refine Ev.blk kX3_mayFree_14 rfl trivial ?_
        refine Ev.cV (d1 := d - 1) (em_isCatcherB hM hI hi hc) tX3_mayFree_16 qX3_109 rfl rfl (by decide) ⟨rfl, rfl, rfl⟩ (by omega) ?_
        rintro _ _ ⟨rfl, rfl⟩
        refine Ev.br tX3_mayFree_19 rfl (fun c19 => ?_) (fun c19 => ?_)
        · refine Ev.blk kX3_mayFree_32 rfl trivial ?_
          refine Ev.jmp tX3_mayFree_34 ?_
          refine Ev.iret tX3_mayFree_42 rfl rfl ?_
          exact ⟨rfl, Sm.rf, hC⟩
        · exact absurd (show ¬ bI true = nI 0 by decide) c19
      · exact absurd (show ¬ bI true = nI 0 by decide) c5
    · have hss := hM.s hi8
      refine Ev.blk kX3_mayFree_0 rfl trivial ?_
      refine Ev.cV (d1 := d - 1) (em_isChildB hM hh) tX3_mayFree_2 qX3_106 rfl rfl (by decide) ⟨rfl, rfl, rfl⟩ (by omega) ?_
      rintro _ _ ⟨rfl, rfl⟩
      refine Ev.br tX3_mayFree_5 rfl (fun c5 => ?_) (fun c5 => ?_)
      · refine Ev.blk kX3_mayFree_14 rfl trivial ?_
        refine Ev.cV (d1 := d - 1) (em_isCatcherB hM hI hi (bl_f hc)) tX3_mayFree_16 qX3_109 rfl rfl (by decide) ⟨rfl, rfl, rfl⟩ (by omega) ?_
        rintro _ _ ⟨rfl, rfl⟩
        refine Ev.br tX3_mayFree_19 rfl (fun c19 => ?_) (fun c19 => ?_)
        · exact absurd rfl c19
        · refine Ev.blk kX3_mayFree_22 rfl ⟨trivial, vinN hi8 (by decide)⟩ ?_
          rw [ix8 hi8, hss]
          refine Ev.br tX3_mayFree_29 rfl (fun c29 => ?_) (fun c29 => ?_)
          · have c29 : ¬ bI (ds (sN st) i) = nI 1 := c29
            rw [bI_1] at c29
            refine Ev.blk kX3_mayFree_37 rfl trivial ?_
            refine Ev.cV (d1 := d - 1) (em_nearMay hM hI (by omega) hi (bl_f c29)) tX3_mayFree_39 qX3_171 rfl rfl (by decide) ⟨rfl, rfl, rfl⟩ (by omega) ?_
            rintro _ _ ⟨rfl, rfl⟩
            refine Ev.iret tX3_mayFree_42 rfl rfl ?_
            first
            | (rw [if_pos c29]; exact ⟨rfl, Sm.rf, hC⟩)
            | (rw [if_neg c29]; exact ⟨rfl, Sm.rf, hC⟩)
          · have c29 : ¬ ¬ bI (ds (sN st) i) = nI 1 := c29
            rw [bI_1, Classical.not_not] at c29
            refine Ev.blk kX3_mayFree_32 rfl trivial ?_
            refine Ev.jmp tX3_mayFree_34 ?_
            refine Ev.iret tX3_mayFree_42 rfl rfl ?_
            first
            | (rw [if_pos c29]; exact ⟨rfl, Sm.rf, hC⟩)
            | (rw [if_neg c29]; exact ⟨rfl, Sm.rf, hC⟩)
      · exact absurd (show ¬ bI true = nI 0 by decide) c5
  · rw [if_neg hh]
    refine Ev.blk kX3_mayFree_0 rfl trivial ?_
    refine Ev.cV (d1 := d - 1) (em_isChild hM c) tX3_mayFree_2 qX3_106 rfl rfl (by decide) ⟨rfl, rfl, rfl⟩ (by omega) ?_
    rintro _ _ ⟨rfl, rfl⟩
    refine Ev.br tX3_mayFree_5 rfl (fun c5 => ?_) (fun c5 => ?_)
    · exact absurd (hasI_f hh) c5
    · refine Ev.blk kX3_mayFree_8 rfl trivial ?_
      refine Ev.cV (d1 := d - 1) (em_no hC rfl1) tX3_mayFree_10 qX3_70 rfl rfl (by decide) ⟨rfl, rfl, rfl⟩ (by omega) ?_
      rintro _ _ ⟨rfl, hS2, hC2⟩
      refine Ev.iret tX3_mayFree_13 rfl rfl ?_
      exact ⟨rfl, hS2, hC2⟩
end M6
