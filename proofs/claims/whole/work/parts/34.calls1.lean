/-! ===== the class's calls: one answer each ===== -/
def CPJ (w : mW) (p : Int64 × St) (r : Option mV) (u : mW) : Prop := r = some (mJ p.1) ∧ Sm (fun t _ => 11 ≤ t) w u ∧ KlsAt u p.2
theorem hasI_f {D : Yd} {c : Int32} (h : ¬ hasI D c = true) : bI (hasI D c) = nI 0 := by
  cases hz : hasI D c
  · rfl
  · exact absurd hz h
theorem bI_ff {b : Bool} (h : ¬ b = true) : bI b = nI 0 := by
  cases b
  · rfl
  · exact absurd rfl h
theorem bl_t {b : Bool} (h : ¬ b = false) : b = true := by cases b; exact absurd rfl h; rfl
theorem bl_f {b : Bool} (h : ¬ b = true) : b = false := by cases b; rfl; exact absurd rfl h
section C2
variable {l : Launch} {d : Nat} {w : mW} {st : St}
theorem ev_ref (hC : KlsAt w st) {why : Int32} (hr : RC why) : Cl l d MX2_refuse [mR 0 0, mI why] w (fun r u => CP w (RF st why) r u) := ev_refuse hC (rc_k hr).1 (rc_k hr).2.1
theorem ev_hasB {y : Nat} {D : Yd} (hY : YardAt w y D) {c : Int32} {b : Bool} (h : hasI D c = b) : Cl l d MX1_has [mR 1 y, mI c] w (fun r u => u = w ∧ r = some (mI (bI b))) := by
  rw [← h]
  exact ev_has hY c
theorem ev_isCellB {c : Int32} {b : Bool} (h : cellI c = b) : Cl l d MX1_isCell [mI c] w (fun r u => u = w ∧ r = some (mI (bI b))) := by
  rw [← h]
  exact ev_isCell c
theorem ev_child (hC : KlsAt w st) (hS : SI st) (hd : 5 ≤ d) (c x : Int32) : Cl l d MX2_child [mR 0 0, mI c, mI x] w (fun r u => CP w (P_child st c x) r u) := by
  show Ev l d MX2_child 0 [some (mR 0 0), some (mI c), some (mI x)] [] w _
  obtain ⟨g, hY⟩ := hC.1
  have hI : YI (ug (sN st) g) := hS.1.1
  unfold P_child
  by_cases hh : hasI (sN st) c = true
  · obtain ⟨i, hi, rfl⟩ := hasI_of hh hI.1
    have hi8 : i < 8 := Nat.lt_of_lt_of_le hi hI.1
    rw [if_pos hh, ixC (by omega)]
    refine Ev.blk kX2_child_0 rfl trivial ?_
    refine Ev.cV (d1 := d - 1) (ev_hasB hY hh) tX2_child_5 qX2_57 rfl rfl (by decide) ⟨rfl, rfl, rfl⟩ (by omega) ?_
    rintro _ _ ⟨rfl, rfl⟩
    refine Ev.br tX2_child_8 rfl (fun c8 => ?_) (fun c8 => ?_)
    · refine Ev.blk kX2_child_17 rfl trivial ?_
      by_cases s18_0 : x = nI 0
      · subst s18_0
        refine Ev.sw (tgt := 52) tX2_child_18 (off := 34) (by decide) (by decide) ?_
        refine Ev.blk kX2_child_52 rfl trivial ?_
        refine Ev.cV (d1 := d - 1) (ev_kindOf hY hI (by omega) hi) tX2_child_57 qX2_61 rfl rfl (by decide) ⟨rfl, rfl, rfl⟩ (by omega) ?_
        rintro _ _ ⟨rfl, rfl⟩
        refine Ev.iret tX2_child_60 rfl rfl ?_
        rw [if_pos rfl]; exact ⟨rfl, Sm.rf, hC⟩
      by_cases s18_1 : x = nI 1
      · subst s18_1
        refine Ev.sw (tgt := 61) tX2_child_18 (off := 43) (by decide) (by decide) ?_
        refine Ev.blk kX2_child_61 rfl trivial ?_
        refine Ev.cV (d1 := d - 1) (ev_cellOf hY hI (by omega) hi) tX2_child_66 qX2_64 rfl rfl (by decide) ⟨rfl, rfl, rfl⟩ (by omega) ?_
        rintro _ _ ⟨rfl, rfl⟩
        refine Ev.iret tX2_child_69 rfl rfl ?_
        rw [if_neg (by decide), if_pos rfl]; exact ⟨rfl, Sm.rf, hC⟩
      by_cases s18_2 : x = nI 2
      · subst s18_2
        refine Ev.sw (tgt := 70) tX2_child_18 (off := 52) (by decide) (by decide) ?_
        refine Ev.blk kX2_child_70 rfl trivial ?_
        refine Ev.cV (d1 := d - 1) (ev_friendOf hY hI (by omega) hi) tX2_child_75 qX2_67 rfl rfl (by decide) ⟨rfl, rfl, rfl⟩ (by omega) ?_
        rintro _ _ ⟨rfl, rfl⟩
        refine Ev.iret tX2_child_78 rfl rfl ?_
        rw [if_neg (by decide), if_neg (by decide), if_pos rfl]; exact ⟨rfl, Sm.rf, hC⟩
      by_cases s18_3 : x = nI 3
      · subst s18_3
        refine Ev.sw (tgt := 79) tX2_child_18 (off := 61) (by decide) (by decide) ?_
        refine Ev.blk kX2_child_79 rfl trivial ?_
        refine Ev.cV (d1 := d - 1) (ev_isStanding hY hI (by omega) hi) tX2_child_84 qX2_70 rfl rfl (by decide) ⟨rfl, rfl, rfl⟩ (by omega) ?_
        rintro _ _ ⟨rfl, rfl⟩
        refine Ev.br tX2_child_87 rfl (fun c87 => ?_) (fun c87 => ?_)
        · have c87 : ds (sN st) i = false := by rw [bI_0] at c87; exact c87
          refine Ev.blk kX2_child_94 rfl trivial ?_
          refine Ev.iret tX2_child_95 rfl rfl ?_
          rw [if_neg (by decide), if_neg (by decide), if_neg (by decide), if_pos rfl, c87]; exact ⟨rfl, Sm.rf, hC⟩
        · have c87 : ds (sN st) i = true := by rw [bI_0] at c87; exact bl_t c87
          refine Ev.blk kX2_child_90 rfl trivial ?_
          refine Ev.jmp tX2_child_91 ?_
          refine Ev.iret tX2_child_95 rfl rfl ?_
          rw [if_neg (by decide), if_neg (by decide), if_neg (by decide), if_pos rfl, c87]; exact ⟨rfl, Sm.rf, hC⟩
      by_cases s18_4 : x = nI 4
      · subst s18_4
        refine Ev.sw (tgt := 96) tX2_child_18 (off := 78) (by decide) (by decide) ?_
        refine Ev.blk kX2_child_96 rfl trivial ?_
        refine Ev.cV (d1 := d - 1) (ev_tiredOf hY hI (by omega) hi) tX2_child_101 qX2_73 rfl rfl (by decide) ⟨rfl, rfl, rfl⟩ (by omega) ?_
        rintro _ _ ⟨rfl, rfl⟩
        refine Ev.iret tX2_child_104 rfl rfl ?_
        rw [if_neg (by decide), if_neg (by decide), if_neg (by decide), if_neg (by decide), if_pos rfl]; exact ⟨rfl, Sm.rf, hC⟩
      refine Ev.sw (tgt := 105) tX2_child_18 (off := 87) (mswo_out (n := 4) (by decide) (fun j hj => by rcases (show j = 0 ∨ j = 1 ∨ j = 2 ∨ j = 3 ∨ j = 4 by omega) with rfl | rfl | rfl | rfl | rfl <;> assumption)) (by decide) ?_
      refine Ev.blk kX2_child_105 rfl trivial ?_
      refine Ev.cV (d1 := d - 1) (ev_ref hC (Or.inr (Or.inl rfl))) tX2_child_108 qX2_39 rfl rfl (by decide) ⟨rfl, rfl, rfl⟩ (by omega) ?_
      rintro _ _ ⟨rfl, hS2, hC2⟩
      refine Ev.iret tX2_child_111 rfl rfl ?_
      rw [if_neg s18_0, if_neg s18_1, if_neg s18_2, if_neg s18_3, if_neg s18_4]; exact ⟨rfl, hS2, hC2⟩
    · exact absurd (show ¬ bI true = nI 0 by decide) c8
  · rw [if_neg hh]
    refine Ev.blk kX2_child_0 rfl trivial ?_
    refine Ev.cV (d1 := d - 1) (ev_has hY c) tX2_child_5 qX2_57 rfl rfl (by decide) ⟨rfl, rfl, rfl⟩ (by omega) ?_
    rintro _ _ ⟨rfl, rfl⟩
    refine Ev.br tX2_child_8 rfl (fun c8 => ?_) (fun c8 => ?_)
    · exact absurd (hasI_f hh) c8
    · refine Ev.blk kX2_child_11 rfl trivial ?_
      refine Ev.cV (d1 := d - 1) (ev_ref hC (Or.inl rfl)) tX2_child_13 qX2_39 rfl rfl (by decide) ⟨rfl, rfl, rfl⟩ (by omega) ?_
      rintro _ _ ⟨rfl, hS2, hC2⟩
      refine Ev.iret tX2_child_16 rfl rfl ?_
      exact ⟨rfl, hS2, hC2⟩
theorem ev_go (hC : KlsAt w st) (hS : SI st) (hd : 5 ≤ d) (c x : Int32) : Cl l d MX2_go [mR 0 0, mI c, mI x] w (fun r u => CP w (P_go st c x) r u) := by
  show Ev l d MX2_go 0 [some (mR 0 0), some (mI c), some (mI x), none] [] w _
  obtain ⟨g, hY⟩ := hC.1
  have hI : YI (ug (sN st) g) := hS.1.1
  unfold P_go
  by_cases hh : hasI (sN st) c = true
  · by_cases hx : cellI x = true
    · obtain ⟨i, hi, rfl⟩ := hasI_of hh hI.1
      have hi8 : i < 8 := Nat.lt_of_lt_of_le hi hI.1
      obtain ⟨k, hk, rfl⟩ := cellI_ok hx
      have hii : (decide (i < dn (ug (sN st) g)) && decide (k < 24)) = true := by simp only [Bool.and_eq_true, decide_eq_true_eq]; exact ⟨hi, hk⟩
      rw [if_pos ⟨hh, hx⟩, ixC (by omega), ixC (by omega)]
      refine Ev.blk kX2_go_0 rfl trivial ?_
      refine Ev.cV (d1 := d - 1) (ev_hasB hY hh) tX2_go_5 qX2_57 rfl rfl (by decide) ⟨rfl, rfl, rfl⟩ (by omega) ?_
      rintro _ _ ⟨rfl, rfl⟩
      refine Ev.br tX2_go_8 rfl (fun c8 => ?_) (fun c8 => ?_)
      · exact absurd c8 (by decide)
      · refine Ev.blk kX2_go_11 rfl trivial ?_
        refine Ev.cS (d1 := d - 1) (ev_isCellB hx) tX2_go_12 qX2_76 rfl ⟨rfl, rfl, rfl⟩ (by omega) ?_
        rintro _ _ ⟨rfl, rfl⟩
        refine Ev.br tX2_go_15 rfl (fun c15 => ?_) (fun c15 => ?_)
        · refine Ev.blk kX2_go_24 rfl trivial ?_
          refine Ev.cV (d1 := d - 1) (ev_cellOf hY hI (by omega) hi) tX2_go_29 qX2_64 rfl rfl (by decide) ⟨rfl, rfl, rfl⟩ (by omega) ?_
          rintro _ _ ⟨rfl, rfl⟩
          refine Ev.blk kX2_go_32 rfl trivial ?_
          refine Ev.cV (d1 := d - 1) (ev_put hY hI (by omega) (show i < 1000 by omega) (show k < 1000 by omega)) tX2_go_39 qX2_79 rfl rfl (by decide) ⟨rfl, rfl, rfl⟩ (by omega) ?_
          rintro _ _ ⟨rfl, ho, hE⟩
          refine Ev.blk kX2_go_42 rfl trivial ?_
          refine Ev.iret tX2_go_44 rfl rfl ?_
          rw [if_pos hii] at hE
          exact ⟨rfl, ho.up, hC.now ho (D := uc (sN st) (va_up (dc (sN st)) i k)) (g := g) hE⟩
        · exact absurd (show ¬ bI true = nI 0 by decide) c15
    · rw [if_neg (fun z => hx z.2)]
      refine Ev.blk kX2_go_0 rfl trivial ?_
      refine Ev.cV (d1 := d - 1) (ev_hasB hY hh) tX2_go_5 qX2_57 rfl rfl (by decide) ⟨rfl, rfl, rfl⟩ (by omega) ?_
      rintro _ _ ⟨rfl, rfl⟩
      refine Ev.br tX2_go_8 rfl (fun c8 => ?_) (fun c8 => ?_)
      · exact absurd c8 (by decide)
      · refine Ev.blk kX2_go_11 rfl trivial ?_
        refine Ev.cS (d1 := d - 1) (ev_isCell x) tX2_go_12 qX2_76 rfl ⟨rfl, rfl, rfl⟩ (by omega) ?_
        rintro _ _ ⟨rfl, rfl⟩
        refine Ev.br tX2_go_15 rfl (fun c15 => ?_) (fun c15 => ?_)
        · exact absurd (bI_ff hx) c15
        · refine Ev.blk kX2_go_18 rfl trivial ?_
          refine Ev.cV (d1 := d - 1) (ev_ref hC (Or.inl rfl)) tX2_go_20 qX2_39 rfl rfl (by decide) ⟨rfl, rfl, rfl⟩ (by omega) ?_
          rintro _ _ ⟨rfl, hS2, hC2⟩
          refine Ev.iret tX2_go_23 rfl rfl ?_
          exact ⟨rfl, hS2, hC2⟩
  · rw [if_neg (fun z => hh z.1)]
    refine Ev.blk kX2_go_0 rfl trivial ?_
    refine Ev.cV (d1 := d - 1) (ev_has hY c) tX2_go_5 qX2_57 rfl rfl (by decide) ⟨rfl, rfl, rfl⟩ (by omega) ?_
    rintro _ _ ⟨rfl, rfl⟩
    refine Ev.br tX2_go_8 rfl (fun c8 => ?_) (fun c8 => ?_)
    · refine Ev.blk kX2_go_18 rfl trivial ?_
      refine Ev.cV (d1 := d - 1) (ev_ref hC (Or.inl rfl)) tX2_go_20 qX2_39 rfl rfl (by decide) ⟨rfl, rfl, rfl⟩ (by omega) ?_
      rintro _ _ ⟨rfl, hS2, hC2⟩
      refine Ev.iret tX2_go_23 rfl rfl ?_
      exact ⟨rfl, hS2, hC2⟩
    · exact absurd (hasI_f hh) c8
theorem ev_touch (hC : KlsAt w st) (hS : SI st) (hd : 5 ≤ d) (c : Int32) : Cl l d MX2_touch [mR 0 0, mI c] w (fun r u => CP w (P_touch st c) r u) := by
  show Ev l d MX2_touch 0 [some (mR 0 0), some (mI c)] [] w _
  obtain ⟨g, hY⟩ := hC.1
  have hI : YI (ug (sN st) g) := hS.1.1
  unfold P_touch
  by_cases hh : hasI (sN st) c = true
  · obtain ⟨i, hi, rfl⟩ := hasI_of hh hI.1
    have hi8 : i < 8 := Nat.lt_of_lt_of_le hi hI.1
    rw [if_pos hh, ixC (by omega)]
    have ht := ev_turnOver (l := l) (d := d - 1) hY hI (by omega) (show i < 1000 by omega)
    by_cases hc : isC (sN st) i = true
    · have hb : (decide (i < dn (ug (sN st) g)) && !isC (ug (sN st) g) i) = false := by
        rw [show isC (ug (sN st) g) i = true from hc]
        simp
      rw [hb] at ht
      rw [if_pos hc]
      refine Ev.blk kX2_touch_0 rfl trivial ?_
      refine Ev.cV (d1 := d - 1) (ev_hasB hY hh) tX2_touch_5 qX2_57 rfl rfl (by decide) ⟨rfl, rfl, rfl⟩ (by omega) ?_
      rintro _ _ ⟨rfl, rfl⟩
      refine Ev.br tX2_touch_8 rfl (fun c8 => ?_) (fun c8 => ?_)
      · refine Ev.blk kX2_touch_17 rfl trivial ?_
        refine Ev.cV (d1 := d - 1) (ht) tX2_touch_22 qX2_83 rfl rfl (by decide) ⟨rfl, rfl, rfl⟩ (by omega) ?_
        rintro _ _ ⟨rfl, ho, hE⟩
        have hC1 := hC.now ho (D := sN st) (g := g) hE
        refine Ev.br tX2_touch_25 rfl (fun c25 => ?_) (fun c25 => ?_)
        · exact absurd rfl c25
        · refine Ev.blk kX2_touch_28 rfl trivial ?_
          refine Ev.cV (d1 := d - 1) (ev_ref hC1 (Or.inr (Or.inr (Or.inl rfl)))) tX2_touch_31 qX2_39 rfl rfl (by decide) ⟨rfl, rfl, rfl⟩ (by omega) ?_
          rintro _ _ ⟨rfl, hS2, hC2⟩
          refine Ev.iret tX2_touch_34 rfl rfl ?_
          exact ⟨rfl, ho.up.tr hS2, hC2⟩
      · exact absurd (show ¬ bI true = nI 0 by decide) c8
    · have hb : (decide (i < dn (ug (sN st) g)) && !isC (ug (sN st) g) i) = true := by
        rw [show isC (ug (sN st) g) i = false from bl_f hc]
        simp; exact hi
      rw [hb] at ht
      rw [if_neg hc]
      have hI2 : YI (us (ug (sN st) g) (va_up (ds (sN st)) i (!ds (sN st) i))) := by
        refine hI.us (fun j hj => ?_)
        unfold va_up at hj
        split at hj
        · rename_i e
          subst e
          unfold isC at hc
          simp only [decide_eq_true_eq] at hc
          exact ⟨hi, by show dk (sN st) j < 4; omega⟩
        · exact hI.st hj
      refine Ev.blk kX2_touch_0 rfl trivial ?_
      refine Ev.cV (d1 := d - 1) (ev_hasB hY hh) tX2_touch_5 qX2_57 rfl rfl (by decide) ⟨rfl, rfl, rfl⟩ (by omega) ?_
      rintro _ _ ⟨rfl, rfl⟩
      refine Ev.br tX2_touch_8 rfl (fun c8 => ?_) (fun c8 => ?_)
      · refine Ev.blk kX2_touch_17 rfl trivial ?_
        refine Ev.cV (d1 := d - 1) (ht) tX2_touch_22 qX2_83 rfl rfl (by decide) ⟨rfl, rfl, rfl⟩ (by omega) ?_
        rintro _ _ ⟨rfl, ho, hE⟩
        rw [if_pos rfl] at hE
        refine Ev.br tX2_touch_25 rfl (fun c25 => ?_) (fun c25 => ?_)
        · refine Ev.blk kX2_touch_35 rfl trivial ?_
          refine Ev.cV (d1 := d - 1) (ev_isStanding hE hI2 (by omega) (show i < dn (us (ug (sN st) g) (va_up (ds (sN st)) i (!ds (sN st) i))) from hi)) tX2_touch_40 qX2_70 rfl rfl (by decide) ⟨rfl, rfl, rfl⟩ (by omega) ?_
          rintro _ _ ⟨rfl, rfl⟩
          have hv : ds (us (ug (sN st) g) (va_up (ds (ug (sN st) g)) i (!ds (ug (sN st) g) i))) i = !ds (sN st) i := by
            show va_up (ds (sN st)) i (!ds (sN st) i) i = _
            unfold va_up
            rw [if_pos rfl]
          rw [hv]
          refine Ev.br tX2_touch_43 rfl (fun c43 => ?_) (fun c43 => ?_)
          · have c43 : (!ds (sN st) i) = false := by rw [bI_0] at c43; exact c43
            refine Ev.blk kX2_touch_50 rfl trivial ?_
            refine Ev.iret tX2_touch_51 rfl rfl ?_
            refine ⟨by rw [c43]; rfl, ho.up, hC.now ho (D := us (sN st) (va_up (ds (sN st)) i (!ds (sN st) i))) (g := g) hE⟩
          · have c43 : (!ds (sN st) i) = true := by rw [bI_0] at c43; exact bl_t c43
            refine Ev.blk kX2_touch_46 rfl trivial ?_
            refine Ev.jmp tX2_touch_47 ?_
            refine Ev.iret tX2_touch_51 rfl rfl ?_
            refine ⟨by rw [c43]; rfl, ho.up, hC.now ho (D := us (sN st) (va_up (ds (sN st)) i (!ds (sN st) i))) (g := g) hE⟩
        · exact absurd (show ¬ bI true = nI 0 by decide) c25
      · exact absurd (show ¬ bI true = nI 0 by decide) c8
  · rw [if_neg hh]
    refine Ev.blk kX2_touch_0 rfl trivial ?_
    refine Ev.cV (d1 := d - 1) (ev_has hY c) tX2_touch_5 qX2_57 rfl rfl (by decide) ⟨rfl, rfl, rfl⟩ (by omega) ?_
    rintro _ _ ⟨rfl, rfl⟩
    refine Ev.br tX2_touch_8 rfl (fun c8 => ?_) (fun c8 => ?_)
    · exact absurd (hasI_f hh) c8
    · refine Ev.blk kX2_touch_11 rfl trivial ?_
      refine Ev.cV (d1 := d - 1) (ev_ref hC (Or.inl rfl)) tX2_touch_13 qX2_39 rfl rfl (by decide) ⟨rfl, rfl, rfl⟩ (by omega) ?_
      rintro _ _ ⟨rfl, hS2, hC2⟩
      refine Ev.iret tX2_touch_16 rfl rfl ?_
      exact ⟨rfl, hS2, hC2⟩
theorem ev_law (hC : KlsAt w st) (hS : SI st) (hd : 5 ≤ d) (v : Int32) : Cl l d MX2_law [mR 0 0, mI v] w (fun r u => CP w (P_law st v) r u) := by
  show Ev l d MX2_law 0 [some (mR 0 0), some (mI v), none] [] w _
  obtain ⟨g, hY⟩ := hC.1
  have hI : YI (ug (sN st) g) := hS.1.1
  unfold P_law
  by_cases hv : nI 0 ≤ v ∧ v < nI 4
  · obtain ⟨k, hk, rfl⟩ : ∃ k, k < 4 ∧ v = nI k := by
      rcases pk_ix v (n := 4) (by decide) with g | g | ⟨j, g1, g2⟩
      · exact absurd g (Int32.not_lt.mpr hv.1)
      · exact absurd hv.2 (Int32.not_lt.mpr g)
      · exact ⟨j, g1, g2⟩
    rw [if_pos hv, ixC (by omega)]
    refine Ev.blk kX2_law_0 rfl trivial ?_
    refine Ev.cV (d1 := d - 1) (ev_lawNow hY) tX2_law_4 qX2_86 rfl rfl (by decide) ⟨rfl, rfl, rfl⟩ (by omega) ?_
    rintro _ _ ⟨rfl, rfl⟩
    refine Ev.blk kX2_law_7 rfl trivial ?_
    refine Ev.cV (d1 := d - 1) (ev_setLaw hY hk) tX2_law_13 qX2_89 rfl rfl (by decide) ⟨rfl, rfl, rfl⟩ (by omega) ?_
    rintro _ _ ⟨rfl, ho, hE⟩
    refine Ev.br tX2_law_16 rfl (fun c16 => ?_) (fun c16 => ?_)
    · exact absurd c16 (by decide)
    · refine Ev.blk kX2_law_19 rfl trivial ?_
      refine Ev.jmp tX2_law_20 ?_
      refine Ev.iret tX2_law_29 rfl rfl ?_
      exact ⟨rfl, ho.up, hC.now ho (D := ul (sN st) k) (g := g) hE⟩
  · rw [if_neg hv]
    refine Ev.blk kX2_law_0 rfl trivial ?_
    refine Ev.cV (d1 := d - 1) (ev_lawNow hY) tX2_law_4 qX2_86 rfl rfl (by decide) ⟨rfl, rfl, rfl⟩ (by omega) ?_
    rintro _ _ ⟨rfl, rfl⟩
    refine Ev.blk kX2_law_7 rfl trivial ?_
    refine Ev.cV (d1 := d - 1) (ev_setLaw_no (y := 0) (by rcases Int32.lt_or_le v (nI 0) with z | z; exact Or.inl z; exact Or.inr (Int32.not_lt.mp (fun z2 => hv ⟨z, z2⟩)))) tX2_law_13 qX2_89 rfl rfl (by decide) ⟨rfl, rfl, rfl⟩ (by omega) ?_
    rintro _ _ ⟨rfl, rfl⟩
    refine Ev.br tX2_law_16 rfl (fun c16 => ?_) (fun c16 => ?_)
    · refine Ev.blk kX2_law_23 rfl trivial ?_
      refine Ev.cV (d1 := d - 1) (ev_ref hC (Or.inr (Or.inl rfl))) tX2_law_26 qX2_39 rfl rfl (by decide) ⟨rfl, rfl, rfl⟩ (by omega) ?_
      rintro _ _ ⟨rfl, hS2, hC2⟩
      refine Ev.iret tX2_law_29 rfl rfl ?_
      exact ⟨rfl, hS2, hC2⟩
    · exact absurd rfl c16
theorem ev_far (hC : KlsAt w st) (hd : 5 ≤ d) (a b : Int32) : Cl l d MX2_far [mR 0 0, mI a, mI b] w (fun r u => CP w (P_far st a b) r u) := by
  show Ev l d MX2_far 0 [some (mR 0 0), some (mI a), some (mI b)] [] w _
  unfold P_far
  by_cases ha : cellI a = true
  · by_cases hb : cellI b = true
    · obtain ⟨i, hi, rfl⟩ := cellI_ok ha
      obtain ⟨k, hk, rfl⟩ := cellI_ok hb
      rw [if_pos ⟨ha, hb⟩, ixC (by omega), ixC (by omega)]
      refine Ev.blk kX2_far_0 rfl trivial ?_
      refine Ev.cS (d1 := d - 1) (ev_isCellB ha) tX2_far_1 qX2_76 rfl ⟨rfl, rfl, rfl⟩ (by omega) ?_
      rintro _ _ ⟨rfl, rfl⟩
      refine Ev.br tX2_far_4 rfl (fun c4 => ?_) (fun c4 => ?_)
      · exact absurd c4 (by decide)
      · refine Ev.blk kX2_far_7 rfl trivial ?_
        refine Ev.cS (d1 := d - 1) (ev_isCellB hb) tX2_far_8 qX2_76 rfl ⟨rfl, rfl, rfl⟩ (by omega) ?_
        rintro _ _ ⟨rfl, rfl⟩
        refine Ev.br tX2_far_11 rfl (fun c11 => ?_) (fun c11 => ?_)
        · refine Ev.blk kX2_far_20 rfl trivial ?_
          refine Ev.cS (d1 := d - 1) (ev_apart hi hk) tX2_far_22 qX2_92 rfl ⟨rfl, rfl, rfl⟩ (by omega) ?_
          rintro _ _ ⟨rfl, rfl⟩
          refine Ev.iret tX2_far_25 rfl rfl ?_
          exact ⟨rfl, Sm.rf, hC⟩
        · exact absurd (show ¬ bI true = nI 0 by decide) c11
    · rw [if_neg (fun z => hb z.2)]
      refine Ev.blk kX2_far_0 rfl trivial ?_
      refine Ev.cS (d1 := d - 1) (ev_isCellB ha) tX2_far_1 qX2_76 rfl ⟨rfl, rfl, rfl⟩ (by omega) ?_
      rintro _ _ ⟨rfl, rfl⟩
      refine Ev.br tX2_far_4 rfl (fun c4 => ?_) (fun c4 => ?_)
      · exact absurd c4 (by decide)
      · refine Ev.blk kX2_far_7 rfl trivial ?_
        refine Ev.cS (d1 := d - 1) (ev_isCell b) tX2_far_8 qX2_76 rfl ⟨rfl, rfl, rfl⟩ (by omega) ?_
        rintro _ _ ⟨rfl, rfl⟩
        refine Ev.br tX2_far_11 rfl (fun c11 => ?_) (fun c11 => ?_)
        · exact absurd (bI_ff hb) c11
        · refine Ev.blk kX2_far_14 rfl trivial ?_
          refine Ev.cV (d1 := d - 1) (ev_ref hC (Or.inl rfl)) tX2_far_16 qX2_39 rfl rfl (by decide) ⟨rfl, rfl, rfl⟩ (by omega) ?_
          rintro _ _ ⟨rfl, hS2, hC2⟩
          refine Ev.iret tX2_far_19 rfl rfl ?_
          exact ⟨rfl, hS2, hC2⟩
  · rw [if_neg (fun z => ha z.1)]
    refine Ev.blk kX2_far_0 rfl trivial ?_
    refine Ev.cS (d1 := d - 1) (ev_isCell a) tX2_far_1 qX2_76 rfl ⟨rfl, rfl, rfl⟩ (by omega) ?_
    rintro _ _ ⟨rfl, rfl⟩
    refine Ev.br tX2_far_4 rfl (fun c4 => ?_) (fun c4 => ?_)
    · refine Ev.blk kX2_far_14 rfl trivial ?_
      refine Ev.cV (d1 := d - 1) (ev_ref hC (Or.inl rfl)) tX2_far_16 qX2_39 rfl rfl (by decide) ⟨rfl, rfl, rfl⟩ (by omega) ?_
      rintro _ _ ⟨rfl, hS2, hC2⟩
      refine Ev.iret tX2_far_19 rfl rfl ?_
      exact ⟨rfl, hS2, hC2⟩
    · exact absurd (bI_ff ha) c4
theorem ev_seconds (hC : KlsAt w st) (hS : SI st) (hd : 8 ≤ d) (n : Int32) : Cl l d MX2_seconds [mR 0 0, mI n] w (fun r u => CP w (P_seconds st n) r u) := by
  show Ev l d MX2_seconds 0 [some (mR 0 0), some (mI n), none] [] w _
  obtain ⟨g, hY⟩ := hC.1
  have hI : YI (ug (sN st) g) := hS.1.1
  have hse : de (sN st) ≤ 999 := hS.1.2.1
  unfold P_seconds
  have bad : ∀ why, RC why → wSec st n = why → Ev l d MX2_seconds 30 [some (mR 0 0), some (mI n), some (mI why)] [] w (fun r u => CP w (GO st (wSec st n) (nI (de (sN st) + ix n), vN st (ug (passN (sN st) (ix n)) 0))) r u) := by
    intro why hr he
    rw [he, GO_no (rc_k hr).2.2]
    refine Ev.blk kX2_seconds_30 rfl trivial ?_
    refine Ev.br tX2_seconds_31 rfl (fun c31 => ?_) (fun c31 => ?_)
    · exact absurd c31 (rc_k hr).2.2
    · refine Ev.blk kX2_seconds_34 rfl trivial ?_
      refine Ev.cV (d1 := d - 1) (ev_ref hC hr) tX2_seconds_36 qX2_39 rfl rfl (by decide) ⟨rfl, rfl, rfl⟩ (by omega) ?_
      rintro _ _ ⟨rfl, hS2, hC2⟩
      refine Ev.iret tX2_seconds_39 rfl rfl ?_
      exact ⟨rfl, hS2, hC2⟩
  by_cases hw : outs n (nI 1) (nI 60) = nI 0
  · by_cases hm : nI 999 < nI (de (sN st)) + n
    · have e : wSec st n = -6 := if_pos ⟨hw, hm⟩
      refine Ev.blk kX2_seconds_0 rfl trivial ?_
      refine Ev.cS (d1 := d - 1) (ev_outside n (nI 1) (nI 60)) tX2_seconds_4 qX2_96 rfl ⟨rfl, rfl, rfl⟩ (by omega) ?_
      rintro _ _ ⟨rfl, rfl⟩
      rw [hw]
      refine Ev.blk kX2_seconds_7 rfl trivial ?_
      refine Ev.br tX2_seconds_9 rfl (fun c9 => ?_) (fun c9 => ?_)
      · exact absurd rfl c9
      · refine Ev.blk kX2_seconds_12 rfl trivial ?_
        refine Ev.cV (d1 := d - 1) (ev_secondNow hY) tX2_seconds_16 qX2_100 rfl rfl (by decide) ⟨rfl, rfl, rfl⟩ (by omega) ?_
        rintro _ _ ⟨rfl, rfl⟩
        refine Ev.blk kX2_seconds_19 rfl trivial ?_
        refine Ev.br tX2_seconds_24 rfl (fun c24 => ?_) (fun c24 => ?_)
        · exact absurd hm (Int32.not_lt.mpr c24)
        · refine Ev.blk kX2_seconds_27 rfl trivial ?_
          exact bad _ (Or.inr (Or.inr (Or.inr (Or.inr rfl)))) e
    · have e : wSec st n = nI 0 := by
        unfold wSec
        rw [if_neg (fun z => hm z.2)]
        exact hw
      rw [GO_ok e]
      obtain ⟨k, h1, h2, rfl⟩ := outs_ok (by omega) (by omega) hw
      obtain ⟨g', hg⟩ := passN_g (D := sN st) (g := g) k
      rw [ixC (by omega)]
      refine Ev.blk kX2_seconds_0 rfl trivial ?_
      refine Ev.cS (d1 := d - 1) (ev_outside (nI k) (nI 1) (nI 60)) tX2_seconds_4 qX2_96 rfl ⟨rfl, rfl, rfl⟩ (by omega) ?_
      rintro _ _ ⟨rfl, rfl⟩
      rw [hw]
      refine Ev.blk kX2_seconds_7 rfl trivial ?_
      refine Ev.br tX2_seconds_9 rfl (fun c9 => ?_) (fun c9 => ?_)
      · exact absurd rfl c9
      · refine Ev.blk kX2_seconds_12 rfl trivial ?_
        refine Ev.cV (d1 := d - 1) (ev_secondNow hY) tX2_seconds_16 qX2_100 rfl rfl (by decide) ⟨rfl, rfl, rfl⟩ (by omega) ?_
        rintro _ _ ⟨rfl, rfl⟩
        refine Ev.blk kX2_seconds_19 rfl trivial ?_
        refine Ev.br tX2_seconds_24 rfl (fun c24 => ?_) (fun c24 => ?_)
        · refine Ev.blk kX2_seconds_30 rfl trivial ?_
          refine Ev.br tX2_seconds_31 rfl (fun c31 => ?_) (fun c31 => ?_)
          · refine Ev.blk kX2_seconds_40 rfl trivial ?_
            refine Ev.cV (d1 := d - 1) (ev_passMany hY hI (by omega) (show k < 1000 by omega) (by show de (sN st) + k < 100000; omega)) tX2_seconds_45 qX2_103 rfl rfl (by decide) ⟨rfl, rfl, rfl⟩ (by omega) ?_
            rintro _ _ ⟨rfl, ho, hE⟩
            rw [hg] at hE
            refine Ev.blk kX2_seconds_48 rfl trivial ?_
            refine Ev.cV (d1 := d - 1) (ev_secondNow hE) tX2_seconds_52 qX2_100 rfl rfl (by decide) ⟨rfl, rfl, rfl⟩ (by omega) ?_
            rintro _ _ ⟨rfl, rfl⟩
            refine Ev.iret tX2_seconds_55 rfl rfl ?_
            refine ⟨?_, ho.up, hC.now ho (D := ug (passN (sN st) k) 0) (g := g') hE⟩
            show some (mI (nI (de (passN (sN st) k)))) = _
            rw [(passN_n k).2.2.2.2.2]
          · exact absurd rfl c31
        · exact absurd (Int32.not_lt.mp hm) c24
  · have e : wSec st n = outs n (nI 1) (nI 60) := if_neg (fun z => hw z.1)
    refine Ev.blk kX2_seconds_0 rfl trivial ?_
    refine Ev.cS (d1 := d - 1) (ev_outside n (nI 1) (nI 60)) tX2_seconds_4 qX2_96 rfl ⟨rfl, rfl, rfl⟩ (by omega) ?_
    rintro _ _ ⟨rfl, rfl⟩
    refine Ev.blk kX2_seconds_7 rfl trivial ?_
    refine Ev.br tX2_seconds_9 rfl (fun c9 => ?_) (fun c9 => ?_)
    · exact bad _ (outs_rcn hw) e
    · exact absurd hw c9
theorem ev_stand (hC : KlsAt w st) (hS : SI st) (hd : 8 ≤ d) (n : Int32) : Cl l d MX2_stand [mR 0 0, mI n] w (fun r u => CP w (P_stand st n) r u) := by
  show Ev l d MX2_stand 0 [some (mR 0 0), some (mI n), none] [] w _
  obtain ⟨g, hY⟩ := hC.1
  have hI : YI (sN st) := hS.1.1
  have hse : de (sN st) ≤ 999 := hS.1.2.1
  unfold P_stand
  refine Ev.blk kX2_stand_0 rfl trivial ?_
  refine Ev.cS (d1 := d - 1) (ev_outside n (nI 0) (nI 60)) tX2_stand_4 qX2_96 rfl ⟨rfl, rfl, rfl⟩ (by omega) ?_
  rintro _ _ ⟨rfl, rfl⟩
  refine Ev.blk kX2_stand_7 rfl trivial ?_
  refine Ev.br tX2_stand_9 rfl (fun c9 => ?_) (fun c9 => ?_)
  · rw [GO_ok c9]
    obtain ⟨k, h1, h2, rfl⟩ := outs_ok (by omega) (by omega) c9
    rw [ixC (by omega)]
    refine Ev.blk kX2_stand_18 rfl trivial ?_
    refine Ev.cV (d1 := d - 1) (ev_copyFrom (y := 1) (z := 0) (by decide) hY (by omega)) tX2_stand_26 qX2_107 rfl rfl (by decide) ⟨rfl, rfl, rfl⟩ (by omega) ?_
    rintro _ _ ⟨rfl, ho, hE⟩
    rw [hS.1.can] at hE
    refine Ev.blk kX2_stand_29 rfl trivial ?_
    refine Ev.cV (d1 := d - 1) (ev_passMany hE hI (by omega) (show k < 1000 by omega) (by omega)) tX2_stand_34 qX2_103 rfl rfl (by decide) ⟨rfl, rfl, rfl⟩ (by omega) ?_
    rintro _ _ ⟨rfl, ho2, hE2⟩
    refine Ev.blk kX2_stand_37 rfl trivial ?_
    refine Ev.cV (d1 := d - 1) (ev_standingBits hE2) tX2_stand_41 qX2_111 rfl rfl (by decide) ⟨rfl, rfl, rfl⟩ (by omega) ?_
    rintro _ _ ⟨rfl, rfl⟩
    refine Ev.iret tX2_stand_44 rfl rfl ?_
    exact ⟨rfl, (ho.tr ho2).up, hC.mind (ho.tr ho2) (Or.inl rfl)⟩
  · refine Ev.blk kX2_stand_12 rfl trivial ?_
    refine Ev.cV (d1 := d - 1) (ev_ref hC (outs_rcn c9)) tX2_stand_14 qX2_39 rfl rfl (by decide) ⟨rfl, rfl, rfl⟩ (by omega) ?_
    rintro _ _ ⟨rfl, hS2, hC2⟩
    refine Ev.iret tX2_stand_17 rfl rfl ?_
    rw [GO_no c9]; exact ⟨rfl, hS2, hC2⟩
theorem ev_where (hC : KlsAt w st) (hS : SI st) (hd : 8 ≤ d) (c n : Int32) : Cl l d MX2_where [mR 0 0, mI c, mI n] w (fun r u => CP w (P_where st c n) r u) := by
  show Ev l d MX2_where 0 [some (mR 0 0), some (mI c), some (mI n), none] [] w _
  obtain ⟨g, hY⟩ := hC.1
  have hI : YI (sN st) := hS.1.1
  have hse : de (sN st) ≤ 999 := hS.1.2.1
  unfold P_where
  have bad : ∀ why, RC why → wWhere st c n = why → Ev l d MX2_where 22 [some (mR 0 0), some (mI c), some (mI n), none] [mI why] w (fun r u => CP w (GO st (wWhere st c n) (nI (dc (passN (sN st) (ix n)) (ix c)), st)) r u) := by
    intro why hr he
    rw [he, GO_no (rc_k hr).2.2]
    refine Ev.blk kX2_where_22 rfl trivial ?_
    refine Ev.br tX2_where_24 rfl (fun c24 => ?_) (fun c24 => ?_)
    · exact absurd c24 (rc_k hr).2.2
    · refine Ev.blk kX2_where_27 rfl trivial ?_
      refine Ev.cV (d1 := d - 1) (ev_ref hC hr) tX2_where_29 qX2_39 rfl rfl (by decide) ⟨rfl, rfl, rfl⟩ (by omega) ?_
      rintro _ _ ⟨rfl, hS2, hC2⟩
      refine Ev.iret tX2_where_32 rfl rfl ?_
      exact ⟨rfl, hS2, hC2⟩
  by_cases hh : hasI (sN st) c = true
  · have e : wWhere st c n = outs n (nI 0) (nI 60) := if_pos hh
    by_cases hw : outs n (nI 0) (nI 60) = nI 0
    · rw [GO_ok (e.trans hw)]
      obtain ⟨k, h1, h2, rfl⟩ := outs_ok (by omega) (by omega) hw
      obtain ⟨i, hi, rfl⟩ := hasI_of hh hI.1
      have hi8 : i < 8 := Nat.lt_of_lt_of_le hi hI.1
      rw [ixC (by omega), ixC (by omega)]
      refine Ev.blk kX2_where_0 rfl trivial ?_
      refine Ev.cV (d1 := d - 1) (ev_hasB hY hh) tX2_where_5 qX2_57 rfl rfl (by decide) ⟨rfl, rfl, rfl⟩ (by omega) ?_
      rintro _ _ ⟨rfl, rfl⟩
      refine Ev.br tX2_where_8 rfl (fun c8 => ?_) (fun c8 => ?_)
      · exact absurd c8 (by decide)
      · refine Ev.blk kX2_where_11 rfl trivial ?_
        refine Ev.cS (d1 := d - 1) (ev_outside (nI k) (nI 0) (nI 60)) tX2_where_15 qX2_96 rfl ⟨rfl, rfl, rfl⟩ (by omega) ?_
        rintro _ _ ⟨rfl, rfl⟩
        rw [hw]
        refine Ev.jmp tX2_where_18 ?_
        refine Ev.blk kX2_where_22 rfl trivial ?_
        refine Ev.br tX2_where_24 rfl (fun c24 => ?_) (fun c24 => ?_)
        · refine Ev.blk kX2_where_33 rfl trivial ?_
          refine Ev.cV (d1 := d - 1) (ev_copyFrom (y := 1) (z := 0) (by decide) hY (by omega)) tX2_where_41 qX2_107 rfl rfl (by decide) ⟨rfl, rfl, rfl⟩ (by omega) ?_
          rintro _ _ ⟨rfl, ho, hE⟩
          rw [hS.1.can] at hE
          refine Ev.blk kX2_where_44 rfl trivial ?_
          refine Ev.cV (d1 := d - 1) (ev_passMany hE hI (by omega) (show k < 1000 by omega) (by omega)) tX2_where_49 qX2_103 rfl rfl (by decide) ⟨rfl, rfl, rfl⟩ (by omega) ?_
          rintro _ _ ⟨rfl, ho2, hE2⟩
          refine Ev.blk kX2_where_52 rfl trivial ?_
          refine Ev.cV (d1 := d - 1) (ev_cellOf hE2 (hS.1.pass (by omega)) (by omega) (show i < dn (passN (sN st) k) by rw [(passN_n k).1]; exact hi)) tX2_where_57 qX2_64 rfl rfl (by decide) ⟨rfl, rfl, rfl⟩ (by omega) ?_
          rintro _ _ ⟨rfl, rfl⟩
          refine Ev.iret tX2_where_60 rfl rfl ?_
          exact ⟨rfl, (ho.tr ho2).up, hC.mind (ho.tr ho2) (Or.inl rfl)⟩
        · exact absurd rfl c24
    · skip
      refine Ev.blk kX2_where_0 rfl trivial ?_
      refine Ev.cV (d1 := d - 1) (ev_hasB hY hh) tX2_where_5 qX2_57 rfl rfl (by decide) ⟨rfl, rfl, rfl⟩ (by omega) ?_
      rintro _ _ ⟨rfl, rfl⟩
      refine Ev.br tX2_where_8 rfl (fun c8 => ?_) (fun c8 => ?_)
      · exact absurd c8 (by decide)
      · refine Ev.blk kX2_where_11 rfl trivial ?_
        refine Ev.cS (d1 := d - 1) (ev_outside n (nI 0) (nI 60)) tX2_where_15 qX2_96 rfl ⟨rfl, rfl, rfl⟩ (by omega) ?_
        rintro _ _ ⟨rfl, rfl⟩
        refine Ev.jmp tX2_where_18 ?_
        exact bad _ (outs_rcn hw) e
  · have e : wWhere st c n = -1 := if_neg hh
    refine Ev.blk kX2_where_0 rfl trivial ?_
    refine Ev.cV (d1 := d - 1) (ev_has hY c) tX2_where_5 qX2_57 rfl rfl (by decide) ⟨rfl, rfl, rfl⟩ (by omega) ?_
    rintro _ _ ⟨rfl, rfl⟩
    refine Ev.br tX2_where_8 rfl (fun c8 => ?_) (fun c8 => ?_)
    · refine Ev.blk kX2_where_21 rfl trivial ?_
      exact bad _ (Or.inl rfl) e
    · exact absurd (hasI_f hh) c8
end C2
