/-! ===== the reference's calls 4 ===== -/
section M9
variable {l : Launch} {d : Nat} {w : mW} {st : St}
theorem em_owes (hC : MdlAt w st) (hS : SI st) (hd : 5 ≤ d) (c x : Int32) : Cl l d MX3_owes [mR 11 0, mI c, mI x] w (fun r u => MP w (P_owes st c x) r u) := by
  show Ev l d MX3_owes 0 [some (mR 11 0), some (mI c), some (mI x)] [] w _
  obtain ⟨g, hM⟩ := hC.1
  have hI : YI (ug (sN st) g) := hS.1.1
  unfold P_owes
  by_cases hh : hasI (sN st) c = true
  · by_cases hx : hasI (sN st) x = true
    · obtain ⟨i, hi, rfl⟩ := hasI_of hh hI.1
      obtain ⟨j, hj, rfl⟩ := hasI_of hx hI.1
      have hi8 : i < 8 := Nat.lt_of_lt_of_le hi hI.1
      have hj8 : j < 8 := Nat.lt_of_lt_of_le hj hI.1
      have e64 : 8 * j + i < 64 := by omega
      rw [if_pos ⟨hh, hx⟩, ixC (by omega), ixC (by omega)]
      refine Ev.blk kX3_owes_0 rfl trivial ?_
      refine Ev.cV (d1 := d - 1) (em_isChildB hM hh) tX3_owes_2 qX3_106 rfl rfl (by decide) ⟨rfl, rfl, rfl⟩ (by omega) ?_
      rintro _ _ ⟨rfl, rfl⟩
      refine Ev.br tX3_owes_5 rfl (fun c5 => ?_) (fun c5 => ?_)
      · exact absurd c5 (by decide)
      · refine Ev.blk kX3_owes_8 rfl trivial ?_
        refine Ev.cV (d1 := d - 1) (em_isChildB hM hx) tX3_owes_10 qX3_106 rfl rfl (by decide) ⟨rfl, rfl, rfl⟩ (by omega) ?_
        rintro _ _ ⟨rfl, rfl⟩
        refine Ev.br tX3_owes_13 rfl (fun c13 => ?_) (fun c13 => ?_)
        · exact absurd c13 (by decide)
        · refine Ev.blk kX3_owes_16 rfl ⟨trivial, by rw [pk_mul, nI_add]; exact vinN e64 (by decide)⟩ ?_
          rw [pk_mul, nI_add, ixN (by omega), hM.r e64]
          refine Ev.jmp tX3_owes_27 ?_
          refine Ev.iret tX3_owes_35 rfl rfl ?_
          exact ⟨rfl, Sm.rf, hC⟩
    · rw [if_neg (fun z => hx z.2)]
      refine Ev.blk kX3_owes_0 rfl trivial ?_
      refine Ev.cV (d1 := d - 1) (em_isChildB hM hh) tX3_owes_2 qX3_106 rfl rfl (by decide) ⟨rfl, rfl, rfl⟩ (by omega) ?_
      rintro _ _ ⟨rfl, rfl⟩
      refine Ev.br tX3_owes_5 rfl (fun c5 => ?_) (fun c5 => ?_)
      · exact absurd c5 (by decide)
      · refine Ev.blk kX3_owes_8 rfl trivial ?_
        refine Ev.cV (d1 := d - 1) (em_isChild hM x) tX3_owes_10 qX3_106 rfl rfl (by decide) ⟨rfl, rfl, rfl⟩ (by omega) ?_
        rintro _ _ ⟨rfl, rfl⟩
        refine Ev.br tX3_owes_13 rfl (fun c13 => ?_) (fun c13 => ?_)
        · refine Ev.blk kX3_owes_30 rfl trivial ?_
          refine Ev.cV (d1 := d - 1) (em_no hC rfl1) tX3_owes_32 qX3_70 rfl rfl (by decide) ⟨rfl, rfl, rfl⟩ (by omega) ?_
          rintro _ _ ⟨rfl, hS2, hC2⟩
          refine Ev.iret tX3_owes_35 rfl rfl ?_
          exact ⟨rfl, hS2, hC2⟩
        · exact absurd (hasI_f hx) c13
  · rw [if_neg (fun z => hh z.1)]
    refine Ev.blk kX3_owes_0 rfl trivial ?_
    refine Ev.cV (d1 := d - 1) (em_isChild hM c) tX3_owes_2 qX3_106 rfl rfl (by decide) ⟨rfl, rfl, rfl⟩ (by omega) ?_
    rintro _ _ ⟨rfl, rfl⟩
    refine Ev.br tX3_owes_5 rfl (fun c5 => ?_) (fun c5 => ?_)
    · refine Ev.blk kX3_owes_30 rfl trivial ?_
      refine Ev.cV (d1 := d - 1) (em_no hC rfl1) tX3_owes_32 qX3_70 rfl rfl (by decide) ⟨rfl, rfl, rfl⟩ (by omega) ?_
      rintro _ _ ⟨rfl, hS2, hC2⟩
      refine Ev.iret tX3_owes_35 rfl rfl ?_
      exact ⟨rfl, hS2, hC2⟩
    · exact absurd (hasI_f hh) c5
theorem em_debt (hC : MdlAt w st) (hS : SI st) (hd : 5 ≤ d) (c : Int32) : Cl l d MX3_debt [mR 11 0, mI c] w (fun r u => MP w (P_debt st c) r u) := by
  show Ev l d MX3_debt 0 [some (mR 11 0), some (mI c), none, none] [] w _
  obtain ⟨g, hM⟩ := hC.1
  have hI : YI (ug (sN st) g) := hS.1.1
  by_cases hh : hasI (sN st) c = true
  · obtain ⟨i, hi, rfl⟩ := hasI_of hh hI.1
    have hi8 : i < 8 := Nat.lt_of_lt_of_le hi hI.1
    have e0 : P_debt st (nI i) = (dbt (sN st) i 8, st) := by
      unfold P_debt GH
      rw [if_pos hh, if_pos rfl, ixC (by omega)]
    rw [e0]
    have loop : Ev l d MX3_debt 18 [some (mR 11 0), some (mI (nI i)), some (mI (nI 0)), some (mI (nI 0))] [] w (fun r u => MP w (dbt (sN st) i 8, st) r u) := by
      refine Ev.for (fun j L u => u = w ∧ L = [some (mR 11 0), some (mI (nI i)), some (mI (dbt (sN st) i j)), some (mI (nI j))]) 8 ?_ ?_ 0 (Nat.zero_le _) ⟨rfl, rfl⟩
      · rintro L u ⟨rfl, rfl⟩
        refine Ev.blk kX3_debt_18 rfl trivial ?_
        refine Ev.br tX3_debt_21 rfl (fun c21 => ?_) (fun c21 => ?_)
        · refine Ev.blk kX3_debt_56 rfl trivial ?_
          refine Ev.iret tX3_debt_57 rfl rfl ?_
          exact ⟨rfl, Sm.rf, hC⟩
        · exact absurd (nI_le (Nat.le_refl _) (by decide)) c21
      · rintro j L u hj ⟨rfl, rfl⟩ k
        have x1 : 8 * i + j < 64 := by omega
        have x2 : 8 * j + i < 64 := by omega
        have r1 : mga _ 18 0 (8 * i + j) = nI (dr (sN st) (8 * i + j)) := hM.r x1
        have r2 : mga _ 18 0 (8 * j + i) = nI (dr (sN st) (8 * j + i)) := hM.r x2
        refine Ev.blk kX3_debt_18 rfl trivial ?_
        refine Ev.br tX3_debt_21 rfl (fun c21 => ?_) (fun c21 => ?_)
        · exact absurd c21 (nI_ge hj (by decide))
        · refine Ev.blk kX3_debt_24 rfl ⟨⟨trivial, by rw [pk_mul, nI_add]; exact vinN x1 (by decide)⟩, by rw [pk_mul, nI_add]; exact vinN x2 (by decide)⟩ ?_
          simp only [pk_mul, nI_add]
          rw [ixN (show 8 * i + j < 1000 by omega), ixN (show 8 * j + i < 1000 by omega), r1, r2]
          refine Ev.jmp tX3_debt_53 ?_
          exact k _ _ ⟨rfl, rfl⟩
    refine Ev.blk kX3_debt_0 rfl trivial ?_
    refine Ev.cV (d1 := d - 1) (em_isChildB hM hh) tX3_debt_2 qX3_106 rfl rfl (by decide) ⟨rfl, rfl, rfl⟩ (by omega) ?_
    rintro _ _ ⟨rfl, rfl⟩
    refine Ev.br tX3_debt_5 rfl (fun c5 => ?_) (fun c5 => ?_)
    · refine Ev.blk kX3_debt_14 rfl trivial ?_
      exact loop
    · exact absurd (show ¬ bI true = nI 0 by decide) c5
  · have e0 : P_debt st c = (nI 1000000000 - (-1), (RF st (-1)).2) := by
      unfold P_debt GH
      rw [if_neg hh, if_neg (by decide)]
    rw [e0]
    refine Ev.blk kX3_debt_0 rfl trivial ?_
    refine Ev.cV (d1 := d - 1) (em_isChild hM c) tX3_debt_2 qX3_106 rfl rfl (by decide) ⟨rfl, rfl, rfl⟩ (by omega) ?_
    rintro _ _ ⟨rfl, rfl⟩
    refine Ev.br tX3_debt_5 rfl (fun c5 => ?_) (fun c5 => ?_)
    · exact absurd (hasI_f hh) c5
    · refine Ev.blk kX3_debt_8 rfl trivial ?_
      refine Ev.cV (d1 := d - 1) (em_lower hC rfl1) tX3_debt_10 qX3_249 rfl rfl (by decide) ⟨rfl, rfl, rfl⟩ (by omega) ?_
      rintro _ _ ⟨rfl, hS2, hC2⟩
      refine Ev.iret tX3_debt_13 rfl rfl ?_
      exact ⟨rfl, hS2, hC2⟩
theorem em_why (hC : MdlAt w st) (hS : SI st) (hd : 9 ≤ d) (c n : Int32) : Cl l d MX3_why [mR 11 0, mI c, mI n] w (fun r u => MP w (P_why st c n) r u) := by
  show Ev l d MX3_why 0 [some (mR 11 0), some (mI c), some (mI n), none] [] w _
  obtain ⟨g, hM⟩ := hC.1
  have hI : YI (ug (sN st) g) := hS.1.1
  have hI0 : YI (sN st) := hS.1.1
  have hse : de (sN st) ≤ 999 := hS.1.2.1
  have bad : ∀ why, RC why → wWhy st c n = why → Ev l d MX3_why 33 [some (mR 11 0), some (mI c), some (mI n), none] [mI why] w (fun r u => MP w (P_why st c n) r u) := by
    intro why hr he
    have e0 : P_why st c n = RF st why := by
      unfold P_why
      rw [he]
      exact GO_no (rc_k hr).2.2
    rw [e0]
    refine Ev.blk kX3_why_33 rfl trivial ?_
    refine Ev.br tX3_why_35 rfl (fun c35 => ?_) (fun c35 => ?_)
    · exact absurd c35 (rc_k hr).2.2
    · refine Ev.blk kX3_why_38 rfl trivial ?_
      refine Ev.cV (d1 := d - 1) (em_no hC hr) tX3_why_40 qX3_70 rfl rfl (by decide) ⟨rfl, rfl, rfl⟩ (by omega) ?_
      rintro _ _ ⟨rfl, hS2, hC2⟩
      refine Ev.iret tX3_why_43 rfl rfl ?_
      exact ⟨rfl, hS2, hC2⟩
  by_cases hh : hasI (sN st) c = true
  · have e1 : wWhy st c n = (if ds (sN st) (ix c) = true then outs n (nI 1) (nI 60) else -3) := if_pos hh
    obtain ⟨i, hi, rfl⟩ := hasI_of hh hI.1
    have hi8 : i < 8 := Nat.lt_of_lt_of_le hi hI.1
    rw [ixC (by omega)] at e1
    have hst : mga w 16 0 i = bI (ds (sN st) i) := hM.s hi8
    by_cases hs : ds (sN st) i = true
    · rw [if_pos hs] at e1
      rw [hs] at hst
      by_cases hw : outs n (nI 1) (nI 60) = nI 0
      · obtain ⟨m, h1, h2, rfl⟩ := outs_ok (by omega) (by omega) hw
        have e0 : P_why st (nI i) (nI m) = (if alw (sN st) m i = true then (if hfr (sN st) i = true then (if wat (sN st) i m = true then nI 2 else nI 3) else nI 1) else nI 0, st) := by
          unfold P_why
          rw [e1, hw, ixC (by omega), ixC (by omega)]
          exact GO_ok rfl
        rw [e0]
        have hav : avI (sN st) m m = nI (bts (alw (sN st) m) 8) := by
          rw [avI_n (by omega), if_neg (by rw [nI_eq (by omega) (by omega)]; omega)]
        refine Ev.blk kX3_why_0 rfl trivial ?_
        refine Ev.cV (d1 := d - 1) (em_isChildB hM hh) tX3_why_2 qX3_106 rfl rfl (by decide) ⟨rfl, rfl, rfl⟩ (by omega) ?_
        rintro _ _ ⟨rfl, rfl⟩
        refine Ev.br tX3_why_5 rfl (fun c5 => ?_) (fun c5 => ?_)
        · refine Ev.blk kX3_why_12 rfl ⟨trivial, vinN hi8 (by decide)⟩ ?_
          rw [ix8 hi8, hst]
          refine Ev.br tX3_why_18 rfl (fun c18 => ?_) (fun c18 => ?_)
          · refine Ev.blk kX3_why_26 rfl trivial ?_
            refine Ev.cS (d1 := d - 1) (em_bound (nI m) (nI 1) (nI 60)) tX3_why_30 qX3_63 rfl ⟨rfl, rfl, rfl⟩ (by omega) ?_
            rintro _ _ ⟨rfl, rfl⟩
            rw [hw]
            refine Ev.blk kX3_why_33 rfl trivial ?_
            refine Ev.br tX3_why_35 rfl (fun c35 => ?_) (fun c35 => ?_)
            · refine Ev.blk kX3_why_44 rfl trivial ?_
              refine Ev.cV (d1 := d - 1) (em_goesInMind (i := 0) hM hI0 hS.1.2.2.1 (by omega) h2 (by decide) (by omega)) tX3_why_47 qX3_232 rfl rfl (by decide) ⟨rfl, rfl, rfl⟩ (by omega) ?_
              rintro _ _ ⟨rfl, oK, hE, g23, g24, g25, g26, g27⟩
              have hw2 := em_isWatched (l := l) (d := d - 1) (n := m) (i := i) hE (show YI (ug (sN st) _) from hI0) (by omega) h2 (by show de (sN st) + 60 < 100000; omega) hi
              rw [wat_g] at hw2
              refine Ev.blk kX3_why_50 rfl trivial ?_
              rw [g24, hav, b_at hi8]
              refine Ev.br tX3_why_58 rfl (fun c58 => ?_) (fun c58 => ?_)
              · have c58 : alw (sN st) m i = true := by
                  cases hz : alw (sN st) m i
                  · rw [hz] at c58; exact absurd rfl c58
                  · rfl
                rw [if_pos c58]
                refine Ev.blk kX3_why_63 rfl trivial ?_
                refine Ev.cV (d1 := d - 1) (em_isMayed hE (show YI (ug (sN st) _) from hI0) (i := i) hi) tX3_why_65 qX3_261 rfl rfl (by decide) ⟨rfl, rfl, rfl⟩ (by omega) ?_
                rintro _ _ ⟨rfl, rfl⟩
                rw [show hfr (ug (sN st) (dg (passN (sN st) m))) i = hfr (sN st) i from rfl]
                refine Ev.br tX3_why_68 rfl (fun c68 => ?_) (fun c68 => ?_)
                · rw [bI_0] at c68
                  rw [if_pos (bl_t c68)]
                  refine Ev.blk kX3_why_75 rfl trivial ?_
                  refine Ev.cV (d1 := d - 1) (hw2) tX3_why_78 qX3_264 rfl rfl (by decide) ⟨rfl, rfl, rfl⟩ (by omega) ?_
                  rintro _ _ ⟨rfl, oK2, g2, hE2⟩
                  refine Ev.br tX3_why_81 rfl (fun c81 => ?_) (fun c81 => ?_)
                  · rw [bI_0] at c81
                    rw [if_neg (by rw [c81]; decide)]
                    refine Ev.blk kX3_why_88 rfl trivial ?_
                    refine Ev.iret tX3_why_89 rfl rfl ?_
                    first
                    | exact ⟨rfl, (oK.F.tr oK2.F).lo, hC.keepF hS (oK.F.tr oK2.F) hE2⟩
                    | exact ⟨rfl, oK.F.lo, hC.keepF hS oK.F hE⟩
                  · rw [bI_0] at c81
                    rw [if_pos (bl_t c81)]
                    refine Ev.blk kX3_why_84 rfl trivial ?_
                    refine Ev.jmp tX3_why_85 ?_
                    refine Ev.iret tX3_why_89 rfl rfl ?_
                    first
                    | exact ⟨rfl, (oK.F.tr oK2.F).lo, hC.keepF hS (oK.F.tr oK2.F) hE2⟩
                    | exact ⟨rfl, oK.F.lo, hC.keepF hS oK.F hE⟩
                · rw [bI_0, Classical.not_not] at c68
                  rw [if_neg (by rw [c68]; decide)]
                  refine Ev.blk kX3_why_71 rfl trivial ?_
                  refine Ev.jmp tX3_why_72 ?_
                  refine Ev.iret tX3_why_89 rfl rfl ?_
                  first
                  | exact ⟨rfl, (oK.F.tr oK2.F).lo, hC.keepF hS (oK.F.tr oK2.F) hE2⟩
                  | exact ⟨rfl, oK.F.lo, hC.keepF hS oK.F hE⟩
              · have c58 : ¬ alw (sN st) m i = true := by
                  intro hz
                  rw [hz] at c58
                  exact c58 (by decide)
                rw [if_neg c58]
                refine Ev.blk kX3_why_61 rfl trivial ?_
                refine Ev.iret tX3_why_62 rfl rfl ?_
                exact ⟨rfl, oK.F.lo, hC.keepF hS oK.F hE⟩
            · exact absurd rfl c35
          · exact absurd (show ¬ bI true = nI 0 by decide) c18
        · exact absurd (show ¬ bI true = nI 0 by decide) c5
      · skip
        refine Ev.blk kX3_why_0 rfl trivial ?_
        refine Ev.cV (d1 := d - 1) (em_isChildB hM hh) tX3_why_2 qX3_106 rfl rfl (by decide) ⟨rfl, rfl, rfl⟩ (by omega) ?_
        rintro _ _ ⟨rfl, rfl⟩
        refine Ev.br tX3_why_5 rfl (fun c5 => ?_) (fun c5 => ?_)
        · refine Ev.blk kX3_why_12 rfl ⟨trivial, vinN hi8 (by decide)⟩ ?_
          rw [ix8 hi8, hst]
          refine Ev.br tX3_why_18 rfl (fun c18 => ?_) (fun c18 => ?_)
          · refine Ev.blk kX3_why_26 rfl trivial ?_
            refine Ev.cS (d1 := d - 1) (em_bound n (nI 1) (nI 60)) tX3_why_30 qX3_63 rfl ⟨rfl, rfl, rfl⟩ (by omega) ?_
            rintro _ _ ⟨rfl, rfl⟩
            exact bad _ (outs_rcn hw) e1
          · exact absurd (show ¬ bI true = nI 0 by decide) c18
        · exact absurd (show ¬ bI true = nI 0 by decide) c5
    · rw [if_neg hs] at e1
      rw [bl_f hs] at hst
      refine Ev.blk kX3_why_0 rfl trivial ?_
      refine Ev.cV (d1 := d - 1) (em_isChildB hM hh) tX3_why_2 qX3_106 rfl rfl (by decide) ⟨rfl, rfl, rfl⟩ (by omega) ?_
      rintro _ _ ⟨rfl, rfl⟩
      refine Ev.br tX3_why_5 rfl (fun c5 => ?_) (fun c5 => ?_)
      · refine Ev.blk kX3_why_12 rfl ⟨trivial, vinN hi8 (by decide)⟩ ?_
        rw [ix8 hi8, hst]
        refine Ev.br tX3_why_18 rfl (fun c18 => ?_) (fun c18 => ?_)
        · exact absurd rfl c18
        · refine Ev.blk kX3_why_21 rfl trivial ?_
          refine Ev.jmp tX3_why_23 ?_
          exact bad _ rfl3 e1
      · exact absurd (show ¬ bI true = nI 0 by decide) c5
  · have e : wWhy st c n = -1 := if_neg hh
    refine Ev.blk kX3_why_0 rfl trivial ?_
    refine Ev.cV (d1 := d - 1) (em_isChild hM c) tX3_why_2 qX3_106 rfl rfl (by decide) ⟨rfl, rfl, rfl⟩ (by omega) ?_
    rintro _ _ ⟨rfl, rfl⟩
    refine Ev.br tX3_why_5 rfl (fun c5 => ?_) (fun c5 => ?_)
    · exact absurd (hasI_f hh) c5
    · refine Ev.blk kX3_why_8 rfl trivial ?_
      refine Ev.jmp tX3_why_9 ?_
      exact bad _ rfl1 e
theorem em_row (hC : MdlAt w st) (hS : SI st) (hd : 5 ≤ d) (v : Int32) : Cl l d MX3_row [mR 11 0, mI v] w (fun r u => MP w (P_row st v) r u) := by
  show Ev l d MX3_row 0 [some (mR 11 0), some (mI v), none] [] w _
  have hm := hC.2.2.2.2.1
  have h20 := hS.2.2.2.1
  have bad : ∀ why, RC why → wRow st v = why → Ev l d MX3_row 24 [some (mR 11 0), some (mI v), some (mI why)] [] w (fun r u => MP w (P_row st v) r u) := by
    intro why hr he
    have e0 : P_row st v = RF st why := by
      unfold P_row
      rw [he]
      exact GO_no (rc_k hr).2.2
    rw [e0]
    refine Ev.blk kX3_row_24 rfl trivial ?_
    refine Ev.br tX3_row_25 rfl (fun c25 => ?_) (fun c25 => ?_)
    · exact absurd c25 (rc_k hr).2.2
    · refine Ev.blk kX3_row_28 rfl trivial ?_
      refine Ev.cV (d1 := d - 1) (em_no hC hr) tX3_row_30 qX3_70 rfl rfl (by decide) ⟨rfl, rfl, rfl⟩ (by omega) ?_
      rintro _ _ ⟨rfl, hS2, hC2⟩
      refine Ev.iret tX3_row_33 rfl rfl ?_
      exact ⟨rfl, hS2, hC2⟩
  by_cases hw : outs v (nI 0) (nI 8) = nI 0
  · by_cases h2 : sM st = 20
    · have e : wRow st v = -6 := if_pos ⟨hw, h2⟩
      refine Ev.blk kX3_row_0 rfl trivial ?_
      refine Ev.cS (d1 := d - 1) (em_bound v (nI 0) (nI 8)) tX3_row_4 qX3_63 rfl ⟨rfl, rfl, rfl⟩ (by omega) ?_
      rintro _ _ ⟨rfl, rfl⟩
      rw [hw]
      refine Ev.blk kX3_row_7 rfl trivial ?_
      refine Ev.br tX3_row_9 rfl (fun c9 => ?_) (fun c9 => ?_)
      · exact absurd rfl c9
      · refine Ev.blk kX3_row_12 rfl trivial ?_
        rw [hm]
        refine Ev.br tX3_row_18 rfl (fun c18 => ?_) (fun c18 => ?_)
        · exact absurd (by rw [h2]) c18
        · refine Ev.blk kX3_row_21 rfl trivial ?_
          exact bad _ (Or.inr (Or.inr (Or.inr (Or.inr rfl)))) e
    · have e : wRow st v = nI 0 := by
        unfold wRow
        rw [if_neg (fun z => h2 z.2)]
        exact hw
      obtain ⟨k, h3, h4, rfl⟩ := outs_ok (by omega) (by omega) hw
      have e0 : P_row st (nI k) = (nI (sM st + 1), vR st (va_up (sR st) (sM st) k) (sM st + 1)) := by
        unfold P_row
        rw [e, ixC (by omega)]
        exact GO_ok rfl
      rw [e0]
      have hlt : sM st < 20 := by omega
      refine Ev.blk kX3_row_0 rfl trivial ?_
      refine Ev.cS (d1 := d - 1) (em_bound (nI k) (nI 0) (nI 8)) tX3_row_4 qX3_63 rfl ⟨rfl, rfl, rfl⟩ (by omega) ?_
      rintro _ _ ⟨rfl, rfl⟩
      rw [hw]
      refine Ev.blk kX3_row_7 rfl trivial ?_
      refine Ev.br tX3_row_9 rfl (fun c9 => ?_) (fun c9 => ?_)
      · exact absurd rfl c9
      · refine Ev.blk kX3_row_12 rfl trivial ?_
        rw [hm]
        refine Ev.br tX3_row_18 rfl (fun c18 => ?_) (fun c18 => ?_)
        · refine Ev.blk kX3_row_24 rfl trivial ?_
          refine Ev.br tX3_row_25 rfl (fun c25 => ?_) (fun c25 => ?_)
          · refine Ev.blk kX3_row_34 rfl ⟨trivial, by rw [hm]; exact vinN hlt (by decide)⟩ ?_
            simp only [hm, mgf_pA, mgf_pf, nI_add]
            rw [ixN (by omega)]
            refine Ev.iret tX3_row_58 rfl rfl ?_
            refine ⟨rfl, (Sm12 (by decide)).tr SmF, ?_⟩
            obtain ⟨⟨g, b1⟩, b2, b3, b4, b5, b6, b7⟩ := hC
            refine ⟨⟨g, (b1.of (fun t a b => mga_pAn (by omega)) (fun k hk => mgf_pfn (by omega)))⟩, (mgf_pfn (by decide)).trans b2, fun hb => (b3 hb).of (by rw [mga_pf, mga_pAn (by decide)]), ⟨(mgf_pfn (by decide)).trans b4.1, ?_, b4.2.2⟩, mgf_pf, ?_, ?_⟩
            · rw [mga_pf, mga_pAn (by decide)]; exact b4.2.1
            · intro j hj
              have hj : j < sM st + 1 := hj
              rw [mga_pf, mga_pA]
              show upd (mga _ 24 0) (sM st) (nI k) j = nI (va_up (sR st) (sM st) k j)
              unfold upd va_up
              by_cases e : j = sM st
              · rw [if_pos e, if_pos e]
              · rw [if_neg e, if_neg e]
                exact b6 j (by omega)
            · rw [mga_pf, mga_pAn (by decide)]; exact b7
          · exact absurd rfl c25
        · exact absurd (by rw [nI_eq (by omega) (by omega)]; exact h2) c18
  · have e : wRow st v = outs v (nI 0) (nI 8) := if_neg (fun z => hw z.1)
    refine Ev.blk kX3_row_0 rfl trivial ?_
    refine Ev.cS (d1 := d - 1) (em_bound v (nI 0) (nI 8)) tX3_row_4 qX3_63 rfl ⟨rfl, rfl, rfl⟩ (by omega) ?_
    rintro _ _ ⟨rfl, rfl⟩
    refine Ev.blk kX3_row_7 rfl trivial ?_
    refine Ev.br tX3_row_9 rfl (fun c9 => ?_) (fun c9 => ?_)
    · exact bad _ (outs_rcn hw) e
    · exact absurd hw c9
theorem em_wrongAt {D : Yd} (hM : MYd w D) (hI : YI D) (hS : SI st) (hm : mgf w 11 0 29 = nI (sM st)) (hr : ∀ j, j < sM st → mga w 24 0 j = nI (sR st j)) (hd : 8 ≤ d) (he : de D + 20 < 100000) : Cl l d MX3_wrongAt [mR 11 0] w (fun r u => r = some (mI (oM9 (unt st D))) ∧ OffK w u ∧ ∃ g', MYd u (ug D g')) := by
  show Ev l d MX3_wrongAt 0 [some (mR 11 0), none, none] [] w _
  have h8 := hI.1
  have h20 := hS.2.2.2.1
  have hr8 := hS.2.2.2.2
  have ext : ∀ u j v z, j ≤ 20 → OffK w u → MYd u (passN D j) → KeptAt u (110 * 1) D → v = oM9 (unt st D) → Ev l d MX3_wrongAt 56 [some (mR 11 0), some (mI v), some (mI z)] [] u (fun r u => r = some (mI (oM9 (unt st D))) ∧ OffK w u ∧ ∃ g', MYd u (ug D g')) := by
    intro u j v z hj ho hE hK hv
    subst hv
    have hpn := passN_n (D := D) j
    refine Ev.blk kX3_wrongAt_56 rfl trivial ?_
    refine Ev.cV (d1 := d - 1) (em_back (b := 1) (g := dg (passN D j)) (a := da D) hK hI (by omega) (by decide) hE.g (by rw [hE.a, hpn.2.2.2.2.1])) tX3_wrongAt_59 qX3_119 rfl rfl (by decide) ⟨rfl, rfl, rfl⟩ (by omega) ?_
    rintro _ _ ⟨rfl, oB, hB⟩
    refine Ev.blk kX3_wrongAt_62 rfl trivial ?_
    refine Ev.iret tX3_wrongAt_63 rfl rfl ?_
    exact ⟨rfl, ho.tr (OffK.ofB oB), _, hB⟩
  have loop : ∀ u0, OffK w u0 → MYd u0 D → KeptAt u0 (110 * 1) D → Ev l d MX3_wrongAt 11 [some (mR 11 0), some (mI (-9)), some (mI (nI 0))] [] u0 (fun r u => r = some (mI (oM9 (unt st D))) ∧ OffK w u ∧ ∃ g', MYd u (ug D g')) := by
    intro u0 ho0 hM0 hK0
    refine Ev.for (fun j L u => OffK w u ∧ MYd u (passN D j) ∧ KeptAt u (110 * 1) D ∧ fst1 (fun k => !(cnt (ds (passN D (k + 1))) 8 == sR st k)) j = none ∧ L = [some (mR 11 0), some (mI (-9)), some (mI (nI j))]) (sM st) ?_ ?_ 0 (Nat.zero_le _) ⟨ho0, hM0, hK0, rfl, rfl⟩
    · rintro L u ⟨ho, hE, hK, h0, rfl⟩
      have hmu : mgf u 11 0 29 = nI (sM st) := (ho.1.1 11 0 29 (by decide)).trans hm
      have hu : unt st D = none := h0
      refine Ev.blk kX3_wrongAt_11 rfl trivial ?_
      rw [hmu]
      refine Ev.br tX3_wrongAt_16 rfl (fun c16 => ?_) (fun c16 => ?_)
      · exact ext _ (sM st) _ _ h20 ho hE hK (by rw [hu]; rfl)
      · exact absurd (nI_le (Nat.le_refl _) (by omega)) c16
    · rintro j L u hj ⟨ho, hE, hK, h0, rfl⟩ k
      have hmu : mgf u 11 0 29 = nI (sM st) := (ho.1.1 11 0 29 (by decide)).trans hm
      have hIj := passN_YI hI j (by omega)
      have hIj1 := passN_YI hI (j + 1) (by omega)
      have hrj := hr8 j hj
      have hcl := cnt_le (ds (passN D (j + 1))) 8
      have win : ∀ u2, OffK w u2 → MYd u2 (passN D (j + 1)) → KeptAt u2 (110 * 1) D → unt st D = some j → Ev l d MX3_wrongAt 49 [some (mR 11 0), some (mI (-9)), some (mI (nI j))] [mI (nI j)] u2 (fun r u => r = some (mI (oM9 (unt st D))) ∧ OffK w u ∧ ∃ g', MYd u (ug D g')) := by
        intro u2 ho2 hE2 hK2 hu
        have hmu2 : mgf u2 11 0 29 = nI (sM st) := (ho2.1.1 11 0 29 (by decide)).trans hm
        refine Ev.blk kX3_wrongAt_49 rfl trivial ?_
        refine Ev.jmp tX3_wrongAt_53 ?_
        refine Ev.blk kX3_wrongAt_11 rfl trivial ?_
        rw [hmu2]
        refine Ev.br tX3_wrongAt_16 rfl (fun c16 => ?_) (fun c16 => ?_)
        · exact ext _ (j + 1) _ _ (by omega) ho2 hE2 hK2 (by rw [hu]; rfl)
        · refine Ev.blk kX3_wrongAt_19 rfl trivial ?_
          refine Ev.br tX3_wrongAt_20 rfl (fun c20 => ?_) (fun c20 => ?_)
          · exact ext _ (j + 1) _ _ (by omega) ho2 hE2 hK2 (by rw [hu]; rfl)
          · exact absurd (nI_le (Nat.zero_le _) (by omega)) c20
      refine Ev.blk kX3_wrongAt_11 rfl trivial ?_
      rw [hmu]
      refine Ev.br tX3_wrongAt_16 rfl (fun c16 => ?_) (fun c16 => ?_)
      · exact absurd c16 (nI_ge hj (by omega))
      · refine Ev.blk kX3_wrongAt_19 rfl trivial ?_
        refine Ev.br tX3_wrongAt_20 rfl (fun c20 => ?_) (fun c20 => ?_)
        · exact absurd c20 (by decide)
        · refine Ev.blk kX3_wrongAt_23 rfl trivial ?_
          refine Ev.cV (d1 := d - 1) (em_goes hE hIj (by omega)) tX3_wrongAt_24 qX3_208 rfl rfl (by decide) ⟨rfl, rfl, rfl⟩ (by omega) ?_
          rintro _ _ ⟨rfl, oM, hM2⟩
          have hrr := (congrFun (oM.2 24 0 (by decide)) j).trans ((congrFun (ho.1.2 24 0 (by decide)) j).trans (hr j hj))
          refine Ev.blk kX3_wrongAt_27 rfl trivial ?_
          refine Ev.cV (d1 := d - 1) (em_standBits hM2 hIj1) tX3_wrongAt_28 qX3_214 rfl rfl (by decide) ⟨rfl, rfl, rfl⟩ (by omega) ?_
          rintro _ _ ⟨rfl, rfl⟩
          refine Ev.cS (d1 := d - 1) (em_bits (ds (pass (passN D j)))) tX3_wrongAt_31 qX3_220 rfl ⟨rfl, rfl, rfl⟩ (by omega) ?_
          rintro _ _ ⟨rfl, rfl⟩
          refine Ev.blk kX3_wrongAt_34 rfl ⟨trivial, vinN (show j < 20 by omega) (by decide)⟩ ?_
          rw [ixN (by omega), hrr]
          refine Ev.br tX3_wrongAt_40 rfl (fun c40 => ?_) (fun c40 => ?_)
          · have c40 : nI (cnt (ds (passN D (j + 1))) 8) = nI (sR st j) := c40
            rw [nI_eq (by omega) (by omega)] at c40
            refine Ev.blk kX3_wrongAt_47 rfl trivial ?_
            first
            | (refine win _ (ho.tr (OffK.ofM oM)) hM2 (hK.of (oM.2 23 0 (by decide))) ?_
               exact fst1_some h0 (by rw [show (cnt (ds (passN D (j + 1))) 8 == sR st j) = false from beq_false_of_ne c40]; rfl) hj)
            | (refine Ev.blk kX3_wrongAt_49 rfl trivial ?_
               refine Ev.jmp tX3_wrongAt_53 ?_
               exact k _ _ ⟨ho.tr (OffK.ofM oM), hM2, hK.of (oM.2 23 0 (by decide)), fst1_f h0 (by rw [show (cnt (ds (passN D (j + 1))) 8 == sR st j) = true by rw [beq_iff_eq]; exact c40]; rfl), by rw [nI_add]⟩)
          · have c40 : ¬ nI (cnt (ds (passN D (j + 1))) 8) = nI (sR st j) := c40
            rw [nI_eq (by omega) (by omega)] at c40
            refine Ev.blk kX3_wrongAt_43 rfl trivial ?_
            refine Ev.jmp tX3_wrongAt_44 ?_
            first
            | (refine win _ (ho.tr (OffK.ofM oM)) hM2 (hK.of (oM.2 23 0 (by decide))) ?_
               exact fst1_some h0 (by rw [show (cnt (ds (passN D (j + 1))) 8 == sR st j) = false from beq_false_of_ne c40]; rfl) hj)
            | (refine Ev.blk kX3_wrongAt_49 rfl trivial ?_
               refine Ev.jmp tX3_wrongAt_53 ?_
               exact k _ _ ⟨ho.tr (OffK.ofM oM), hM2, hK.of (oM.2 23 0 (by decide)), fst1_f h0 (by rw [show (cnt (ds (passN D (j + 1))) 8 == sR st j) = true by rw [beq_iff_eq]; exact c40]; rfl), by rw [nI_add]⟩)
  refine Ev.blk kX3_wrongAt_0 rfl trivial ?_
  refine Ev.cV (d1 := d - 1) (em_keep (b := 1) hM hI (by omega) (by decide)) tX3_wrongAt_3 qX3_119 rfl rfl (by decide) ⟨rfl, rfl, rfl⟩ (by omega) ?_
  rintro _ _ ⟨rfl, oV, hM1, hK1, hf1⟩
  refine Ev.blk kX3_wrongAt_6 rfl trivial ?_
  exact loop _ (OffK.ofV oV hf1) hM1 hK1
theorem em_fits (hC : MdlAt w st) (hS : SI st) (hd : 9 ≤ d) (c : Int32) : Cl l d MX3_fits [mR 11 0, mI c] w (fun r u => MP w (P_fits st c) r u) := by
  show Ev l d MX3_fits 0 [some (mR 11 0), some (mI c), none, none, none] [] w _
  obtain ⟨g, hM⟩ := hC.1
  have hI : YI (sN st) := hS.1.1
  have hse : de (sN st) ≤ 999 := hS.1.2.1
  unfold P_fits
  by_cases hh : hasI (sN st) c = true
  · obtain ⟨i, hi, rfl⟩ := hasI_of hh hI.1
    have hi8 : i < 8 := Nat.lt_of_lt_of_le hi hI.1
    have hi : i < dn (sN st) := hi
    have hci := hI.cl hi
    rw [if_pos hh, ixC (by omega)]
    have loop : Ev l d MX3_fits 26 [some (mR 11 0), some (mI (nI i)), some (mI (nI (dc (sN st) i))), some (mI (nI 0)), some (mI (nI 0))] [] w (fun r u => MP w (nI (bts (ftf st i) 24), st) r u) := by
      refine Ev.for (fun j L u => OffF w u ∧ (mgf u 11 0 29 = nI (sM st) ∧ ∀ j, j < sM st → mga u 24 0 j = nI (sR st j)) ∧ (∃ g' y, MYd u (ug (uc (sN st) (va_up (dc (sN st)) i y)) g')) ∧ L = [some (mR 11 0), some (mI (nI i)), some (mI (nI (dc (sN st) i))), some (mI (nI (bts (ftf st i) j))), some (mI (nI j))]) 24 ?_ ?_ 0 (Nat.zero_le _) ⟨OffF.rf, ⟨hC.2.2.2.2.1, hC.2.2.2.2.2.1⟩, ⟨g, dc (sN st) i, by rw [va_up_id]; exact hM⟩, rfl⟩
      · rintro L u ⟨ho, hrw, ⟨g', y, hE⟩, rfl⟩
        have hE2 := hE.pc (i := i) (x := dc (sN st) i)
        have e2 : uc (ug (uc (sN st) (va_up (dc (sN st)) i y)) g') (va_up (dc (ug (uc (sN st) (va_up (dc (sN st)) i y)) g')) i (dc (sN st) i)) = ug (sN st) g' := by
          show uc (ug (uc (sN st) (va_up (dc (sN st)) i y)) g') (va_up (va_up (dc (sN st)) i y) i (dc (sN st) i)) = _
          rw [va_up2, va_up_id]
          rfl
        rw [e2] at hE2
        refine Ev.blk kX3_fits_26 rfl trivial ?_
        refine Ev.br tX3_fits_30 rfl (fun c30 => ?_) (fun c30 => ?_)
        · refine Ev.blk kX3_fits_65 rfl ⟨trivial, vinN hi8 (by decide)⟩ ?_
          rw [ix8 hi8]
          refine Ev.iret tX3_fits_73 rfl rfl ?_
          exact ⟨rfl, (ho.tr (OffF.pA (by decide))).lo, hC.keepF hS (ho.tr (OffF.pA (by decide))) hE2⟩
        · exact absurd (nI_le (Nat.le_refl _) (by decide)) c30
      · rintro j L u hj ⟨ho, hrw, ⟨g', y, hE⟩, rfl⟩ k
        have hE2 := hE.pc (i := i) (x := j)
        have e2 : uc (ug (uc (sN st) (va_up (dc (sN st)) i y)) g') (va_up (dc (ug (uc (sN st) (va_up (dc (sN st)) i y)) g')) i j) = ug (uc (sN st) (va_up (dc (sN st)) i j)) g' := by
          show uc (ug (uc (sN st) (va_up (dc (sN st)) i y)) g') (va_up (va_up (dc (sN st)) i y) i j) = _
          rw [va_up2]
          rfl
        rw [e2] at hE2
        have hXI : YI (ug (uc (sN st) (va_up (dc (sN st)) i j)) g') := hI.uc hj
        have hwr := em_wrongAt (l := l) (d := d - 1) hE2 hXI hS hrw.1 (by rw [mga_pAn (by decide)]; exact hrw.2) (by omega) (by show de (sN st) + 20 < 100000; omega)
        rw [unt_g] at hwr
        have hor : ∀ x, nI x ||| nI 0 = nI x := fun x => by rw [nI_or, show x ||| 0 = x by simp]
        cases hu : unt st (uc (sN st) (va_up (dc (sN st)) i j)) with
        | none =>
          rw [hu] at hwr
          have hf : ftf st i j = true := by unfold ftf; rw [hu]; rfl
          have hb : bts (ftf st i) (j + 1) = bts (ftf st i) j + 2 ^ j := by
            show bts (ftf st i) j + (if ftf st i j = true then 2 ^ j else 0) = _
            rw [if_pos hf]
          refine Ev.blk kX3_fits_26 rfl trivial ?_
          refine Ev.br tX3_fits_30 rfl (fun c30 => ?_) (fun c30 => ?_)
          · exact absurd c30 (nI_ge hj (by decide))
          · refine Ev.blk kX3_fits_33 rfl ⟨trivial, vinN hi8 (by decide)⟩ ?_
            rw [ix8 hi8]
            refine Ev.cV (d1 := d - 1) (hwr) tX3_fits_43 qX3_270 rfl rfl (by decide) ⟨rfl, rfl, rfl⟩ (by omega) ?_
            rintro _ _ ⟨rfl, oK, g2, hE3⟩
            refine Ev.br tX3_fits_46 rfl (fun c46 => ?_) (fun c46 => ?_)
            · exact absurd c46 (by decide)
            · refine Ev.blk kX3_fits_49 rfl trivial ?_
              refine Ev.jmp tX3_fits_53 ?_
              refine Ev.blk kX3_fits_57 rfl trivial ?_
              refine Ev.jmp tX3_fits_62 ?_
              exact k _ _ ⟨(ho.tr (OffF.pA (by decide))).tr oK.F, ⟨(oK.1.1 11 0 29 (by decide)).trans hrw.1, by rw [oK.1.2 24 0 (by decide), mga_pAn (by decide)]; exact hrw.2⟩, ⟨g2, j, hE3⟩, by rw [hb, nI_add, ← bts_s _ _ (by omega)]⟩
        | some v =>
          rw [hu] at hwr
          have hv : v < sM st := (fst1_spec hu).1
          have hm20 := hS.2.2.2.1
          have hf : ¬ ftf st i j = true := by unfold ftf; rw [hu]; simp
          have hb : bts (ftf st i) (j + 1) = bts (ftf st i) j := by
            show bts (ftf st i) j + (if ftf st i j = true then 2 ^ j else 0) = _
            rw [if_neg hf, Nat.add_zero]
          refine Ev.blk kX3_fits_26 rfl trivial ?_
          refine Ev.br tX3_fits_30 rfl (fun c30 => ?_) (fun c30 => ?_)
          · exact absurd c30 (nI_ge hj (by decide))
          · refine Ev.blk kX3_fits_33 rfl ⟨trivial, vinN hi8 (by decide)⟩ ?_
            rw [ix8 hi8]
            refine Ev.cV (d1 := d - 1) (hwr) tX3_fits_43 qX3_270 rfl rfl (by decide) ⟨rfl, rfl, rfl⟩ (by omega) ?_
            rintro _ _ ⟨rfl, oK, g2, hE3⟩
            refine Ev.br tX3_fits_46 rfl (fun c46 => ?_) (fun c46 => ?_)
            · refine Ev.blk kX3_fits_56 rfl trivial ?_
              refine Ev.blk kX3_fits_57 rfl trivial ?_
              refine Ev.jmp tX3_fits_62 ?_
              exact k _ _ ⟨(ho.tr (OffF.pA (by decide))).tr oK.F, ⟨(oK.1.1 11 0 29 (by decide)).trans hrw.1, by rw [oK.1.2 24 0 (by decide), mga_pAn (by decide)]; exact hrw.2⟩, ⟨g2, j, hE3⟩, by rw [hb, nI_add, hor]⟩
            · exact absurd (nI_le (Nat.zero_le _) (by omega)) c46
    refine Ev.blk kX3_fits_0 rfl trivial ?_
    refine Ev.cV (d1 := d - 1) (em_isChildB hM hh) tX3_fits_2 qX3_106 rfl rfl (by decide) ⟨rfl, rfl, rfl⟩ (by omega) ?_
    rintro _ _ ⟨rfl, rfl⟩
    refine Ev.br tX3_fits_5 rfl (fun c5 => ?_) (fun c5 => ?_)
    · refine Ev.blk kX3_fits_14 rfl ⟨trivial, vinN hi8 (by decide)⟩ ?_
      rw [ix8 hi8, hM.c (j := i) hi]
      exact loop
    · exact absurd (show ¬ bI true = nI 0 by decide) c5
  · rw [if_neg hh]
    refine Ev.blk kX3_fits_0 rfl trivial ?_
    refine Ev.cV (d1 := d - 1) (em_isChild hM c) tX3_fits_2 qX3_106 rfl rfl (by decide) ⟨rfl, rfl, rfl⟩ (by omega) ?_
    rintro _ _ ⟨rfl, rfl⟩
    refine Ev.br tX3_fits_5 rfl (fun c5 => ?_) (fun c5 => ?_)
    · exact absurd (hasI_f hh) c5
    · refine Ev.blk kX3_fits_8 rfl trivial ?_
      refine Ev.cV (d1 := d - 1) (em_no hC rfl1) tX3_fits_10 qX3_70 rfl rfl (by decide) ⟨rfl, rfl, rfl⟩ (by omega) ?_
      rintro _ _ ⟨rfl, hS2, hC2⟩
      refine Ev.iret tX3_fits_13 rfl rfl ?_
      exact ⟨rfl, hS2, hC2⟩
theorem em_judge (hC : MdlAt w st) (hS : SI st) (hd : 9 ≤ d) : Cl l d MX3_judge [mR 11 0] w (fun r u => MP w (P_judge st) r u) := by
  show Ev l d MX3_judge 0 [some (mR 11 0), none] [] w _
  obtain ⟨g, hM⟩ := hC.1
  have hI : YI (ug (sN st) g) := hS.1.1
  have hse : de (sN st) ≤ 999 := hS.1.2.1
  have hwr := em_wrongAt (l := l) (d := d - 1) hM hI hS hC.2.2.2.2.1 hC.2.2.2.2.2.1 (by omega) (by show de (sN st) + 20 < 100000; omega)
  rw [unt_g] at hwr
  refine Ev.blk kX3_judge_0 rfl trivial ?_
  refine Ev.cV (d1 := d - 1) (hwr) tX3_judge_1 qX3_270 rfl rfl (by decide) ⟨rfl, rfl, rfl⟩ (by omega) ?_
  rintro _ _ ⟨rfl, oK, g2, hE⟩
  refine Ev.blk kX3_judge_4 rfl trivial ?_
  refine Ev.iret tX3_judge_11 rfl rfl ?_
  refine ⟨rfl, oK.F.lo.tr SmF, ?_⟩
  obtain ⟨⟨g3, b1⟩, b2, b3, b4, b5, b6, b7⟩ := hC.keepF hS oK.F hE
  refine ⟨⟨g3, b1.of (fun _ _ _ => rfl) (fun k hk => mgf_pfn (by omega))⟩, (mgf_pfn (by decide)).trans b2, fun hb => (b3 hb).of rfl, ⟨(mgf_pfn (by decide)).trans b4.1, b4.2⟩, mgf_pf, (fun j hj => by have hj : j < 0 := hj; omega), b7⟩
end M9
