/-! ===== the class's calls: the best of several, row, lots, image, letters ===== -/
theorem bm_no {f : Nat → Nat} {k : Nat} (h : ¬ oLt (bm f k).2 (f k) = true) : bm f (k + 1) = bm f k := if_neg h
theorem bm_yes {f : Nat → Nat} {k : Nat} (h : oLt (bm f k).2 (f k) = true) : bm f (k + 1) = (k, some (f k)) := if_pos h
section C4
variable {l : Launch} {d : Nat} {w : mW} {st : St} {D : Yd}
theorem rfl1 : RC (-1) := Or.inl rfl
theorem rfl2 : RC (-2) := Or.inr (Or.inl rfl)
theorem rfl3 : RC (-3) := Or.inr (Or.inr (Or.inl rfl))
theorem wh2_0 {a x : Int32} (h : wh2 a x = nI 0) : a = nI 0 ∧ (x = nI 0 ∨ x = nI 1) := by
  unfold wh2 at h
  split at h
  · exact absurd h (by decide)
  · rename_i hn
    refine ⟨h, ?_⟩
    by_cases h0 : x = nI 0
    · exact Or.inl h0
    · by_cases h1 : x = nI 1
      · exact Or.inr h1
      · exact absurd ⟨h, h0, h1⟩ hn
theorem wh2_rc {a x : Int32} (ha : a = nI 0 ∨ RC a) (h : ¬ wh2 a x = nI 0) : RC (wh2 a x) := by
  unfold wh2 at h ⊢
  split
  · exact rfl2
  · rename_i hn
    rw [if_neg hn] at h
    exact ha.resolve_left h
theorem ev_worth (hC : KlsAt w st) (hS : SI st) (hd : 8 ≤ d) (c : Int32) : Cl l d MX2_worth [mR 0 0, mI c] w (fun r u => CP w (P_worth st c) r u) := by
  show Ev l d MX2_worth 0 [some (mR 0 0), some (mI c), none, none] [] w _
  obtain ⟨g, hY⟩ := hC.1
  have hI : YI (ug (sN st) g) := hS.1.1
  have hI0 : YI (sN st) := hS.1.1
  have hse : de (sN st) ≤ 999 := hS.1.2.1
  have bad : ∀ why, RC why → wWorth st c = why → Ev l d MX2_worth 32 [some (mR 0 0), some (mI c), none, none] [mI why] w (fun r u => CP w (P_worth st c) r u) := by
    intro why hr he
    have e0 : P_worth st c = (nI 1000000000 - why, (RF st why).2) := by
      unfold P_worth GH
      rw [he, if_neg (rc_k hr).2.2]
    rw [e0]
    refine Ev.blk kX2_worth_32 rfl trivial ?_
    refine Ev.br tX2_worth_34 rfl (fun c34 => ?_) (fun c34 => ?_)
    · exact absurd c34 (rc_k hr).2.2
    · refine Ev.blk kX2_worth_37 rfl trivial ?_
      refine Ev.cV (d1 := d - 1) (ev_ref hC hr) tX2_worth_41 qX2_39 rfl rfl (by decide) ⟨rfl, rfl, rfl⟩ (by omega) ?_
      rintro _ _ ⟨rfl, hS2, hC2⟩
      refine Ev.blk kX2_worth_44 rfl trivial ?_
      refine Ev.iret tX2_worth_45 rfl rfl ?_
      exact ⟨rfl, hS2, hC2⟩
  by_cases hh : hasI (sN st) c = true
  · have e1 : wWorth st c = (if isC (sN st) (ix c) = true then -3 else nI 0) := if_pos hh
    obtain ⟨i, hi, rfl⟩ := hasI_of hh hI.1
    have hi8 : i < 8 := Nat.lt_of_lt_of_le hi hI.1
    rw [ixC (by omega)] at e1
    by_cases hc : isC (sN st) i = true
    · rw [if_pos hc] at e1
      refine Ev.blk kX2_worth_0 rfl trivial ?_
      refine Ev.cV (d1 := d - 1) (ev_hasB hY hh) tX2_worth_5 qX2_57 rfl rfl (by decide) ⟨rfl, rfl, rfl⟩ (by omega) ?_
      rintro _ _ ⟨rfl, rfl⟩
      refine Ev.br tX2_worth_8 rfl (fun c8 => ?_) (fun c8 => ?_)
      · refine Ev.blk kX2_worth_15 rfl trivial ?_
        refine Ev.cV (d1 := d - 1) (ev_isCatcher hY hI (by omega) hi) tX2_worth_20 qX2_140 rfl rfl (by decide) ⟨rfl, rfl, rfl⟩ (by omega) ?_
        rintro _ _ ⟨rfl, rfl⟩
        rw [show isC (ug (sN st) g) i = true from hc]
        refine Ev.br tX2_worth_23 rfl (fun c23 => ?_) (fun c23 => ?_)
        · exact absurd c23 (by decide)
        · refine Ev.blk kX2_worth_26 rfl trivial ?_
          refine Ev.jmp tX2_worth_28 ?_
          exact bad _ rfl3 e1
      · exact absurd (show ¬ bI true = nI 0 by decide) c8
    · rw [if_neg hc] at e1
      have e0 : P_worth st (nI i) = (nI (ots (ua (sN st) i) i 20) - nI (ots (sN st) i 20), st) := by
        unfold P_worth GH
        rw [e1, if_pos rfl, ixC (by omega)]
      rw [e0]
      have hua : YI (ua (sN st) i) := hI0.ua
      refine Ev.blk kX2_worth_0 rfl trivial ?_
      refine Ev.cV (d1 := d - 1) (ev_hasB hY hh) tX2_worth_5 qX2_57 rfl rfl (by decide) ⟨rfl, rfl, rfl⟩ (by omega) ?_
      rintro _ _ ⟨rfl, rfl⟩
      refine Ev.br tX2_worth_8 rfl (fun c8 => ?_) (fun c8 => ?_)
      · refine Ev.blk kX2_worth_15 rfl trivial ?_
        refine Ev.cV (d1 := d - 1) (ev_isCatcher hY hI (by omega) hi) tX2_worth_20 qX2_140 rfl rfl (by decide) ⟨rfl, rfl, rfl⟩ (by omega) ?_
        rintro _ _ ⟨rfl, rfl⟩
        rw [show isC (ug (sN st) g) i = false from bl_f hc]
        refine Ev.br tX2_worth_23 rfl (fun c23 => ?_) (fun c23 => ?_)
        · refine Ev.blk kX2_worth_31 rfl trivial ?_
          refine Ev.blk kX2_worth_32 rfl trivial ?_
          refine Ev.br tX2_worth_34 rfl (fun c34 => ?_) (fun c34 => ?_)
          · refine Ev.blk kX2_worth_46 rfl trivial ?_
            refine Ev.cV (d1 := d - 1) (ev_copyFrom (y := 1) (z := 0) (by decide) hY (by omega)) tX2_worth_54 qX2_107 rfl rfl (by decide) ⟨rfl, rfl, rfl⟩ (by omega) ?_
            rintro _ _ ⟨rfl, ho, hE⟩
            rw [hS.1.can] at hE
            refine Ev.blk kX2_worth_57 rfl trivial ?_
            refine Ev.cV (d1 := d - 1) (ev_othersStanding hE hI0 (by omega) (by omega) hi) tX2_worth_59 qX2_144 rfl rfl (by decide) ⟨rfl, rfl, rfl⟩ (by omega) ?_
            rintro _ _ ⟨rfl, ho2⟩
            obtain ⟨g2, hY2⟩ := (hC.mind (ho.tr ho2) (Or.inl rfl)).1
            refine Ev.blk kX2_worth_62 rfl trivial ?_
            refine Ev.cV (d1 := d - 1) (ev_copyFrom (y := 1) (z := 0) (by decide) hY2 (by omega)) tX2_worth_71 qX2_107 rfl rfl (by decide) ⟨rfl, rfl, rfl⟩ (by omega) ?_
            rintro _ _ ⟨rfl, ho3, hE3⟩
            rw [hS.1.can] at hE3
            refine Ev.blk kX2_worth_74 rfl trivial ?_
            refine Ev.cV (d1 := d - 1) (ev_setAside hE3 hi8) tX2_worth_79 qX2_147 rfl rfl (by decide) ⟨rfl, rfl, rfl⟩ (by omega) ?_
            rintro _ _ ⟨rfl, ho4, hE4⟩
            refine Ev.blk kX2_worth_82 rfl trivial ?_
            refine Ev.cV (d1 := d - 1) (ev_othersStanding hE4 hua (by omega) (by show de (sN st) + 20 < 100000; omega) (show i < dn (ua (sN st) i) from hi)) tX2_worth_84 qX2_144 rfl rfl (by decide) ⟨rfl, rfl, rfl⟩ (by omega) ?_
            rintro _ _ ⟨rfl, ho5⟩
            refine Ev.blk kX2_worth_87 rfl trivial ?_
            refine Ev.iret tX2_worth_89 rfl rfl ?_
            exact ⟨rfl, ((((ho.tr ho2).tr ho3).tr ho4).tr ho5).up, hC.mind ((((ho.tr ho2).tr ho3).tr ho4).tr ho5) (Or.inl rfl)⟩
          · exact absurd rfl c34
        · exact absurd rfl c23
      · exact absurd (show ¬ bI true = nI 0 by decide) c8
  · have e : wWorth st c = -1 := if_neg hh
    refine Ev.blk kX2_worth_0 rfl trivial ?_
    refine Ev.cV (d1 := d - 1) (ev_has hY c) tX2_worth_5 qX2_57 rfl rfl (by decide) ⟨rfl, rfl, rfl⟩ (by omega) ?_
    rintro _ _ ⟨rfl, rfl⟩
    refine Ev.br tX2_worth_8 rfl (fun c8 => ?_) (fun c8 => ?_)
    · exact absurd (hasI_f hh) c8
    · refine Ev.blk kX2_worth_11 rfl trivial ?_
      refine Ev.jmp tX2_worth_12 ?_
      exact bad _ rfl1 e
theorem hnf_lt (D : Yd) (i n : Nat) (hn : n ≤ 60) (k : Nat) : hnf D i n k < 1000 := by
  have := sto_le (uk D (va_up (dk D) i (4 + k))) n
  unfold hnf
  omega
theorem ev_hunt (hC : KlsAt w st) (hS : SI st) (hd : 8 ≤ d) (c n x : Int32) : Cl l d MX2_hunt [mR 0 0, mI c, mI n, mI x] w (fun r u => CP w (P_hunt st c n x) r u) := by
  show Ev l d MX2_hunt 0 [some (mR 0 0), some (mI c), some (mI n), some (mI x), none, none, none, none, none] [] w _
  obtain ⟨g, hY⟩ := hC.1
  have hI : YI (ug (sN st) g) := hS.1.1
  have hI0 : YI (sN st) := hS.1.1
  have hse : de (sN st) ≤ 999 := hS.1.2.1
  have mid : ∀ w1, (w1 = nI 0 ∨ RC w1) → wHunt st c n = w1 → Ev l d MX2_hunt 38 [some (mR 0 0), some (mI c), some (mI n), some (mI x), none, none, none, none, none] [mI w1] w (fun r u => CP w (P_hunt st c n x) r u) := by
    intro w1 hw1 he1
    have fin : ∀ why, wh2 w1 x = why → Ev l d MX2_hunt 58 [some (mR 0 0), some (mI c), some (mI n), some (mI x), some (mI why), none, none, none, none] [] w (fun r u => CP w (P_hunt st c n x) r u) := by
      intro why he
      by_cases hz : why = nI 0
      · subst hz
        obtain ⟨hq, hx⟩ := wh2_0 he
        have e0 : P_hunt st c n x = (if x = nI 0 then nI (bm (hnf (sN st) (ix c) (ix n)) 4).1 else oM1 (bm (hnf (sN st) (ix c) (ix n)) 4).2, st) := by
          unfold P_hunt
          rw [he1, he]
          exact GO_ok rfl
        rw [e0]
        rw [hq] at he1
        have hh : hasI (sN st) c = true := by
          by_cases z : hasI (sN st) c = true
          · exact z
          · unfold wHunt at he1
            rw [if_neg z] at he1
            exact absurd he1 (by decide)
        unfold wHunt at he1
        rw [if_pos hh] at he1
        have hc : isC (sN st) (ix c) = true := by
          by_cases z : isC (sN st) (ix c) = true
          · exact z
          · rw [if_neg z] at he1
            exact absurd he1 (by decide)
        rw [if_pos hc] at he1
        obtain ⟨m, h1, h2, rfl⟩ := outs_ok (by omega) (by omega) he1
        obtain ⟨i, hi, rfl⟩ := hasI_of hh hI.1
        have hi8 : i < 8 := Nat.lt_of_lt_of_le hi hI.1
        rw [ixC (by omega)] at hc ⊢
        rw [ixC (by omega)]
        have hB := hnf_lt (sN st) i m h2
        refine Ev.blk kX2_hunt_58 rfl trivial ?_
        refine Ev.br tX2_hunt_60 rfl (fun c60 => ?_) (fun c60 => absurd rfl c60)
        refine Ev.blk kX2_hunt_70 rfl trivial ?_
        have loop : ∀ z : Option mV, (z = none ∨ ∃ q, z = some (mI q)) → Ev l d MX2_hunt 79 [some (mR 0 0), some (mI (nI i)), some (mI (nI m)), some (mI x), some (mI (nI 0)), some (mI (nI 0)), some (mI (-1)), some (mI (nI 0)), z] [] w (fun r u => CP w (if x = nI 0 then nI (bm (hnf (sN st) i m) 4).1 else oM1 (bm (hnf (sN st) i m) 4).2, st) r u) := by
          intro z hz
          refine Ev.for (fun j L u => Off 1 w u ∧ ∃ z : Option mV, L = [some (mR 0 0), some (mI (nI i)), some (mI (nI m)), some (mI x), some (mI (nI 0)), some (mI (nI (bm (hnf (sN st) i m) j).1)), some (mI (oM1 (bm (hnf (sN st) i m) j).2)), some (mI (nI j)), z]) 4 ?_ ?_ 0 (Nat.zero_le _) ⟨Off.rf, z, rfl⟩
          · rintro L u ⟨ho, z, rfl⟩
            refine Ev.blk kX2_hunt_79 rfl trivial ?_
            refine Ev.br tX2_hunt_82 rfl (fun c82 => ?_) (fun c82 => ?_)
            · refine Ev.blk kX2_hunt_136 rfl trivial ?_
              refine Ev.br tX2_hunt_137 rfl (fun c137 => ?_) (fun c137 => ?_)
              · refine Ev.blk kX2_hunt_145 rfl trivial ?_
                refine Ev.iret tX2_hunt_147 rfl rfl ?_
                refine ⟨?_, ho.up, hC.mind ho (Or.inl rfl)⟩
                first
                  | (rw [if_neg c137])
                  | (rw [if_pos c137])
              · rw [Classical.not_not] at c137
                refine Ev.blk kX2_hunt_140 rfl trivial ?_
                refine Ev.jmp tX2_hunt_142 ?_
                refine Ev.iret tX2_hunt_147 rfl rfl ?_
                refine ⟨?_, ho.up, hC.mind ho (Or.inl rfl)⟩
                first
                  | (rw [if_neg c137])
                  | (rw [if_pos c137])
            · exact absurd (nI_le (Nat.le_refl _) (by decide)) c82
          · rintro j L u hj ⟨ho, z, rfl⟩ k
            have hm := bm_lt hB j
            have hv := hB j
            have hj2 := bm_fst (hnf (sN st) i m) j
            obtain ⟨g2, hY2⟩ := (hC.mind ho (Or.inl rfl)).1
            have hcmp : (oM1 (bm (hnf (sN st) i m) j).2 < nI (hnf (sN st) i m j)) = (oLt (bm (hnf (sN st) i m) j).2 (hnf (sN st) i m j) = true) := oM1_lt (fun q hq => Nat.lt_trans (hm q hq) (by decide)) (Nat.lt_trans hv (by decide))
            refine Ev.blk kX2_hunt_79 rfl trivial ?_
            refine Ev.br tX2_hunt_82 rfl (fun c82 => ?_) (fun c82 => ?_)
            · exact absurd c82 (nI_ge hj (by decide))
            · refine Ev.blk kX2_hunt_85 rfl trivial ?_
              refine Ev.cV (d1 := d - 1) (ev_copyFrom (y := 1) (z := 0) (by decide) hY2 (by omega)) tX2_hunt_93 qX2_107 rfl rfl (by decide) ⟨rfl, rfl, rfl⟩ (by omega) ?_
              rintro _ _ ⟨rfl, ho2, hE⟩
              rw [hS.1.can] at hE
              refine Ev.blk kX2_hunt_96 rfl trivial ?_
              rw [nI_add]
              refine Ev.cV (d1 := d - 1) (ev_setKind hE hI0 (by omega) hi (k := 4 + j)) tX2_hunt_105 qX2_150 rfl rfl (by decide) ⟨rfl, rfl, rfl⟩ (by omega) ?_
              rintro _ _ ⟨rfl, ho3, hE3⟩
              refine Ev.blk kX2_hunt_108 rfl trivial ?_
              refine Ev.cV (d1 := d - 1) (ev_standingOver hE3 (hI0.uk hc hj) (by omega) h2 (by show de (sN st) + m < 100000; omega)) tX2_hunt_110 qX2_125 rfl rfl (by decide) ⟨rfl, rfl, rfl⟩ (by omega) ?_
              rintro _ _ ⟨rfl, ho4, hE4⟩
              refine Ev.blk kX2_hunt_113 rfl trivial ?_
              refine Ev.br tX2_hunt_119 rfl (fun c119 => ?_) (fun c119 => ?_)
              · rw [← Int32.not_lt, show sto (uk (sN st) (va_up (dk (sN st)) i (4 + j))) m = hnf (sN st) i m j from rfl, hcmp] at c119
                refine Ev.blk kX2_hunt_130 rfl trivial ?_
                refine Ev.jmp tX2_hunt_133 ?_
                refine k _ _ ⟨((ho.tr ho2).tr ho3).tr ho4, some (mI (nI (sto (uk (sN st) (va_up (dk (sN st)) i (4 + j))) m))), ?_⟩
                first
                  | (rw [bm_no c119, nI_add])
                  | (rw [bm_yes c119, nI_add]; rfl)
              · rw [Int32.not_le, show sto (uk (sN st) (va_up (dk (sN st)) i (4 + j))) m = hnf (sN st) i m j from rfl, hcmp] at c119
                refine Ev.blk kX2_hunt_122 rfl trivial ?_
                refine Ev.blk kX2_hunt_130 rfl trivial ?_
                refine Ev.jmp tX2_hunt_133 ?_
                refine k _ _ ⟨((ho.tr ho2).tr ho3).tr ho4, some (mI (nI (sto (uk (sN st) (va_up (dk (sN st)) i (4 + j))) m))), ?_⟩
                first
                  | (rw [bm_no c119, nI_add])
                  | (rw [bm_yes c119, nI_add]; rfl)
        exact loop none (Or.inl rfl)
      · have hr : RC why := by rw [← he] at hz ⊢; exact wh2_rc hw1 hz
        have e0 : P_hunt st c n x = RF st why := by
          unfold P_hunt
          rw [he1, he]
          exact GO_no hz
        rw [e0]
        refine Ev.blk kX2_hunt_58 rfl trivial ?_
        refine Ev.br tX2_hunt_60 rfl (fun c60 => ?_) (fun c60 => ?_)
        · exact absurd c60 hz
        · refine Ev.blk kX2_hunt_63 rfl trivial ?_
          refine Ev.cV (d1 := d - 1) (ev_ref hC hr) tX2_hunt_66 qX2_39 rfl rfl (by decide) ⟨rfl, rfl, rfl⟩ (by omega) ?_
          rintro _ _ ⟨rfl, hS2, hC2⟩
          refine Ev.iret tX2_hunt_69 rfl rfl ?_
          exact ⟨rfl, hS2, hC2⟩
    refine Ev.blk kX2_hunt_38 rfl trivial ?_
    refine Ev.br tX2_hunt_42 rfl (fun c42 => ?_) (fun c42 => ?_)
    · have e : wh2 w1 x = w1 := if_neg (fun z => c42 z.1)
      exact fin _ e
    · rw [Classical.not_not] at c42
      refine Ev.blk kX2_hunt_45 rfl trivial ?_
      refine Ev.br tX2_hunt_46 rfl (fun c46 => ?_) (fun c46 => ?_)
      · have e : wh2 w1 x = w1 := if_neg (fun z => z.2.1 c46)
        exact fin _ e
      · refine Ev.blk kX2_hunt_49 rfl trivial ?_
        refine Ev.br tX2_hunt_51 rfl (fun c51 => ?_) (fun c51 => ?_)
        · have e : wh2 w1 x = w1 := if_neg (fun z => z.2.2 c51)
          exact fin _ e
        · have e : wh2 w1 x = -2 := if_pos ⟨c42, c46, c51⟩
          refine Ev.blk kX2_hunt_54 rfl trivial ?_
          exact fin _ e
  by_cases hh : hasI (sN st) c = true
  · have e1 : wHunt st c n = (if isC (sN st) (ix c) = true then outs n (nI 1) (nI 60) else -3) := if_pos hh
    obtain ⟨i, hi, rfl⟩ := hasI_of hh hI.1
    have hi8 : i < 8 := Nat.lt_of_lt_of_le hi hI.1
    rw [ixC (by omega)] at e1
    by_cases hc : isC (sN st) i = true
    · rw [if_pos hc] at e1
      refine Ev.blk kX2_hunt_0 rfl trivial ?_
      refine Ev.cV (d1 := d - 1) (ev_hasB hY hh) tX2_hunt_5 qX2_57 rfl rfl (by decide) ⟨rfl, rfl, rfl⟩ (by omega) ?_
      rintro _ _ ⟨rfl, rfl⟩
      refine Ev.br tX2_hunt_8 rfl (fun c8 => ?_) (fun c8 => ?_)
      · refine Ev.blk kX2_hunt_15 rfl trivial ?_
        refine Ev.cV (d1 := d - 1) (ev_isCatcher hY hI (by omega) hi) tX2_hunt_20 qX2_140 rfl rfl (by decide) ⟨rfl, rfl, rfl⟩ (by omega) ?_
        rintro _ _ ⟨rfl, rfl⟩
        rw [show isC (ug (sN st) g) i = true from hc]
        refine Ev.br tX2_hunt_23 rfl (fun c23 => ?_) (fun c23 => ?_)
        · refine Ev.blk kX2_hunt_31 rfl trivial ?_
          refine Ev.cS (d1 := d - 1) (ev_outside n (nI 1) (nI 60)) tX2_hunt_35 qX2_96 rfl ⟨rfl, rfl, rfl⟩ (by omega) ?_
          rintro _ _ ⟨rfl, rfl⟩
          exact mid _ (outs_rc _ _ _) e1
        · exact absurd (show ¬ bI true = nI 0 by decide) c23
      · exact absurd (show ¬ bI true = nI 0 by decide) c8
    · rw [if_neg hc] at e1
      refine Ev.blk kX2_hunt_0 rfl trivial ?_
      refine Ev.cV (d1 := d - 1) (ev_hasB hY hh) tX2_hunt_5 qX2_57 rfl rfl (by decide) ⟨rfl, rfl, rfl⟩ (by omega) ?_
      rintro _ _ ⟨rfl, rfl⟩
      refine Ev.br tX2_hunt_8 rfl (fun c8 => ?_) (fun c8 => ?_)
      · refine Ev.blk kX2_hunt_15 rfl trivial ?_
        refine Ev.cV (d1 := d - 1) (ev_isCatcher hY hI (by omega) hi) tX2_hunt_20 qX2_140 rfl rfl (by decide) ⟨rfl, rfl, rfl⟩ (by omega) ?_
        rintro _ _ ⟨rfl, rfl⟩
        rw [show isC (ug (sN st) g) i = false from bl_f hc]
        refine Ev.br tX2_hunt_23 rfl (fun c23 => ?_) (fun c23 => ?_)
        · exact absurd rfl c23
        · refine Ev.blk kX2_hunt_26 rfl trivial ?_
          refine Ev.jmp tX2_hunt_28 ?_
          exact mid _ (Or.inr rfl3) e1
      · exact absurd (show ¬ bI true = nI 0 by decide) c8
  · have e : wHunt st c n = -1 := if_neg hh
    refine Ev.blk kX2_hunt_0 rfl trivial ?_
    refine Ev.cV (d1 := d - 1) (ev_has hY c) tX2_hunt_5 qX2_57 rfl rfl (by decide) ⟨rfl, rfl, rfl⟩ (by omega) ?_
    rintro _ _ ⟨rfl, rfl⟩
    refine Ev.br tX2_hunt_8 rfl (fun c8 => ?_) (fun c8 => ?_)
    · exact absurd (hasI_f hh) c8
    · refine Ev.blk kX2_hunt_11 rfl trivial ?_
      refine Ev.jmp tX2_hunt_12 ?_
      exact mid _ (Or.inr rfl1) e
theorem ev_enough (hC : KlsAt w st) (hS : SI st) (hd : 8 ≤ d) : Cl l d MX2_enough [mR 0 0] w (fun r u => CP w (P_enough st) r u) := by
  show Ev l d MX2_enough 0 [some (mR 0 0), none] [] w _
  obtain ⟨g, hY⟩ := hC.1
  have hI : YI (sN st) := hS.1.1
  have h8 := hI.1
  have hse : de (sN st) ≤ 999 := hS.1.2.1
  have hp : hasP (ug (sN st) g) = hasP (sN st) := rfl
  unfold P_enough
  have loop : Ev l d MX2_enough 19 [some (mR 0 0), some (mI (nI 0))] [] w (fun r u => CP w (oM9 (eno (sN st)), st) r u) := by
    refine Ev.for (fun j L u => Off 1 w u ∧ fst1 (fun k => decide (dn (sN st) + k ≤ 8) && (tov (addN (sN st) k)).isSome) j = none ∧ L = [some (mR 0 0), some (mI (nI j))]) 4 ?_ ?_ 0 (Nat.zero_le _) ⟨Off.rf, rfl, rfl⟩
    · rintro L u ⟨ho, h0, rfl⟩
      refine Ev.blk kX2_enough_19 rfl trivial ?_
      refine Ev.br tX2_enough_21 rfl (fun c21 => ?_) (fun c21 => ?_)
      · refine Ev.blk kX2_enough_63 rfl trivial ?_
        refine Ev.iret tX2_enough_65 rfl rfl ?_
        refine ⟨?_, ho.up, hC.mind ho (Or.inl rfl)⟩
        unfold eno
        rw [h0]
        rfl
      · exact absurd (nI_lt (by decide) (by decide)) c21
    · rintro j L u hj ⟨ho, h0, rfl⟩ k
      obtain ⟨g2, hY2⟩ := (hC.mind ho (Or.inl rfl)).1
      by_cases hn : dn (sN st) + j ≤ 8
      · cases ht : tov (addN (sN st) j) with
        | none =>
          refine Ev.blk kX2_enough_19 rfl trivial ?_
          refine Ev.br tX2_enough_21 rfl (fun c21 => ?_) (fun c21 => ?_)
          · exact absurd c21 (nI_nlt (by omega) (by decide))
          · refine Ev.blk kX2_enough_24 rfl trivial ?_
            refine Ev.cV (d1 := d - 1) (ev_copyFrom (y := 1) (z := 0) (by decide) hY2 (by omega)) tX2_enough_32 qX2_107 rfl rfl (by decide) ⟨rfl, rfl, rfl⟩ (by omega) ?_
            rintro _ _ ⟨rfl, ho2, hE⟩
            rw [hS.1.can] at hE
            refine Ev.blk kX2_enough_35 rfl trivial ?_
            refine Ev.cV (d1 := d - 1) (ev_addCatchers hE hI (by omega) (show j ≤ 3 by omega)) tX2_enough_37 qX2_154 rfl rfl (by decide) ⟨rfl, rfl, rfl⟩ (by omega) ?_
            rintro _ _ ⟨rfl, ho3, hE3⟩
            rw [decide_eq_true hn]
            refine Ev.br tX2_enough_40 rfl (fun c40 => ?_) (fun c40 => ?_)
            · refine Ev.blk kX2_enough_46 rfl trivial ?_
              refine Ev.cV (d1 := d - 1) (ev_secondsTillOver (hE3 hn) (addN_YI hI j hn) (by omega) (by rw [addN_de]; omega)) tX2_enough_47 qX2_117 rfl rfl (by decide) ⟨rfl, rfl, rfl⟩ (by omega) ?_
              rintro _ _ ⟨rfl, ho4⟩
              rw [ht]
              refine Ev.blk kX2_enough_50 rfl trivial ?_
              refine Ev.br tX2_enough_52 rfl (fun c52 => ?_) (fun c52 => ?_)
              · refine Ev.blk kX2_enough_57 rfl trivial ?_
                refine Ev.jmp tX2_enough_60 ?_
                refine k _ _ ⟨((ho.tr ho2).tr ho3).tr ho4, ?_, by rw [nI_add]⟩
                unfold fst1
                rw [h0]
                simp only [ht]
                simp
              · exact absurd rfl c52
            · exact absurd (show ¬ bI true = nI 0 by decide) c40
        | some v =>
          have hv : v < 61 := (fst1_spec ht).1
          refine Ev.blk kX2_enough_19 rfl trivial ?_
          refine Ev.br tX2_enough_21 rfl (fun c21 => ?_) (fun c21 => ?_)
          · exact absurd c21 (nI_nlt (by omega) (by decide))
          · refine Ev.blk kX2_enough_24 rfl trivial ?_
            refine Ev.cV (d1 := d - 1) (ev_copyFrom (y := 1) (z := 0) (by decide) hY2 (by omega)) tX2_enough_32 qX2_107 rfl rfl (by decide) ⟨rfl, rfl, rfl⟩ (by omega) ?_
            rintro _ _ ⟨rfl, ho2, hE⟩
            rw [hS.1.can] at hE
            refine Ev.blk kX2_enough_35 rfl trivial ?_
            refine Ev.cV (d1 := d - 1) (ev_addCatchers hE hI (by omega) (show j ≤ 3 by omega)) tX2_enough_37 qX2_154 rfl rfl (by decide) ⟨rfl, rfl, rfl⟩ (by omega) ?_
            rintro _ _ ⟨rfl, ho3, hE3⟩
            rw [decide_eq_true hn]
            refine Ev.br tX2_enough_40 rfl (fun c40 => ?_) (fun c40 => ?_)
            · refine Ev.blk kX2_enough_46 rfl trivial ?_
              refine Ev.cV (d1 := d - 1) (ev_secondsTillOver (hE3 hn) (addN_YI hI j hn) (by omega) (by rw [addN_de]; omega)) tX2_enough_47 qX2_117 rfl rfl (by decide) ⟨rfl, rfl, rfl⟩ (by omega) ?_
              rintro _ _ ⟨rfl, ho4⟩
              rw [ht]
              refine Ev.blk kX2_enough_50 rfl trivial ?_
              refine Ev.br tX2_enough_52 rfl (fun c52 => ?_) (fun c52 => ?_)
              · exact absurd c52 (by show ¬ nI v = -9; rw [nI_m9 (by omega)]; exact id)
              · refine Ev.blk kX2_enough_55 rfl trivial ?_
                refine Ev.iret tX2_enough_56 rfl rfl ?_
                refine ⟨?_, (((ho.tr ho2).tr ho3).tr ho4).up, hC.mind (((ho.tr ho2).tr ho3).tr ho4) (Or.inl rfl)⟩
                unfold eno
                rw [fst1_some h0 (by rw [decide_eq_true hn, ht]; rfl) hj]
                rfl
            · exact absurd (show ¬ bI true = nI 0 by decide) c40
      · skip
        refine Ev.blk kX2_enough_19 rfl trivial ?_
        refine Ev.br tX2_enough_21 rfl (fun c21 => ?_) (fun c21 => ?_)
        · exact absurd c21 (nI_nlt (by omega) (by decide))
        · refine Ev.blk kX2_enough_24 rfl trivial ?_
          refine Ev.cV (d1 := d - 1) (ev_copyFrom (y := 1) (z := 0) (by decide) hY2 (by omega)) tX2_enough_32 qX2_107 rfl rfl (by decide) ⟨rfl, rfl, rfl⟩ (by omega) ?_
          rintro _ _ ⟨rfl, ho2, hE⟩
          rw [hS.1.can] at hE
          refine Ev.blk kX2_enough_35 rfl trivial ?_
          refine Ev.cV (d1 := d - 1) (ev_addCatchers hE hI (by omega) (show j ≤ 3 by omega)) tX2_enough_37 qX2_154 rfl rfl (by decide) ⟨rfl, rfl, rfl⟩ (by omega) ?_
          rintro _ _ ⟨rfl, ho3, hE3⟩
          rw [decide_eq_false hn]
          refine Ev.br tX2_enough_40 rfl (fun c40 => ?_) (fun c40 => ?_)
          · exact absurd rfl c40
          · refine Ev.blk kX2_enough_43 rfl trivial ?_
            refine Ev.iret tX2_enough_45 rfl rfl ?_
            refine ⟨?_, ((ho.tr ho2).tr ho3).up, hC.mind ((ho.tr ho2).tr ho3) (Or.inl rfl)⟩
            unfold eno
            have h4 : fst1 (fun k => decide (dn (sN st) + k ≤ 8) && (tov (addN (sN st) k)).isSome) 4 = none := by
              refine fst1_none (fun q hq => ?_)
              by_cases e : q < j
              · exact fst1_no h0 q e
              · rw [decide_eq_false (show ¬ dn (sN st) + q ≤ 8 by omega)]; rfl
            rw [h4]
            rfl
  refine Ev.blk kX2_enough_0 rfl trivial ?_
  refine Ev.cV (d1 := d - 1) (ev_hasPlayers hY hI (by omega)) tX2_enough_4 qX2_114 rfl rfl (by decide) ⟨rfl, rfl, rfl⟩ (by omega) ?_
  rintro _ _ ⟨rfl, rfl⟩
  rw [hp]
  refine Ev.br tX2_enough_7 rfl (fun c7 => ?_) (fun c7 => ?_)
  · rw [bI_0] at c7
    rw [if_pos (bl_t c7)]
    refine Ev.blk kX2_enough_17 rfl trivial ?_
    exact loop
  · rw [bI_0, Classical.not_not] at c7
    rw [if_neg (by rw [c7]; decide)]
    refine Ev.blk kX2_enough_10 rfl trivial ?_
    refine Ev.cV (d1 := d - 1) (ev_ref hC rfl3) tX2_enough_13 qX2_39 rfl rfl (by decide) ⟨rfl, rfl, rfl⟩ (by omega) ?_
    rintro _ _ ⟨rfl, hS2, hC2⟩
    refine Ev.iret tX2_enough_16 rfl rfl ?_
    exact ⟨rfl, hS2, hC2⟩
theorem chf_lt (D : Yd) (i j s : Nat) : chf D i j s < 1000 := Nat.lt_of_le_of_lt (cnt_le _ 8) (by decide)
theorem ev_change (hC : KlsAt w st) (hS : SI st) (hd : 8 ≤ d) (a b x : Int32) : Cl l d MX2_change [mR 0 0, mI a, mI b, mI x] w (fun r u => CP w (P_change st a b x) r u) := by
  show Ev l d MX2_change 0 [some (mR 0 0), some (mI a), some (mI b), some (mI x), none, none, none, none] [] w _
  obtain ⟨g, hY⟩ := hC.1
  have hI : YI (ug (sN st) g) := hS.1.1
  have hI0 : YI (sN st) := hS.1.1
  have hse : de (sN st) ≤ 999 := hS.1.2.1
  have fin : ∀ why, wh2 (wChg st a b) x = why → Ev l d MX2_change 78 [some (mR 0 0), some (mI a), some (mI b), some (mI x), some (mI why), none, none, none] [] w (fun r u => CP w (P_change st a b x) r u) := by
    intro why he
    by_cases hz : why = nI 0
    · subst hz
      obtain ⟨he1, hx⟩ := wh2_0 he
      have e0 : P_change st a b x = (if x = nI 0 then nI (bm (chf (sN st) (ix a) (ix b)) 21).1 else oM1 (bm (chf (sN st) (ix a) (ix b)) 21).2, st) := by
        unfold P_change
        rw [he]
        exact GO_ok rfl
      rw [e0]
      unfold wChg at he1
      have hh : hasI (sN st) a = true ∧ hasI (sN st) b = true := by
        by_cases z : hasI (sN st) a = true ∧ hasI (sN st) b = true
        · exact z
        · rw [if_neg z] at he1
          exact absurd he1 (by decide)
      rw [if_pos hh] at he1
      have hc : isC (sN st) (ix a) = true ∧ isC (sN st) (ix b) = false := by
        by_cases z : isC (sN st) (ix a) = true ∧ isC (sN st) (ix b) = false
        · exact z
        · rw [if_neg z] at he1
          exact absurd he1 (by decide)
      obtain ⟨i, hi, rfl⟩ := hasI_of hh.1 hI.1
      obtain ⟨j, hj, rfl⟩ := hasI_of hh.2 hI.1
      have hi : i < dn (sN st) := hi
      have hj : j < dn (sN st) := hj
      have hi8 : i < 8 := Nat.lt_of_lt_of_le hi hI.1
      have hj8 : j < 8 := Nat.lt_of_lt_of_le hj hI.1
      rw [ixC (by omega), ixC (by omega)] at hc ⊢
      have hij : i ≠ j := by intro e; subst e; rw [hc.1] at hc; exact absurd hc.2 (by decide)
      have hB := chf_lt (sN st) i j
      have loop : ∀ u0, Off 1 w u0 → YardAt u0 1 (sN st) → Ev l d MX2_change 110 [some (mR 0 0), some (mI (nI i)), some (mI (nI j)), some (mI x), some (mI (nI 0)), some (mI (nI 0)), some (mI (-1)), some (mI (nI 0))] [] u0 (fun r u => CP w (if x = nI 0 then nI (bm (chf (sN st) i j) 21).1 else oM1 (bm (chf (sN st) i j) 21).2, st) r u) := by
        intro u0 ho0 hE0
        have key : ∀ u, Sm (fun t q => ¬ ((1 ≤ t ∧ t ≤ 6) ∧ (q = 1 ∨ q = 2))) w u → KlsAt u st := fun u hs => hC.keep hs (fun t q _ h => h)
        have up : ∀ u, Sm (fun t q => ¬ ((1 ≤ t ∧ t ≤ 6) ∧ (q = 1 ∨ q = 2))) w u → Sm (fun t _ => 11 ≤ t) w u := fun u hs => hs.sub (fun t q h => by omega)
        have o1 : ∀ {u v : mW}, Off 1 u v → Sm (fun t q => ¬ ((1 ≤ t ∧ t ≤ 6) ∧ (q = 1 ∨ q = 2))) u v := fun h => h.sm.sub (fun t q h2 => by omega)
        have o2 : ∀ {u v : mW}, Off 2 u v → Sm (fun t q => ¬ ((1 ≤ t ∧ t ≤ 6) ∧ (q = 1 ∨ q = 2))) u v := fun h => h.sm.sub (fun t q h2 => by omega)
        have k2 : ∀ {u v : mW} {E : Yd}, Off 2 u v → YardAt u 1 E → YardAt v 1 E := fun h hE => hE.sm h.sm (fun t h1 h2 => by omega)
        refine Ev.for (fun s L u => Sm (fun t q => ¬ ((1 ≤ t ∧ t ≤ 6) ∧ (q = 1 ∨ q = 2))) w u ∧ YardAt u 1 (passN (sN st) s) ∧ L = [some (mR 0 0), some (mI (nI i)), some (mI (nI j)), some (mI x), some (mI (nI 0)), some (mI (nI (bm (chf (sN st) i j) s).1)), some (mI (oM1 (bm (chf (sN st) i j) s).2)), some (mI (nI s))]) 21 ?_ ?_ 0 (Nat.zero_le _) ⟨o1 ho0, hE0, rfl⟩
        · rintro L u ⟨ho, hE, rfl⟩
          refine Ev.blk kX2_change_110 rfl trivial ?_
          refine Ev.br tX2_change_114 rfl (fun c114 => ?_) (fun c114 => ?_)
          · refine Ev.blk kX2_change_187 rfl trivial ?_
            refine Ev.br tX2_change_188 rfl (fun c188 => ?_) (fun c188 => ?_)
            · refine Ev.blk kX2_change_196 rfl trivial ?_
              refine Ev.iret tX2_change_198 rfl rfl ?_
              refine ⟨?_, up _ ho, key _ ho⟩
              first
                | (rw [if_neg c188])
                | (rw [if_pos c188])
            · rw [Classical.not_not] at c188
              refine Ev.blk kX2_change_191 rfl trivial ?_
              refine Ev.jmp tX2_change_193 ?_
              refine Ev.iret tX2_change_198 rfl rfl ?_
              refine ⟨?_, up _ ho, key _ ho⟩
              first
                | (rw [if_neg c188])
                | (rw [if_pos c188])
          · exact absurd (nI_lt (by decide) (by decide)) c114
        · rintro s L u hs ⟨ho, hE, rfl⟩ k
          have hm := bm_lt hB s
          have hv := hB s
          have hIs : YI (passN (sN st) s) := hS.1.pass (by omega)
          have hns := passN_n (D := sN st) s
          have hXI : YI (exch (passN (sN st) s) i j) := hIs.exch (by rw [hns.1]; exact hi) (by rw [hns.1]; exact hj) (by unfold isC; rw [hns.2.1]; exact hc.1) (by unfold isC; rw [hns.2.1]; exact hc.2)
          obtain ⟨g3, hg3⟩ := passN_g (D := exch (passN (sN st) s) i j) (g := 0) (30 - s)
          have hcan : ua (ug (passN (sN st) s) 0) 99 = ug (passN (sN st) s) 0 := by
            refine Yd_ext rfl rfl rfl rfl rfl rfl rfl rfl rfl rfl ?_
            show 99 = da (passN (sN st) s)
            rw [hns.2.2.2.2.1]
            exact hS.1.2.2.2.symm
          have hcmp : (oM1 (bm (chf (sN st) i j) s).2 < nI (chf (sN st) i j s)) = (oLt (bm (chf (sN st) i j) s).2 (chf (sN st) i j s) = true) := oM1_lt (fun q hq => Nat.lt_trans (hm q hq) (by decide)) (Nat.lt_trans hv (by decide))
          have hde : de (exch (passN (sN st) s) i j) = de (sN st) + s := hns.2.2.2.2.2
          have hds : de (passN (sN st) s) = de (sN st) + s := hns.2.2.2.2.2
          refine Ev.blk kX2_change_110 rfl trivial ?_
          refine Ev.br tX2_change_114 rfl (fun c114 => ?_) (fun c114 => ?_)
          · exact absurd c114 (nI_nlt (by omega) (by decide))
          · refine Ev.blk kX2_change_117 rfl trivial ?_
            refine Ev.cV (d1 := d - 1) (ev_copyFrom (y := 2) (z := 1) (by decide) hE (by omega)) tX2_change_125 qX2_107 rfl rfl (by decide) ⟨rfl, rfl, rfl⟩ (by omega) ?_
            rintro _ _ ⟨rfl, ho2, hE2⟩
            rw [hcan] at hE2
            refine Ev.blk kX2_change_128 rfl trivial ?_
            refine Ev.cV (d1 := d - 1) (ev_exchange hE2 (show YI (ug (passN (sN st) s) 0) from hIs) (by omega) (show i < dn (ug (passN (sN st) s) 0) by show i < dn (passN (sN st) s); rw [hns.1]; exact hi) (show j < dn (ug (passN (sN st) s) 0) by show j < dn (passN (sN st) s); rw [hns.1]; exact hj) hij) tX2_change_134 qX2_157 rfl rfl (by decide) ⟨rfl, rfl, rfl⟩ (by omega) ?_
            rintro _ _ ⟨rfl, ho3, hE3⟩
            refine Ev.blk kX2_change_137 rfl trivial ?_
            rw [pk_sub (by omega)]
            refine Ev.cV (d1 := d - 1) (ev_passMany hE3 (show YI (ug (exch (passN (sN st) s) i j) 0) from hXI) (by omega) (show 30 - s < 1000 by omega) (by show de (exch (passN (sN st) s) i j) + (30 - s) < 100000; omega)) tX2_change_146 qX2_103 rfl rfl (by decide) ⟨rfl, rfl, rfl⟩ (by omega) ?_
            rintro _ _ ⟨rfl, ho4, hE4⟩
            have hE4 : YardAt _ 2 (passN (ug (exch (passN (sN st) s) i j) 0) (30 - s)) := hE4
            rw [hg3] at hE4
            refine Ev.blk kX2_change_149 rfl trivial ?_
            refine Ev.cV (d1 := d - 1) (ev_standingCount hE4 (by omega)) tX2_change_153 qX2_122 rfl rfl (by decide) ⟨rfl, rfl, rfl⟩ (by omega) ?_
            rintro _ _ ⟨rfl, rfl⟩
            refine Ev.blk kX2_change_156 rfl trivial ?_
            refine Ev.br tX2_change_158 rfl (fun c158 => ?_) (fun c158 => ?_)
            · rw [← Int32.not_lt, show cnt (ds (ug (passN (exch (passN (sN st) s) i j) (30 - s)) g3)) 8 = chf (sN st) i j s from rfl, hcmp] at c158
              refine Ev.blk kX2_change_174 rfl trivial ?_
              refine Ev.cV (d1 := d - 1) (ev_pass (k2 ho4 (k2 ho3 (k2 ho2 hE))) hIs (by omega)) tX2_change_178 qX2_134 rfl rfl (by decide) ⟨rfl, rfl, rfl⟩ (by omega) ?_
              rintro _ _ ⟨rfl, ho5, hE5⟩
              refine Ev.blk kX2_change_181 rfl trivial ?_
              refine Ev.jmp tX2_change_184 ?_
              refine k _ _ ⟨((((ho.tr (o2 ho2)).tr (o2 ho3)).tr (o2 ho4)).tr (o1 ho5)), hE5, ?_⟩
              first
                | (rw [bm_no c158, nI_add])
                | (rw [bm_yes c158, nI_add]; rfl)
            · rw [Int32.not_le, show cnt (ds (ug (passN (exch (passN (sN st) s) i j) (30 - s)) g3)) 8 = chf (sN st) i j s from rfl, hcmp] at c158
              refine Ev.blk kX2_change_161 rfl trivial ?_
              refine Ev.cV (d1 := d - 1) (ev_standingCount hE4 (by omega)) tX2_change_165 qX2_122 rfl rfl (by decide) ⟨rfl, rfl, rfl⟩ (by omega) ?_
              rintro _ _ ⟨rfl, rfl⟩
              refine Ev.blk kX2_change_168 rfl trivial ?_
              refine Ev.blk kX2_change_174 rfl trivial ?_
              refine Ev.cV (d1 := d - 1) (ev_pass (k2 ho4 (k2 ho3 (k2 ho2 hE))) hIs (by omega)) tX2_change_178 qX2_134 rfl rfl (by decide) ⟨rfl, rfl, rfl⟩ (by omega) ?_
              rintro _ _ ⟨rfl, ho5, hE5⟩
              refine Ev.blk kX2_change_181 rfl trivial ?_
              refine Ev.jmp tX2_change_184 ?_
              refine k _ _ ⟨((((ho.tr (o2 ho2)).tr (o2 ho3)).tr (o2 ho4)).tr (o1 ho5)), hE5, ?_⟩
              first
                | (rw [bm_no c158, nI_add])
                | (rw [bm_yes c158, nI_add]; rfl)
      refine Ev.blk kX2_change_78 rfl trivial ?_
      refine Ev.br tX2_change_80 rfl (fun c80 => ?_) (fun c80 => ?_)
      · refine Ev.blk kX2_change_90 rfl trivial ?_
        refine Ev.cV (d1 := d - 1) (ev_copyFrom (y := 1) (z := 0) (by decide) hY (by omega)) tX2_change_104 qX2_107 rfl rfl (by decide) ⟨rfl, rfl, rfl⟩ (by omega) ?_
        rintro _ _ ⟨rfl, ho, hE⟩
        rw [hS.1.can] at hE
        refine Ev.blk kX2_change_107 rfl trivial ?_
        exact loop _ ho hE
      · exact absurd rfl c80
    · have hr : RC why := by
        rw [← he] at hz ⊢
        refine wh2_rc ?_ hz
        unfold wChg
        split
        · split
          · exact Or.inl rfl
          · exact Or.inr rfl3
        · exact Or.inr rfl1
      have e0 : P_change st a b x = RF st why := by
        unfold P_change
        rw [he]
        exact GO_no hz
      rw [e0]
      refine Ev.blk kX2_change_78 rfl trivial ?_
      refine Ev.br tX2_change_80 rfl (fun c80 => ?_) (fun c80 => ?_)
      · exact absurd c80 hz
      · refine Ev.blk kX2_change_83 rfl trivial ?_
        refine Ev.cV (d1 := d - 1) (ev_ref hC hr) tX2_change_86 qX2_39 rfl rfl (by decide) ⟨rfl, rfl, rfl⟩ (by omega) ?_
        rintro _ _ ⟨rfl, hS2, hC2⟩
        refine Ev.iret tX2_change_89 rfl rfl ?_
        exact ⟨rfl, hS2, hC2⟩
  have mid : ∀ w1, wChg st a b = w1 → Ev l d MX2_change 60 [some (mR 0 0), some (mI a), some (mI b), some (mI x), some (mI w1), none, none, none] [] w (fun r u => CP w (P_change st a b x) r u) := by
    intro w1 he
    subst he
    refine Ev.blk kX2_change_60 rfl trivial ?_
    refine Ev.br tX2_change_62 rfl (fun c62 => ?_) (fun c62 => ?_)
    · have e : wh2 (wChg st a b) x = wChg st a b := if_neg (fun z => c62 z.1)
      exact fin _ e
    · rw [Classical.not_not] at c62
      refine Ev.blk kX2_change_65 rfl trivial ?_
      refine Ev.br tX2_change_66 rfl (fun c66 => ?_) (fun c66 => ?_)
      · have e : wh2 (wChg st a b) x = wChg st a b := if_neg (fun z => z.2.1 c66)
        exact fin _ e
      · refine Ev.blk kX2_change_69 rfl trivial ?_
        refine Ev.br tX2_change_71 rfl (fun c71 => ?_) (fun c71 => ?_)
        · have e : wh2 (wChg st a b) x = wChg st a b := if_neg (fun z => z.2.2 c71)
          exact fin _ e
        · have e : wh2 (wChg st a b) x = -2 := if_pos ⟨c62, c66, c71⟩
          refine Ev.blk kX2_change_74 rfl trivial ?_
          exact fin _ e
  by_cases ha : hasI (sN st) a = true
  · by_cases hb : hasI (sN st) b = true
    · have e1 : wChg st a b = (if isC (sN st) (ix a) = true ∧ isC (sN st) (ix b) = false then nI 0 else -3) := if_pos ⟨ha, hb⟩
      obtain ⟨i, hi, rfl⟩ := hasI_of ha hI.1
      obtain ⟨j, hj, rfl⟩ := hasI_of hb hI.1
      have hi8 : i < 8 := Nat.lt_of_lt_of_le hi hI.1
      have hj8 : j < 8 := Nat.lt_of_lt_of_le hj hI.1
      rw [ixC (by omega), ixC (by omega)] at e1
      by_cases hc : isC (sN st) i = true
      · by_cases hcj : isC (sN st) j = true
        · rw [if_neg (fun z => by rw [hcj] at z; exact absurd z.2 (by decide))] at e1
          refine Ev.blk kX2_change_0 rfl trivial ?_
          refine Ev.cV (d1 := d - 1) (ev_hasB hY ha) tX2_change_5 qX2_57 rfl rfl (by decide) ⟨rfl, rfl, rfl⟩ (by omega) ?_
          rintro _ _ ⟨rfl, rfl⟩
          refine Ev.br tX2_change_8 rfl (fun c8 => ?_) (fun c8 => ?_)
          · exact absurd c8 (by decide)
          · refine Ev.blk kX2_change_11 rfl trivial ?_
            refine Ev.cV (d1 := d - 1) (ev_hasB hY hb) tX2_change_16 qX2_57 rfl rfl (by decide) ⟨rfl, rfl, rfl⟩ (by omega) ?_
            rintro _ _ ⟨rfl, rfl⟩
            refine Ev.br tX2_change_19 rfl (fun c19 => ?_) (fun c19 => ?_)
            · refine Ev.blk kX2_change_26 rfl trivial ?_
              refine Ev.blk kX2_change_27 rfl trivial ?_
              refine Ev.br tX2_change_31 rfl (fun c31 => ?_) (fun c31 => ?_)
              · exact absurd rfl c31
              · refine Ev.blk kX2_change_34 rfl trivial ?_
                refine Ev.cV (d1 := d - 1) (ev_isCatcher hY hI (by omega) hi) tX2_change_39 qX2_140 rfl rfl (by decide) ⟨rfl, rfl, rfl⟩ (by omega) ?_
                rintro _ _ ⟨rfl, rfl⟩
                rw [show isC (ug (sN st) g) i = true from hc]
                refine Ev.br tX2_change_42 rfl (fun c42 => ?_) (fun c42 => ?_)
                · exact absurd c42 (by decide)
                · refine Ev.blk kX2_change_45 rfl trivial ?_
                  refine Ev.cV (d1 := d - 1) (ev_isCatcher hY hI (by omega) hj) tX2_change_50 qX2_140 rfl rfl (by decide) ⟨rfl, rfl, rfl⟩ (by omega) ?_
                  rintro _ _ ⟨rfl, rfl⟩
                  rw [show isC (ug (sN st) g) j = true from hcj]
                  refine Ev.br tX2_change_53 rfl (fun c53 => ?_) (fun c53 => ?_)
                  · exact absurd c53 (by decide)
                  · refine Ev.blk kX2_change_56 rfl trivial ?_
                    exact mid _ e1
            · exact absurd (show ¬ bI true = nI 0 by decide) c19
        · rw [if_pos ⟨hc, bl_f hcj⟩] at e1
          refine Ev.blk kX2_change_0 rfl trivial ?_
          refine Ev.cV (d1 := d - 1) (ev_hasB hY ha) tX2_change_5 qX2_57 rfl rfl (by decide) ⟨rfl, rfl, rfl⟩ (by omega) ?_
          rintro _ _ ⟨rfl, rfl⟩
          refine Ev.br tX2_change_8 rfl (fun c8 => ?_) (fun c8 => ?_)
          · exact absurd c8 (by decide)
          · refine Ev.blk kX2_change_11 rfl trivial ?_
            refine Ev.cV (d1 := d - 1) (ev_hasB hY hb) tX2_change_16 qX2_57 rfl rfl (by decide) ⟨rfl, rfl, rfl⟩ (by omega) ?_
            rintro _ _ ⟨rfl, rfl⟩
            refine Ev.br tX2_change_19 rfl (fun c19 => ?_) (fun c19 => ?_)
            · refine Ev.blk kX2_change_26 rfl trivial ?_
              refine Ev.blk kX2_change_27 rfl trivial ?_
              refine Ev.br tX2_change_31 rfl (fun c31 => ?_) (fun c31 => ?_)
              · exact absurd rfl c31
              · refine Ev.blk kX2_change_34 rfl trivial ?_
                refine Ev.cV (d1 := d - 1) (ev_isCatcher hY hI (by omega) hi) tX2_change_39 qX2_140 rfl rfl (by decide) ⟨rfl, rfl, rfl⟩ (by omega) ?_
                rintro _ _ ⟨rfl, rfl⟩
                rw [show isC (ug (sN st) g) i = true from hc]
                refine Ev.br tX2_change_42 rfl (fun c42 => ?_) (fun c42 => ?_)
                · exact absurd c42 (by decide)
                · refine Ev.blk kX2_change_45 rfl trivial ?_
                  refine Ev.cV (d1 := d - 1) (ev_isCatcher hY hI (by omega) hj) tX2_change_50 qX2_140 rfl rfl (by decide) ⟨rfl, rfl, rfl⟩ (by omega) ?_
                  rintro _ _ ⟨rfl, rfl⟩
                  rw [show isC (ug (sN st) g) j = false from bl_f hcj]
                  refine Ev.br tX2_change_53 rfl (fun c53 => ?_) (fun c53 => ?_)
                  · exact mid _ e1
                  · exact absurd rfl c53
            · exact absurd (show ¬ bI true = nI 0 by decide) c19
      · rw [if_neg (fun z => hc z.1)] at e1
        refine Ev.blk kX2_change_0 rfl trivial ?_
        refine Ev.cV (d1 := d - 1) (ev_hasB hY ha) tX2_change_5 qX2_57 rfl rfl (by decide) ⟨rfl, rfl, rfl⟩ (by omega) ?_
        rintro _ _ ⟨rfl, rfl⟩
        refine Ev.br tX2_change_8 rfl (fun c8 => ?_) (fun c8 => ?_)
        · exact absurd c8 (by decide)
        · refine Ev.blk kX2_change_11 rfl trivial ?_
          refine Ev.cV (d1 := d - 1) (ev_hasB hY hb) tX2_change_16 qX2_57 rfl rfl (by decide) ⟨rfl, rfl, rfl⟩ (by omega) ?_
          rintro _ _ ⟨rfl, rfl⟩
          refine Ev.br tX2_change_19 rfl (fun c19 => ?_) (fun c19 => ?_)
          · refine Ev.blk kX2_change_26 rfl trivial ?_
            refine Ev.blk kX2_change_27 rfl trivial ?_
            refine Ev.br tX2_change_31 rfl (fun c31 => ?_) (fun c31 => ?_)
            · exact absurd rfl c31
            · refine Ev.blk kX2_change_34 rfl trivial ?_
              refine Ev.cV (d1 := d - 1) (ev_isCatcher hY hI (by omega) hi) tX2_change_39 qX2_140 rfl rfl (by decide) ⟨rfl, rfl, rfl⟩ (by omega) ?_
              rintro _ _ ⟨rfl, rfl⟩
              rw [show isC (ug (sN st) g) i = false from bl_f hc]
              refine Ev.br tX2_change_42 rfl (fun c42 => ?_) (fun c42 => ?_)
              · refine Ev.blk kX2_change_56 rfl trivial ?_
                exact mid _ e1
              · exact absurd rfl c42
          · exact absurd (show ¬ bI true = nI 0 by decide) c19
    · have e1 : wChg st a b = -1 := if_neg (fun z => hb z.2)
      refine Ev.blk kX2_change_0 rfl trivial ?_
      refine Ev.cV (d1 := d - 1) (ev_hasB hY ha) tX2_change_5 qX2_57 rfl rfl (by decide) ⟨rfl, rfl, rfl⟩ (by omega) ?_
      rintro _ _ ⟨rfl, rfl⟩
      refine Ev.br tX2_change_8 rfl (fun c8 => ?_) (fun c8 => ?_)
      · exact absurd c8 (by decide)
      · refine Ev.blk kX2_change_11 rfl trivial ?_
        refine Ev.cV (d1 := d - 1) (ev_has hY b) tX2_change_16 qX2_57 rfl rfl (by decide) ⟨rfl, rfl, rfl⟩ (by omega) ?_
        rintro _ _ ⟨rfl, rfl⟩
        refine Ev.br tX2_change_19 rfl (fun c19 => ?_) (fun c19 => ?_)
        · exact absurd (hasI_f hb) c19
        · refine Ev.blk kX2_change_22 rfl trivial ?_
          refine Ev.jmp tX2_change_23 ?_
          refine Ev.blk kX2_change_27 rfl trivial ?_
          refine Ev.br tX2_change_31 rfl (fun c31 => ?_) (fun c31 => ?_)
          · exact mid _ e1
          · exact absurd (show ¬ (-1 : Int32) = nI 0 by decide) c31
  · have e1 : wChg st a b = -1 := if_neg (fun z => ha z.1)
    refine Ev.blk kX2_change_0 rfl trivial ?_
    refine Ev.cV (d1 := d - 1) (ev_has hY a) tX2_change_5 qX2_57 rfl rfl (by decide) ⟨rfl, rfl, rfl⟩ (by omega) ?_
    rintro _ _ ⟨rfl, rfl⟩
    refine Ev.br tX2_change_8 rfl (fun c8 => ?_) (fun c8 => ?_)
    · refine Ev.blk kX2_change_22 rfl trivial ?_
      refine Ev.jmp tX2_change_23 ?_
      refine Ev.blk kX2_change_27 rfl trivial ?_
      refine Ev.br tX2_change_31 rfl (fun c31 => ?_) (fun c31 => ?_)
      · exact mid _ e1
      · exact absurd (show ¬ (-1 : Int32) = nI 0 by decide) c31
    · exact absurd (hasI_f ha) c8
theorem lgf_lt (D : Yd) (k : Nat) : lgf D k < 1000 := by
  unfold lgf
  cases h : tov (ul D k) with
  | none => decide
  | some v =>
    have hv : v < 61 := (fst1_spec h).1
    show v < 1000
    omega
theorem ev_longest (hC : KlsAt w st) (hS : SI st) (hd : 8 ≤ d) : Cl l d MX2_longest [mR 0 0] w (fun r u => CP w (P_longest st) r u) := by
  show Ev l d MX2_longest 0 [some (mR 0 0), none, none, none, none, none] [] w _
  obtain ⟨g, hY⟩ := hC.1
  have hI : YI (sN st) := hS.1.1
  have hse : de (sN st) ≤ 999 := hS.1.2.1
  have hp : hasP (ug (sN st) g) = hasP (sN st) := rfl
  unfold P_longest
  have hB := lgf_lt (sN st)
  have loop : Ev l d MX2_longest 23 [some (mR 0 0), some (mI (nI 0)), some (mI (-1)), some (mI (nI 0)), none, none] [] w (fun r u => CP w (nI (bm (lgf (sN st)) 4).1, st) r u) := by
    refine Ev.for (fun j L u => Off 1 w u ∧ ∃ z z2 : Option mV, (z = none ∨ ∃ q, z = some (mI q)) ∧ L = [some (mR 0 0), some (mI (nI (bm (lgf (sN st)) j).1)), some (mI (oM1 (bm (lgf (sN st)) j).2)), some (mI (nI j)), z, z2]) 4 ?_ ?_ 0 (Nat.zero_le _) ⟨Off.rf, none, none, Or.inl rfl, rfl⟩
    · rintro L u ⟨ho, z, z2, hz, rfl⟩
      refine Ev.blk kX2_longest_23 rfl trivial ?_
      refine Ev.br tX2_longest_25 rfl (fun c25 => ?_) (fun c25 => ?_)
      · refine Ev.blk kX2_longest_87 rfl trivial ?_
        refine Ev.iret tX2_longest_88 rfl rfl ?_
        exact ⟨rfl, ho.up, hC.mind ho (Or.inl rfl)⟩
      · exact absurd (nI_le (Nat.le_refl _) (by decide)) c25
    · rintro j L u hj ⟨ho, z, z2, hz, rfl⟩ k
      have hm := bm_lt hB j
      have hv := hB j
      obtain ⟨g2, hY2⟩ := (hC.mind ho (Or.inl rfl)).1
      have hcmp : (oM1 (bm (lgf (sN st)) j).2 < nI (lgf (sN st) j)) = (oLt (bm (lgf (sN st)) j).2 (lgf (sN st) j) = true) := oM1_lt (fun q hq => Nat.lt_trans (hm q hq) (by decide)) (Nat.lt_trans hv (by decide))
      have mid : ∀ u2, Off 1 w u2 → ∀ z4 : Int32, Ev l d MX2_longest 68 [some (mR 0 0), some (mI (nI (bm (lgf (sN st)) j).1)), some (mI (oM1 (bm (lgf (sN st)) j).2)), some (mI (nI j)), some (mI z4), z2] [mI (nI (lgf (sN st) j))] u2 (fun r u => CP w (nI (bm (lgf (sN st)) 4).1, st) r u) := by
        intro u2 ho9 z4
        refine Ev.blk kX2_longest_68 rfl trivial ?_
        refine Ev.br tX2_longest_73 rfl (fun c73 => ?_) (fun c73 => ?_)
        · rw [← Int32.not_lt, hcmp] at c73
          refine Ev.blk kX2_longest_81 rfl trivial ?_
          refine Ev.jmp tX2_longest_84 ?_
          refine k _ _ ⟨ho9, some (mI z4), some (mI (nI (lgf (sN st) j))), Or.inr ⟨z4, rfl⟩, ?_⟩
          first
            | (rw [bm_no c73, nI_add])
            | (rw [bm_yes c73, nI_add]; rfl)
        · rw [Int32.not_le, hcmp] at c73
          refine Ev.blk kX2_longest_76 rfl trivial ?_
          refine Ev.blk kX2_longest_81 rfl trivial ?_
          refine Ev.jmp tX2_longest_84 ?_
          refine k _ _ ⟨ho9, some (mI z4), some (mI (nI (lgf (sN st) j))), Or.inr ⟨z4, rfl⟩, ?_⟩
          first
            | (rw [bm_no c73, nI_add])
            | (rw [bm_yes c73, nI_add]; rfl)
      rcases hz with rfl | ⟨q, rfl⟩
      · cases ht : tov (ul (sN st) j) with
        | none =>
          have hl : lgf (sN st) j = 61 := by unfold lgf; rw [ht]; rfl
          rw [hl] at mid
          refine Ev.blk kX2_longest_23 rfl trivial ?_
          refine Ev.br tX2_longest_25 rfl (fun c25 => ?_) (fun c25 => ?_)
          · exact absurd c25 (nI_ge hj (by decide))
          · refine Ev.blk kX2_longest_28 rfl trivial ?_
            refine Ev.cV (d1 := d - 1) (ev_copyFrom (y := 1) (z := 0) (by decide) hY2 (by omega)) tX2_longest_36 qX2_107 rfl rfl (by decide) ⟨rfl, rfl, rfl⟩ (by omega) ?_
            rintro _ _ ⟨rfl, ho2, hE⟩
            rw [hS.1.can] at hE
            refine Ev.blk kX2_longest_39 rfl trivial ?_
            refine Ev.cV (d1 := d - 1) (ev_setLaw hE hj) tX2_longest_44 qX2_89 rfl rfl (by decide) ⟨rfl, rfl, rfl⟩ (by omega) ?_
            rintro _ _ ⟨rfl, ho3, hE3⟩
            refine Ev.blk kX2_longest_47 rfl trivial ?_
            refine Ev.cV (d1 := d - 1) (ev_secondsTillOver hE3 (hI.ul hj) (by omega) (by show de (sN st) + 61 < 100000; omega)) tX2_longest_49 qX2_117 rfl rfl (by decide) ⟨rfl, rfl, rfl⟩ (by omega) ?_
            rintro _ _ ⟨rfl, ho4⟩
            rw [ht]
            refine Ev.blk kX2_longest_52 rfl trivial ?_
            refine Ev.br tX2_longest_58 rfl (fun c58 => ?_) (fun c58 => ?_)
            · exact absurd rfl c58
            · refine Ev.blk kX2_longest_61 rfl trivial ?_
              refine Ev.jmp tX2_longest_63 ?_
              exact mid _ (((ho.tr ho2).tr ho3).tr ho4) _
        | some v =>
          have hv : v < 61 := (fst1_spec ht).1
          have hl : lgf (sN st) j = v := by unfold lgf; rw [ht]; rfl
          rw [hl] at mid
          refine Ev.blk kX2_longest_23 rfl trivial ?_
          refine Ev.br tX2_longest_25 rfl (fun c25 => ?_) (fun c25 => ?_)
          · exact absurd c25 (nI_ge hj (by decide))
          · refine Ev.blk kX2_longest_28 rfl trivial ?_
            refine Ev.cV (d1 := d - 1) (ev_copyFrom (y := 1) (z := 0) (by decide) hY2 (by omega)) tX2_longest_36 qX2_107 rfl rfl (by decide) ⟨rfl, rfl, rfl⟩ (by omega) ?_
            rintro _ _ ⟨rfl, ho2, hE⟩
            rw [hS.1.can] at hE
            refine Ev.blk kX2_longest_39 rfl trivial ?_
            refine Ev.cV (d1 := d - 1) (ev_setLaw hE hj) tX2_longest_44 qX2_89 rfl rfl (by decide) ⟨rfl, rfl, rfl⟩ (by omega) ?_
            rintro _ _ ⟨rfl, ho3, hE3⟩
            refine Ev.blk kX2_longest_47 rfl trivial ?_
            refine Ev.cV (d1 := d - 1) (ev_secondsTillOver hE3 (hI.ul hj) (by omega) (by show de (sN st) + 61 < 100000; omega)) tX2_longest_49 qX2_117 rfl rfl (by decide) ⟨rfl, rfl, rfl⟩ (by omega) ?_
            rintro _ _ ⟨rfl, ho4⟩
            rw [ht]
            refine Ev.blk kX2_longest_52 rfl trivial ?_
            refine Ev.br tX2_longest_58 rfl (fun c58 => ?_) (fun c58 => ?_)
            · refine Ev.blk kX2_longest_66 rfl trivial ?_
              exact mid _ (((ho.tr ho2).tr ho3).tr ho4) _
            · exact absurd (show ¬ nI v = -9 by rw [nI_m9 (by omega)]; exact id) c58
      · cases ht : tov (ul (sN st) j) with
        | none =>
          have hl : lgf (sN st) j = 61 := by unfold lgf; rw [ht]; rfl
          rw [hl] at mid
          refine Ev.blk kX2_longest_23 rfl trivial ?_
          refine Ev.br tX2_longest_25 rfl (fun c25 => ?_) (fun c25 => ?_)
          · exact absurd c25 (nI_ge hj (by decide))
          · refine Ev.blk kX2_longest_28 rfl trivial ?_
            refine Ev.cV (d1 := d - 1) (ev_copyFrom (y := 1) (z := 0) (by decide) hY2 (by omega)) tX2_longest_36 qX2_107 rfl rfl (by decide) ⟨rfl, rfl, rfl⟩ (by omega) ?_
            rintro _ _ ⟨rfl, ho2, hE⟩
            rw [hS.1.can] at hE
            refine Ev.blk kX2_longest_39 rfl trivial ?_
            refine Ev.cV (d1 := d - 1) (ev_setLaw hE hj) tX2_longest_44 qX2_89 rfl rfl (by decide) ⟨rfl, rfl, rfl⟩ (by omega) ?_
            rintro _ _ ⟨rfl, ho3, hE3⟩
            refine Ev.blk kX2_longest_47 rfl trivial ?_
            refine Ev.cV (d1 := d - 1) (ev_secondsTillOver hE3 (hI.ul hj) (by omega) (by show de (sN st) + 61 < 100000; omega)) tX2_longest_49 qX2_117 rfl rfl (by decide) ⟨rfl, rfl, rfl⟩ (by omega) ?_
            rintro _ _ ⟨rfl, ho4⟩
            rw [ht]
            refine Ev.blk kX2_longest_52 rfl trivial ?_
            refine Ev.br tX2_longest_58 rfl (fun c58 => ?_) (fun c58 => ?_)
            · exact absurd rfl c58
            · refine Ev.blk kX2_longest_61 rfl trivial ?_
              refine Ev.jmp tX2_longest_63 ?_
              exact mid _ (((ho.tr ho2).tr ho3).tr ho4) _
        | some v =>
          have hv : v < 61 := (fst1_spec ht).1
          have hl : lgf (sN st) j = v := by unfold lgf; rw [ht]; rfl
          rw [hl] at mid
          refine Ev.blk kX2_longest_23 rfl trivial ?_
          refine Ev.br tX2_longest_25 rfl (fun c25 => ?_) (fun c25 => ?_)
          · exact absurd c25 (nI_ge hj (by decide))
          · refine Ev.blk kX2_longest_28 rfl trivial ?_
            refine Ev.cV (d1 := d - 1) (ev_copyFrom (y := 1) (z := 0) (by decide) hY2 (by omega)) tX2_longest_36 qX2_107 rfl rfl (by decide) ⟨rfl, rfl, rfl⟩ (by omega) ?_
            rintro _ _ ⟨rfl, ho2, hE⟩
            rw [hS.1.can] at hE
            refine Ev.blk kX2_longest_39 rfl trivial ?_
            refine Ev.cV (d1 := d - 1) (ev_setLaw hE hj) tX2_longest_44 qX2_89 rfl rfl (by decide) ⟨rfl, rfl, rfl⟩ (by omega) ?_
            rintro _ _ ⟨rfl, ho3, hE3⟩
            refine Ev.blk kX2_longest_47 rfl trivial ?_
            refine Ev.cV (d1 := d - 1) (ev_secondsTillOver hE3 (hI.ul hj) (by omega) (by show de (sN st) + 61 < 100000; omega)) tX2_longest_49 qX2_117 rfl rfl (by decide) ⟨rfl, rfl, rfl⟩ (by omega) ?_
            rintro _ _ ⟨rfl, ho4⟩
            rw [ht]
            refine Ev.blk kX2_longest_52 rfl trivial ?_
            refine Ev.br tX2_longest_58 rfl (fun c58 => ?_) (fun c58 => ?_)
            · refine Ev.blk kX2_longest_66 rfl trivial ?_
              exact mid _ (((ho.tr ho2).tr ho3).tr ho4) _
            · exact absurd (show ¬ nI v = -9 by rw [nI_m9 (by omega)]; exact id) c58
  refine Ev.blk kX2_longest_0 rfl trivial ?_
  refine Ev.cV (d1 := d - 1) (ev_hasPlayers hY hI (by omega)) tX2_longest_4 qX2_114 rfl rfl (by decide) ⟨rfl, rfl, rfl⟩ (by omega) ?_
  rintro _ _ ⟨rfl, rfl⟩
  rw [hp]
  refine Ev.br tX2_longest_7 rfl (fun c7 => ?_) (fun c7 => ?_)
  · rw [bI_0] at c7
    rw [if_pos (bl_t c7)]
    refine Ev.blk kX2_longest_17 rfl trivial ?_
    exact loop
  · rw [bI_0, Classical.not_not] at c7
    rw [if_neg (by rw [c7]; decide)]
    refine Ev.blk kX2_longest_10 rfl trivial ?_
    refine Ev.cV (d1 := d - 1) (ev_ref hC rfl3) tX2_longest_13 qX2_39 rfl rfl (by decide) ⟨rfl, rfl, rfl⟩ (by omega) ?_
    rintro _ _ ⟨rfl, hS2, hC2⟩
    refine Ev.iret tX2_longest_16 rfl rfl ?_
    exact ⟨rfl, hS2, hC2⟩
end C4
