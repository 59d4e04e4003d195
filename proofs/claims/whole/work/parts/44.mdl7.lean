/-! ===== the reference's calls 2 ===== -/
section M7
variable {l : Launch} {d : Nat} {w : mW} {st : St}
theorem em_isInB {v a b : Int32} {q : Bool} (h : decide (a ≤ v ∧ v ≤ b) = q) : Cl l d MX3_isIn [mI v, mI a, mI b] w (fun r u => u = w ∧ r = some (mI (bI q))) := by
  rw [← h]
  exact em_isIn v a b
theorem in01 (x : Int32) : decide (nI 0 ≤ x ∧ x ≤ nI 1) = decide (x = nI 0 ∨ x = nI 1) := by
  apply decide_eq_decide.mpr
  constructor
  · rintro ⟨h1, h2⟩
    rcases pk_ix x (n := 2) (by decide) with z | z | ⟨j, z1, z2⟩
    · exact absurd z (Int32.not_lt.mpr h1)
    · exact absurd (Int32.lt_of_lt_of_le (by decide : nI 1 < nI 2) z) (Int32.not_lt.mpr h2)
    · subst z2
      rcases (show j = 0 ∨ j = 1 by omega) with rfl | rfl
      · exact Or.inl rfl
      · exact Or.inr rfl
  · rintro (rfl | rfl) <;> decide
theorem em_over (hC : MdlAt w st) (hS : SI st) (hd : 9 ≤ d) : Cl l d MX3_over [mR 11 0] w (fun r u => MP w (P_over st) r u) := by
  show Ev l d MX3_over 0 [some (mR 11 0)] [] w _
  obtain ⟨g, hM⟩ := hC.1
  have hI : YI (ug (sN st) g) := hS.1.1
  have hse : de (sN st) ≤ 999 := hS.1.2.1
  unfold P_over
  refine Ev.blk kX3_over_0 rfl trivial ?_
  refine Ev.cV (d1 := d - 1) (em_runnersMany hM hI (by omega)) tX3_over_1 qX3_235 rfl rfl (by decide) ⟨rfl, rfl, rfl⟩ (by omega) ?_
  rintro _ _ ⟨rfl, rfl⟩
  rw [show plN (ug (sN st) g) = plN (sN st) from rfl]
  refine Ev.br tX3_over_4 rfl (fun c4 => ?_) (fun c4 => ?_)
  · rw [plN_0 hS.1.1] at c4
    have hp := bl_t c4
    rw [if_pos hp]
    have hov := em_overIn (l := l) (d := d - 1) hM hI hp (by omega) (by show de (sN st) + 61 < 100000; omega)
    rw [tov_g] at hov
    refine Ev.blk kX3_over_16 rfl trivial ?_
    refine Ev.cV (d1 := d - 1) (hov) tX3_over_17 qX3_238 rfl rfl (by decide) ⟨rfl, rfl, rfl⟩ (by omega) ?_
    rintro _ _ ⟨rfl, oK, g', hE⟩
    refine Ev.iret tX3_over_20 rfl rfl ?_
    first
    | exact ⟨rfl, hS2, hC2⟩
    | exact ⟨rfl, oK.F.lo, hC.keepF hS oK.F hE⟩
  · rw [plN_0 hS.1.1, Classical.not_not] at c4
    rw [if_neg (by rw [c4]; decide)]
    refine Ev.blk kX3_over_7 rfl trivial ?_
    refine Ev.cV (d1 := d - 1) (em_no hC rfl3) tX3_over_10 qX3_70 rfl rfl (by decide) ⟨rfl, rfl, rfl⟩ (by omega) ?_
    rintro _ _ ⟨rfl, hS2, hC2⟩
    refine Ev.jmp tX3_over_13 ?_
    refine Ev.iret tX3_over_20 rfl rfl ?_
    first
    | exact ⟨rfl, hS2, hC2⟩
    | exact ⟨rfl, oK.F.lo, hC.keepF hS oK.F hE⟩
theorem lcmp_0 {y : Nat} (hy : y < 2 ^ 31) : (lg_cmp (lN y) (lN 0) = nI 0) = (y = 0) := by
  apply propext
  unfold lg_cmp
  by_cases e : y = 0
  · subst e
    decide
  · have h : lN y > lN 0 := (lN_lt (by decide) hy).mpr (by omega)
    rw [if_pos h]
    exact ⟨fun z => absurd z (by decide), fun z => absurd z e⟩
theorem em_divisor {a b : Nat} (ha : a < 1000) (hb : b < 1000) : Cl l d MX3_divisor [mJ (lN a), mJ (lN b)] w (fun r u => u = w ∧ r = some (mJ (lN (Nat.gcd a b)))) := by
  show Ev l d MX3_divisor 0 [some (mJ (lN a)), none, some (mJ (lN b)), none, none, none, none, none, none, none] [] w _
  refine Ev.blk kX3_divisor_0 rfl trivial ?_
  have key : ∀ n x y, y ≤ n → x < 1000 → y < 1000 → Nat.gcd a b = Nat.gcd x y → ∀ z8 z9, Ev l d MX3_divisor 6 [some (mJ (lN a)), none, some (mJ (lN b)), none, some (mJ (lN x)), none, some (mJ (lN y)), none, z8, z9] [] w (fun r u => u = w ∧ r = some (mJ (lN (Nat.gcd a b)))) := by
    intro n
    induction n with
    | zero =>
      intro x y h1 h2 h3 h4 z8 z9
      have hy : y = 0 := by
        have h9 : y ≤ 0 := h1
        omega
      refine Ev.blk kX3_divisor_6 rfl trivial ?_
      refine Ev.br tX3_divisor_10 rfl (fun c10 => ?_) (fun c10 => ?_)
      · refine Ev.blk kX3_divisor_31 rfl trivial ?_
        refine Ev.lret tX3_divisor_33 rfl ?_
        exact ⟨rfl, by rw [h4, hy, Nat.gcd_zero_right]⟩
      · exact absurd (by rw [lcmp_0 (by omega)]; exact hy) c10
    | succ n ih =>
      intro x y h1 h2 h3 h4 z8 z9
      by_cases hy : y = 0
      · skip
        refine Ev.blk kX3_divisor_6 rfl trivial ?_
        refine Ev.br tX3_divisor_10 rfl (fun c10 => ?_) (fun c10 => ?_)
        · refine Ev.blk kX3_divisor_31 rfl trivial ?_
          refine Ev.lret tX3_divisor_33 rfl ?_
          exact ⟨rfl, by rw [h4, hy, Nat.gcd_zero_right]⟩
        · exact absurd (by rw [lcmp_0 (by omega)]; exact hy) c10
      · have hr : mremL (lN x) (lN y) = lN (x % y) := pk_lRem (by omega) (by omega) (by omega)
        have hm := Nat.mod_lt x (show 0 < y by omega)
        refine Ev.blk kX3_divisor_6 rfl trivial ?_
        refine Ev.br tX3_divisor_10 rfl (fun c10 => ?_) (fun c10 => ?_)
        · exact absurd c10 (by rw [lcmp_0 (by omega)]; exact hy)
        · refine Ev.blk kX3_divisor_13 rfl ⟨trivial, by intro z; exact hy ((lN_eq (by omega) (by decide)).mp z)⟩ ?_
          rw [hr]
          refine Ev.jmp tX3_divisor_28 ?_
          exact ih y (x % y) (by omega) (by omega) (by omega) (by rw [h4, Nat.gcd_comm x y, Nat.gcd_rec y x, Nat.gcd_comm]) _ _
  exact key b a b (Nat.le_refl _) ha hb rfl none none
theorem em_mean (hC : MdlAt w st) (hS : SI st) (hd : 9 ≤ d) (n x : Int32) : Cl l d MX3_mean [mR 11 0, mI n, mI x] w (fun r u => MPJ w (P_mean st n x) r u) := by
  show Ev l d MX3_mean 0 [some (mR 11 0), some (mI n), some (mI x), none, none, none, none, none] [] w _
  obtain ⟨g, hM⟩ := hC.1
  have hI : YI (sN st) := hS.1.1
  have hse : de (sN st) ≤ 999 := hS.1.2.1
  have bad : ∀ why, RC why → wh2 (outs n (nI 0) (nI 60)) x = why → Ev l d MX3_mean 24 [some (mR 11 0), some (mI n), some (mI x), some (mI why), none, none, none, none] [] w (fun r u => MPJ w (P_mean st n x) r u) := by
    intro why hr he
    have e0 : P_mean st n x = (lN 4000000000000000000 - why.toInt64, (RF st why).2) := by
      unfold P_mean
      rw [he, if_neg (rc_k hr).2.2]
    rw [e0]
    refine Ev.blk kX3_mean_24 rfl trivial ?_
    refine Ev.br tX3_mean_25 rfl (fun c25 => ?_) (fun c25 => ?_)
    · exact absurd c25 (rc_k hr).2.2
    · refine Ev.blk kX3_mean_28 rfl trivial ?_
      refine Ev.cV (d1 := d - 1) (em_lowest hC hr) tX3_mean_30 qX3_241 rfl rfl (by decide) ⟨rfl, rfl, rfl⟩ (by omega) ?_
      rintro _ _ ⟨rfl, hS2, hC2⟩
      refine Ev.lret tX3_mean_33 rfl ?_
      exact ⟨rfl, hS2, hC2⟩
  have good : outs n (nI 0) (nI 60) = nI 0 → (x = nI 0 ∨ x = nI 1) → Ev l d MX3_mean 24 [some (mR 11 0), some (mI n), some (mI x), some (mI (nI 0)), none, none, none, none] [] w (fun r u => MPJ w (P_mean st n x) r u) := by
    intro hw hx
    have e : wh2 (outs n (nI 0) (nI 60)) x = nI 0 := by
      unfold wh2
      rw [if_neg (fun z => hx.elim z.2.1 z.2.2)]
      exact hw
    unfold P_mean
    rw [if_pos e]
    obtain ⟨k, h1, h2, rfl⟩ := outs_ok (by omega) (by omega) hw
    rw [ixC (by omega)]
    have hst := sto_le (sN st) k
    have hct := cnt_le (ds (sN st)) 8
    have hS1 : mnS st (nI k) = sto (sN st) k + cnt (ds (sN st)) 8 := by
      unfold mnS
      rw [ixC (by omega), Nat.add_comm]
    rw [hS1]
    have hg0 : 0 < Nat.gcd (sto (sN st) k + cnt (ds (sN st)) 8) (k + 1) := Nat.gcd_pos_of_pos_right _ (by omega)
    have hg1 := Nat.le_of_dvd (Nat.succ_pos k) (Nat.gcd_dvd_right (sto (sN st) k + cnt (ds (sN st)) 8) (k + 1))
    have q1 : (sto (sN st) k + cnt (ds (sN st)) 8) / Nat.gcd (sto (sN st) k + cnt (ds (sN st)) 8) (k + 1) ≤ sto (sN st) k + cnt (ds (sN st)) 8 := Nat.div_le_self _ _
    have q2 : (k + 1) / Nat.gcd (sto (sN st) k + cnt (ds (sN st)) 8) (k + 1) ≤ k + 1 := Nat.div_le_self _ _
    have hd1 : lN (sto (sN st) k + cnt (ds (sN st)) 8) / lN (Nat.gcd (sto (sN st) k + cnt (ds (sN st)) 8) (k + 1)) = nJ ((sto (sN st) k + cnt (ds (sN st)) 8) / Nat.gcd (sto (sN st) k + cnt (ds (sN st)) 8) (k + 1)) := by
      unfold nJ
      rw [pk_lDiv (by omega) hg0 (by omega), nI_l (by omega)]
    have hd2 : lN (k + 1) / lN (Nat.gcd (sto (sN st) k + cnt (ds (sN st)) 8) (k + 1)) = nJ ((k + 1) / Nat.gcd (sto (sN st) k + cnt (ds (sN st)) 8) (k + 1)) := by
      unfold nJ
      rw [pk_lDiv (by omega) hg0 (by omega), nI_l (by omega)]
    have nz : ¬ lN (Nat.gcd (sto (sN st) k + cnt (ds (sN st)) 8) (k + 1)) = 0 := by
      intro z
      have := (lN_eq (b := 0) (by omega) (by decide)).mp z
      omega
    have l1 : (nI (sto (sN st) k + cnt (ds (sN st)) 8)).toInt64 = lN (sto (sN st) k + cnt (ds (sN st)) 8) := nI_l (by omega)
    have l2 : (nI (k + 1)).toInt64 = lN (k + 1) := nI_l (by omega)
    refine Ev.blk kX3_mean_24 rfl trivial ?_
    refine Ev.br tX3_mean_25 rfl (fun c25 => ?_) (fun c25 => ?_)
    · refine Ev.blk kX3_mean_34 rfl trivial ?_
      refine Ev.cV (d1 := d - 1) (em_goesInMind (i := 0) hM hI hS.1.2.2.1 (by omega) h2 (by decide) (by omega)) tX3_mean_37 qX3_232 rfl rfl (by decide) ⟨rfl, rfl, rfl⟩ (by omega) ?_
      rintro _ _ ⟨rfl, oK, hE, g23, g24, g25, g26, g27⟩
      refine Ev.blk kX3_mean_40 rfl trivial ?_
      rw [g23]
      refine Ev.cV (d1 := d - 1) (em_standBits hE (show YI (ug (sN st) _) from hI)) tX3_mean_45 qX3_214 rfl rfl (by decide) ⟨rfl, rfl, rfl⟩ (by omega) ?_
      rintro _ _ ⟨rfl, rfl⟩
      refine Ev.cS (d1 := d - 1) (em_bits (ds (sN st))) tX3_mean_48 qX3_220 rfl ⟨rfl, rfl, rfl⟩ (by omega) ?_
      rintro _ _ ⟨rfl, rfl⟩
      refine Ev.blk kX3_mean_51 rfl trivial ?_
      rw [nI_add, nI_add, l1, l2]
      refine Ev.br tX3_mean_62 rfl (fun c62 => ?_) (fun c62 => ?_)
      · refine Ev.blk kX3_mean_70 rfl trivial ?_
        refine Ev.blk kX3_mean_72 rfl trivial ?_
        refine Ev.cS (d1 := d - 1) (em_divisor (a := sto (sN st) k + cnt (ds (sN st)) 8) (b := k + 1) (by omega) (by omega)) tX3_mean_76 qX3_245 rfl ⟨rfl, rfl, rfl⟩ (by omega) ?_
        rintro _ _ ⟨rfl, rfl⟩
        refine Ev.blk kX3_mean_79 rfl ⟨trivial, nz⟩ ?_
        first
        | rw [hd2]
        | rw [hd1]
        refine Ev.lret tX3_mean_80 rfl ?_
        refine ⟨?_, oK.F.lo, hC.keepF hS oK.F hE⟩
        first
          | (rw [if_neg c62])
          | (rw [if_pos c62])
      · rw [Classical.not_not] at c62
        refine Ev.blk kX3_mean_65 rfl trivial ?_
        refine Ev.jmp tX3_mean_67 ?_
        refine Ev.blk kX3_mean_72 rfl trivial ?_
        refine Ev.cS (d1 := d - 1) (em_divisor (a := sto (sN st) k + cnt (ds (sN st)) 8) (b := k + 1) (by omega) (by omega)) tX3_mean_76 qX3_245 rfl ⟨rfl, rfl, rfl⟩ (by omega) ?_
        rintro _ _ ⟨rfl, rfl⟩
        refine Ev.blk kX3_mean_79 rfl ⟨trivial, nz⟩ ?_
        first
        | rw [hd2]
        | rw [hd1]
        refine Ev.lret tX3_mean_80 rfl ?_
        refine ⟨?_, oK.F.lo, hC.keepF hS oK.F hE⟩
        first
          | (rw [if_neg c62])
          | (rw [if_pos c62])
    · exact absurd rfl c25
  by_cases hw : outs n (nI 0) (nI 60) = nI 0
  · by_cases hx : x = nI 0 ∨ x = nI 1
    · have h01 : decide (nI 0 ≤ x ∧ x ≤ nI 1) = true := by rw [in01, decide_eq_true hx]
      refine Ev.blk kX3_mean_0 rfl trivial ?_
      refine Ev.cS (d1 := d - 1) (em_bound n (nI 0) (nI 60)) tX3_mean_4 qX3_63 rfl ⟨rfl, rfl, rfl⟩ (by omega) ?_
      rintro _ _ ⟨rfl, rfl⟩
      rw [hw]
      refine Ev.blk kX3_mean_7 rfl trivial ?_
      refine Ev.br tX3_mean_9 rfl (fun c9 => ?_) (fun c9 => ?_)
      · exact absurd rfl c9
      · refine Ev.blk kX3_mean_12 rfl trivial ?_
        refine Ev.cS (d1 := d - 1) (em_isInB h01) tX3_mean_15 qX3_81 rfl ⟨rfl, rfl, rfl⟩ (by omega) ?_
        rintro _ _ ⟨rfl, rfl⟩
        refine Ev.br tX3_mean_18 rfl (fun c18 => ?_) (fun c18 => ?_)
        · exact good hw hx
        · exact absurd (show ¬ bI true = nI 0 by decide) c18
    · have h01 : decide (nI 0 ≤ x ∧ x ≤ nI 1) = false := by rw [in01, decide_eq_false hx]
      have e : wh2 (outs n (nI 0) (nI 60)) x = -2 := if_pos ⟨hw, fun z => hx (Or.inl z), fun z => hx (Or.inr z)⟩
      refine Ev.blk kX3_mean_0 rfl trivial ?_
      refine Ev.cS (d1 := d - 1) (em_bound n (nI 0) (nI 60)) tX3_mean_4 qX3_63 rfl ⟨rfl, rfl, rfl⟩ (by omega) ?_
      rintro _ _ ⟨rfl, rfl⟩
      rw [hw]
      refine Ev.blk kX3_mean_7 rfl trivial ?_
      refine Ev.br tX3_mean_9 rfl (fun c9 => ?_) (fun c9 => ?_)
      · exact absurd rfl c9
      · refine Ev.blk kX3_mean_12 rfl trivial ?_
        refine Ev.cS (d1 := d - 1) (em_isInB h01) tX3_mean_15 qX3_81 rfl ⟨rfl, rfl, rfl⟩ (by omega) ?_
        rintro _ _ ⟨rfl, rfl⟩
        refine Ev.br tX3_mean_18 rfl (fun c18 => ?_) (fun c18 => ?_)
        · exact absurd rfl c18
        · refine Ev.blk kX3_mean_21 rfl trivial ?_
          exact bad _ rfl2 e
  · have e : wh2 (outs n (nI 0) (nI 60)) x = outs n (nI 0) (nI 60) := if_neg (fun z => hw z.1)
    refine Ev.blk kX3_mean_0 rfl trivial ?_
    refine Ev.cS (d1 := d - 1) (em_bound n (nI 0) (nI 60)) tX3_mean_4 qX3_63 rfl ⟨rfl, rfl, rfl⟩ (by omega) ?_
    rintro _ _ ⟨rfl, rfl⟩
    refine Ev.blk kX3_mean_7 rfl trivial ?_
    refine Ev.br tX3_mean_9 rfl (fun c9 => ?_) (fun c9 => ?_)
    · exact bad _ (outs_rcn hw) e
    · exact absurd hw c9
theorem em_worth (hC : MdlAt w st) (hS : SI st) (hd : 9 ≤ d) (c : Int32) : Cl l d MX3_worth [mR 11 0, mI c] w (fun r u => MP w (P_worth st c) r u) := by
  show Ev l d MX3_worth 0 [some (mR 11 0), some (mI c), none, none] [] w _
  obtain ⟨g, hM⟩ := hC.1
  have hI : YI (ug (sN st) g) := hS.1.1
  have hse : de (sN st) ≤ 999 := hS.1.2.1
  by_cases hh : hasI (sN st) c = true
  · have e1 : wWorth st c = (if isC (sN st) (ix c) = true then -3 else nI 0) := if_pos hh
    obtain ⟨i, hi, rfl⟩ := hasI_of hh hI.1
    have hi8 : i < 8 := Nat.lt_of_lt_of_le hi hI.1
    rw [ixC (by omega)] at e1
    by_cases hc : isC (sN st) i = true
    · rw [if_pos hc] at e1
      have e0 : P_worth st (nI i) = (nI 1000000000 - (-3), (RF st (-3)).2) := by
        unfold P_worth GH
        rw [e1, if_neg (by decide)]
      rw [e0]
      refine Ev.blk kX3_worth_0 rfl trivial ?_
      refine Ev.cV (d1 := d - 1) (em_isChildB hM hh) tX3_worth_2 qX3_106 rfl rfl (by decide) ⟨rfl, rfl, rfl⟩ (by omega) ?_
      rintro _ _ ⟨rfl, rfl⟩
      refine Ev.br tX3_worth_5 rfl (fun c5 => ?_) (fun c5 => ?_)
      · refine Ev.blk kX3_worth_14 rfl trivial ?_
        refine Ev.cV (d1 := d - 1) (em_isCatcherB hM hI hi hc) tX3_worth_16 qX3_109 rfl rfl (by decide) ⟨rfl, rfl, rfl⟩ (by omega) ?_
        rintro _ _ ⟨rfl, rfl⟩
        refine Ev.br tX3_worth_19 rfl (fun c19 => ?_) (fun c19 => ?_)
        · exact absurd c19 (by decide)
        · refine Ev.blk kX3_worth_22 rfl trivial ?_
          refine Ev.cV (d1 := d - 1) (em_lower hC rfl3) tX3_worth_25 qX3_249 rfl rfl (by decide) ⟨rfl, rfl, rfl⟩ (by omega) ?_
          rintro _ _ ⟨rfl, hS2, hC2⟩
          refine Ev.iret tX3_worth_28 rfl rfl ?_
          exact ⟨rfl, hS2, hC2⟩
      · exact absurd (show ¬ bI true = nI 0 by decide) c5
    · rw [if_neg hc] at e1
      have e0 : P_worth st (nI i) = (nI (ots (ua (sN st) i) i 20) - nI (ots (sN st) i 20), st) := by
        unfold P_worth GH
        rw [e1, if_pos rfl, ixC (by omega)]
      rw [e0]
      have ho1 := em_othersStand (l := l) (d := d - 1) hM hI (by omega) (by show de (sN st) + 20 < 100000; omega) hi
      rw [ots_g] at ho1
      refine Ev.blk kX3_worth_0 rfl trivial ?_
      refine Ev.cV (d1 := d - 1) (em_isChildB hM hh) tX3_worth_2 qX3_106 rfl rfl (by decide) ⟨rfl, rfl, rfl⟩ (by omega) ?_
      rintro _ _ ⟨rfl, rfl⟩
      refine Ev.br tX3_worth_5 rfl (fun c5 => ?_) (fun c5 => ?_)
      · refine Ev.blk kX3_worth_14 rfl trivial ?_
        refine Ev.cV (d1 := d - 1) (em_isCatcherB hM hI hi (bl_f hc)) tX3_worth_16 qX3_109 rfl rfl (by decide) ⟨rfl, rfl, rfl⟩ (by omega) ?_
        rintro _ _ ⟨rfl, rfl⟩
        refine Ev.br tX3_worth_19 rfl (fun c19 => ?_) (fun c19 => ?_)
        · refine Ev.blk kX3_worth_29 rfl trivial ?_
          refine Ev.cV (d1 := d - 1) (ho1) tX3_worth_31 qX3_252 rfl rfl (by decide) ⟨rfl, rfl, rfl⟩ (by omega) ?_
          rintro _ _ ⟨rfl, oK, g1, hE⟩
          have hE1 := hE.pa (x := i) (y := nI i) (by unfold enM; rw [if_pos hi8])
          have ho2 := em_othersStand (l := l) (d := d - 1) (D := ug (ua (sN st) i) g1) hE1 (show YI (ug (ua (sN st) i) g1) from hI) (by omega) (by show de (sN st) + 20 < 100000; omega) (i := i) hi
          rw [ots_g] at ho2
          refine Ev.blk kX3_worth_34 rfl trivial ?_
          refine Ev.cV (d1 := d - 1) (ho2) tX3_worth_42 qX3_252 rfl rfl (by decide) ⟨rfl, rfl, rfl⟩ (by omega) ?_
          rintro _ _ ⟨rfl, oK2, g2, hE2⟩
          refine Ev.blk kX3_worth_45 rfl trivial ?_
          refine Ev.iret tX3_worth_55 rfl rfl ?_
          have hE3 := hE2.pa (x := 99) (y := -9) (by unfold enM; rw [if_neg (by decide)])
          have oA := (((oK.F.tr (OffF.pf (k := 21) (x := nI i) (by decide))).tr oK2.F).tr (OffF.pf (k := 21) (x := -9) (by decide)))
          have e99 : ua (ug (ug (ua (sN st) i) g1) g2) 99 = ug (sN st) g2 := Yd_ext rfl rfl rfl rfl rfl rfl rfl rfl rfl rfl hS.1.2.2.2.symm
          rw [e99] at hE3
          exact ⟨rfl, oA.lo, hC.keepF hS oA hE3⟩
        · exact absurd rfl c19
      · exact absurd (show ¬ bI true = nI 0 by decide) c5
  · have e0 : P_worth st c = (nI 1000000000 - (-1), (RF st (-1)).2) := by
      unfold P_worth GH wWorth
      rw [if_neg hh, if_neg (by decide)]
    rw [e0]
    refine Ev.blk kX3_worth_0 rfl trivial ?_
    refine Ev.cV (d1 := d - 1) (em_isChild hM c) tX3_worth_2 qX3_106 rfl rfl (by decide) ⟨rfl, rfl, rfl⟩ (by omega) ?_
    rintro _ _ ⟨rfl, rfl⟩
    refine Ev.br tX3_worth_5 rfl (fun c5 => ?_) (fun c5 => ?_)
    · exact absurd (hasI_f hh) c5
    · refine Ev.blk kX3_worth_8 rfl trivial ?_
      refine Ev.cV (d1 := d - 1) (em_lower hC rfl1) tX3_worth_10 qX3_249 rfl rfl (by decide) ⟨rfl, rfl, rfl⟩ (by omega) ?_
      rintro _ _ ⟨rfl, hS2, hC2⟩
      refine Ev.iret tX3_worth_13 rfl rfl ?_
      exact ⟨rfl, hS2, hC2⟩
theorem va_up2 {α : Type} (f : Nat → α) (i : Nat) (a b : α) : va_up (va_up f i a) i b = va_up f i b := by
  funext j
  unfold va_up
  by_cases e : j = i
  · rw [if_pos e, if_pos e]
  · rw [if_neg e, if_neg e, if_neg e]
theorem em_hunt (hC : MdlAt w st) (hS : SI st) (hd : 9 ≤ d) (c n x : Int32) : Cl l d MX3_hunt [mR 11 0, mI c, mI n, mI x] w (fun r u => MP w (P_hunt st c n x) r u) := by
  show Ev l d MX3_hunt 0 [some (mR 11 0), some (mI c), some (mI n), some (mI x), none, none, none, none, none] [] w _
  obtain ⟨g, hM⟩ := hC.1
  have hI : YI (ug (sN st) g) := hS.1.1
  have hI0 : YI (sN st) := hS.1.1
  have hse : de (sN st) ≤ 999 := hS.1.2.1
  have mid : ∀ w1, (w1 = nI 0 ∨ RC w1) → wHunt st c n = w1 → Ev l d MX3_hunt 32 [some (mR 11 0), some (mI c), some (mI n), some (mI x), none, none, none, none, none] [mI w1] w (fun r u => MP w (P_hunt st c n x) r u) := by
    intro w1 hw1 he1
    have fin : ∀ why, wh2 w1 x = why → Ev l d MX3_hunt 52 [some (mR 11 0), some (mI c), some (mI n), some (mI x), some (mI why), none, none, none, none] [] w (fun r u => MP w (P_hunt st c n x) r u) := by
      intro why he
      by_cases hz : why = nI 0
      · subst hz
        obtain ⟨hq, hx⟩ := wh2_0 he
        have e0 : P_hunt st c n x = (if x = nI 0 then nI (bm (hnf (sN st) (ix c) (ix n)) 4).1 else oM1 (bm (hnf (sN st) (ix c) (ix n)) 4).2, st) := by
          unfold P_hunt
          rw [he1, he]
          exact GO_ok rfl
        rw [e0]
        rw [hq] at he1
        have hh : hasI (sN st) c = true := by
          by_cases z : hasI (sN st) c = true
          · exact z
          · unfold wHunt at he1
            rw [if_neg z] at he1
            exact absurd he1 (by decide)
        unfold wHunt at he1
        rw [if_pos hh] at he1
        have hc : isC (sN st) (ix c) = true := by
          by_cases z : isC (sN st) (ix c) = true
          · exact z
          · rw [if_neg z] at he1
            exact absurd he1 (by decide)
        rw [if_pos hc] at he1
        obtain ⟨m, h1, h2, rfl⟩ := outs_ok (by omega) (by omega) he1
        obtain ⟨i, hi, rfl⟩ := hasI_of hh hI.1
        have hi8 : i < 8 := Nat.lt_of_lt_of_le hi hI.1
        rw [ixC (by omega)] at hc ⊢
        rw [ixC (by omega)]
        have hB := hnf_lt (sN st) i m h2
        have hkd := hI0.kd (j := i) hi
        have loop : ∀ z : Int32, Ev l d MX3_hunt 81 [some (mR 11 0), some (mI (nI i)), some (mI (nI m)), some (mI x), some (mI z), some (mI (nI (dk (sN st) i))), some (mI (nI 0)), some (mI (-1)), some (mI (nI 0))] [] w (fun r u => MP w (if x = nI 0 then nI (bm (hnf (sN st) i m) 4).1 else oM1 (bm (hnf (sN st) i m) 4).2, st) r u) := by
          intro z
          refine Ev.for (fun j L u => OffF w u ∧ (∃ g' y, MYd u (ug (uk (sN st) (va_up (dk (sN st)) i y)) g')) ∧ L = [some (mR 11 0), some (mI (nI i)), some (mI (nI m)), some (mI x), some (mI z), some (mI (nI (dk (sN st) i))), some (mI (nI (bm (hnf (sN st) i m) j).1)), some (mI (oM1 (bm (hnf (sN st) i m) j).2)), some (mI (nI j))]) 4 ?_ ?_ 0 (Nat.zero_le _) ⟨OffF.rf, ⟨g, dk (sN st) i, by rw [va_up_id]; exact hM⟩, rfl⟩
          · rintro L u ⟨ho, ⟨g', y, hE⟩, rfl⟩
            have hE2 := hE.pk (i := i) (x := dk (sN st) i)
            have e2 : uk (ug (uk (sN st) (va_up (dk (sN st)) i y)) g') (va_up (dk (ug (uk (sN st) (va_up (dk (sN st)) i y)) g')) i (dk (sN st) i)) = ug (sN st) g' := by
              show uk (ug (uk (sN st) (va_up (dk (sN st)) i y)) g') (va_up (va_up (dk (sN st)) i y) i (dk (sN st) i)) = _
              rw [va_up2, va_up_id]
              rfl
            rw [e2] at hE2
            refine Ev.blk kX3_hunt_81 rfl trivial ?_
            refine Ev.br tX3_hunt_84 rfl (fun c84 => ?_) (fun c84 => ?_)
            · refine Ev.blk kX3_hunt_131 rfl ⟨trivial, vinN hi8 (by decide)⟩ ?_
              rw [ix8 hi8]
              refine Ev.br tX3_hunt_140 rfl (fun c140 => ?_) (fun c140 => ?_)
              · refine Ev.blk kX3_hunt_148 rfl trivial ?_
                refine Ev.iret tX3_hunt_150 rfl rfl ?_
                refine ⟨?_, (ho.tr (OffF.pA (by decide))).lo, hC.keepF hS (ho.tr (OffF.pA (by decide))) hE2⟩
                first
                  | (rw [if_neg c140])
                  | (rw [if_pos c140])
              · rw [Classical.not_not] at c140
                refine Ev.blk kX3_hunt_143 rfl trivial ?_
                refine Ev.jmp tX3_hunt_145 ?_
                refine Ev.iret tX3_hunt_150 rfl rfl ?_
                refine ⟨?_, (ho.tr (OffF.pA (by decide))).lo, hC.keepF hS (ho.tr (OffF.pA (by decide))) hE2⟩
                first
                  | (rw [if_neg c140])
                  | (rw [if_pos c140])
            · exact absurd (nI_le (Nat.le_refl _) (by decide)) c84
          · rintro j L u hj ⟨ho, ⟨g', y, hE⟩, rfl⟩ k
            have hm := bm_lt hB j
            have hv := hB j
            have hE2 := hE.pk (i := i) (x := 4 + j)
            have e2 : uk (ug (uk (sN st) (va_up (dk (sN st)) i y)) g') (va_up (dk (ug (uk (sN st) (va_up (dk (sN st)) i y)) g')) i (4 + j)) = ug (uk (sN st) (va_up (dk (sN st)) i (4 + j))) g' := by
              show uk (ug (uk (sN st) (va_up (dk (sN st)) i y)) g') (va_up (va_up (dk (sN st)) i y) i (4 + j)) = _
              rw [va_up2]
              rfl
            rw [e2] at hE2
            have hcmp : (oM1 (bm (hnf (sN st) i m) j).2 < nI (hnf (sN st) i m j)) = (oLt (bm (hnf (sN st) i m) j).2 (hnf (sN st) i m j) = true) := oM1_lt (fun q hq => Nat.lt_trans (hm q hq) (by decide)) (Nat.lt_trans hv (by decide))
            refine Ev.blk kX3_hunt_81 rfl trivial ?_
            refine Ev.br tX3_hunt_84 rfl (fun c84 => ?_) (fun c84 => ?_)
            · exact absurd c84 (nI_ge hj (by decide))
            · refine Ev.blk kX3_hunt_87 rfl ⟨trivial, vinN hi8 (by decide)⟩ ?_
              rw [ix8 hi8, nI_add]
              refine Ev.cV (d1 := d - 1) (em_goesInMind (i := 0) hE2 (hI0.uk hc hj) (show dg (sN st) = 0 from hS.1.2.2.1) (by omega) h2 (by decide) (by show de (sN st) + 60 < 100000; omega)) tX3_hunt_100 qX3_232 rfl rfl (by decide) ⟨rfl, rfl, rfl⟩ (by omega) ?_
              rintro _ _ ⟨rfl, oK, hE3, g23, g24, g25, g26, g27⟩
              have g23 : mgf _ 11 0 23 = nI (hnf (sN st) i m j) := g23
              refine Ev.blk kX3_hunt_103 rfl trivial ?_
              rw [g23]
              refine Ev.br tX3_hunt_109 rfl (fun c109 => ?_) (fun c109 => ?_)
              · rw [hcmp] at c109
                refine Ev.blk kX3_hunt_115 rfl trivial ?_
                rw [g23]
                refine Ev.blk kX3_hunt_125 rfl trivial ?_
                refine Ev.jmp tX3_hunt_128 ?_
                refine k _ _ ⟨((ho.tr (OffF.pA (by decide))).tr oK.F), ⟨_, 4 + j, hE3⟩, ?_⟩
                first
                  | (rw [bm_no c109, nI_add])
                  | (rw [bm_yes c109, nI_add]; rfl)
              · rw [hcmp] at c109
                refine Ev.jmp tX3_hunt_112 ?_
                refine Ev.blk kX3_hunt_125 rfl trivial ?_
                refine Ev.jmp tX3_hunt_128 ?_
                refine k _ _ ⟨((ho.tr (OffF.pA (by decide))).tr oK.F), ⟨_, 4 + j, hE3⟩, ?_⟩
                first
                  | (rw [bm_no c109, nI_add])
                  | (rw [bm_yes c109, nI_add]; rfl)
        refine Ev.blk kX3_hunt_52 rfl trivial ?_
        refine Ev.br tX3_hunt_54 rfl (fun c54 => ?_) (fun c54 => ?_)
        · refine Ev.blk kX3_hunt_64 rfl ⟨trivial, vinN hi8 (by decide)⟩ ?_
          rw [ix8 hi8, hM.k hi]
          exact loop _
        · exact absurd rfl c54
      · have hr : RC why := by rw [← he] at hz ⊢; exact wh2_rc hw1 hz
        have e0 : P_hunt st c n x = RF st why := by
          unfold P_hunt
          rw [he1, he]
          exact GO_no hz
        rw [e0]
        refine Ev.blk kX3_hunt_52 rfl trivial ?_
        refine Ev.br tX3_hunt_54 rfl (fun c54 => ?_) (fun c54 => ?_)
        · exact absurd c54 hz
        · refine Ev.blk kX3_hunt_57 rfl trivial ?_
          refine Ev.cV (d1 := d - 1) (em_no hC hr) tX3_hunt_60 qX3_70 rfl rfl (by decide) ⟨rfl, rfl, rfl⟩ (by omega) ?_
          rintro _ _ ⟨rfl, hS2, hC2⟩
          refine Ev.iret tX3_hunt_63 rfl rfl ?_
          exact ⟨rfl, hS2, hC2⟩
    refine Ev.blk kX3_hunt_32 rfl trivial ?_
    refine Ev.br tX3_hunt_36 rfl (fun c36 => ?_) (fun c36 => ?_)
    · have e : wh2 w1 x = w1 := if_neg (fun z => c36 z.1)
      exact fin _ e
    · rw [Classical.not_not] at c36
      refine Ev.blk kX3_hunt_39 rfl trivial ?_
      refine Ev.cS (d1 := d - 1) (em_isInB (in01 x)) tX3_hunt_42 qX3_81 rfl ⟨rfl, rfl, rfl⟩ (by omega) ?_
      rintro _ _ ⟨rfl, rfl⟩
      refine Ev.br tX3_hunt_45 rfl (fun c45 => ?_) (fun c45 => ?_)
      · have e : wh2 w1 x = w1 := by
          rw [bI_0, decide_eq_false_iff_not, Classical.not_not] at c45
          exact if_neg (fun z => c45.elim z.2.1 z.2.2)
        exact fin _ e
      · have e : wh2 w1 x = -2 := by
          rw [Classical.not_not, bI_0, decide_eq_false_iff_not] at c45
          exact if_pos ⟨c36, fun z => c45 (Or.inl z), fun z => c45 (Or.inr z)⟩
        refine Ev.blk kX3_hunt_48 rfl trivial ?_
        exact fin _ e
  by_cases hh : hasI (sN st) c = true
  · have e1 : wHunt st c n = (if isC (sN st) (ix c) = true then outs n (nI 1) (nI 60) else -3) := if_pos hh
    obtain ⟨i, hi, rfl⟩ := hasI_of hh hI.1
    have hi8 : i < 8 := Nat.lt_of_lt_of_le hi hI.1
    rw [ixC (by omega)] at e1
    by_cases hc : isC (sN st) i = true
    · rw [if_pos hc] at e1
      refine Ev.blk kX3_hunt_0 rfl trivial ?_
      refine Ev.cV (d1 := d - 1) (em_isChildB hM hh) tX3_hunt_2 qX3_106 rfl rfl (by decide) ⟨rfl, rfl, rfl⟩ (by omega) ?_
      rintro _ _ ⟨rfl, rfl⟩
      refine Ev.br tX3_hunt_5 rfl (fun c5 => ?_) (fun c5 => ?_)
      · refine Ev.blk kX3_hunt_12 rfl trivial ?_
        refine Ev.cV (d1 := d - 1) (em_isCatcherB hM hI hi hc) tX3_hunt_14 qX3_109 rfl rfl (by decide) ⟨rfl, rfl, rfl⟩ (by omega) ?_
        rintro _ _ ⟨rfl, rfl⟩
        refine Ev.br tX3_hunt_17 rfl (fun c17 => ?_) (fun c17 => ?_)
        · refine Ev.blk kX3_hunt_25 rfl trivial ?_
          refine Ev.cS (d1 := d - 1) (em_bound n (nI 1) (nI 60)) tX3_hunt_29 qX3_63 rfl ⟨rfl, rfl, rfl⟩ (by omega) ?_
          rintro _ _ ⟨rfl, rfl⟩
          exact mid _ (outs_rc _ _ _) e1
        · exact absurd (show ¬ bI true = nI 0 by decide) c17
      · exact absurd (show ¬ bI true = nI 0 by decide) c5
    · rw [if_neg hc] at e1
      refine Ev.blk kX3_hunt_0 rfl trivial ?_
      refine Ev.cV (d1 := d - 1) (em_isChildB hM hh) tX3_hunt_2 qX3_106 rfl rfl (by decide) ⟨rfl, rfl, rfl⟩ (by omega) ?_
      rintro _ _ ⟨rfl, rfl⟩
      refine Ev.br tX3_hunt_5 rfl (fun c5 => ?_) (fun c5 => ?_)
      · refine Ev.blk kX3_hunt_12 rfl trivial ?_
        refine Ev.cV (d1 := d - 1) (em_isCatcherB hM hI hi (bl_f hc)) tX3_hunt_14 qX3_109 rfl rfl (by decide) ⟨rfl, rfl, rfl⟩ (by omega) ?_
        rintro _ _ ⟨rfl, rfl⟩
        refine Ev.br tX3_hunt_17 rfl (fun c17 => ?_) (fun c17 => ?_)
        · exact absurd rfl c17
        · refine Ev.blk kX3_hunt_20 rfl trivial ?_
          refine Ev.jmp tX3_hunt_22 ?_
          exact mid _ (Or.inr rfl3) e1
      · exact absurd (show ¬ bI true = nI 0 by decide) c5
  · have e : wHunt st c n = -1 := if_neg hh
    refine Ev.blk kX3_hunt_0 rfl trivial ?_
    refine Ev.cV (d1 := d - 1) (em_isChild hM c) tX3_hunt_2 qX3_106 rfl rfl (by decide) ⟨rfl, rfl, rfl⟩ (by omega) ?_
    rintro _ _ ⟨rfl, rfl⟩
    refine Ev.br tX3_hunt_5 rfl (fun c5 => ?_) (fun c5 => ?_)
    · exact absurd (hasI_f hh) c5
    · refine Ev.blk kX3_hunt_8 rfl trivial ?_
      refine Ev.jmp tX3_hunt_9 ?_
      exact mid _ (Or.inr rfl1) e
end M7
