/-! ===== the class's calls: debts, why, the row, lots, the image, counts, the letters told ===== -/
section C5
variable {l : Launch} {d : Nat} {w : mW} {st : St} {D : Yd}
theorem ev_owes (hC : KlsAt w st) (hS : SI st) (hd : 5 ≤ d) (c x : Int32) : Cl l d MX2_owes [mR 0 0, mI c, mI x] w (fun r u => CP w (P_owes st c x) r u) := by
  show Ev l d MX2_owes 0 [some (mR 0 0), some (mI c), some (mI x)] [] w _
  obtain ⟨g, hY⟩ := hC.1
  have hI : YI (ug (sN st) g) := hS.1.1
  unfold P_owes
  by_cases hh : hasI (sN st) c = true
  · by_cases hx : hasI (sN st) x = true
    · obtain ⟨i, hi, rfl⟩ := hasI_of hh hI.1
      obtain ⟨j, hj, rfl⟩ := hasI_of hx hI.1
      have hi8 : i < 8 := Nat.lt_of_lt_of_le hi hI.1
      have hj8 : j < 8 := Nat.lt_of_lt_of_le hj hI.1
      rw [if_pos ⟨hh, hx⟩, ixC (by omega), ixC (by omega)]
      refine Ev.blk kX2_owes_0 rfl trivial ?_
      refine Ev.cV (d1 := d - 1) (ev_hasB hY hh) tX2_owes_5 qX2_57 rfl rfl (by decide) ⟨rfl, rfl, rfl⟩ (by omega) ?_
      rintro _ _ ⟨rfl, rfl⟩
      refine Ev.br tX2_owes_8 rfl (fun c8 => ?_) (fun c8 => ?_)
      · exact absurd c8 (by decide)
      · refine Ev.blk kX2_owes_11 rfl trivial ?_
        refine Ev.cV (d1 := d - 1) (ev_hasB hY hx) tX2_owes_16 qX2_57 rfl rfl (by decide) ⟨rfl, rfl, rfl⟩ (by omega) ?_
        rintro _ _ ⟨rfl, rfl⟩
        refine Ev.br tX2_owes_19 rfl (fun c19 => ?_) (fun c19 => ?_)
        · refine Ev.blk kX2_owes_28 rfl trivial ?_
          refine Ev.cV (d1 := d - 1) (ev_freedBy hY hI (by omega) hj8 hi8) tX2_owes_34 qX2_160 rfl rfl (by decide) ⟨rfl, rfl, rfl⟩ (by omega) ?_
          rintro _ _ ⟨rfl, rfl⟩
          refine Ev.iret tX2_owes_37 rfl rfl ?_
          exact ⟨rfl, Sm.rf, hC⟩
        · exact absurd (show ¬ bI true = nI 0 by decide) c19
    · rw [if_neg (fun z => hx z.2)]
      refine Ev.blk kX2_owes_0 rfl trivial ?_
      refine Ev.cV (d1 := d - 1) (ev_hasB hY hh) tX2_owes_5 qX2_57 rfl rfl (by decide) ⟨rfl, rfl, rfl⟩ (by omega) ?_
      rintro _ _ ⟨rfl, rfl⟩
      refine Ev.br tX2_owes_8 rfl (fun c8 => ?_) (fun c8 => ?_)
      · exact absurd c8 (by decide)
      · refine Ev.blk kX2_owes_11 rfl trivial ?_
        refine Ev.cV (d1 := d - 1) (ev_has hY x) tX2_owes_16 qX2_57 rfl rfl (by decide) ⟨rfl, rfl, rfl⟩ (by omega) ?_
        rintro _ _ ⟨rfl, rfl⟩
        refine Ev.br tX2_owes_19 rfl (fun c19 => ?_) (fun c19 => ?_)
        · exact absurd (hasI_f hx) c19
        · refine Ev.blk kX2_owes_22 rfl trivial ?_
          refine Ev.cV (d1 := d - 1) (ev_ref hC rfl1) tX2_owes_24 qX2_39 rfl rfl (by decide) ⟨rfl, rfl, rfl⟩ (by omega) ?_
          rintro _ _ ⟨rfl, hS2, hC2⟩
          refine Ev.iret tX2_owes_27 rfl rfl ?_
          exact ⟨rfl, hS2, hC2⟩
  · rw [if_neg (fun z => hh z.1)]
    refine Ev.blk kX2_owes_0 rfl trivial ?_
    refine Ev.cV (d1 := d - 1) (ev_has hY c) tX2_owes_5 qX2_57 rfl rfl (by decide) ⟨rfl, rfl, rfl⟩ (by omega) ?_
    rintro _ _ ⟨rfl, rfl⟩
    refine Ev.br tX2_owes_8 rfl (fun c8 => ?_) (fun c8 => ?_)
    · refine Ev.blk kX2_owes_22 rfl trivial ?_
      refine Ev.cV (d1 := d - 1) (ev_ref hC rfl1) tX2_owes_24 qX2_39 rfl rfl (by decide) ⟨rfl, rfl, rfl⟩ (by omega) ?_
      rintro _ _ ⟨rfl, hS2, hC2⟩
      refine Ev.iret tX2_owes_27 rfl rfl ?_
      exact ⟨rfl, hS2, hC2⟩
    · exact absurd (hasI_f hh) c8
theorem ev_debt (hC : KlsAt w st) (hS : SI st) (hd : 5 ≤ d) (c : Int32) : Cl l d MX2_debt [mR 0 0, mI c] w (fun r u => CP w (P_debt st c) r u) := by
  show Ev l d MX2_debt 0 [some (mR 0 0), some (mI c), none, none] [] w _
  obtain ⟨g, hY⟩ := hC.1
  have hI : YI (ug (sN st) g) := hS.1.1
  by_cases hh : hasI (sN st) c = true
  · obtain ⟨i, hi, rfl⟩ := hasI_of hh hI.1
    have hi8 : i < 8 := Nat.lt_of_lt_of_le hi hI.1
    have e0 : P_debt st (nI i) = (dbt (sN st) i 8, st) := by
      unfold P_debt GH
      rw [if_pos hh, if_pos rfl, ixC (by omega)]
    rw [e0]
    have loop : Ev l d MX2_debt 24 [some (mR 0 0), some (mI (nI i)), some (mI (nI 0)), some (mI (nI 0))] [] w (fun r u => CP w (dbt (sN st) i 8, st) r u) := by
      refine Ev.for (fun j L u => u = w ∧ L = [some (mR 0 0), some (mI (nI i)), some (mI (dbt (sN st) i j)), some (mI (nI j))]) 8 ?_ ?_ 0 (Nat.zero_le _) ⟨rfl, rfl⟩
      · rintro L u ⟨rfl, rfl⟩
        refine Ev.blk kX2_debt_24 rfl trivial ?_
        refine Ev.br tX2_debt_27 rfl (fun c27 => ?_) (fun c27 => ?_)
        · refine Ev.blk kX2_debt_58 rfl trivial ?_
          refine Ev.iret tX2_debt_59 rfl rfl ?_
          exact ⟨rfl, Sm.rf, hC⟩
        · exact absurd (nI_le (Nat.le_refl _) (by decide)) c27
      · rintro j L u hj ⟨rfl, rfl⟩ k
        refine Ev.blk kX2_debt_24 rfl trivial ?_
        refine Ev.br tX2_debt_27 rfl (fun c27 => ?_) (fun c27 => ?_)
        · exact absurd c27 (nI_ge hj (by decide))
        · refine Ev.blk kX2_debt_30 rfl trivial ?_
          refine Ev.cV (d1 := d - 1) (ev_freedBy hY hI (by omega) hi8 hj) tX2_debt_37 qX2_160 rfl rfl (by decide) ⟨rfl, rfl, rfl⟩ (by omega) ?_
          rintro _ _ ⟨rfl, rfl⟩
          refine Ev.blk kX2_debt_40 rfl trivial ?_
          refine Ev.cV (d1 := d - 1) (ev_freedBy hY hI (by omega) hj hi8) tX2_debt_46 qX2_160 rfl rfl (by decide) ⟨rfl, rfl, rfl⟩ (by omega) ?_
          rintro _ _ ⟨rfl, rfl⟩
          refine Ev.blk kX2_debt_49 rfl trivial ?_
          refine Ev.jmp tX2_debt_55 ?_
          exact k _ _ ⟨rfl, by rw [nI_add]; rfl⟩
    refine Ev.blk kX2_debt_0 rfl trivial ?_
    refine Ev.cV (d1 := d - 1) (ev_hasB hY hh) tX2_debt_5 qX2_57 rfl rfl (by decide) ⟨rfl, rfl, rfl⟩ (by omega) ?_
    rintro _ _ ⟨rfl, rfl⟩
    refine Ev.br tX2_debt_8 rfl (fun c8 => ?_) (fun c8 => ?_)
    · refine Ev.blk kX2_debt_20 rfl trivial ?_
      exact loop
    · exact absurd (show ¬ bI true = nI 0 by decide) c8
  · have e0 : P_debt st c = (nI 1000000000 - (-1), (RF st (-1)).2) := by
      unfold P_debt GH
      rw [if_neg hh, if_neg (by decide)]
    rw [e0]
    refine Ev.blk kX2_debt_0 rfl trivial ?_
    refine Ev.cV (d1 := d - 1) (ev_has hY c) tX2_debt_5 qX2_57 rfl rfl (by decide) ⟨rfl, rfl, rfl⟩ (by omega) ?_
    rintro _ _ ⟨rfl, rfl⟩
    refine Ev.br tX2_debt_8 rfl (fun c8 => ?_) (fun c8 => ?_)
    · exact absurd (hasI_f hh) c8
    · refine Ev.blk kX2_debt_11 rfl trivial ?_
      refine Ev.cV (d1 := d - 1) (ev_ref hC rfl1) tX2_debt_15 qX2_39 rfl rfl (by decide) ⟨rfl, rfl, rfl⟩ (by omega) ?_
      rintro _ _ ⟨rfl, hS2, hC2⟩
      refine Ev.blk kX2_debt_18 rfl trivial ?_
      refine Ev.iret tX2_debt_19 rfl rfl ?_
      exact ⟨rfl, hS2, hC2⟩
theorem alw_ds (D : Yd) (i : Nat) : ∀ n, alw D n i = true ↔ ∀ k, k < n → ds (passN D (k + 1)) i = true
  | 0 => ⟨fun _ k hk => by omega, fun _ => rfl⟩
  | n + 1 => by
    have h := alw_ds D i n
    show (alw D n i && ds (passN D (n + 1)) i) = true ↔ _
    rw [Bool.and_eq_true, h]
    constructor
    · rintro ⟨h1, h2⟩ k hk
      by_cases e : k = n
      · subst e; exact h2
      · exact h1 k (by omega)
    · intro h1
      exact ⟨fun k hk => h1 k (by omega), h1 n (by omega)⟩
theorem ev_why (hC : KlsAt w st) (hS : SI st) (hd : 8 ≤ d) (c n : Int32) : Cl l d MX2_why [mR 0 0, mI c, mI n] w (fun r u => CP w (P_why st c n) r u) := by
  show Ev l d MX2_why 0 [some (mR 0 0), some (mI c), some (mI n), none, none, none] [] w _
  obtain ⟨g, hY⟩ := hC.1
  have hI : YI (ug (sN st) g) := hS.1.1
  have hI0 : YI (sN st) := hS.1.1
  have hse : de (sN st) ≤ 999 := hS.1.2.1
  have bad : ∀ why, RC why → wWhy st c n = why → Ev l d MX2_why 38 [some (mR 0 0), some (mI c), some (mI n), none, none, none] [mI why] w (fun r u => CP w (P_why st c n) r u) := by
    intro why hr he
    have e0 : P_why st c n = RF st why := by
      unfold P_why
      rw [he]
      exact GO_no (rc_k hr).2.2
    rw [e0]
    refine Ev.blk kX2_why_38 rfl trivial ?_
    refine Ev.br tX2_why_40 rfl (fun c40 => ?_) (fun c40 => ?_)
    · exact absurd c40 (rc_k hr).2.2
    · refine Ev.blk kX2_why_43 rfl trivial ?_
      refine Ev.cV (d1 := d - 1) (ev_ref hC hr) tX2_why_45 qX2_39 rfl rfl (by decide) ⟨rfl, rfl, rfl⟩ (by omega) ?_
      rintro _ _ ⟨rfl, hS2, hC2⟩
      refine Ev.iret tX2_why_48 rfl rfl ?_
      exact ⟨rfl, hS2, hC2⟩
  by_cases hh : hasI (sN st) c = true
  · have e1 : wWhy st c n = (if ds (sN st) (ix c) = true then outs n (nI 1) (nI 60) else -3) := if_pos hh
    obtain ⟨i, hi, rfl⟩ := hasI_of hh hI.1
    have hi : i < dn (sN st) := hi
    have hi8 : i < 8 := Nat.lt_of_lt_of_le hi hI.1
    rw [ixC (by omega)] at e1
    by_cases hs : ds (sN st) i = true
    · rw [if_pos hs] at e1
      by_cases hw : outs n (nI 1) (nI 60) = nI 0
      · obtain ⟨m, h1, h2, rfl⟩ := outs_ok (by omega) (by omega) hw
        have e0 : P_why st (nI i) (nI m) = (if alw (sN st) m i = true then (if hfr (sN st) i = true then (if wat (sN st) i m = true then nI 2 else nI 3) else nI 1) else nI 0, st) := by
          unfold P_why
          rw [e1, hw, ixC (by omega), ixC (by omega)]
          exact GO_ok rfl
        rw [e0]
        have loop : ∀ u0, Off 1 w u0 → YardAt u0 1 (sN st) → Ev l d MX2_why 66 [some (mR 0 0), some (mI (nI i)), some (mI (nI m)), some (mI (nI 0)), some (mI (nI 1)), some (mI (nI 1))] [] u0 (fun r u => CP w (if alw (sN st) m i = true then (if hfr (sN st) i = true then (if wat (sN st) i m = true then nI 2 else nI 3) else nI 1) else nI 0, st) r u) := by
          intro u0 ho0 hE0
          refine Ev.for (fun s L u => Off 1 w u ∧ YardAt u 1 (passN (sN st) s) ∧ alw (sN st) s i = true ∧ L = [some (mR 0 0), some (mI (nI i)), some (mI (nI m)), some (mI (nI 0)), some (mI (bI (wat (sN st) i s))), some (mI (nI (s + 1)))]) m ?_ ?_ 0 (Nat.zero_le _) ⟨ho0, hE0, rfl, rfl⟩
          · rintro L u ⟨ho, hE, ha, rfl⟩
            obtain ⟨g2, hY2⟩ := (hC.mind ho (Or.inl rfl)).1
            rw [if_pos ha]
            refine Ev.blk kX2_why_66 rfl trivial ?_
            refine Ev.br tX2_why_69 rfl (fun c69 => ?_) (fun c69 => ?_)
            · refine Ev.blk kX2_why_129 rfl trivial ?_
              refine Ev.cV (d1 := d - 1) (ev_hasFreerFor hY2 (show YI (ug (sN st) g2) from hI0) (by omega) (show i < dn (ug (sN st) g2) from hi)) tX2_why_134 qX2_166 rfl rfl (by decide) ⟨rfl, rfl, rfl⟩ (by omega) ?_
              rintro _ _ ⟨rfl, rfl⟩
              rw [show hfr (ug (sN st) g2) i = hfr (sN st) i from rfl]
              refine Ev.br tX2_why_137 rfl (fun c137 => ?_) (fun c137 => ?_)
              · rw [bI_0] at c137
                rw [if_pos (bl_t c137)]
                refine Ev.blk kX2_why_142 rfl trivial ?_
                refine Ev.br tX2_why_144 rfl (fun c144 => ?_) (fun c144 => ?_)
                · rw [bI_0] at c144
                  rw [if_neg (by rw [c144]; decide)]
                  refine Ev.blk kX2_why_151 rfl trivial ?_
                  refine Ev.iret tX2_why_152 rfl rfl ?_
                  exact ⟨rfl, ho.up, hC.mind ho (Or.inl rfl)⟩
                · rw [bI_0] at c144
                  rw [if_pos (bl_t c144)]
                  refine Ev.blk kX2_why_147 rfl trivial ?_
                  refine Ev.jmp tX2_why_148 ?_
                  refine Ev.iret tX2_why_152 rfl rfl ?_
                  exact ⟨rfl, ho.up, hC.mind ho (Or.inl rfl)⟩
              · rw [bI_0, Classical.not_not] at c137
                rw [if_neg (by rw [c137]; decide)]
                refine Ev.blk kX2_why_140 rfl trivial ?_
                refine Ev.iret tX2_why_141 rfl rfl ?_
                exact ⟨rfl, ho.up, hC.mind ho (Or.inl rfl)⟩
            · exact absurd (nI_lt (by omega) (by omega)) c69
          · rintro s L u hs2 ⟨ho, hE, ha, rfl⟩ k
            have hIs : YI (passN (sN st) s) := hS.1.pass (by omega)
            have hIt : YI (passN (sN st) (s + 1)) := hS.1.pass (by omega)
            have hde : de (passN (sN st) s) = de (sN st) + s := (passN_n s).2.2.2.2.2
            have hin : i < dn (passN (sN st) (s + 1)) := by rw [(passN_n (s + 1)).1]; exact hi
            have hcl := hIt.cl hin
            have hcp := cap_le (passN (sN st) (s + 1)) (dc (passN (sN st) (s + 1)) i)
            have hno : ds (passN (sN st) (s + 1)) i = false → alw (sN st) m i = false := fun z => by
              cases hz : alw (sN st) m i with
              | false => rfl
              | true =>
                have := (alw_ds (sN st) i m).mp hz s hs2
                rw [z] at this
                cases this
            refine Ev.blk kX2_why_66 rfl trivial ?_
            refine Ev.br tX2_why_69 rfl (fun c69 => ?_) (fun c69 => ?_)
            · exact absurd c69 (nI_nlt (by omega) (by omega))
            · refine Ev.blk kX2_why_72 rfl trivial ?_
              refine Ev.cV (d1 := d - 1) (ev_pass hE hIs (by omega)) tX2_why_76 qX2_134 rfl rfl (by decide) ⟨rfl, rfl, rfl⟩ (by omega) ?_
              rintro _ _ ⟨rfl, ho2, hE2⟩
              refine Ev.blk kX2_why_79 rfl trivial ?_
              refine Ev.cV (d1 := d - 1) (ev_isStanding hE2 hIt (by omega) hin) tX2_why_84 qX2_70 rfl rfl (by decide) ⟨rfl, rfl, rfl⟩ (by omega) ?_
              rintro _ _ ⟨rfl, rfl⟩
              refine Ev.br tX2_why_87 rfl (fun c87 => ?_) (fun c87 => ?_)
              · rw [bI_0] at c87
                have c87 : ds (passN (sN st) (s + 1)) i = true := bl_t c87
                have ha2 : alw (sN st) (s + 1) i = true := by show (alw (sN st) s i && ds (passN (sN st) (s + 1)) i) = true; rw [ha, c87]; rfl
                refine Ev.blk kX2_why_92 rfl trivial ?_
                refine Ev.br tX2_why_94 rfl (fun c94 => ?_) (fun c94 => ?_)
                · rw [bI_0] at c94
                  have hwt : wat (sN st) i (s + 1) = false := by show (wat (sN st) i s && _) = false; rw [c94]; rfl
                  refine Ev.blk kX2_why_120 rfl trivial ?_
                  refine Ev.blk kX2_why_121 rfl trivial ?_
                  refine Ev.jmp tX2_why_126 ?_
                  exact k _ _ ⟨ho.tr ho2, hE2, ha2, by rw [hwt, nI_add]; rfl⟩
                · rw [bI_0] at c94
                  refine Ev.blk kX2_why_97 rfl trivial ?_
                  refine Ev.cV (d1 := d - 1) (ev_cellOf hE2 hIt (by omega) hin) tX2_why_106 qX2_64 rfl rfl (by decide) ⟨rfl, rfl, rfl⟩ (by omega) ?_
                  rintro _ _ ⟨rfl, rfl⟩
                  refine Ev.cV (d1 := d - 1) (ev_catcherApart hE2 hIt (by omega) hcl) tX2_why_109 qX2_163 rfl rfl (by decide) ⟨rfl, rfl, rfl⟩ (by omega) ?_
                  rintro _ _ ⟨rfl, rfl⟩
                  refine Ev.blk kX2_why_112 rfl trivial ?_
                  refine Ev.br tX2_why_113 rfl (fun c113 => ?_) (fun c113 => ?_)
                  · have c113 : ¬ cap (passN (sN st) (s + 1)) (dc (passN (sN st) (s + 1)) i) ≤ 1 := by
                      have c9 : nI 1 < nI (cap (passN (sN st) (s + 1)) (dc (passN (sN st) (s + 1)) i)) := c113
                      rw [nI_ltI (by omega) (by omega)] at c9
                      omega
                    have hwt : wat (sN st) i (s + 1) = false := by show (wat (sN st) i s && decide (cap (passN (sN st) (s + 1)) (dc (passN (sN st) (s + 1)) i) ≤ 1)) = false; rw [decide_eq_false c113]; simp
                    refine Ev.blk kX2_why_120 rfl trivial ?_
                    refine Ev.blk kX2_why_121 rfl trivial ?_
                    refine Ev.jmp tX2_why_126 ?_
                    exact k _ _ ⟨ho.tr ho2, hE2, ha2, by rw [hwt, nI_add]; rfl⟩
                  · have c113 : cap (passN (sN st) (s + 1)) (dc (passN (sN st) (s + 1)) i) ≤ 1 := by
                      have c9 : ¬ nI 1 < nI (cap (passN (sN st) (s + 1)) (dc (passN (sN st) (s + 1)) i)) := c113
                      rw [nI_ltI (by omega) (by omega)] at c9
                      omega
                    have hwt : wat (sN st) i (s + 1) = true := by show (wat (sN st) i s && decide (cap (passN (sN st) (s + 1)) (dc (passN (sN st) (s + 1)) i) ≤ 1)) = true; rw [decide_eq_true c113, bl_t c94]; rfl
                    refine Ev.blk kX2_why_116 rfl trivial ?_
                    refine Ev.jmp tX2_why_117 ?_
                    refine Ev.blk kX2_why_121 rfl trivial ?_
                    refine Ev.jmp tX2_why_126 ?_
                    exact k _ _ ⟨ho.tr ho2, hE2, ha2, by rw [hwt, nI_add]; rfl⟩
              · rw [bI_0, Classical.not_not] at c87
                refine Ev.blk kX2_why_90 rfl trivial ?_
                refine Ev.iret tX2_why_91 rfl rfl ?_
                rw [if_neg (by rw [hno c87]; decide)]
                exact ⟨rfl, (ho.tr ho2).up, hC.mind (ho.tr ho2) (Or.inl rfl)⟩
        refine Ev.blk kX2_why_0 rfl trivial ?_
        refine Ev.cV (d1 := d - 1) (ev_hasB hY hh) tX2_why_5 qX2_57 rfl rfl (by decide) ⟨rfl, rfl, rfl⟩ (by omega) ?_
        rintro _ _ ⟨rfl, rfl⟩
        refine Ev.br tX2_why_8 rfl (fun c8 => ?_) (fun c8 => ?_)
        · refine Ev.blk kX2_why_15 rfl trivial ?_
          refine Ev.cV (d1 := d - 1) (ev_isStanding hY hI (by omega) hi) tX2_why_20 qX2_70 rfl rfl (by decide) ⟨rfl, rfl, rfl⟩ (by omega) ?_
          rintro _ _ ⟨rfl, rfl⟩
          rw [show ds (ug (sN st) g) i = true from hs]
          refine Ev.br tX2_why_23 rfl (fun c23 => ?_) (fun c23 => ?_)
          · refine Ev.blk kX2_why_31 rfl trivial ?_
            refine Ev.cS (d1 := d - 1) (ev_outside (nI m) (nI 1) (nI 60)) tX2_why_35 qX2_96 rfl ⟨rfl, rfl, rfl⟩ (by omega) ?_
            rintro _ _ ⟨rfl, rfl⟩
            rw [hw]
            refine Ev.blk kX2_why_38 rfl trivial ?_
            refine Ev.br tX2_why_40 rfl (fun c40 => ?_) (fun c40 => ?_)
            · refine Ev.blk kX2_why_49 rfl trivial ?_
              refine Ev.cV (d1 := d - 1) (ev_copyFrom (y := 1) (z := 0) (by decide) hY (by omega)) tX2_why_57 qX2_107 rfl rfl (by decide) ⟨rfl, rfl, rfl⟩ (by omega) ?_
              rintro _ _ ⟨rfl, ho, hE⟩
              rw [hS.1.can] at hE
              refine Ev.blk kX2_why_60 rfl trivial ?_
              exact loop _ ho hE
            · exact absurd rfl c40
          · exact absurd (show ¬ bI true = nI 0 by decide) c23
        · exact absurd (show ¬ bI true = nI 0 by decide) c8
      · skip
        refine Ev.blk kX2_why_0 rfl trivial ?_
        refine Ev.cV (d1 := d - 1) (ev_hasB hY hh) tX2_why_5 qX2_57 rfl rfl (by decide) ⟨rfl, rfl, rfl⟩ (by omega) ?_
        rintro _ _ ⟨rfl, rfl⟩
        refine Ev.br tX2_why_8 rfl (fun c8 => ?_) (fun c8 => ?_)
        · refine Ev.blk kX2_why_15 rfl trivial ?_
          refine Ev.cV (d1 := d - 1) (ev_isStanding hY hI (by omega) hi) tX2_why_20 qX2_70 rfl rfl (by decide) ⟨rfl, rfl, rfl⟩ (by omega) ?_
          rintro _ _ ⟨rfl, rfl⟩
          rw [show ds (ug (sN st) g) i = true from hs]
          refine Ev.br tX2_why_23 rfl (fun c23 => ?_) (fun c23 => ?_)
          · refine Ev.blk kX2_why_31 rfl trivial ?_
            refine Ev.cS (d1 := d - 1) (ev_outside n (nI 1) (nI 60)) tX2_why_35 qX2_96 rfl ⟨rfl, rfl, rfl⟩ (by omega) ?_
            rintro _ _ ⟨rfl, rfl⟩
            exact bad _ (outs_rcn hw) e1
          · exact absurd (show ¬ bI true = nI 0 by decide) c23
        · exact absurd (show ¬ bI true = nI 0 by decide) c8
    · rw [if_neg hs] at e1
      refine Ev.blk kX2_why_0 rfl trivial ?_
      refine Ev.cV (d1 := d - 1) (ev_hasB hY hh) tX2_why_5 qX2_57 rfl rfl (by decide) ⟨rfl, rfl, rfl⟩ (by omega) ?_
      rintro _ _ ⟨rfl, rfl⟩
      refine Ev.br tX2_why_8 rfl (fun c8 => ?_) (fun c8 => ?_)
      · refine Ev.blk kX2_why_15 rfl trivial ?_
        refine Ev.cV (d1 := d - 1) (ev_isStanding hY hI (by omega) hi) tX2_why_20 qX2_70 rfl rfl (by decide) ⟨rfl, rfl, rfl⟩ (by omega) ?_
        rintro _ _ ⟨rfl, rfl⟩
        rw [show ds (ug (sN st) g) i = false from bl_f hs]
        refine Ev.br tX2_why_23 rfl (fun c23 => ?_) (fun c23 => ?_)
        · exact absurd rfl c23
        · refine Ev.blk kX2_why_26 rfl trivial ?_
          refine Ev.jmp tX2_why_28 ?_
          exact bad _ rfl3 e1
      · exact absurd (show ¬ bI true = nI 0 by decide) c8
  · have e : wWhy st c n = -1 := if_neg hh
    refine Ev.blk kX2_why_0 rfl trivial ?_
    refine Ev.cV (d1 := d - 1) (ev_has hY c) tX2_why_5 qX2_57 rfl rfl (by decide) ⟨rfl, rfl, rfl⟩ (by omega) ?_
    rintro _ _ ⟨rfl, rfl⟩
    refine Ev.br tX2_why_8 rfl (fun c8 => ?_) (fun c8 => ?_)
    · exact absurd (hasI_f hh) c8
    · refine Ev.blk kX2_why_11 rfl trivial ?_
      refine Ev.jmp tX2_why_12 ?_
      exact bad _ rfl1 e
theorem KlsAt.row {u : mW} {f : Nat → Nat} {m : Nat} (h : KlsAt w st) (hs : Sm (fun t _ => t ≠ 0 ∧ t ≠ 9) w u) (h4 : mgf u 0 0 4 = mgf w 0 0 4) (h7 : mgf u 0 0 7 = nI m) (h9 : ∀ j, j < m → mga u 9 0 j = nI (f j)) : KlsAt u (vR st f m) := by
  obtain ⟨⟨g, a1⟩, a2, a3, a4, a5, a6, a7⟩ := h
  refine ⟨⟨g, a1.sm hs (fun t a b => ⟨by omega, by omega⟩)⟩, by rw [h4]; exact a2, fun hb => (a3 hb).sm hs (fun t a b => ⟨by omega, by omega⟩), a4.sm hs ⟨by omega, by omega⟩ ⟨by omega, by omega⟩, h7, h9, ?_⟩
  rw [hs.2 10 0 ⟨by omega, by omega⟩]; exact a7
theorem ev_row (hC : KlsAt w st) (hS : SI st) (hd : 5 ≤ d) (v : Int32) : Cl l d MX2_row [mR 0 0, mI v] w (fun r u => CP w (P_row st v) r u) := by
  show Ev l d MX2_row 0 [some (mR 0 0), some (mI v), none] [] w _
  have hm := hC.2.2.2.2.1
  have h20 := hS.2.2.2.1
  have bad : ∀ why, RC why → wRow st v = why → Ev l d MX2_row 27 [some (mR 0 0), some (mI v), some (mI why)] [] w (fun r u => CP w (P_row st v) r u) := by
    intro why hr he
    have e0 : P_row st v = RF st why := by
      unfold P_row
      rw [he]
      exact GO_no (rc_k hr).2.2
    rw [e0]
    refine Ev.blk kX2_row_27 rfl trivial ?_
    refine Ev.br tX2_row_28 rfl (fun c28 => ?_) (fun c28 => ?_)
    · exact absurd c28 (rc_k hr).2.2
    · refine Ev.blk kX2_row_31 rfl trivial ?_
      refine Ev.cV (d1 := d - 1) (ev_ref hC hr) tX2_row_33 qX2_39 rfl rfl (by decide) ⟨rfl, rfl, rfl⟩ (by omega) ?_
      rintro _ _ ⟨rfl, hS2, hC2⟩
      refine Ev.iret tX2_row_36 rfl rfl ?_
      exact ⟨rfl, hS2, hC2⟩
  by_cases hw : outs v (nI 0) (nI 8) = nI 0
  · by_cases h2 : sM st = 20
    · have e : wRow st v = -6 := if_pos ⟨hw, h2⟩
      refine Ev.blk kX2_row_0 rfl trivial ?_
      refine Ev.cS (d1 := d - 1) (ev_outside v (nI 0) (nI 8)) tX2_row_4 qX2_96 rfl ⟨rfl, rfl, rfl⟩ (by omega) ?_
      rintro _ _ ⟨rfl, rfl⟩
      rw [hw]
      refine Ev.blk kX2_row_7 rfl trivial ?_
      refine Ev.br tX2_row_9 rfl (fun c9 => ?_) (fun c9 => ?_)
      · exact absurd rfl c9
      · refine Ev.blk kX2_row_12 rfl trivial ?_
        rw [hm]
        refine Ev.br tX2_row_21 rfl (fun c21 => ?_) (fun c21 => ?_)
        · exact absurd c21 (by rw [h2]; decide)
        · refine Ev.blk kX2_row_24 rfl trivial ?_
          exact bad _ (Or.inr (Or.inr (Or.inr (Or.inr rfl)))) e
    · have e : wRow st v = nI 0 := by
        unfold wRow
        rw [if_neg (fun z => h2 z.2)]
        exact hw
      obtain ⟨k, h3, h4, rfl⟩ := outs_ok (by omega) (by omega) hw
      have e0 : P_row st (nI k) = (nI (sM st + 1), vR st (va_up (sR st) (sM st) k) (sM st + 1)) := by
        unfold P_row
        rw [e, ixC (by omega)]
        exact GO_ok rfl
      rw [e0]
      have hlt : sM st < 20 := by omega
      refine Ev.blk kX2_row_0 rfl trivial ?_
      refine Ev.cS (d1 := d - 1) (ev_outside (nI k) (nI 0) (nI 8)) tX2_row_4 qX2_96 rfl ⟨rfl, rfl, rfl⟩ (by omega) ?_
      rintro _ _ ⟨rfl, rfl⟩
      rw [hw]
      refine Ev.blk kX2_row_7 rfl trivial ?_
      refine Ev.br tX2_row_9 rfl (fun c9 => ?_) (fun c9 => ?_)
      · exact absurd rfl c9
      · refine Ev.blk kX2_row_12 rfl trivial ?_
        rw [hm]
        refine Ev.br tX2_row_21 rfl (fun c21 => ?_) (fun c21 => ?_)
        · refine Ev.blk kX2_row_27 rfl trivial ?_
          refine Ev.br tX2_row_28 rfl (fun c28 => ?_) (fun c28 => ?_)
          · refine Ev.blk kX2_row_37 rfl ⟨trivial, by rw [hm]; exact vinN hlt (by decide)⟩ ?_
            simp only [hm, mgf_pA, mgf_pf, nI_add]
            rw [ixN (by omega)]
            refine Ev.iret tX2_row_61 rfl rfl ?_
            refine ⟨rfl, ?_, ?_⟩
            · exact ⟨fun t i k h => (mgf_pfn (by omega)).trans rfl, fun t i h => mga_pAn (by omega)⟩
            · refine hC.row ⟨fun t i k h => (mgf_pfn (by omega)).trans rfl, fun t i h => mga_pAn (by omega)⟩ ((mgf_pfn (by omega)).trans rfl) mgf_pf ?_
              intro j hj
              rw [mga_pf, mga_pA]
              show upd (mga _ 9 0) (sM st) (nI k) j = nI (va_up (sR st) (sM st) k j)
              unfold upd va_up
              by_cases e : j = sM st
              · rw [if_pos e, if_pos e]
              · rw [if_neg e, if_neg e]
                exact hC.2.2.2.2.2.1 j (by omega)
          · exact absurd rfl c28
        · exact absurd (show nI (sM st) < nI 20 from nI_lt hlt (by decide)) c21
  · have e : wRow st v = outs v (nI 0) (nI 8) := if_neg (fun z => hw z.1)
    refine Ev.blk kX2_row_0 rfl trivial ?_
    refine Ev.cS (d1 := d - 1) (ev_outside v (nI 0) (nI 8)) tX2_row_4 qX2_96 rfl ⟨rfl, rfl, rfl⟩ (by omega) ?_
    rintro _ _ ⟨rfl, rfl⟩
    refine Ev.blk kX2_row_7 rfl trivial ?_
    refine Ev.br tX2_row_9 rfl (fun c9 => ?_) (fun c9 => ?_)
    · exact bad _ (outs_rcn hw) e
    · exact absurd hw c9
theorem ev_fits (hC : KlsAt w st) (hS : SI st) (hd : 8 ≤ d) (c : Int32) : Cl l d MX2_fits [mR 0 0, mI c] w (fun r u => CP w (P_fits st c) r u) := by
  show Ev l d MX2_fits 0 [some (mR 0 0), some (mI c), none, none] [] w _
  obtain ⟨g, hY⟩ := hC.1
  have hI : YI (sN st) := hS.1.1
  have hse : de (sN st) ≤ 999 := hS.1.2.1
  unfold P_fits
  by_cases hh : hasI (sN st) c = true
  · obtain ⟨i, hi, rfl⟩ := hasI_of hh hI.1
    have hi8 : i < 8 := Nat.lt_of_lt_of_le hi hI.1
    rw [if_pos hh, ixC (by omega)]
    have loop : Ev l d MX2_fits 21 [some (mR 0 0), some (mI (nI i)), some (mI (nI 0)), some (mI (nI 0))] [] w (fun r u => CP w (nI (bts (ftf st i) 24), st) r u) := by
      refine Ev.for (fun j L u => Off 1 w u ∧ L = [some (mR 0 0), some (mI (nI i)), some (mI (nI (bts (ftf st i) j))), some (mI (nI j))]) 24 ?_ ?_ 0 (Nat.zero_le _) ⟨Off.rf, rfl⟩
      · rintro L u ⟨ho, rfl⟩
        refine Ev.blk kX2_fits_21 rfl trivial ?_
        refine Ev.br tX2_fits_24 rfl (fun c24 => ?_) (fun c24 => ?_)
        · refine Ev.blk kX2_fits_69 rfl trivial ?_
          refine Ev.iret tX2_fits_70 rfl rfl ?_
          exact ⟨rfl, ho.up, hC.mind ho (Or.inl rfl)⟩
        · exact absurd (nI_le (Nat.le_refl _) (by decide)) c24
      · rintro j L u hj ⟨ho, rfl⟩ k
        have hCu := hC.mind ho (Or.inl rfl)
        obtain ⟨g2, hY2⟩ := hCu.1
        have hput : (decide (i < dn (sN st)) && decide (j < 24)) = true := by simp only [Bool.and_eq_true, decide_eq_true_eq]; exact ⟨hi, hj⟩
        have hXI : YI (uc (sN st) (va_up (dc (sN st)) i j)) := hI.uc hj
        cases hu : unt st (uc (sN st) (va_up (dc (sN st)) i j)) with
        | none =>
          have hf : ftf st i j = true := by unfold ftf; rw [hu]; rfl
          have hb : bts (ftf st i) (j + 1) = bts (ftf st i) j + 2 ^ j := by
            show bts (ftf st i) j + (if ftf st i j = true then 2 ^ j else 0) = _
            rw [if_pos hf]
          refine Ev.blk kX2_fits_21 rfl trivial ?_
          refine Ev.br tX2_fits_24 rfl (fun c24 => ?_) (fun c24 => ?_)
          · exact absurd c24 (nI_ge hj (by decide))
          · refine Ev.blk kX2_fits_27 rfl trivial ?_
            refine Ev.cV (d1 := d - 1) (ev_copyFrom (y := 1) (z := 0) (by decide) hY2 (by omega)) tX2_fits_35 qX2_107 rfl rfl (by decide) ⟨rfl, rfl, rfl⟩ (by omega) ?_
            rintro _ _ ⟨rfl, ho2, hE⟩
            rw [hS.1.can] at hE
            refine Ev.blk kX2_fits_38 rfl trivial ?_
            refine Ev.cV (d1 := d - 1) (ev_put hE hI (by omega) (show i < 1000 by omega) (show j < 1000 by omega)) tX2_fits_44 qX2_79 rfl rfl (by decide) ⟨rfl, rfl, rfl⟩ (by omega) ?_
            rintro _ _ ⟨rfl, ho3, hE3⟩
            rw [if_pos hput] at hE3
            refine Ev.blk kX2_fits_47 rfl trivial ?_
            refine Ev.cV (d1 := d - 1) (ev_firstUntrue (hC.mind ((ho.tr ho2).tr ho3) (Or.inl rfl)) hS hE3 hXI (by omega) (by show de (sN st) + 20 < 100000; omega)) tX2_fits_49 qX2_173 rfl rfl (by decide) ⟨rfl, rfl, rfl⟩ (by omega) ?_
            rintro _ _ ⟨rfl, ho4⟩
            rw [hu]
            refine Ev.blk kX2_fits_52 rfl trivial ?_
            refine Ev.br tX2_fits_54 rfl (fun c54 => ?_) (fun c54 => ?_)
            · exact absurd rfl c54
            · refine Ev.blk kX2_fits_57 rfl trivial ?_
              refine Ev.blk kX2_fits_63 rfl trivial ?_
              refine Ev.jmp tX2_fits_66 ?_
              exact k _ _ ⟨((ho.tr ho2).tr ho3).tr ho4, by rw [hb, nI_add, ← bts_s _ _ (by omega)]⟩
        | some v =>
          have hv : v < sM st := (fst1_spec hu).1
          have hm20 := hS.2.2.2.1
          have hf : ¬ ftf st i j = true := by unfold ftf; rw [hu]; simp
          have hb : bts (ftf st i) (j + 1) = bts (ftf st i) j := by
            show bts (ftf st i) j + (if ftf st i j = true then 2 ^ j else 0) = _
            rw [if_neg hf, Nat.add_zero]
          refine Ev.blk kX2_fits_21 rfl trivial ?_
          refine Ev.br tX2_fits_24 rfl (fun c24 => ?_) (fun c24 => ?_)
          · exact absurd c24 (nI_ge hj (by decide))
          · refine Ev.blk kX2_fits_27 rfl trivial ?_
            refine Ev.cV (d1 := d - 1) (ev_copyFrom (y := 1) (z := 0) (by decide) hY2 (by omega)) tX2_fits_35 qX2_107 rfl rfl (by decide) ⟨rfl, rfl, rfl⟩ (by omega) ?_
            rintro _ _ ⟨rfl, ho2, hE⟩
            rw [hS.1.can] at hE
            refine Ev.blk kX2_fits_38 rfl trivial ?_
            refine Ev.cV (d1 := d - 1) (ev_put hE hI (by omega) (show i < 1000 by omega) (show j < 1000 by omega)) tX2_fits_44 qX2_79 rfl rfl (by decide) ⟨rfl, rfl, rfl⟩ (by omega) ?_
            rintro _ _ ⟨rfl, ho3, hE3⟩
            rw [if_pos hput] at hE3
            refine Ev.blk kX2_fits_47 rfl trivial ?_
            refine Ev.cV (d1 := d - 1) (ev_firstUntrue (hC.mind ((ho.tr ho2).tr ho3) (Or.inl rfl)) hS hE3 hXI (by omega) (by show de (sN st) + 20 < 100000; omega)) tX2_fits_49 qX2_173 rfl rfl (by decide) ⟨rfl, rfl, rfl⟩ (by omega) ?_
            rintro _ _ ⟨rfl, ho4⟩
            rw [hu]
            refine Ev.blk kX2_fits_52 rfl trivial ?_
            refine Ev.br tX2_fits_54 rfl (fun c54 => ?_) (fun c54 => ?_)
            · refine Ev.blk kX2_fits_63 rfl trivial ?_
              refine Ev.jmp tX2_fits_66 ?_
              exact k _ _ ⟨((ho.tr ho2).tr ho3).tr ho4, by rw [hb, nI_add]⟩
            · exact absurd (show ¬ nI v = -9 by rw [nI_m9 (by omega)]; exact id) c54
    refine Ev.blk kX2_fits_0 rfl trivial ?_
    refine Ev.cV (d1 := d - 1) (ev_hasB hY hh) tX2_fits_5 qX2_57 rfl rfl (by decide) ⟨rfl, rfl, rfl⟩ (by omega) ?_
    rintro _ _ ⟨rfl, rfl⟩
    refine Ev.br tX2_fits_8 rfl (fun c8 => ?_) (fun c8 => ?_)
    · refine Ev.blk kX2_fits_17 rfl trivial ?_
      exact loop
    · exact absurd (show ¬ bI true = nI 0 by decide) c8
  · rw [if_neg hh]
    refine Ev.blk kX2_fits_0 rfl trivial ?_
    refine Ev.cV (d1 := d - 1) (ev_has hY c) tX2_fits_5 qX2_57 rfl rfl (by decide) ⟨rfl, rfl, rfl⟩ (by omega) ?_
    rintro _ _ ⟨rfl, rfl⟩
    refine Ev.br tX2_fits_8 rfl (fun c8 => ?_) (fun c8 => ?_)
    · exact absurd (hasI_f hh) c8
    · refine Ev.blk kX2_fits_11 rfl trivial ?_
      refine Ev.cV (d1 := d - 1) (ev_ref hC rfl1) tX2_fits_13 qX2_39 rfl rfl (by decide) ⟨rfl, rfl, rfl⟩ (by omega) ?_
      rintro _ _ ⟨rfl, hS2, hC2⟩
      refine Ev.iret tX2_fits_16 rfl rfl ?_
      exact ⟨rfl, hS2, hC2⟩
theorem ev_judge (hC : KlsAt w st) (hS : SI st) (hd : 8 ≤ d) : Cl l d MX2_judge [mR 0 0] w (fun r u => CP w (P_judge st) r u) := by
  show Ev l d MX2_judge 0 [some (mR 0 0), none] [] w _
  obtain ⟨g, hY⟩ := hC.1
  have hI : YI (sN st) := hS.1.1
  have hse : de (sN st) ≤ 999 := hS.1.2.1
  refine Ev.blk kX2_judge_0 rfl trivial ?_
  refine Ev.cV (d1 := d - 1) (ev_copyFrom (y := 1) (z := 0) (by decide) hY (by omega)) tX2_judge_8 qX2_107 rfl rfl (by decide) ⟨rfl, rfl, rfl⟩ (by omega) ?_
  rintro _ _ ⟨rfl, ho, hE⟩
  rw [hS.1.can] at hE
  refine Ev.blk kX2_judge_11 rfl trivial ?_
  refine Ev.cV (d1 := d - 1) (ev_firstUntrue (hC.mind ho (Or.inl rfl)) hS hE hI (by omega) (by omega)) tX2_judge_12 qX2_173 rfl rfl (by decide) ⟨rfl, rfl, rfl⟩ (by omega) ?_
  rintro _ _ ⟨rfl, ho2⟩
  refine Ev.blk kX2_judge_15 rfl trivial ?_
  refine Ev.iret tX2_judge_22 rfl rfl ?_
  refine ⟨rfl, (ho.tr ho2).up.tr ⟨fun t i k h => mgf_pfn (by omega), fun _ _ _ => rfl⟩, ?_⟩
  refine (hC.mind (ho.tr ho2) (Or.inl rfl)).row ⟨fun t i k h => mgf_pfn (by omega), fun _ _ _ => rfl⟩ (mgf_pfn (by omega)) mgf_pf (fun j hj => by omega)
theorem sumN_s (f : Nat → Nat) (n : Nat) : sumN f (n + 1) = sumN f n + f n := rfl
theorem lts_s (D : Yd) (z : Int32) (j : Nat) : lts D z (j + 1) = lts D z j + cnt (ds (passN (scD D (lsd D z j)) 30)) 8 := sumN_s _ _
theorem lsd_s (D : Yd) (z : Int32) (j : Nat) : lsd D z (j + 1) = (sct D (lsd D z j) (dn D)).1 := rfl
theorem ev_lots (hC : KlsAt w st) (hS : SI st) (hd : 8 ≤ d) (n z : Int32) : Cl l d MX2_lots [mR 0 0, mI n, mI z] w (fun r u => CP w (P_lots st n z) r u) := by
  show Ev l d MX2_lots 0 [some (mR 0 0), some (mI n), some (mI z), none, none, none, none] [] w _
  have hI : YI (sN st) := hS.1.1
  have hse : de (sN st) ≤ 999 := hS.1.2.1
  unfold P_lots
  have loop : ∀ m, m ≤ 20 → ∀ y : Int32, Ev l d MX2_lots 27 [some (mR 0 0), some (mI (nI m)), some (mI z), some (mI y), some (mI (nI 0)), some (mI z), some (mI (nI m))] [] w (fun r u => CP w (nI (lts (sN st) z m), st) r u) := by
    intro m hm y
    refine Ev.for (fun j L u => Off 1 w u ∧ L = [some (mR 0 0), some (mI (nI m)), some (mI z), some (mI y), some (mI (nI (lts (sN st) z j))), some (mI (lsd (sN st) z j)), some (mI (nI (m - j)))]) m ?_ ?_ 0 (Nat.zero_le _) ⟨Off.rf, rfl⟩
    · rintro L u ⟨ho, rfl⟩
      rw [Nat.sub_self]
      refine Ev.blk kX2_lots_27 rfl trivial ?_
      refine Ev.br tX2_lots_29 rfl (fun c29 => ?_) (fun c29 => ?_)
      · refine Ev.blk kX2_lots_81 rfl trivial ?_
        refine Ev.iret tX2_lots_83 rfl rfl ?_
        exact ⟨rfl, ho.up, hC.mind ho (Or.inl rfl)⟩
      · exact absurd (Int32.le_refl _) c29
    · rintro j L u hj ⟨ho, rfl⟩ k
      obtain ⟨g2, hY2⟩ := (hC.mind ho (Or.inl rfl)).1
      have hsd : YI (scD (sN st) (lsd (sN st) z j)) := scD_YI hI _
      have dec : nI (m - j) + (-1) = nI (m - (j + 1)) := by
        rw [show m - j = (m - (j + 1)) + 1 by omega, pk_m1]
      refine Ev.blk kX2_lots_27 rfl trivial ?_
      refine Ev.br tX2_lots_29 rfl (fun c29 => ?_) (fun c29 => ?_)
      · exact absurd c29 (by rw [nI_leI (by omega) (by omega)]; omega)
      · refine Ev.blk kX2_lots_32 rfl trivial ?_
        refine Ev.cV (d1 := d - 1) (ev_copyFrom (y := 1) (z := 0) (by decide) hY2 (by omega)) tX2_lots_40 qX2_107 rfl rfl (by decide) ⟨rfl, rfl, rfl⟩ (by omega) ?_
        rintro _ _ ⟨rfl, ho2, hE⟩
        rw [hS.1.can] at hE
        refine Ev.blk kX2_lots_43 rfl trivial ?_
        refine Ev.cV (d1 := d - 1) (ev_scatter hE hI (lsd (sN st) z j)) tX2_lots_49 qX2_176 rfl rfl (by decide) ⟨rfl, rfl, rfl⟩ (by omega) ?_
        rintro _ _ ⟨rfl, ho3, hE3⟩
        have hE3 : YardAt _ 1 (scD (sN st) (lsd (sN st) z j)) := hE3
        refine Ev.blk kX2_lots_52 rfl trivial ?_
        refine Ev.cV (d1 := d - 1) (ev_passMany hE3 hsd (by omega) (show 30 < 1000 by omega) (by show de (sN st) + 30 < 100000; omega)) tX2_lots_60 qX2_103 rfl rfl (by decide) ⟨rfl, rfl, rfl⟩ (by omega) ?_
        rintro _ _ ⟨rfl, ho4, hE4⟩
        refine Ev.blk kX2_lots_63 rfl trivial ?_
        refine Ev.cV (d1 := d - 1) (ev_standingCount hE4 (by omega)) tX2_lots_69 qX2_122 rfl rfl (by decide) ⟨rfl, rfl, rfl⟩ (by omega) ?_
        rintro _ _ ⟨rfl, rfl⟩
        refine Ev.blk kX2_lots_72 rfl trivial ?_
        refine Ev.jmp tX2_lots_78 ?_
        exact k _ _ ⟨((ho.tr ho2).tr ho3).tr ho4, by rw [nI_add, dec, lts_s, lsd_s]⟩
  refine Ev.blk kX2_lots_0 rfl trivial ?_
  refine Ev.cS (d1 := d - 1) (ev_outside n (nI 1) (nI 20)) tX2_lots_4 qX2_96 rfl ⟨rfl, rfl, rfl⟩ (by omega) ?_
  rintro _ _ ⟨rfl, rfl⟩
  refine Ev.blk kX2_lots_7 rfl trivial ?_
  refine Ev.br tX2_lots_9 rfl (fun c9 => ?_) (fun c9 => ?_)
  · rw [GO_ok c9]
    obtain ⟨k, h1, h2, rfl⟩ := outs_ok (by omega) (by omega) c9
    rw [ixC (by omega)]
    refine Ev.blk kX2_lots_18 rfl trivial ?_
    exact loop k h2 _
  · refine Ev.blk kX2_lots_12 rfl trivial ?_
    refine Ev.cV (d1 := d - 1) (ev_ref hC (outs_rcn c9)) tX2_lots_14 qX2_39 rfl rfl (by decide) ⟨rfl, rfl, rfl⟩ (by omega) ?_
    rintro _ _ ⟨rfl, hS2, hC2⟩
    refine Ev.iret tX2_lots_17 rfl rfl ?_
    rw [GO_no c9]; exact ⟨rfl, hS2, hC2⟩
theorem ev_image (hC : KlsAt w st) (hS : SI st) (hd : 5 ≤ d) : Cl l d MX2_image [mR 0 0] w (fun r u => CP w (P_image st) r u) := by
  show Ev l d MX2_image 0 [some (mR 0 0)] [] w _
  obtain ⟨g, hY⟩ := hC.1
  refine Ev.blk kX2_image_0 rfl trivial ?_
  refine Ev.cV (d1 := d - 1) (ev_copyFrom (y := 3) (z := 0) (by decide) hY (by omega)) tX2_image_8 qX2_107 rfl rfl (by decide) ⟨rfl, rfl, rfl⟩ (by omega) ?_
  rintro _ _ ⟨rfl, ho, hE⟩
  rw [hS.1.can] at hE
  refine Ev.blk kX2_image_11 rfl ⟨trivial, Or.inr rfl⟩ ?_
  have hs : Sm (fun t i => t ≠ 0 ∧ ¬ ((1 ≤ t ∧ t ≤ 6) ∧ i = 3)) w (mpf _ 0 0 4 (nI 1)) := (ho.sm.sub (fun t i h => h.2)).tr ⟨fun t i k h => mgf_pfn (by omega), fun _ _ _ => rfl⟩
  have hY2 := hY.sm hs (fun t a b => ⟨by omega, by omega⟩)
  refine Ev.cV (d1 := d - 1) (ev_secondNow hY2) tX2_image_20 qX2_100 rfl rfl (by decide) ⟨rfl, rfl, rfl⟩ (by omega) ?_
  rintro _ _ ⟨rfl, rfl⟩
  refine Ev.iret tX2_image_23 rfl rfl ?_
  refine ⟨rfl, hs.sub (fun t i h => ⟨by omega, by omega⟩), ?_⟩
  obtain ⟨a1, a2, a3, a4, a5, a6, a7⟩ := hC
  refine ⟨⟨g, hY2⟩, mgf_pf, fun _ => hE.sm (P := fun t _ => t ≠ 0) ⟨fun t i k h => mgf_pfn (by omega), fun _ _ _ => rfl⟩ (fun t a b => by omega), a4.sm hs ⟨by omega, by omega⟩ ⟨by omega, by omega⟩, ?_, ?_, ?_⟩
  · rw [mgf_pfn (by omega), ho.sm.1 0 0 7 (by omega)]; exact a5
  · rw [hs.2 9 0 ⟨by omega, by omega⟩]; exact a6
  · rw [hs.2 10 0 ⟨by omega, by omega⟩]; exact a7
theorem ev_on (hC : KlsAt w st) (hS : SI st) (hd : 5 ≤ d) : Cl l d MX2_on [mR 0 0] w (fun r u => CP w (P_on st) r u) := by
  show Ev l d MX2_on 0 [some (mR 0 0)] [] w _
  have hb := hC.2.1
  unfold P_on
  by_cases h : sB st = true
  · rw [if_pos h]
    rw [h] at hb
    have hK := hC.2.2.1 h
    have hcan := (hS.2.1 h).can
    have hK' : YardAt w 3 (ug (sK st) 0) := by
      have e : ug (sK st) 0 = sK st := Yd_ext rfl rfl rfl rfl rfl rfl rfl rfl rfl (hS.2.1 h).2.2.1.symm rfl
      rw [e]
      exact hK
    refine Ev.blk kX2_on_0 rfl trivial ?_
    rw [hb]
    refine Ev.br tX2_on_4 rfl (fun c4 => ?_) (fun c4 => ?_)
    · refine Ev.blk kX2_on_14 rfl trivial ?_
      refine Ev.cV (d1 := d - 1) (ev_copyFrom (y := 0) (z := 3) (by decide) hK' (by omega)) tX2_on_22 qX2_107 rfl rfl (by decide) ⟨rfl, rfl, rfl⟩ (by omega) ?_
      rintro _ _ ⟨rfl, ho, hE⟩
      rw [hcan 0] at hE
      refine Ev.blk kX2_on_25 rfl trivial ?_
      refine Ev.cV (d1 := d - 1) (ev_secondNow hE) tX2_on_29 qX2_100 rfl rfl (by decide) ⟨rfl, rfl, rfl⟩ (by omega) ?_
      rintro _ _ ⟨rfl, rfl⟩
      refine Ev.iret tX2_on_32 rfl rfl ?_
      exact ⟨rfl, ho.up, hC.now ho (D := sK st) (g := dg (sK st)) hE⟩
    · exact absurd (show ¬ bI true = nI 0 by decide) c4
  · rw [if_neg h]
    rw [bl_f h] at hb
    refine Ev.blk kX2_on_0 rfl trivial ?_
    rw [hb]
    refine Ev.br tX2_on_4 rfl (fun c4 => ?_) (fun c4 => ?_)
    · exact absurd rfl c4
    · refine Ev.blk kX2_on_7 rfl trivial ?_
      refine Ev.cV (d1 := d - 1) (ev_ref hC rfl3) tX2_on_10 qX2_39 rfl rfl (by decide) ⟨rfl, rfl, rfl⟩ (by omega) ?_
      rintro _ _ ⟨rfl, hS2, hC2⟩
      refine Ev.iret tX2_on_13 rfl rfl ?_
      exact ⟨rfl, hS2, hC2⟩
theorem ev_count (hC : KlsAt w st) (hS : SI st) (hd : 5 ≤ d) (x : Int32) : Cl l d MX2_count [mR 0 0, mI x] w (fun r u => CP w (P_count st x) r u) := by
  show Ev l d MX2_count 0 [some (mR 0 0), some (mI x)] [] w _
  obtain ⟨g, hY⟩ := hC.1
  have hI : YI (ug (sN st) g) := hS.1.1
  have hm := hC.2.2.2.2.1
  have hL := hC.2.2.2.1
  unfold P_count
  by_cases hx : nI 10 < x ∧ x ≤ nI 16
  · rw [if_pos hx]
    obtain ⟨k, h1, h2, rfl⟩ : ∃ k, 10 < k ∧ k ≤ 16 ∧ x = nI k := by
      rcases pk_ix x (n := 17) (by decide) with z | z | ⟨j, z1, z2⟩
      · exact absurd hx.1 (Int32.not_lt.mpr (Int32.le_of_lt (Int32.lt_of_lt_of_le z (by decide))))
      · exact absurd hx.2 (Int32.not_le.mpr (Int32.lt_of_lt_of_le (by decide) z))
      · subst z2
        rw [nI_ltI (by omega) (by omega), nI_leI (by omega) (by omega)] at hx
        exact ⟨j, hx.1, hx.2, rfl⟩
    rw [ixC (by omega)]
    have h7 := hC.2.2.2.2.2.2
    have e1 : nI k - nI 10 = nI (k - 10) := pk_sub (by omega)
    refine Ev.blk kX2_count_0 rfl trivial ?_
    refine Ev.br tX2_count_3 rfl (fun c3 => ?_) (fun c3 => ?_)
    · exact absurd hx.1 (Int32.not_lt.mpr c3)
    · refine Ev.blk kX2_count_6 rfl trivial ?_
      refine Ev.br tX2_count_9 rfl (fun c9 => ?_) (fun c9 => ?_)
      · exact absurd hx.2 (Int32.not_le.mpr c9)
      · refine Ev.blk kX2_count_12 rfl ⟨trivial, by rw [e1]; exact vinN (show k - 10 < 7 by omega) (by decide)⟩ ?_
        rw [e1, ixN (by omega), h7 (k - 10) (by omega)]
        refine Ev.iret tX2_count_21 rfl rfl ?_
        exact ⟨rfl, Sm.rf, hC⟩
  · rw [if_neg hx]
    refine Ev.blk kX2_count_0 rfl trivial ?_
    refine Ev.br tX2_count_3 rfl (fun c3 => ?_) (fun c3 => ?_)
    · refine Ev.blk kX2_count_22 rfl trivial ?_
      by_cases s23_0 : x = nI 0
      · subst s23_0
        refine Ev.sw (tgt := 72) tX2_count_23 (off := 49) (by decide) (by decide) ?_
        refine Ev.blk kX2_count_72 rfl trivial ?_
        refine Ev.cV (d1 := d - 1) (ev_childrenCount hY) tX2_count_76 qX2_183 rfl rfl (by decide) ⟨rfl, rfl, rfl⟩ (by omega) ?_
        rintro _ _ ⟨rfl, rfl⟩
        refine Ev.iret tX2_count_79 rfl rfl ?_
        rw [if_pos rfl]; exact ⟨rfl, Sm.rf, hC⟩
      by_cases s23_1 : x = nI 1
      · subst s23_1
        refine Ev.sw (tgt := 80) tX2_count_23 (off := 57) (by decide) (by decide) ?_
        refine Ev.blk kX2_count_80 rfl trivial ?_
        refine Ev.cV (d1 := d - 1) (ev_catcherCount hY hI (by omega)) tX2_count_84 qX2_186 rfl rfl (by decide) ⟨rfl, rfl, rfl⟩ (by omega) ?_
        rintro _ _ ⟨rfl, rfl⟩
        refine Ev.iret tX2_count_87 rfl rfl ?_
        rw [if_neg (by decide), if_pos rfl]; exact ⟨rfl, Sm.rf, hC⟩
      by_cases s23_2 : x = nI 2
      · subst s23_2
        refine Ev.sw (tgt := 88) tX2_count_23 (off := 65) (by decide) (by decide) ?_
        refine Ev.blk kX2_count_88 rfl trivial ?_
        refine Ev.cV (d1 := d - 1) (ev_standingCount hY (by omega)) tX2_count_92 qX2_122 rfl rfl (by decide) ⟨rfl, rfl, rfl⟩ (by omega) ?_
        rintro _ _ ⟨rfl, rfl⟩
        refine Ev.iret tX2_count_95 rfl rfl ?_
        rw [if_neg (by decide), if_neg (by decide), if_pos rfl]; exact ⟨rfl, Sm.rf, hC⟩
      by_cases s23_3 : x = nI 3
      · subst s23_3
        refine Ev.sw (tgt := 96) tX2_count_23 (off := 73) (by decide) (by decide) ?_
        refine Ev.blk kX2_count_96 rfl trivial ?_
        refine Ev.cV (d1 := d - 1) (ev_secondNow hY) tX2_count_100 qX2_100 rfl rfl (by decide) ⟨rfl, rfl, rfl⟩ (by omega) ?_
        rintro _ _ ⟨rfl, rfl⟩
        refine Ev.iret tX2_count_103 rfl rfl ?_
        rw [if_neg (by decide), if_neg (by decide), if_neg (by decide), if_pos rfl]; exact ⟨rfl, Sm.rf, hC⟩
      by_cases s23_4 : x = nI 4
      · subst s23_4
        refine Ev.sw (tgt := 104) tX2_count_23 (off := 81) (by decide) (by decide) ?_
        refine Ev.blk kX2_count_104 rfl trivial ?_
        refine Ev.cV (d1 := d - 1) (ev_lawNow hY) tX2_count_108 qX2_86 rfl rfl (by decide) ⟨rfl, rfl, rfl⟩ (by omega) ?_
        rintro _ _ ⟨rfl, rfl⟩
        refine Ev.iret tX2_count_111 rfl rfl ?_
        rw [if_neg (by decide), if_neg (by decide), if_neg (by decide), if_neg (by decide), if_pos rfl]; exact ⟨rfl, Sm.rf, hC⟩
      by_cases s23_5 : x = nI 5
      · subst s23_5
        refine Ev.sw (tgt := 112) tX2_count_23 (off := 89) (by decide) (by decide) ?_
        refine Ev.blk kX2_count_112 rfl trivial ?_
        refine Ev.cV (d1 := d - 1) (ev_tiredSum hY hI) tX2_count_116 qX2_189 rfl rfl (by decide) ⟨rfl, rfl, rfl⟩ (by omega) ?_
        rintro _ _ ⟨rfl, rfl⟩
        refine Ev.iret tX2_count_119 rfl rfl ?_
        rw [if_neg (by decide), if_neg (by decide), if_neg (by decide), if_neg (by decide), if_neg (by decide), if_pos rfl]; exact ⟨rfl, Sm.rf, hC⟩
      by_cases s23_6 : x = nI 6
      · subst s23_6
        refine Ev.sw (tgt := 120) tX2_count_23 (off := 97) (by decide) (by decide) ?_
        refine Ev.blk kX2_count_120 rfl trivial ?_
        refine Ev.cV (d1 := d - 1) (ev_freedSum hY) tX2_count_124 qX2_192 rfl rfl (by decide) ⟨rfl, rfl, rfl⟩ (by omega) ?_
        rintro _ _ ⟨rfl, rfl⟩
        refine Ev.iret tX2_count_127 rfl rfl ?_
        rw [if_neg (by decide), if_neg (by decide), if_neg (by decide), if_neg (by decide), if_neg (by decide), if_neg (by decide), if_pos rfl]; exact ⟨rfl, Sm.rf, hC⟩
      by_cases s23_7 : x = nI 7
      · subst s23_7
        refine Ev.sw (tgt := 128) tX2_count_23 (off := 105) (by decide) (by decide) ?_
        refine Ev.blk kX2_count_128 rfl trivial ?_
        rw [hm]
        refine Ev.iret tX2_count_132 rfl rfl ?_
        rw [if_neg (by decide), if_neg (by decide), if_neg (by decide), if_neg (by decide), if_neg (by decide), if_neg (by decide), if_neg (by decide), if_pos rfl]; exact ⟨rfl, Sm.rf, hC⟩
      by_cases s23_8 : x = nI 8
      · subst s23_8
        refine Ev.sw (tgt := 133) tX2_count_23 (off := 110) (by decide) (by decide) ?_
        refine Ev.blk kX2_count_133 rfl trivial ?_
        refine Ev.cV (d1 := d - 1) (ev_size hL) tX2_count_137 qX2_195 rfl rfl (by decide) ⟨rfl, rfl, rfl⟩ (by omega) ?_
        rintro _ _ ⟨rfl, rfl⟩
        refine Ev.iret tX2_count_140 rfl rfl ?_
        rw [if_neg (by decide), if_neg (by decide), if_neg (by decide), if_neg (by decide), if_neg (by decide), if_neg (by decide), if_neg (by decide), if_neg (by decide), if_pos rfl]; exact ⟨rfl, Sm.rf, hC⟩
      refine Ev.sw (tgt := 141) tX2_count_23 (off := 118) (mswo_out (n := 8) (by decide) (fun j hj => by rcases (show j = 0 ∨ j = 1 ∨ j = 2 ∨ j = 3 ∨ j = 4 ∨ j = 5 ∨ j = 6 ∨ j = 7 ∨ j = 8 by omega) with rfl | rfl | rfl | rfl | rfl | rfl | rfl | rfl | rfl <;> assumption)) (by decide) ?_
      refine Ev.blk kX2_count_141 rfl trivial ?_
      refine Ev.iret tX2_count_143 rfl rfl ?_
      rw [if_neg s23_0, if_neg s23_1, if_neg s23_2, if_neg s23_3, if_neg s23_4, if_neg s23_5, if_neg s23_6, if_neg s23_7, if_neg s23_8]; exact ⟨rfl, Sm.rf, hC⟩
    · refine Ev.blk kX2_count_6 rfl trivial ?_
      refine Ev.br tX2_count_9 rfl (fun c9 => ?_) (fun c9 => ?_)
      · refine Ev.blk kX2_count_22 rfl trivial ?_
        by_cases s23_0 : x = nI 0
        · subst s23_0
          refine Ev.sw (tgt := 72) tX2_count_23 (off := 49) (by decide) (by decide) ?_
          refine Ev.blk kX2_count_72 rfl trivial ?_
          refine Ev.cV (d1 := d - 1) (ev_childrenCount hY) tX2_count_76 qX2_183 rfl rfl (by decide) ⟨rfl, rfl, rfl⟩ (by omega) ?_
          rintro _ _ ⟨rfl, rfl⟩
          refine Ev.iret tX2_count_79 rfl rfl ?_
          rw [if_pos rfl]; exact ⟨rfl, Sm.rf, hC⟩
        by_cases s23_1 : x = nI 1
        · subst s23_1
          refine Ev.sw (tgt := 80) tX2_count_23 (off := 57) (by decide) (by decide) ?_
          refine Ev.blk kX2_count_80 rfl trivial ?_
          refine Ev.cV (d1 := d - 1) (ev_catcherCount hY hI (by omega)) tX2_count_84 qX2_186 rfl rfl (by decide) ⟨rfl, rfl, rfl⟩ (by omega) ?_
          rintro _ _ ⟨rfl, rfl⟩
          refine Ev.iret tX2_count_87 rfl rfl ?_
          rw [if_neg (by decide), if_pos rfl]; exact ⟨rfl, Sm.rf, hC⟩
        by_cases s23_2 : x = nI 2
        · subst s23_2
          refine Ev.sw (tgt := 88) tX2_count_23 (off := 65) (by decide) (by decide) ?_
          refine Ev.blk kX2_count_88 rfl trivial ?_
          refine Ev.cV (d1 := d - 1) (ev_standingCount hY (by omega)) tX2_count_92 qX2_122 rfl rfl (by decide) ⟨rfl, rfl, rfl⟩ (by omega) ?_
          rintro _ _ ⟨rfl, rfl⟩
          refine Ev.iret tX2_count_95 rfl rfl ?_
          rw [if_neg (by decide), if_neg (by decide), if_pos rfl]; exact ⟨rfl, Sm.rf, hC⟩
        by_cases s23_3 : x = nI 3
        · subst s23_3
          refine Ev.sw (tgt := 96) tX2_count_23 (off := 73) (by decide) (by decide) ?_
          refine Ev.blk kX2_count_96 rfl trivial ?_
          refine Ev.cV (d1 := d - 1) (ev_secondNow hY) tX2_count_100 qX2_100 rfl rfl (by decide) ⟨rfl, rfl, rfl⟩ (by omega) ?_
          rintro _ _ ⟨rfl, rfl⟩
          refine Ev.iret tX2_count_103 rfl rfl ?_
          rw [if_neg (by decide), if_neg (by decide), if_neg (by decide), if_pos rfl]; exact ⟨rfl, Sm.rf, hC⟩
        by_cases s23_4 : x = nI 4
        · subst s23_4
          refine Ev.sw (tgt := 104) tX2_count_23 (off := 81) (by decide) (by decide) ?_
          refine Ev.blk kX2_count_104 rfl trivial ?_
          refine Ev.cV (d1 := d - 1) (ev_lawNow hY) tX2_count_108 qX2_86 rfl rfl (by decide) ⟨rfl, rfl, rfl⟩ (by omega) ?_
          rintro _ _ ⟨rfl, rfl⟩
          refine Ev.iret tX2_count_111 rfl rfl ?_
          rw [if_neg (by decide), if_neg (by decide), if_neg (by decide), if_neg (by decide), if_pos rfl]; exact ⟨rfl, Sm.rf, hC⟩
        by_cases s23_5 : x = nI 5
        · subst s23_5
          refine Ev.sw (tgt := 112) tX2_count_23 (off := 89) (by decide) (by decide) ?_
          refine Ev.blk kX2_count_112 rfl trivial ?_
          refine Ev.cV (d1 := d - 1) (ev_tiredSum hY hI) tX2_count_116 qX2_189 rfl rfl (by decide) ⟨rfl, rfl, rfl⟩ (by omega) ?_
          rintro _ _ ⟨rfl, rfl⟩
          refine Ev.iret tX2_count_119 rfl rfl ?_
          rw [if_neg (by decide), if_neg (by decide), if_neg (by decide), if_neg (by decide), if_neg (by decide), if_pos rfl]; exact ⟨rfl, Sm.rf, hC⟩
        by_cases s23_6 : x = nI 6
        · subst s23_6
          refine Ev.sw (tgt := 120) tX2_count_23 (off := 97) (by decide) (by decide) ?_
          refine Ev.blk kX2_count_120 rfl trivial ?_
          refine Ev.cV (d1 := d - 1) (ev_freedSum hY) tX2_count_124 qX2_192 rfl rfl (by decide) ⟨rfl, rfl, rfl⟩ (by omega) ?_
          rintro _ _ ⟨rfl, rfl⟩
          refine Ev.iret tX2_count_127 rfl rfl ?_
          rw [if_neg (by decide), if_neg (by decide), if_neg (by decide), if_neg (by decide), if_neg (by decide), if_neg (by decide), if_pos rfl]; exact ⟨rfl, Sm.rf, hC⟩
        by_cases s23_7 : x = nI 7
        · subst s23_7
          refine Ev.sw (tgt := 128) tX2_count_23 (off := 105) (by decide) (by decide) ?_
          refine Ev.blk kX2_count_128 rfl trivial ?_
          rw [hm]
          refine Ev.iret tX2_count_132 rfl rfl ?_
          rw [if_neg (by decide), if_neg (by decide), if_neg (by decide), if_neg (by decide), if_neg (by decide), if_neg (by decide), if_neg (by decide), if_pos rfl]; exact ⟨rfl, Sm.rf, hC⟩
        by_cases s23_8 : x = nI 8
        · subst s23_8
          refine Ev.sw (tgt := 133) tX2_count_23 (off := 110) (by decide) (by decide) ?_
          refine Ev.blk kX2_count_133 rfl trivial ?_
          refine Ev.cV (d1 := d - 1) (ev_size hL) tX2_count_137 qX2_195 rfl rfl (by decide) ⟨rfl, rfl, rfl⟩ (by omega) ?_
          rintro _ _ ⟨rfl, rfl⟩
          refine Ev.iret tX2_count_140 rfl rfl ?_
          rw [if_neg (by decide), if_neg (by decide), if_neg (by decide), if_neg (by decide), if_neg (by decide), if_neg (by decide), if_neg (by decide), if_neg (by decide), if_pos rfl]; exact ⟨rfl, Sm.rf, hC⟩
        refine Ev.sw (tgt := 141) tX2_count_23 (off := 118) (mswo_out (n := 8) (by decide) (fun j hj => by rcases (show j = 0 ∨ j = 1 ∨ j = 2 ∨ j = 3 ∨ j = 4 ∨ j = 5 ∨ j = 6 ∨ j = 7 ∨ j = 8 by omega) with rfl | rfl | rfl | rfl | rfl | rfl | rfl | rfl | rfl <;> assumption)) (by decide) ?_
        refine Ev.blk kX2_count_141 rfl trivial ?_
        refine Ev.iret tX2_count_143 rfl rfl ?_
        rw [if_neg s23_0, if_neg s23_1, if_neg s23_2, if_neg s23_3, if_neg s23_4, if_neg s23_5, if_neg s23_6, if_neg s23_7, if_neg s23_8]; exact ⟨rfl, Sm.rf, hC⟩
      · exact absurd ⟨Int32.not_le.mp c3, Int32.not_lt.mp c9⟩ hx
theorem fbad_le {t : Nat → Nat} {n : Nat} : ∀ {cs : List Nat} {q r : Nat}, fbad t n q cs = some r → r ≤ q + cs.length
  | [], q, r, h => by cases h
  | c :: cs, q, r, h => by
    unfold fbad at h
    split at h
    · have := fbad_le h
      simp only [List.length_cons]
      omega
    · cases h
      exact Nat.le_add_right _ _
theorem stE_le {t : Nat → Nat} {n p q : Nat} (h : stE t n p = some q) : q ≤ p + 8 := by
  by_cases hp : p < n
  · by_cases h0 : sln (t p) = 0
    · rw [stE_0 hp h0] at h
      cases h
      omega
    · rw [stE_fb hp h0] at h
      have h1 := fbad_le h
      have h2 := sln8 (shS (t p)) (shS_lt _)
      rw [← sln_S] at h2
      unfold sln at h2
      omega
  · have e : stE t n p = some p := if_neg hp
    rw [e] at h
    cases h
    omega
theorem prs_le {t : Nat → Nat} {n : Nat} : ∀ {F p q : Nat}, prs t n F p = some q → p ≤ n → q ≤ n + 8
  | 0, p, q, h, hp => by cases h
  | F + 1, p, q, h, hp => by
    unfold prs at h
    cases hs : stE t n p with
    | some q' =>
      rw [hs] at h
      cases h
      have := stE_le hs
      omega
    | none =>
      rw [hs] at h
      dsimp only at h
      split at h
      · rename_i hl
        exact prs_le h (by omega)
      · cases h
theorem telN_lt {t : Nat → Nat} {n : Nat} : ∀ {F p m q : Nat} {D : Yd}, telN t n F D p m = .inl q → q < n
  | 0, p, m, q, D, h => by cases h
  | F + 1, p, m, q, D, h => by
    unfold telN at h
    split at h
    · split at h
      · cases h; assumption
      · exact telN_lt h
    · cases h
theorem KlsAt.keep2 {u : mW} (h : KlsAt w st) (hs : Sm (fun t i => ¬ ((1 ≤ t ∧ t ≤ 6) ∧ i = 1) ∧ t ≠ 7) w u) (hL : LetAt u (sT st) (sL st)) : KlsAt u st := by
  obtain ⟨⟨g, h1⟩, h2, h3, h4, h5, h6, h7⟩ := h
  refine ⟨⟨g, h1.sm hs (fun t a b => ⟨by omega, by omega⟩)⟩, by rw [hs.1 0 0 4 ⟨by omega, by omega⟩]; exact h2, fun hb => (h3 hb).sm hs (fun t a b => ⟨by omega, by omega⟩), hL, by rw [hs.1 0 0 7 ⟨by omega, by omega⟩]; exact h5, ?_, ?_⟩
  · rw [hs.2 9 0 ⟨by omega, by omega⟩]; exact h6
  · rw [hs.2 10 0 ⟨by omega, by omega⟩]; exact h7
theorem ev_readLetters (hC : KlsAt w st) (hS : SI st) (hd : 8 ≤ d) : Cl l d MX2_readLetters [mR 0 0] w (fun r u => ∃ v D, r = some (mI v) ∧ P_yard st = (v, vL (vN st D) (sT st) 0) ∧ Sm (fun t _ => 11 ≤ t) w u ∧ KlsAt u (vN st D)) := by
  show Ev l d MX2_readLetters 0 [some (mR 0 0), none, none] [] w _
  obtain ⟨g, hY⟩ := hC.1
  have hI : YI (sN st) := hS.1.1
  have hL := hC.2.2.2.1
  unfold P_yard
  cases hp : prs (sT st) (sL st) (sL st + 1) 0 with
  | some q =>
    have h96 := hL.2.2.1
    have hq : q < 200 := by
      have := prs_le hp (Nat.zero_le _)
      omega
    have hfm := ev_firstMisfit (l := l) (d := d - 1) hL (by omega)
    rw [hp] at hfm
    refine Ev.blk kX2_readLetters_0 rfl trivial ?_
    refine Ev.cV (d1 := d - 1) (hfm) tX2_readLetters_4 qX2_198 rfl rfl (by decide) ⟨rfl, rfl, rfl⟩ (by omega) ?_
    rintro _ _ ⟨rfl, rfl⟩
    refine Ev.blk kX2_readLetters_7 rfl trivial ?_
    refine Ev.br tX2_readLetters_11 rfl (fun c11 => ?_) (fun c11 => ?_)
    · exact absurd c11 (by show ¬ nI q = -9; rw [nI_m9 (by omega)]; exact id)
    · refine Ev.blk kX2_readLetters_14 rfl trivial ?_
      refine Ev.iret tX2_readLetters_19 rfl rfl ?_
      exact ⟨_, sN st, rfl, rfl, Sm.rf, hC⟩
  | none =>
    have hfm := ev_firstMisfit (l := l) (d := d - 1) hL (by omega)
    rw [hp] at hfm
    dsimp only
    cases ht : telN (sT st) (sL st) (sL st + 1) (sN st) 0 0 with
    | inl p =>
      have h96 := hL.2.2.1
      have hq : p < 200 := by
        have := telN_lt ht
        omega
      refine Ev.blk kX2_readLetters_0 rfl trivial ?_
      refine Ev.cV (d1 := d - 1) (hfm) tX2_readLetters_4 qX2_198 rfl rfl (by decide) ⟨rfl, rfl, rfl⟩ (by omega) ?_
      rintro _ _ ⟨rfl, rfl⟩
      refine Ev.blk kX2_readLetters_7 rfl trivial ?_
      refine Ev.br tX2_readLetters_11 rfl (fun c11 => ?_) (fun c11 => ?_)
      · refine Ev.blk kX2_readLetters_20 rfl trivial ?_
        refine Ev.cV (d1 := d - 1) (ev_copyFrom (y := 1) (z := 0) (by decide) hY (by omega)) tX2_readLetters_28 qX2_107 rfl rfl (by decide) ⟨rfl, rfl, rfl⟩ (by omega) ?_
        rintro _ _ ⟨rfl, ho, hE⟩
        rw [hS.1.can] at hE
        have hC2 := hC.mind ho (Or.inl rfl)
        have htt := ev_tellTo (l := l) (d := d - 1) hC2.2.2.2.1 hE hI (by omega) hp
        rw [ht] at htt
        refine Ev.blk kX2_readLetters_31 rfl trivial ?_
        refine Ev.cV (d1 := d - 1) (htt) tX2_readLetters_39 qX2_201 rfl rfl (by decide) ⟨rfl, rfl, rfl⟩ (by omega) ?_
        rintro _ _ ⟨hs2, hL2, rfl⟩
        refine Ev.blk kX2_readLetters_42 rfl trivial ?_
        refine Ev.br tX2_readLetters_46 rfl (fun c46 => ?_) (fun c46 => ?_)
        · exact absurd c46 (by show ¬ nI p = -9; rw [nI_m9 (by omega)]; exact id)
        · refine Ev.blk kX2_readLetters_49 rfl trivial ?_
          refine Ev.iret tX2_readLetters_54 rfl rfl ?_
          refine ⟨_, sN st, rfl, rfl, ho.up.tr (hs2.sub (fun t i h => ⟨by omega, by omega⟩)), ?_⟩
          have hC3 := hC2.keep2 hs2 hL2
          exact hC3
      · exact absurd rfl c11
    | inr em =>
      obtain ⟨E, m⟩ := em
      obtain ⟨k1, k2, k3, k4⟩ := telN_keep hI ht
      have hcan : ∀ g, ua (ug (ug E g) 0) 99 = E := fun g => Yd_ext rfl rfl rfl rfl rfl rfl rfl rfl rfl (by rw [k3]; exact hS.1.2.2.1.symm) (by rw [k2]; exact hS.1.2.2.2.symm)
      refine Ev.blk kX2_readLetters_0 rfl trivial ?_
      refine Ev.cV (d1 := d - 1) (hfm) tX2_readLetters_4 qX2_198 rfl rfl (by decide) ⟨rfl, rfl, rfl⟩ (by omega) ?_
      rintro _ _ ⟨rfl, rfl⟩
      refine Ev.blk kX2_readLetters_7 rfl trivial ?_
      refine Ev.br tX2_readLetters_11 rfl (fun c11 => ?_) (fun c11 => ?_)
      · refine Ev.blk kX2_readLetters_20 rfl trivial ?_
        refine Ev.cV (d1 := d - 1) (ev_copyFrom (y := 1) (z := 0) (by decide) hY (by omega)) tX2_readLetters_28 qX2_107 rfl rfl (by decide) ⟨rfl, rfl, rfl⟩ (by omega) ?_
        rintro _ _ ⟨rfl, ho, hE⟩
        rw [hS.1.can] at hE
        have hC2 := hC.mind ho (Or.inl rfl)
        have htt := ev_tellTo (l := l) (d := d - 1) hC2.2.2.2.1 hE hI (by omega) hp
        rw [ht] at htt
        refine Ev.blk kX2_readLetters_31 rfl trivial ?_
        refine Ev.cV (d1 := d - 1) (htt) tX2_readLetters_39 qX2_201 rfl rfl (by decide) ⟨rfl, rfl, rfl⟩ (by omega) ?_
        rintro _ _ ⟨hs2, hL2, rfl, hE2, hm2⟩
        have hC3 := hC2.keep2 hs2 hL2
        refine Ev.blk kX2_readLetters_42 rfl trivial ?_
        refine Ev.br tX2_readLetters_46 rfl (fun c46 => ?_) (fun c46 => ?_)
        · refine Ev.blk kX2_readLetters_55 rfl trivial ?_
          refine Ev.cV (d1 := d - 1) (ev_copyFrom (y := 0) (z := 1) (by decide) hE2 (by omega)) tX2_readLetters_63 qX2_107 rfl rfl (by decide) ⟨rfl, rfl, rfl⟩ (by omega) ?_
          rintro _ _ ⟨rfl, ho3, hE3⟩
          have e4 : ua (ug E 0) 99 = ug E (dg E) := hcan (dg E)
          rw [e4] at hE3
          have hm3 := (ho3.sm.1 7 0 2 (by omega)).trans hm2
          refine Ev.blk kX2_readLetters_66 rfl trivial ?_
          refine Ev.cV (d1 := d - 1) (ev_statementCount) tX2_readLetters_70 qX2_205 rfl rfl (by decide) ⟨rfl, rfl, rfl⟩ (by omega) ?_
          rintro _ _ ⟨rfl, rfl⟩
          rw [hm3]
          refine Ev.iret tX2_readLetters_73 rfl rfl ?_
          exact ⟨_, E, rfl, rfl, (ho.up.tr (hs2.sub (fun t i h => ⟨by omega, by omega⟩))).tr ho3.up, hC3.now ho3 (D := E) (g := dg E) hE3⟩
        · exact absurd rfl c46
      · exact absurd rfl c11
theorem ev_yard (hC : KlsAt w st) (hS : SI st) (hd : 9 ≤ d) : Cl l d MX2_yard [mR 0 0] w (fun r u => CP w (P_yard st) r u) := by
  show Ev l d MX2_yard 0 [some (mR 0 0), none] [] w _
  refine Ev.blk kX2_yard_0 rfl trivial ?_
  refine Ev.cV (d1 := d - 1) (ev_readLetters hC hS (by omega)) tX2_yard_1 qX2_50 rfl rfl (by decide) ⟨rfl, rfl, rfl⟩ (by omega) ?_
  rintro _ _ ⟨v, D, rfl, hv, hs, hC2⟩
  refine Ev.blk kX2_yard_4 rfl trivial ?_
  refine Ev.cV (d1 := d - 1) (ev_forget (t := sT st)) tX2_yard_9 qX2_54 rfl rfl (by decide) ⟨rfl, rfl, rfl⟩ (by omega) ?_
  rintro _ _ ⟨rfl, ho, hL2⟩
  refine Ev.blk kX2_yard_12 rfl trivial ?_
  refine Ev.iret tX2_yard_13 rfl rfl ?_
  rw [hv]
  exact ⟨rfl, hs.tr ho.up, hC2.ltr ho hL2⟩
end C5
