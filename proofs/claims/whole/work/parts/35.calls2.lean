/-! ===== the class's calls: what goes on in mind ===== -/
section C3
variable {l : Launch} {d : Nat} {w : mW} {st : St} {D : Yd}
theorem ev_standingOver (hM : YardAt w 1 D) (hI : YI D) (hd : 6 ≤ d) {n : Nat} (hn : n ≤ 60) (he : de D + n < 100000) : Cl l d MX2_standingOver [mR 0 0, mI (nI n)] w (fun r u => r = some (mI (nI (sto D n))) ∧ Off 1 w u ∧ YardAt u 1 (passN D n)) := by
  show Ev l d MX2_standingOver 0 [some (mR 0 0), some (mI (nI n)), none, none] [] w _
  refine Ev.blk kX2_standingOver_0 rfl trivial ?_
  refine Ev.for (fun i L u => Off 1 w u ∧ YardAt u 1 (passN D i) ∧ L = [some (mR 0 0), some (mI (nI n)), some (mI (nI (sto D i))), some (mI (nI (i + 1)))]) n ?_ ?_ 0 (Nat.zero_le _) ⟨Off.rf, hM, rfl⟩
  · rintro L u ⟨ho, hE, rfl⟩
    refine Ev.blk kX2_standingOver_4 rfl trivial ?_
    refine Ev.br tX2_standingOver_6 rfl (fun c6 => ?_) (fun c6 => ?_)
    · refine Ev.blk kX2_standingOver_32 rfl trivial ?_
      refine Ev.iret tX2_standingOver_33 rfl rfl ?_
      exact ⟨rfl, ho, hE⟩
    · exact absurd (nI_lt (by omega) (by omega)) c6
  · rintro i L u hi ⟨ho, hE, rfl⟩ k
    have hIi := passN_YI hI i (by omega)
    have hde : de (passN D i) = de D + i := (passN_n i).2.2.2.2.2
    refine Ev.blk kX2_standingOver_4 rfl trivial ?_
    refine Ev.br tX2_standingOver_6 rfl (fun c6 => ?_) (fun c6 => ?_)
    · exact absurd c6 (nI_nlt (by omega) (by omega))
    · refine Ev.blk kX2_standingOver_9 rfl trivial ?_
      refine Ev.cV (d1 := d - 1) (ev_pass hE hIi (by omega)) tX2_standingOver_13 qX2_134 rfl rfl (by decide) ⟨rfl, rfl, rfl⟩ (by omega) ?_
      rintro _ _ ⟨rfl, ho2, hE2⟩
      refine Ev.blk kX2_standingOver_16 rfl trivial ?_
      refine Ev.cV (d1 := d - 1) (ev_standingCount hE2 (by omega)) tX2_standingOver_21 qX2_122 rfl rfl (by decide) ⟨rfl, rfl, rfl⟩ (by omega) ?_
      rintro _ _ ⟨rfl, rfl⟩
      refine Ev.blk kX2_standingOver_24 rfl trivial ?_
      simp only [nI_add]
      refine Ev.jmp tX2_standingOver_29 ?_
      exact k _ _ ⟨ho.tr ho2, hE2, rfl⟩
theorem ev_secondsTillOver (hM : YardAt w 1 D) (hI : YI D) (hd : 6 ≤ d) (he : de D + 61 < 100000) : Cl l d MX2_secondsTillOver [mR 0 0] w (fun r u => r = some (mI (oM9 (tov D))) ∧ Off 1 w u) := by
  show Ev l d MX2_secondsTillOver 0 [some (mR 0 0), none] [] w _
  refine Ev.blk kX2_secondsTillOver_0 rfl trivial ?_
  refine Ev.for (fun i L u => Off 1 w u ∧ YardAt u 1 (passN D i) ∧ fst1 (fun k => ovr (passN D k)) i = none ∧ L = [some (mR 0 0), some (mI (nI i))]) 61 ?_ ?_ 0 (Nat.zero_le _) ⟨Off.rf, hM, rfl, rfl⟩
  · rintro L u ⟨ho, hE, h0, rfl⟩
    refine Ev.blk kX2_secondsTillOver_2 rfl trivial ?_
    refine Ev.br tX2_secondsTillOver_5 rfl (fun c5 => ?_) (fun c5 => ?_)
    · refine Ev.blk kX2_secondsTillOver_33 rfl trivial ?_
      refine Ev.iret tX2_secondsTillOver_35 rfl rfl ?_
      refine ⟨?_, ho⟩
      unfold tov
      rw [h0]
      rfl
    · exact absurd (nI_lt (by decide) (by decide)) c5
  · rintro i L u hi ⟨ho, hE, h0, rfl⟩ k
    have hIi := passN_YI hI i (by omega)
    have hde : de (passN D i) = de D + i := (passN_n i).2.2.2.2.2
    refine Ev.blk kX2_secondsTillOver_2 rfl trivial ?_
    refine Ev.br tX2_secondsTillOver_5 rfl (fun c5 => ?_) (fun c5 => ?_)
    · exact absurd c5 (nI_nlt (by omega) (by omega))
    · refine Ev.blk kX2_secondsTillOver_8 rfl trivial ?_
      refine Ev.cV (d1 := d - 1) (ev_isOver hE hIi (by omega)) tX2_secondsTillOver_12 qX2_208 rfl rfl (by decide) ⟨rfl, rfl, rfl⟩ (by omega) ?_
      rintro _ _ ⟨rfl, rfl⟩
      refine Ev.br tX2_secondsTillOver_15 rfl (fun c15 => ?_) (fun c15 => ?_)
      · rw [bI_0] at c15
        refine Ev.blk kX2_secondsTillOver_20 rfl trivial ?_
        refine Ev.cV (d1 := d - 1) (ev_pass hE hIi (by omega)) tX2_secondsTillOver_24 qX2_134 rfl rfl (by decide) ⟨rfl, rfl, rfl⟩ (by omega) ?_
        rintro _ _ ⟨rfl, ho2, hE2⟩
        refine Ev.blk kX2_secondsTillOver_27 rfl trivial ?_
        refine Ev.jmp tX2_secondsTillOver_30 ?_
        refine k _ _ ⟨ho.tr ho2, hE2, ?_, by rw [nI_add]⟩
        unfold fst1
        rw [h0]
        simp only [c15]
        rfl
      · rw [bI_0] at c15
        have c15 : ovr (passN D i) = true := bl_t c15
        refine Ev.blk kX2_secondsTillOver_18 rfl trivial ?_
        refine Ev.iret tX2_secondsTillOver_19 rfl rfl ?_
        refine ⟨?_, ho⟩
        unfold tov
        rw [fst1_some h0 c15 hi]
        rfl
theorem ev_othersStanding (hM : YardAt w 1 D) (hI : YI D) (hd : 6 ≤ d) (he : de D + 20 < 100000) {i : Nat} (hi : i < dn D) : Cl l d MX2_othersStanding [mR 0 0, mI (nI i)] w (fun r u => r = some (mI (nI (ots D i 20))) ∧ Off 1 w u) := by
  show Ev l d MX2_othersStanding 0 [some (mR 0 0), some (mI (nI i)), none, none] [] w _
  have hi8 : i < 8 := Nat.lt_of_lt_of_le hi hI.1
  refine Ev.blk kX2_othersStanding_0 rfl trivial ?_
  refine Ev.for (fun m L u => Off 1 w u ∧ YardAt u 1 (passN D m) ∧ L = [some (mR 0 0), some (mI (nI i)), some (mI (nI (ots D i m))), some (mI (nI (m + 1)))]) 20 ?_ ?_ 0 (Nat.zero_le _) ⟨Off.rf, hM, rfl⟩
  · rintro L u ⟨ho, hE, rfl⟩
    refine Ev.blk kX2_othersStanding_4 rfl trivial ?_
    refine Ev.br tX2_othersStanding_7 rfl (fun c7 => ?_) (fun c7 => ?_)
    · refine Ev.blk kX2_othersStanding_50 rfl trivial ?_
      refine Ev.iret tX2_othersStanding_51 rfl rfl ?_
      exact ⟨rfl, ho⟩
    · exact absurd (nI_lt (by decide) (by decide)) c7
  · rintro m L u hm ⟨ho, hE, rfl⟩ k
    have hIi := passN_YI hI m (by omega)
    have hde : de (passN D m) = de D + m := (passN_n m).2.2.2.2.2
    have hIj := passN_YI hI (m + 1) (by omega)
    have hin : i < dn (passN D (m + 1)) := by rw [(passN_n (m + 1)).1]; exact hi
    have hc := cnt_wo (q := ds (pass (passN D m))) hi8
    refine Ev.blk kX2_othersStanding_4 rfl trivial ?_
    refine Ev.br tX2_othersStanding_7 rfl (fun c7 => ?_) (fun c7 => ?_)
    · exact absurd c7 (nI_nlt (by omega) (by omega))
    · refine Ev.blk kX2_othersStanding_10 rfl trivial ?_
      refine Ev.cV (d1 := d - 1) (ev_pass hE hIi (by omega)) tX2_othersStanding_14 qX2_134 rfl rfl (by decide) ⟨rfl, rfl, rfl⟩ (by omega) ?_
      rintro _ _ ⟨rfl, ho2, hE2⟩
      refine Ev.blk kX2_othersStanding_17 rfl trivial ?_
      refine Ev.cV (d1 := d - 1) (ev_standingCount hE2 (by omega)) tX2_othersStanding_22 qX2_122 rfl rfl (by decide) ⟨rfl, rfl, rfl⟩ (by omega) ?_
      rintro _ _ ⟨rfl, rfl⟩
      refine Ev.blk kX2_othersStanding_25 rfl trivial ?_
      refine Ev.cV (d1 := d - 1) (ev_isStanding hE2 hIj (by omega) hin) tX2_othersStanding_30 qX2_70 rfl rfl (by decide) ⟨rfl, rfl, rfl⟩ (by omega) ?_
      rintro _ _ ⟨rfl, rfl⟩
      refine Ev.br tX2_othersStanding_33 rfl (fun c33 => ?_) (fun c33 => ?_)
      · rw [bI_0] at c33
        rw [if_neg (by rw [c33]; decide)] at hc
        refine Ev.blk kX2_othersStanding_40 rfl trivial ?_
        refine Ev.blk kX2_othersStanding_41 rfl trivial ?_
        refine Ev.jmp tX2_othersStanding_47 ?_
        refine k _ _ ⟨ho.tr ho2, hE2, ?_⟩
        rw [hc]
        first
          | (rw [pk_sub (Nat.le_add_left _ _), Nat.add_sub_cancel, nI_add, nI_add]; rfl)
          | (rw [pk_sub (Nat.zero_le _), nI_add, nI_add]; rfl)
      · rw [bI_0] at c33
        rw [if_pos (bl_t c33)] at hc
        refine Ev.blk kX2_othersStanding_36 rfl trivial ?_
        refine Ev.jmp tX2_othersStanding_37 ?_
        refine Ev.blk kX2_othersStanding_41 rfl trivial ?_
        refine Ev.jmp tX2_othersStanding_47 ?_
        refine k _ _ ⟨ho.tr ho2, hE2, ?_⟩
        rw [hc]
        first
          | (rw [pk_sub (Nat.le_add_left _ _), Nat.add_sub_cancel, nI_add, nI_add]; rfl)
          | (rw [pk_sub (Nat.zero_le _), nI_add, nI_add]; rfl)
theorem ev_addCatchers (hM : YardAt w 1 D) (hI : YI D) (hd : 4 ≤ d) {n : Nat} (hn : n ≤ 3) : Cl l d MX2_addCatchers [mR 0 0, mI (nI n)] w (fun r u => r = some (mI (bI (decide (dn D + n ≤ 8)))) ∧ Off 1 w u ∧ (dn D + n ≤ 8 → YardAt u 1 (addN D n))) := by
  show Ev l d MX2_addCatchers 0 [some (mR 0 0), some (mI (nI n)), none] [] w _
  have h8 := hI.1
  refine Ev.blk kX2_addCatchers_0 rfl trivial ?_
  refine Ev.for (fun i L u => Off 1 w u ∧ dn D + i ≤ 8 ∧ YardAt u 1 (addN D i) ∧ L = [some (mR 0 0), some (mI (nI n)), some (mI (nI i))]) n ?_ ?_ 0 (Nat.zero_le _) ⟨Off.rf, h8, hM, rfl⟩
  · rintro L u ⟨ho, h1, hE, rfl⟩
    refine Ev.blk kX2_addCatchers_2 rfl trivial ?_
    refine Ev.br tX2_addCatchers_4 rfl (fun c4 => ?_) (fun c4 => ?_)
    · refine Ev.blk kX2_addCatchers_28 rfl trivial ?_
      refine Ev.iret tX2_addCatchers_29 rfl rfl ?_
      exact ⟨by rw [decide_eq_true h1]; rfl, ho, fun _ => hE⟩
    · exact absurd (nI_le (Nat.le_refl _) (by omega)) c4
  · rintro i L u hi ⟨ho, h1, hE, rfl⟩ k
    have hIi := addN_YI hI i h1
    have ha := ev_add (l := l) (d := d - 1) hE hIi (by omega) (k := 4) (c := 0) (f := 0) (by decide) (by decide) (by decide)
    have hb : addB (addN D i) 4 0 0 = decide (dn D + i < 8) := by
      unfold addB
      rw [addN_dn]
      simp
    rw [hb] at ha
    by_cases hlt : dn D + i < 8
    · rw [decide_eq_true hlt] at ha
      refine Ev.blk kX2_addCatchers_2 rfl trivial ?_
      refine Ev.br tX2_addCatchers_4 rfl (fun c4 => ?_) (fun c4 => ?_)
      · exact absurd c4 (nI_ge hi (by omega))
      · refine Ev.blk kX2_addCatchers_7 rfl trivial ?_
        refine Ev.cV (d1 := d - 1) (ha) tX2_addCatchers_14 qX2_211 rfl rfl (by decide) ⟨rfl, rfl, rfl⟩ (by omega) ?_
        rintro _ _ ⟨rfl, ho2, hE2⟩
        refine Ev.br tX2_addCatchers_17 rfl (fun c17 => ?_) (fun c17 => ?_)
        · refine Ev.blk kX2_addCatchers_22 rfl trivial ?_
          refine Ev.jmp tX2_addCatchers_25 ?_
          exact k _ _ ⟨ho.tr ho2, by omega, hE2, by rw [nI_add]⟩
        · exact absurd (show ¬ bI true = nI 0 by decide) c17
    · rw [decide_eq_false hlt] at ha
      refine Ev.blk kX2_addCatchers_2 rfl trivial ?_
      refine Ev.br tX2_addCatchers_4 rfl (fun c4 => ?_) (fun c4 => ?_)
      · exact absurd c4 (nI_ge hi (by omega))
      · refine Ev.blk kX2_addCatchers_7 rfl trivial ?_
        refine Ev.cV (d1 := d - 1) (ha) tX2_addCatchers_14 qX2_211 rfl rfl (by decide) ⟨rfl, rfl, rfl⟩ (by omega) ?_
        rintro _ _ ⟨rfl, ho2, hE2⟩
        refine Ev.br tX2_addCatchers_17 rfl (fun c17 => ?_) (fun c17 => ?_)
        · exact absurd rfl c17
        · refine Ev.blk kX2_addCatchers_20 rfl trivial ?_
          refine Ev.iret tX2_addCatchers_21 rfl rfl ?_
          refine ⟨?_, ho.tr ho2, fun z => by omega⟩
          rw [decide_eq_false (show ¬ dn D + n ≤ 8 by omega)]
          rfl
theorem ev_firstUntrue (hC : KlsAt w st) (hS : SI st) (hM : YardAt w 1 D) (hI : YI D) (hd : 6 ≤ d) (he : de D + 20 < 100000) : Cl l d MX2_firstUntrue [mR 0 0] w (fun r u => r = some (mI (oM9 (unt st D))) ∧ Off 1 w u) := by
  show Ev l d MX2_firstUntrue 0 [some (mR 0 0), none] [] w _
  have h20 := hS.2.2.2.1
  have h8 := hS.2.2.2.2
  refine Ev.blk kX2_firstUntrue_0 rfl trivial ?_
  refine Ev.for (fun i L u => Off 1 w u ∧ YardAt u 1 (passN D i) ∧ fst1 (fun k => !(cnt (ds (passN D (k + 1))) 8 == sR st k)) i = none ∧ L = [some (mR 0 0), some (mI (nI i))]) (sM st) ?_ ?_ 0 (Nat.zero_le _) ⟨Off.rf, hM, rfl, rfl⟩
  · rintro L u ⟨ho, hE, h0, rfl⟩
    have hm := (hC.mind ho (Or.inl rfl)).2.2.2.2.1
    refine Ev.blk kX2_firstUntrue_2 rfl trivial ?_
    simp only [hm]
    refine Ev.br tX2_firstUntrue_7 rfl (fun c7 => ?_) (fun c7 => ?_)
    · refine Ev.blk kX2_firstUntrue_41 rfl trivial ?_
      refine Ev.iret tX2_firstUntrue_43 rfl rfl ?_
      refine ⟨?_, ho⟩
      unfold unt
      rw [h0]
      rfl
    · exact absurd (nI_le (Nat.le_refl _) (by omega)) c7
  · rintro i L u hi ⟨ho, hE, h0, rfl⟩ k
    have hm := (hC.mind ho (Or.inl rfl)).2.2.2.2.1
    have hIi := passN_YI hI i (by omega)
    have hde : de (passN D i) = de D + i := (passN_n i).2.2.2.2.2
    have hri := h8 i hi
    have hci := cnt_le (ds (passN D (i + 1))) 8
    refine Ev.blk kX2_firstUntrue_2 rfl trivial ?_
    simp only [hm]
    refine Ev.br tX2_firstUntrue_7 rfl (fun c7 => ?_) (fun c7 => ?_)
    · exact absurd c7 (nI_ge hi (by omega))
    · refine Ev.blk kX2_firstUntrue_10 rfl trivial ?_
      refine Ev.cV (d1 := d - 1) (ev_pass hE hIi (by omega)) tX2_firstUntrue_14 qX2_134 rfl rfl (by decide) ⟨rfl, rfl, rfl⟩ (by omega) ?_
      rintro _ _ ⟨rfl, ho2, hE2⟩
      have hr := (hC.mind (ho.tr ho2) (Or.inl rfl)).2.2.2.2.2.1 i hi
      refine Ev.blk kX2_firstUntrue_17 rfl trivial ?_
      refine Ev.cV (d1 := d - 1) (ev_standingCount hE2 (by omega)) tX2_firstUntrue_21 qX2_122 rfl rfl (by decide) ⟨rfl, rfl, rfl⟩ (by omega) ?_
      rintro _ _ ⟨rfl, rfl⟩
      refine Ev.blk kX2_firstUntrue_24 rfl ⟨trivial, vinN (show i < 20 by omega) (by decide)⟩ ?_
      rw [ixN (by omega), hr]
      refine Ev.br tX2_firstUntrue_30 rfl (fun c30 => ?_) (fun c30 => ?_)
      · rw [nI_eq (Nat.lt_of_le_of_lt (cnt_le _ 8) (by decide)) (by omega)] at c30
        refine Ev.blk kX2_firstUntrue_35 rfl trivial ?_
        refine Ev.jmp tX2_firstUntrue_38 ?_
        refine k _ _ ⟨ho.tr ho2, hE2, ?_, by rw [nI_add]⟩
        unfold fst1
        rw [h0]
        have e : (cnt (ds (passN D (i + 1))) 8 == sR st i) = true := by rw [beq_iff_eq]; exact c30
        simp only [e]
        rfl
      · rw [nI_eq (Nat.lt_of_le_of_lt (cnt_le _ 8) (by decide)) (by omega)] at c30
        refine Ev.blk kX2_firstUntrue_33 rfl trivial ?_
        refine Ev.iret tX2_firstUntrue_34 rfl rfl ?_
        refine ⟨?_, ho.tr ho2⟩
        unfold unt
        rw [fst1_some h0 (by rw [show (cnt (ds (passN D (i + 1))) 8 == sR st i) = false from beq_false_of_ne c30]; rfl) hi]
        rfl
theorem ev_greatestShared {a b : Nat} (ha : a < 1000) (hb : 0 < b ∧ b < 1000) : Cl l d MX2_greatestShared [mI (nI a), mI (nI b)] w (fun r u => u = w ∧ r = some (mI (nI (Nat.gcd a b)))) := by
  show Ev l d MX2_greatestShared 0 [some (mI (nI a)), some (mI (nI b)), none] [] w _
  refine Ev.blk kX2_greatestShared_0 rfl trivial ?_
  refine Ev.for (fun i L u => u = w ∧ (∀ x, b - i < x → x ≤ b → ¬ (x ∣ a ∧ x ∣ b)) ∧ L = [some (mI (nI a)), some (mI (nI b)), some (mI (nI (b - i)))]) (b - 1) ?_ ?_ 0 (Nat.zero_le _) ⟨rfl, fun x h1 h2 => by omega, rfl⟩
  · rintro L u ⟨rfl, h0, rfl⟩
    have e1 : b - (b - 1) = 1 := by omega
    rw [e1] at h0 ⊢
    refine Ev.blk kX2_greatestShared_2 rfl trivial ?_
    refine Ev.br tX2_greatestShared_4 rfl (fun c4 => ?_) (fun c4 => ?_)
    · refine Ev.blk kX2_greatestShared_27 rfl trivial ?_
      refine Ev.iret tX2_greatestShared_28 rfl rfl ?_
      exact ⟨rfl, by rw [gcd_s hb.1 (Nat.one_dvd a) (Nat.one_dvd b) h0]⟩
    · exact absurd (show nI 1 ≤ nI 1 by decide) c4
  · rintro i L u hi ⟨rfl, h0, rfl⟩ k
    have hz : 0 < b - i := by omega
    have nz : ¬ nI (b - i) = 0 := nI_ne0 hz (by omega)
    have e1 : mrem (nI a) (nI (b - i)) = nI (a % (b - i)) := mrem_n (by omega) hz (by omega)
    have e2 : mrem (nI b) (nI (b - i)) = nI (b % (b - i)) := mrem_n (by omega) hz (by omega)
    have m1 : a % (b - i) < 2 ^ 31 := Nat.lt_of_le_of_lt (Nat.mod_le _ _) (by omega)
    have m2 : b % (b - i) < 2 ^ 31 := Nat.lt_of_le_of_lt (Nat.mod_le _ _) (by omega)
    have nx : ¬ ((b - i) ∣ a ∧ (b - i) ∣ b) → ∀ x, b - (i + 1) < x → x ≤ b → ¬ (x ∣ a ∧ x ∣ b) := by
      intro hn x h1 h2
      by_cases e : x = b - i
      · subst e; exact hn
      · exact h0 x (by omega) h2
    have dec : nI (b - i) + (-1) = nI (b - (i + 1)) := by
      rw [show b - i = (b - (i + 1)) + 1 by omega, pk_m1]
    refine Ev.blk kX2_greatestShared_2 rfl trivial ?_
    refine Ev.br tX2_greatestShared_4 rfl (fun c4 => ?_) (fun c4 => ?_)
    · exact absurd c4 (by rw [nI_leI (by omega) (by omega)]; omega)
    · refine Ev.blk kX2_greatestShared_7 rfl ⟨trivial, nz⟩ ?_
      rw [e1]
      refine Ev.br tX2_greatestShared_10 rfl (fun c10 => ?_) (fun c10 => ?_)
      · rw [nI_eq m1 (by omega)] at c10
        refine Ev.blk kX2_greatestShared_21 rfl trivial ?_
        refine Ev.jmp tX2_greatestShared_24 ?_
        refine k _ _ ⟨rfl, nx ?_, by rw [dec]⟩
        first
          | exact fun z => c10 (Nat.mod_eq_zero_of_dvd z.1)
          | exact fun z => c16 (Nat.mod_eq_zero_of_dvd z.2)
      · rw [nI_eq m1 (by omega), Classical.not_not] at c10
        refine Ev.blk kX2_greatestShared_13 rfl ⟨trivial, nz⟩ ?_
        rw [e2]
        refine Ev.br tX2_greatestShared_16 rfl (fun c16 => ?_) (fun c16 => ?_)
        · rw [nI_eq m2 (by omega)] at c16
          refine Ev.blk kX2_greatestShared_21 rfl trivial ?_
          refine Ev.jmp tX2_greatestShared_24 ?_
          refine k _ _ ⟨rfl, nx ?_, by rw [dec]⟩
          first
            | exact fun z => c10 (Nat.mod_eq_zero_of_dvd z.1)
            | exact fun z => c16 (Nat.mod_eq_zero_of_dvd z.2)
        · rw [nI_eq m2 (by omega), Classical.not_not] at c16
          refine Ev.blk kX2_greatestShared_19 rfl trivial ?_
          refine Ev.iret tX2_greatestShared_20 rfl rfl ?_
          exact ⟨rfl, by rw [gcd_s hb.1 (Nat.dvd_of_mod_eq_zero c10) (Nat.dvd_of_mod_eq_zero c16) h0]⟩
theorem ev_over (hC : KlsAt w st) (hS : SI st) (hd : 8 ≤ d) : Cl l d MX2_over [mR 0 0] w (fun r u => CP w (P_over st) r u) := by
  show Ev l d MX2_over 0 [some (mR 0 0)] [] w _
  obtain ⟨g, hY⟩ := hC.1
  have hI : YI (sN st) := hS.1.1
  have hse : de (sN st) ≤ 999 := hS.1.2.1
  have hp : hasP (ug (sN st) g) = hasP (sN st) := rfl
  unfold P_over
  refine Ev.blk kX2_over_0 rfl trivial ?_
  refine Ev.cV (d1 := d - 1) (ev_hasPlayers hY hI (by omega)) tX2_over_4 qX2_114 rfl rfl (by decide) ⟨rfl, rfl, rfl⟩ (by omega) ?_
  rintro _ _ ⟨rfl, rfl⟩
  rw [hp]
  refine Ev.br tX2_over_7 rfl (fun c7 => ?_) (fun c7 => ?_)
  · rw [bI_0] at c7
    rw [if_pos (bl_t c7)]
    refine Ev.blk kX2_over_17 rfl trivial ?_
    refine Ev.cV (d1 := d - 1) (ev_copyFrom (y := 1) (z := 0) (by decide) hY (by omega)) tX2_over_25 qX2_107 rfl rfl (by decide) ⟨rfl, rfl, rfl⟩ (by omega) ?_
    rintro _ _ ⟨rfl, ho, hE⟩
    rw [hS.1.can] at hE
    refine Ev.blk kX2_over_28 rfl trivial ?_
    refine Ev.cV (d1 := d - 1) (ev_secondsTillOver hE hI (by omega) (by omega)) tX2_over_29 qX2_117 rfl rfl (by decide) ⟨rfl, rfl, rfl⟩ (by omega) ?_
    rintro _ _ ⟨rfl, ho2⟩
    refine Ev.iret tX2_over_32 rfl rfl ?_
    exact ⟨rfl, (ho.tr ho2).up, hC.mind (ho.tr ho2) (Or.inl rfl)⟩
  · rw [bI_0, Classical.not_not] at c7
    rw [if_neg (by rw [c7]; decide)]
    refine Ev.blk kX2_over_10 rfl trivial ?_
    refine Ev.cV (d1 := d - 1) (ev_ref hC (Or.inr (Or.inr (Or.inl rfl)))) tX2_over_13 qX2_39 rfl rfl (by decide) ⟨rfl, rfl, rfl⟩ (by omega) ?_
    rintro _ _ ⟨rfl, hS2, hC2⟩
    refine Ev.iret tX2_over_16 rfl rfl ?_
    exact ⟨rfl, hS2, hC2⟩
theorem ev_mean (hC : KlsAt w st) (hS : SI st) (hd : 8 ≤ d) (n x : Int32) : Cl l d MX2_mean [mR 0 0, mI n, mI x] w (fun r u => CPJ w (P_mean st n x) r u) := by
  show Ev l d MX2_mean 0 [some (mR 0 0), some (mI n), some (mI x), none, none, none, none] [] w _
  obtain ⟨g, hY⟩ := hC.1
  have hI : YI (sN st) := hS.1.1
  have hse : de (sN st) ≤ 999 := hS.1.2.1
  have bad : ∀ why, RC why → wh2 (outs n (nI 0) (nI 60)) x = why → Ev l d MX2_mean 24 [some (mR 0 0), some (mI n), some (mI x), some (mI why), none, none, none] [] w (fun r u => CPJ w (P_mean st n x) r u) := by
    intro why hr he
    have e0 : P_mean st n x = (lN 4000000000000000000 - why.toInt64, (RF st why).2) := by
      unfold P_mean
      rw [he, if_neg (rc_k hr).2.2]
    rw [e0]
    refine Ev.blk kX2_mean_24 rfl trivial ?_
    refine Ev.br tX2_mean_25 rfl (fun c25 => ?_) (fun c25 => ?_)
    · exact absurd c25 (rc_k hr).2.2
    · refine Ev.blk kX2_mean_28 rfl trivial ?_
      refine Ev.cV (d1 := d - 1) (ev_ref hC hr) tX2_mean_33 qX2_39 rfl rfl (by decide) ⟨rfl, rfl, rfl⟩ (by omega) ?_
      rintro _ _ ⟨rfl, hS2, hC2⟩
      refine Ev.blk kX2_mean_36 rfl trivial ?_
      refine Ev.lret tX2_mean_38 rfl ?_
      exact ⟨rfl, hS2, hC2⟩
  have good : outs n (nI 0) (nI 60) = nI 0 → (x = nI 0 ∨ x = nI 1) → Ev l d MX2_mean 24 [some (mR 0 0), some (mI n), some (mI x), some (mI (nI 0)), none, none, none] [] w (fun r u => CPJ w (P_mean st n x) r u) := by
    intro hw hx
    have e : wh2 (outs n (nI 0) (nI 60)) x = nI 0 := by
      unfold wh2
      rw [if_neg (fun z => hx.elim z.2.1 z.2.2)]
      exact hw
    unfold P_mean
    rw [if_pos e]
    obtain ⟨k, h1, h2, rfl⟩ := outs_ok (by omega) (by omega) hw
    rw [ixC (by omega)]
    have hst := sto_le (sN st) k
    have hct := cnt_le (ds (sN st)) 8
    have hS1 : mnS st (nI k) = cnt (ds (sN st)) 8 + sto (sN st) k := by
      unfold mnS
      rw [ixC (by omega)]
    rw [hS1]
    have hg0 : 0 < Nat.gcd (cnt (ds (sN st)) 8 + sto (sN st) k) (k + 1) := Nat.gcd_pos_of_pos_right _ (by omega)
    have hg1 := Nat.le_of_dvd (Nat.succ_pos k) (Nat.gcd_dvd_right (cnt (ds (sN st)) 8 + sto (sN st) k) (k + 1))
    have hd1 : nI (cnt (ds (sN st)) 8 + sto (sN st) k) / nI (Nat.gcd (cnt (ds (sN st)) 8 + sto (sN st) k) (k + 1)) = nI ((cnt (ds (sN st)) 8 + sto (sN st) k) / Nat.gcd (cnt (ds (sN st)) 8 + sto (sN st) k) (k + 1)) := pk_div (by omega) hg0 (by omega)
    have hd2 : nI (k + 1) / nI (Nat.gcd (cnt (ds (sN st)) 8 + sto (sN st) k) (k + 1)) = nI ((k + 1) / Nat.gcd (cnt (ds (sN st)) 8 + sto (sN st) k) (k + 1)) := pk_div (by omega) hg0 (by omega)
    have nz : ¬ nI (Nat.gcd (cnt (ds (sN st)) 8 + sto (sN st) k) (k + 1)) = 0 := nI_ne0 hg0 (by omega)
    refine Ev.blk kX2_mean_24 rfl trivial ?_
    refine Ev.br tX2_mean_25 rfl (fun c25 => ?_) (fun c25 => ?_)
    · refine Ev.blk kX2_mean_39 rfl trivial ?_
      refine Ev.cV (d1 := d - 1) (ev_copyFrom (y := 1) (z := 0) (by decide) hY (by omega)) tX2_mean_47 qX2_107 rfl rfl (by decide) ⟨rfl, rfl, rfl⟩ (by omega) ?_
      rintro _ _ ⟨rfl, ho, hE⟩
      rw [hS.1.can] at hE
      refine Ev.blk kX2_mean_50 rfl trivial ?_
      refine Ev.cV (d1 := d - 1) (ev_standingCount hE (by omega)) tX2_mean_54 qX2_122 rfl rfl (by decide) ⟨rfl, rfl, rfl⟩ (by omega) ?_
      rintro _ _ ⟨rfl, rfl⟩
      refine Ev.blk kX2_mean_57 rfl trivial ?_
      refine Ev.cV (d1 := d - 1) (ev_standingOver hE hI (by omega) (show k ≤ 60 by omega) (by omega)) tX2_mean_59 qX2_125 rfl rfl (by decide) ⟨rfl, rfl, rfl⟩ (by omega) ?_
      rintro _ _ ⟨rfl, ho2, hE2⟩
      refine Ev.blk kX2_mean_62 rfl trivial ?_
      simp only [nI_add]
      refine Ev.cS (d1 := d - 1) (ev_greatestShared (show cnt (ds (sN st)) 8 + sto (sN st) k < 1000 by omega) (show 0 < k + 1 ∧ k + 1 < 1000 by omega)) tX2_mean_74 qX2_128 rfl ⟨rfl, rfl, rfl⟩ (by omega) ?_
      rintro _ _ ⟨rfl, rfl⟩
      refine Ev.blk kX2_mean_77 rfl trivial ?_
      refine Ev.br tX2_mean_80 rfl (fun c80 => ?_) (fun c80 => ?_)
      · refine Ev.blk kX2_mean_92 rfl ⟨trivial, nz⟩ ?_
        rw [hd2]
        refine Ev.lret tX2_mean_98 rfl ?_
        refine ⟨?_, (ho.tr ho2).up, hC.mind (ho.tr ho2) (Or.inl rfl)⟩
        first
          | (rw [if_neg c80]; rfl)
          | (rw [if_pos c80]; rfl)
      · rw [Classical.not_not] at c80
        refine Ev.blk kX2_mean_83 rfl ⟨trivial, nz⟩ ?_
        rw [hd1]
        refine Ev.jmp tX2_mean_89 ?_
        refine Ev.lret tX2_mean_98 rfl ?_
        refine ⟨?_, (ho.tr ho2).up, hC.mind (ho.tr ho2) (Or.inl rfl)⟩
        first
          | (rw [if_neg c80]; rfl)
          | (rw [if_pos c80]; rfl)
    · exact absurd rfl c25
  by_cases hw : outs n (nI 0) (nI 60) = nI 0
  · by_cases hx : x = nI 0
    · skip
      refine Ev.blk kX2_mean_0 rfl trivial ?_
      refine Ev.cS (d1 := d - 1) (ev_outside n (nI 0) (nI 60)) tX2_mean_4 qX2_96 rfl ⟨rfl, rfl, rfl⟩ (by omega) ?_
      rintro _ _ ⟨rfl, rfl⟩
      rw [hw]
      refine Ev.blk kX2_mean_7 rfl trivial ?_
      refine Ev.br tX2_mean_9 rfl (fun c9 => ?_) (fun c9 => ?_)
      · exact absurd rfl c9
      · refine Ev.blk kX2_mean_12 rfl trivial ?_
        refine Ev.br tX2_mean_13 rfl (fun c13 => ?_) (fun c13 => ?_)
        · exact good hw (Or.inl hx)
        · exact absurd hx c13
    · by_cases hx1 : x = nI 1
      · skip
        refine Ev.blk kX2_mean_0 rfl trivial ?_
        refine Ev.cS (d1 := d - 1) (ev_outside n (nI 0) (nI 60)) tX2_mean_4 qX2_96 rfl ⟨rfl, rfl, rfl⟩ (by omega) ?_
        rintro _ _ ⟨rfl, rfl⟩
        rw [hw]
        refine Ev.blk kX2_mean_7 rfl trivial ?_
        refine Ev.br tX2_mean_9 rfl (fun c9 => ?_) (fun c9 => ?_)
        · exact absurd rfl c9
        · refine Ev.blk kX2_mean_12 rfl trivial ?_
          refine Ev.br tX2_mean_13 rfl (fun c13 => ?_) (fun c13 => ?_)
          · exact absurd c13 hx
          · refine Ev.blk kX2_mean_16 rfl trivial ?_
            refine Ev.br tX2_mean_18 rfl (fun c18 => ?_) (fun c18 => ?_)
            · exact good hw (Or.inr hx1)
            · exact absurd hx1 c18
      · have e : wh2 (outs n (nI 0) (nI 60)) x = -2 := if_pos ⟨hw, hx, hx1⟩
        refine Ev.blk kX2_mean_0 rfl trivial ?_
        refine Ev.cS (d1 := d - 1) (ev_outside n (nI 0) (nI 60)) tX2_mean_4 qX2_96 rfl ⟨rfl, rfl, rfl⟩ (by omega) ?_
        rintro _ _ ⟨rfl, rfl⟩
        rw [hw]
        refine Ev.blk kX2_mean_7 rfl trivial ?_
        refine Ev.br tX2_mean_9 rfl (fun c9 => ?_) (fun c9 => ?_)
        · exact absurd rfl c9
        · refine Ev.blk kX2_mean_12 rfl trivial ?_
          refine Ev.br tX2_mean_13 rfl (fun c13 => ?_) (fun c13 => ?_)
          · exact absurd c13 hx
          · refine Ev.blk kX2_mean_16 rfl trivial ?_
            refine Ev.br tX2_mean_18 rfl (fun c18 => ?_) (fun c18 => ?_)
            · exact absurd c18 hx1
            · refine Ev.blk kX2_mean_21 rfl trivial ?_
              exact bad _ (Or.inr (Or.inl rfl)) e
  · have e : wh2 (outs n (nI 0) (nI 60)) x = outs n (nI 0) (nI 60) := if_neg (fun z => hw z.1)
    refine Ev.blk kX2_mean_0 rfl trivial ?_
    refine Ev.cS (d1 := d - 1) (ev_outside n (nI 0) (nI 60)) tX2_mean_4 qX2_96 rfl ⟨rfl, rfl, rfl⟩ (by omega) ?_
    rintro _ _ ⟨rfl, rfl⟩
    refine Ev.blk kX2_mean_7 rfl trivial ?_
    refine Ev.br tX2_mean_9 rfl (fun c9 => ?_) (fun c9 => ?_)
    · exact bad _ (outs_rcn hw) e
    · exact absurd hw c9
theorem ev_frees (hC : KlsAt w st) (hS : SI st) (hd : 8 ≤ d) (n : Int32) : Cl l d MX2_frees [mR 0 0, mI n] w (fun r u => CP w (P_frees st n) r u) := by
  show Ev l d MX2_frees 0 [some (mR 0 0), some (mI n), none] [] w _
  obtain ⟨g, hY⟩ := hC.1
  have hI : YI (sN st) := hS.1.1
  have hse : de (sN st) ≤ 999 := hS.1.2.1
  unfold P_frees
  refine Ev.blk kX2_frees_0 rfl trivial ?_
  refine Ev.cS (d1 := d - 1) (ev_outside n (nI 0) (nI 60)) tX2_frees_4 qX2_96 rfl ⟨rfl, rfl, rfl⟩ (by omega) ?_
  rintro _ _ ⟨rfl, rfl⟩
  refine Ev.blk kX2_frees_7 rfl trivial ?_
  refine Ev.br tX2_frees_9 rfl (fun c9 => ?_) (fun c9 => ?_)
  · rw [GO_ok c9]
    obtain ⟨k, h1, h2, rfl⟩ := outs_ok (by omega) (by omega) c9
    rw [ixC (by omega)]
    refine Ev.blk kX2_frees_18 rfl trivial ?_
    refine Ev.cV (d1 := d - 1) (ev_copyFrom (y := 1) (z := 0) (by decide) hY (by omega)) tX2_frees_26 qX2_107 rfl rfl (by decide) ⟨rfl, rfl, rfl⟩ (by omega) ?_
    rintro _ _ ⟨rfl, ho, hE⟩
    rw [hS.1.can] at hE
    refine Ev.blk kX2_frees_29 rfl trivial ?_
    refine Ev.cV (d1 := d - 1) (ev_passMany hE hI (by omega) (show k < 1000 by omega) (by omega)) tX2_frees_34 qX2_103 rfl rfl (by decide) ⟨rfl, rfl, rfl⟩ (by omega) ?_
    rintro _ _ ⟨rfl, ho2, hE2⟩
    refine Ev.blk kX2_frees_37 rfl trivial ?_
    refine Ev.cV (d1 := d - 1) (ev_freeings hE2) tX2_frees_41 qX2_131 rfl rfl (by decide) ⟨rfl, rfl, rfl⟩ (by omega) ?_
    rintro _ _ ⟨rfl, rfl⟩
    refine Ev.iret tX2_frees_44 rfl rfl ?_
    exact ⟨rfl, (ho.tr ho2).up, hC.mind (ho.tr ho2) (Or.inl rfl)⟩
  · refine Ev.blk kX2_frees_12 rfl trivial ?_
    refine Ev.cV (d1 := d - 1) (ev_ref hC (outs_rcn c9)) tX2_frees_14 qX2_39 rfl rfl (by decide) ⟨rfl, rfl, rfl⟩ (by omega) ?_
    rintro _ _ ⟨rfl, hS2, hC2⟩
    refine Ev.iret tX2_frees_17 rfl rfl ?_
    rw [GO_no c9]; exact ⟨rfl, hS2, hC2⟩
theorem alwI_s {k : Nat} : alwI D k &&& nI (bts (ds (passN D (k + 1))) 8) = alwI D (k + 1) := by
  show _ = nI (bts (alw D (k + 1)) 8)
  unfold alwI
  by_cases h : k = 0
  · subst h
    rw [if_pos rfl, Int32.and_comm, tb_m1 _ (b256 _)]
    exact congrArg nI (bts_congr (fun j _ => (Bool.true_and _).symm))
  · rw [if_neg h, b_and]
    rfl
theorem ev_never (hC : KlsAt w st) (hS : SI st) (hd : 8 ≤ d) (n : Int32) : Cl l d MX2_never [mR 0 0, mI n] w (fun r u => CP w (P_never st n) r u) := by
  show Ev l d MX2_never 0 [some (mR 0 0), some (mI n), none, none, none] [] w _
  obtain ⟨g, hY⟩ := hC.1
  have hI : YI (sN st) := hS.1.1
  have hse : de (sN st) ≤ 999 := hS.1.2.1
  unfold P_never
  have loop : ∀ k, 0 < k → k ≤ 60 → ∀ u0 (z : Int32), Off 1 w u0 → YardAt u0 1 (sN st) → Ev l d MX2_never 46 [some (mR 0 0), some (mI (nI k)), some (mI z), some (mI (-1)), some (mI (nI 1))] [] u0 (fun r u => CP w (nI (bts (alw (sN st) k) 8), st) r u) := by
    intro k h0 h1 u0 z ho hE
    refine Ev.for (fun i L u => Off 1 w u ∧ YardAt u 1 (passN (sN st) i) ∧ L = [some (mR 0 0), some (mI (nI k)), some (mI z), some (mI (alwI (sN st) i)), some (mI (nI (i + 1)))]) k ?_ ?_ 0 (Nat.zero_le _) ⟨ho, hE, rfl⟩
    · rintro L u ⟨ho, hE, rfl⟩
      refine Ev.blk kX2_never_46 rfl trivial ?_
      refine Ev.br tX2_never_49 rfl (fun c49 => ?_) (fun c49 => ?_)
      · refine Ev.blk kX2_never_75 rfl trivial ?_
        refine Ev.iret tX2_never_76 rfl rfl ?_
        refine ⟨?_, ho.up, hC.mind ho (Or.inl rfl)⟩
        unfold alwI
        rw [if_neg (by omega)]
      · exact absurd (nI_lt (by omega) (by omega)) c49
    · rintro i L u hi ⟨ho, hE, rfl⟩ kk
      have hIi := passN_YI hI i (by omega)
      have hde : de (passN (sN st) i) = de (sN st) + i := (passN_n i).2.2.2.2.2
      refine Ev.blk kX2_never_46 rfl trivial ?_
      refine Ev.br tX2_never_49 rfl (fun c49 => ?_) (fun c49 => ?_)
      · exact absurd c49 (nI_nlt (by omega) (by omega))
      · refine Ev.blk kX2_never_52 rfl trivial ?_
        refine Ev.cV (d1 := d - 1) (ev_pass hE hIi (by omega)) tX2_never_56 qX2_134 rfl rfl (by decide) ⟨rfl, rfl, rfl⟩ (by omega) ?_
        rintro _ _ ⟨rfl, ho2, hE2⟩
        refine Ev.blk kX2_never_59 rfl trivial ?_
        refine Ev.cV (d1 := d - 1) (ev_standingBits hE2) tX2_never_64 qX2_111 rfl rfl (by decide) ⟨rfl, rfl, rfl⟩ (by omega) ?_
        rintro _ _ ⟨rfl, rfl⟩
        refine Ev.blk kX2_never_67 rfl trivial ?_
        refine Ev.jmp tX2_never_72 ?_
        exact kk _ _ ⟨ho.tr ho2, hE2, by rw [nI_add, show alwI (sN st) i &&& nI (bts (ds (pass (passN (sN st) i))) 8) = alwI (sN st) (i + 1) from alwI_s]⟩
  refine Ev.blk kX2_never_0 rfl trivial ?_
  refine Ev.cS (d1 := d - 1) (ev_outside n (nI 0) (nI 60)) tX2_never_4 qX2_96 rfl ⟨rfl, rfl, rfl⟩ (by omega) ?_
  rintro _ _ ⟨rfl, rfl⟩
  refine Ev.blk kX2_never_7 rfl trivial ?_
  refine Ev.br tX2_never_9 rfl (fun c9 => ?_) (fun c9 => ?_)
  · rw [GO_ok c9]
    obtain ⟨k, h1, h2, rfl⟩ := outs_ok (by omega) (by omega) c9
    rw [ixC (by omega)]
    refine Ev.blk kX2_never_18 rfl trivial ?_
    refine Ev.br tX2_never_19 rfl (fun c19 => ?_) (fun c19 => ?_)
    · refine Ev.blk kX2_never_30 rfl trivial ?_
      refine Ev.cV (d1 := d - 1) (ev_copyFrom (y := 1) (z := 0) (by decide) hY (by omega)) tX2_never_38 qX2_107 rfl rfl (by decide) ⟨rfl, rfl, rfl⟩ (by omega) ?_
      rintro _ _ ⟨rfl, ho, hE⟩
      rw [hS.1.can] at hE
      refine Ev.blk kX2_never_41 rfl trivial ?_
      rw [if_neg c19]
      exact loop k (by rcases Nat.eq_zero_or_pos k with z | z; exact absurd (by rw [z]) c19; exact z) h2 _ _ ho hE
    · rw [Classical.not_not] at c19
      refine Ev.blk kX2_never_22 rfl trivial ?_
      refine Ev.cV (d1 := d - 1) (ev_standingBits hY) tX2_never_26 qX2_111 rfl rfl (by decide) ⟨rfl, rfl, rfl⟩ (by omega) ?_
      rintro _ _ ⟨rfl, rfl⟩
      refine Ev.iret tX2_never_29 rfl rfl ?_
      rw [if_pos c19]; exact ⟨rfl, Sm.rf, hC⟩
  · refine Ev.blk kX2_never_12 rfl trivial ?_
    refine Ev.cV (d1 := d - 1) (ev_ref hC (outs_rcn c9)) tX2_never_14 qX2_39 rfl rfl (by decide) ⟨rfl, rfl, rfl⟩ (by omega) ?_
    rintro _ _ ⟨rfl, hS2, hC2⟩
    refine Ev.iret tX2_never_17 rfl rfl ?_
    rw [GO_no c9]; exact ⟨rfl, hS2, hC2⟩
theorem ev_mayFree (hC : KlsAt w st) (hS : SI st) (hd : 5 ≤ d) (c : Int32) : Cl l d MX2_mayFree [mR 0 0, mI c] w (fun r u => CP w (P_mayFree st c) r u) := by
  show Ev l d MX2_mayFree 0 [some (mR 0 0), some (mI c)] [] w _
  obtain ⟨g, hY⟩ := hC.1
  have hI : YI (ug (sN st) g) := hS.1.1
  unfold P_mayFree
  by_cases hh : hasI (sN st) c = true
  · obtain ⟨i, hi, rfl⟩ := hasI_of hh hI.1
    have hi8 : i < 8 := Nat.lt_of_lt_of_le hi hI.1
    rw [if_pos hh, ixC (by omega)]
    refine Ev.blk kX2_mayFree_0 rfl trivial ?_
    refine Ev.cV (d1 := d - 1) (ev_hasB hY hh) tX2_mayFree_5 qX2_57 rfl rfl (by decide) ⟨rfl, rfl, rfl⟩ (by omega) ?_
    rintro _ _ ⟨rfl, rfl⟩
    refine Ev.br tX2_mayFree_8 rfl (fun c8 => ?_) (fun c8 => ?_)
    · refine Ev.blk kX2_mayFree_17 rfl trivial ?_
      refine Ev.cV (d1 := d - 1) (ev_couldFree hY hI (by omega) hi) tX2_mayFree_22 qX2_137 rfl rfl (by decide) ⟨rfl, rfl, rfl⟩ (by omega) ?_
      rintro _ _ ⟨rfl, rfl⟩
      refine Ev.iret tX2_mayFree_25 rfl rfl ?_
      exact ⟨rfl, Sm.rf, hC⟩
    · exact absurd (show ¬ bI true = nI 0 by decide) c8
  · rw [if_neg hh]
    refine Ev.blk kX2_mayFree_0 rfl trivial ?_
    refine Ev.cV (d1 := d - 1) (ev_has hY c) tX2_mayFree_5 qX2_57 rfl rfl (by decide) ⟨rfl, rfl, rfl⟩ (by omega) ?_
    rintro _ _ ⟨rfl, rfl⟩
    refine Ev.br tX2_mayFree_8 rfl (fun c8 => ?_) (fun c8 => ?_)
    · exact absurd (hasI_f hh) c8
    · refine Ev.blk kX2_mayFree_11 rfl trivial ?_
      refine Ev.cV (d1 := d - 1) (ev_ref hC (Or.inl rfl)) tX2_mayFree_13 qX2_39 rfl rfl (by decide) ⟨rfl, rfl, rfl⟩ (by omega) ?_
      rintro _ _ ⟨rfl, hS2, hC2⟩
      refine Ev.iret tX2_mayFree_16 rfl rfl ?_
      exact ⟨rfl, hS2, hC2⟩
end C3
