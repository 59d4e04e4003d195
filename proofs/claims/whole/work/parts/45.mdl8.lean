/-! ===== the reference's calls 3 ===== -/
section M8
variable {l : Launch} {d : Nat} {w : mW} {st : St}
theorem plN_addN {D : Yd} (hI : YI D) : ∀ k, dn D + k ≤ 8 → plN (addN D k) = plN D
  | 0, _ => rfl
  | k + 1, h => by
    have ih := plN_addN hI k (by omega)
    have hdn := addN_dn D k
    unfold plN at ih ⊢
    rw [← ih]
    show cnt (fun j => !isC (addN D (k + 1)) j) (dn (addN D k) + 1) = _
    have e1 : isC (addN D (k + 1)) (dn (addN D k)) = true := by
      show decide (4 ≤ va_up (dk (addN D k)) (dn (addN D k)) 4 (dn (addN D k))) = true
      unfold va_up
      rw [if_pos rfl]
      decide
    show cnt (fun j => !isC (addN D (k + 1)) j) (dn (addN D k)) + (if (!isC (addN D (k + 1)) (dn (addN D k))) = true then 1 else 0) = _
    rw [e1]
    refine (Nat.add_zero _).trans (cnt_congr (fun j hj => ?_))
    show (!decide (4 ≤ va_up (dk (addN D k)) (dn (addN D k)) 4 j)) = _
    unfold va_up
    rw [if_neg (by omega)]
    rfl
theorem hasP_addN {D : Yd} (hI : YI D) {k : Nat} (h : dn D + k ≤ 8) : hasP (addN D k) = hasP D := by
  unfold hasP
  rw [plN_addN hI k h]
def enq (D : Yd) (k : Nat) : Bool := decide (dn D + k ≤ 8) && (tov (addN D k)).isSome
theorem addN_dg (D : Yd) : ∀ k, dg (addN D k) = dg D
  | 0 => rfl
  | k + 1 => addN_dg D k
theorem addN_in (D : Yd) : ∀ k, ds (addN D k) = ds D ∧ dt (addN D k) = dt D ∧ dr (addN D k) = dr D ∧ dl (addN D k) = dl D ∧ de (addN D k) = de D ∧ da (addN D k) = da D ∧ ∀ j, j < dn D → dk (addN D k) j = dk D j ∧ dc (addN D k) j = dc D j ∧ df (addN D k) j = df D j
  | 0 => ⟨rfl, rfl, rfl, rfl, rfl, rfl, fun _ _ => ⟨rfl, rfl, rfl⟩⟩
  | k + 1 => by
    obtain ⟨h1, h2, h3, h4, h5, h6, h7⟩ := addN_in D k
    refine ⟨h1, h2, h3, h4, h5, h6, fun j hj => ?_⟩
    obtain ⟨q1, q2, q3⟩ := h7 j hj
    have hdn := addN_dn D k
    show va_up (dk (addN D k)) (dn (addN D k)) 4 j = _ ∧ va_up (dc (addN D k)) (dn (addN D k)) 0 j = _ ∧ va_up (df (addN D k)) (dn (addN D k)) 0 j = _
    unfold va_up
    rw [if_neg (by omega), if_neg (by omega), if_neg (by omega)]
    exact ⟨q1, q2, q3⟩
/-- children that came are gone again -/
theorem MYd.less {D : Yd} {g k : Nat} (h : MYd w (ug (addN D k) g)) : MYd (mpf w 11 0 7 (nI (dn D))) (ug D g) := by
  obtain ⟨h1, h2, h3, h4, h5, h6, h7⟩ := addN_in D k
  have hdn := addN_dn D k
  refine ⟨⟨fun j hj => ?_, fun j hj => ?_, fun j hj => ?_, fun j hj => ?_, fun j hj => ?_, fun j hj => ?_⟩, mgf_pf, ?_, ?_, ?_, ?_⟩
  · have hj : j < dn D := hj
    refine (h.1.1 j (show j < dn (addN D k) by omega)).trans ?_
    exact congrArg nI (h7 j hj).1
  · have hj : j < dn D := hj
    refine (h.1.2.1 j (show j < dn (addN D k) by omega)).trans ?_
    exact congrArg nI (h7 j hj).2.1
  · have hj : j < dn D := hj
    refine (h.1.2.2.1 j (show j < dn (addN D k) by omega)).trans ?_
    exact congrArg nI (h7 j hj).2.2
  · refine (h.1.2.2.2.1 j hj).trans ?_
    show bI (ds (addN D k) j) = bI (ds D j)
    rw [h1]
  · refine (h.1.2.2.2.2.1 j hj).trans ?_
    show nI (dt (addN D k) j) = nI (dt D j)
    rw [h2]
  · refine (h.1.2.2.2.2.2 j hj).trans ?_
    show nI (dr (addN D k) j) = nI (dr D j)
    rw [h3]
  · refine (mgf_pfn (by decide)).trans (h.l.trans ?_)
    show nI (dl (addN D k)) = nI (dl D)
    rw [h4]
  · refine (mgf_pfn (by decide)).trans (h.e.trans ?_)
    show nI (de (addN D k)) = nI (de D)
    rw [h5]
  · exact (mgf_pfn (by decide)).trans h.g
  · refine (mgf_pfn (by decide)).trans (h.a.trans ?_)
    show enM (da (addN D k)) = enM (da D)
    rw [h6]
theorem em_enough (hC : MdlAt w st) (hS : SI st) (hd : 9 ≤ d) : Cl l d MX3_enough [mR 11 0] w (fun r u => MP w (P_enough st) r u) := by
  show Ev l d MX3_enough 0 [some (mR 11 0), none, none, none] [] w _
  obtain ⟨g, hM⟩ := hC.1
  have hI : YI (sN st) := hS.1.1
  have h8 := hI.1
  have hse : de (sN st) ≤ 999 := hS.1.2.1
  unfold P_enough
  by_cases hp : hasP (sN st) = true
  · rw [if_pos hp]
    have ext : ∀ u k g' v z, OffF w u → MYd u (ug (addN (sN st) k) g') → v = oM9 (eno (sN st)) → Ev l d MX3_enough 73 [some (mR 11 0), some (mI (nI (dn (sN st)))), some (mI v), some (mI z)] [] u (fun r u => MP w (oM9 (eno (sN st)), st) r u) := by
      intro u k g' v z ho hE hv
      subst hv
      refine Ev.blk kX3_enough_73 rfl trivial ?_
      refine Ev.iret tX3_enough_79 rfl rfl ?_
      exact ⟨rfl, (ho.tr (OffF.pf (by decide))).lo, hC.keepF hS (ho.tr (OffF.pf (by decide))) hE.less⟩
    have win : ∀ u k g' j, j < 4 → OffF w u → MYd u (ug (addN (sN st) k) g') → nI j = oM9 (eno (sN st)) → Ev l d MX3_enough 66 [some (mR 11 0), some (mI (nI (dn (sN st)))), some (mI (-9)), some (mI (nI j))] [mI (nI j)] u (fun r u => MP w (oM9 (eno (sN st)), st) r u) := by
      intro u k g' j hj ho hE hv
      refine Ev.blk kX3_enough_66 rfl trivial ?_
      refine Ev.jmp tX3_enough_70 ?_
      refine Ev.blk kX3_enough_24 rfl trivial ?_
      refine Ev.br tX3_enough_26 rfl (fun c26 => ?_) (fun c26 => ?_)
      · exact ext _ _ _ _ _ ho hE hv
      · refine Ev.blk kX3_enough_29 rfl trivial ?_
        refine Ev.br tX3_enough_30 rfl (fun c30 => ?_) (fun c30 => ?_)
        · exact ext _ _ _ _ _ ho hE hv
        · exact absurd (nI_le (Nat.zero_le _) (by omega)) c30
    have loop : Ev l d MX3_enough 24 [some (mR 11 0), some (mI (nI (dn (sN st)))), some (mI (-9)), some (mI (nI 0))] [] w (fun r u => MP w (oM9 (eno (sN st)), st) r u) := by
      refine Ev.for (fun j L u => OffF w u ∧ fst1 (enq (sN st)) j = none ∧ (∃ c g', (c + 1 = j ∨ (c = 0 ∧ j = 0) ∨ (c < j ∧ dn (sN st) + c = 8)) ∧ dn (sN st) + c ≤ 8 ∧ MYd u (ug (addN (sN st) c) g')) ∧ L = [some (mR 11 0), some (mI (nI (dn (sN st)))), some (mI (-9)), some (mI (nI j))]) 4 ?_ ?_ 0 (Nat.zero_le _) ⟨OffF.rf, rfl, ⟨0, g, Or.inr (Or.inl ⟨rfl, rfl⟩), h8, hM⟩, rfl⟩
      · rintro L u ⟨ho, h0, ⟨c, g', -, -, hE⟩, rfl⟩
        have he : eno (sN st) = none := h0
        refine Ev.blk kX3_enough_24 rfl trivial ?_
        refine Ev.br tX3_enough_26 rfl (fun c26 => ?_) (fun c26 => ?_)
        · exact ext _ _ _ _ _ ho hE (by rw [he]; rfl)
        · exact absurd (nI_le (Nat.le_refl _) (by decide)) c26
      · rintro j L u hj ⟨ho, h0, ⟨c, g', hcj, hc8, hE⟩, rfl⟩ k
        have run : ∀ u2 c2 g2, OffF w u2 → (c2 = j ∨ (c2 < j ∧ dn (sN st) + c2 = 8)) → dn (sN st) + c2 ≤ 8 → MYd u2 (ug (addN (sN st) c2) g2) → Ev l d MX3_enough 53 [some (mR 11 0), some (mI (nI (dn (sN st)))), some (mI (-9)), some (mI (nI j))] [] u2 (fun r u => MP w (oM9 (eno (sN st)), st) r u) := by
          intro u2 c2 g2 ho2 hc2 hc28 hE2
          have hov := em_overIn (l := l) (d := d - 1) hE2 (show YI (ug (addN (sN st) c2) g2) from addN_YI hI c2 hc28) (show hasP (ug (addN (sN st) c2) g2) = true from (hasP_addN hI hc28).trans hp) (by omega) (by show de (addN (sN st) c2) + 61 < 100000; rw [addN_de]; omega)
          rw [tov_g] at hov
          cases ht : tov (addN (sN st) c2) with
          | none =>
            rw [ht] at hov
            have hq : enq (sN st) j = false := by
              rcases hc2 with e | ⟨e1, e2⟩
              · subst e
                unfold enq
                rw [ht]
                simp
              · unfold enq
                rw [decide_eq_false (show ¬ dn (sN st) + j ≤ 8 by omega)]
                rfl
            refine Ev.blk kX3_enough_53 rfl trivial ?_
            refine Ev.cV (d1 := d - 1) (hov) tX3_enough_54 qX3_238 rfl rfl (by decide) ⟨rfl, rfl, rfl⟩ (by omega) ?_
            rintro _ _ ⟨rfl, oK, g3, hE3⟩
            refine Ev.br tX3_enough_57 rfl (fun c57 => ?_) (fun c57 => ?_)
            · refine Ev.blk kX3_enough_64 rfl trivial ?_
              refine Ev.blk kX3_enough_66 rfl trivial ?_
              refine Ev.jmp tX3_enough_70 ?_
              exact k _ _ ⟨ho2.tr oK.F, fst1_f h0 hq, ⟨c2, g3, by omega, hc28, hE3⟩, by rw [nI_add]⟩
            · exact absurd (show oM9 none < nI 0 by decide) c57
          | some v =>
            rw [ht] at hov
            have hv : v < 61 := (fst1_spec ht).1
            have hq : enq (sN st) c2 = true := by
              unfold enq
              rw [ht, decide_eq_true hc28]
              rfl
            have hcj2 : c2 = j := by
              rcases hc2 with e | ⟨e1, e2⟩
              · exact e
              · have := fst1_no h0 c2 e1
                rw [hq] at this
                cases this
            have he : eno (sN st) = some j := by
              rw [← hcj2]
              rw [← hcj2] at h0 hj
              exact fst1_some (q := enq (sN st)) h0 hq hj
            refine Ev.blk kX3_enough_53 rfl trivial ?_
            refine Ev.cV (d1 := d - 1) (hov) tX3_enough_54 qX3_238 rfl rfl (by decide) ⟨rfl, rfl, rfl⟩ (by omega) ?_
            rintro _ _ ⟨rfl, oK, g3, hE3⟩
            refine Ev.br tX3_enough_57 rfl (fun c57 => ?_) (fun c57 => ?_)
            · exact absurd c57 (nI_nlt (Nat.zero_le _) (by omega))
            · refine Ev.blk kX3_enough_60 rfl trivial ?_
              refine Ev.jmp tX3_enough_61 ?_
              exact win _ _ _ j hj (ho2.tr oK.F) hE3 (by rw [he]; rfl)
        have hnn : mgf u 11 0 7 = nI (dn (sN st) + c) := by
          have := hE.n
          rw [show dn (ug (addN (sN st) c) g') = dn (sN st) + c from addN_dn _ _] at this
          exact this
        by_cases hj0 : j = 0
        · have hc0 : c = 0 := by omega
          refine Ev.blk kX3_enough_24 rfl trivial ?_
          refine Ev.br tX3_enough_26 rfl (fun c26 => ?_) (fun c26 => ?_)
          · exact absurd c26 (nI_ge hj (by decide))
          · refine Ev.blk kX3_enough_29 rfl trivial ?_
            refine Ev.br tX3_enough_30 rfl (fun c30 => ?_) (fun c30 => ?_)
            · exact absurd c30 (by decide)
            · refine Ev.blk kX3_enough_33 rfl trivial ?_
              refine Ev.br tX3_enough_34 rfl (fun c34 => ?_) (fun c34 => ?_)
              · exact run _ c g' ho (Or.inl (by omega)) hc8 hE
              · exact absurd (by rw [hj0]; decide) c34
        · by_cases hfull : dn (sN st) + c < 8
          · have hcc : c + 1 = j := by omega
            have hcm := em_comesChild (l := l) (d := d - 1) (k := 4) (c := 0) (f := 0) hE (show YI (ug (addN (sN st) c) g') from addN_YI hI c hc8) (by show dn (addN (sN st) c) < 8; rw [addN_dn]; exact hfull)
            refine Ev.blk kX3_enough_24 rfl trivial ?_
            refine Ev.br tX3_enough_26 rfl (fun c26 => ?_) (fun c26 => ?_)
            · exact absurd c26 (nI_ge hj (by decide))
            · refine Ev.blk kX3_enough_29 rfl trivial ?_
              refine Ev.br tX3_enough_30 rfl (fun c30 => ?_) (fun c30 => ?_)
              · exact absurd c30 (by decide)
              · refine Ev.blk kX3_enough_33 rfl trivial ?_
                refine Ev.br tX3_enough_34 rfl (fun c34 => ?_) (fun c34 => ?_)
                · exact absurd c34 (by rw [nI_leI (by omega) (by omega)]; omega)
                · refine Ev.blk kX3_enough_37 rfl trivial ?_
                  rw [hnn]
                  refine Ev.br tX3_enough_43 rfl (fun c43 => ?_) (fun c43 => ?_)
                  · exact absurd c43 (by rw [nI_leI (by omega) (by omega)]; omega)
                  · refine Ev.blk kX3_enough_46 rfl trivial ?_
                    refine Ev.cV (d1 := d - 1) (hcm) tX3_enough_50 qX3_102 rfl rfl (by decide) ⟨rfl, rfl, rfl⟩ (by omega) ?_
                    rintro _ _ ⟨rfl, oM, hE2⟩
                    exact run _ (c + 1) g' (ho.tr (OffM.F oM)) (Or.inl hcc) (by omega) hE2
          · skip
            refine Ev.blk kX3_enough_24 rfl trivial ?_
            refine Ev.br tX3_enough_26 rfl (fun c26 => ?_) (fun c26 => ?_)
            · exact absurd c26 (nI_ge hj (by decide))
            · refine Ev.blk kX3_enough_29 rfl trivial ?_
              refine Ev.br tX3_enough_30 rfl (fun c30 => ?_) (fun c30 => ?_)
              · exact absurd c30 (by decide)
              · refine Ev.blk kX3_enough_33 rfl trivial ?_
                refine Ev.br tX3_enough_34 rfl (fun c34 => ?_) (fun c34 => ?_)
                · exact absurd c34 (by rw [nI_leI (by omega) (by omega)]; omega)
                · refine Ev.blk kX3_enough_37 rfl trivial ?_
                  rw [hnn]
                  refine Ev.br tX3_enough_43 rfl (fun c43 => ?_) (fun c43 => ?_)
                  · exact run _ c g' ho (by omega) hc8 hE
                  · exact absurd (by rw [nI_leI (by omega) (by omega)]; omega) c43
    refine Ev.blk kX3_enough_0 rfl trivial ?_
    refine Ev.cV (d1 := d - 1) (em_runnersMany hM hI (by omega)) tX3_enough_1 qX3_235 rfl rfl (by decide) ⟨rfl, rfl, rfl⟩ (by omega) ?_
    rintro _ _ ⟨rfl, rfl⟩
    rw [show plN (ug (sN st) g) = plN (sN st) from rfl]
    refine Ev.br tX3_enough_4 rfl (fun c4 => ?_) (fun c4 => ?_)
    · refine Ev.blk kX3_enough_14 rfl trivial ?_
      rw [hM.n]
      exact loop
    · exact absurd (by rw [plN_0 hS.1.1, hp]; decide) c4
  · rw [if_neg hp]
    refine Ev.blk kX3_enough_0 rfl trivial ?_
    refine Ev.cV (d1 := d - 1) (em_runnersMany hM hI (by omega)) tX3_enough_1 qX3_235 rfl rfl (by decide) ⟨rfl, rfl, rfl⟩ (by omega) ?_
    rintro _ _ ⟨rfl, rfl⟩
    rw [show plN (ug (sN st) g) = plN (sN st) from rfl]
    refine Ev.br tX3_enough_4 rfl (fun c4 => ?_) (fun c4 => ?_)
    · exact absurd (by rw [plN_0 hS.1.1]; exact bl_f hp) c4
    · refine Ev.blk kX3_enough_7 rfl trivial ?_
      refine Ev.cV (d1 := d - 1) (em_no hC rfl3) tX3_enough_10 qX3_70 rfl rfl (by decide) ⟨rfl, rfl, rfl⟩ (by omega) ?_
      rintro _ _ ⟨rfl, hS2, hC2⟩
      refine Ev.iret tX3_enough_13 rfl rfl ?_
      exact ⟨rfl, hS2, hC2⟩
theorem em_change (hC : MdlAt w st) (hS : SI st) (hd : 9 ≤ d) (a b x : Int32) : Cl l d MX3_change [mR 11 0, mI a, mI b, mI x] w (fun r u => MP w (P_change st a b x) r u) := by
  show Ev l d MX3_change 0 [some (mR 11 0), some (mI a), some (mI b), some (mI x), none, none, none, none, none] [] w _
  obtain ⟨g, hM⟩ := hC.1
  have hI : YI (ug (sN st) g) := hS.1.1
  have hse : de (sN st) ≤ 999 := hS.1.2.1
  have bad : ∀ why, RC why → wh2 (wChg st a b) x = why → Ev l d MX3_change 56 [some (mR 11 0), some (mI a), some (mI b), some (mI x), none, none, none, none, none] [mI why] w (fun r u => MP w (P_change st a b x) r u) := by
    intro why hr he
    have e0 : P_change st a b x = RF st why := by
      unfold P_change
      rw [he]
      exact GO_no (rc_k hr).2.2
    rw [e0]
    refine Ev.blk kX3_change_56 rfl trivial ?_
    refine Ev.br tX3_change_60 rfl (fun c60 => ?_) (fun c60 => ?_)
    · exact absurd c60 (rc_k hr).2.2
    · refine Ev.blk kX3_change_63 rfl trivial ?_
      refine Ev.cV (d1 := d - 1) (em_no hC hr) tX3_change_66 qX3_70 rfl rfl (by decide) ⟨rfl, rfl, rfl⟩ (by omega) ?_
      rintro _ _ ⟨rfl, hS2, hC2⟩
      refine Ev.iret tX3_change_69 rfl rfl ?_
      exact ⟨rfl, hS2, hC2⟩
  by_cases ha : hasI (sN st) a = true
  · by_cases hb : hasI (sN st) b = true
    · have e1 : wChg st a b = (if isC (sN st) (ix a) = true ∧ isC (sN st) (ix b) = false then nI 0 else -3) := if_pos ⟨ha, hb⟩
      obtain ⟨i, hi, rfl⟩ := hasI_of ha hI.1
      obtain ⟨j, hj, rfl⟩ := hasI_of hb hI.1
      have hi8 : i < 8 := Nat.lt_of_lt_of_le hi hI.1
      have hj8 : j < 8 := Nat.lt_of_lt_of_le hj hI.1
      rw [ixC (by omega), ixC (by omega)] at e1
      by_cases hc : isC (sN st) i = true
      · by_cases hcj : isC (sN st) j = true
        · rw [if_neg (fun z => by rw [hcj] at z; exact absurd z.2 (by decide))] at e1
          have e2 : wh2 (wChg st (nI i) (nI j)) x = -3 := by
            rw [e1]
            exact if_neg (fun z => absurd z.1 (by decide))
          refine Ev.blk kX3_change_0 rfl trivial ?_
          refine Ev.cV (d1 := d - 1) (em_isChildB hM ha) tX3_change_2 qX3_106 rfl rfl (by decide) ⟨rfl, rfl, rfl⟩ (by omega) ?_
          rintro _ _ ⟨rfl, rfl⟩
          refine Ev.br tX3_change_5 rfl (fun c5 => ?_) (fun c5 => ?_)
          · exact absurd c5 (by decide)
          · refine Ev.blk kX3_change_8 rfl trivial ?_
            refine Ev.cV (d1 := d - 1) (em_isChildB hM hb) tX3_change_10 qX3_106 rfl rfl (by decide) ⟨rfl, rfl, rfl⟩ (by omega) ?_
            rintro _ _ ⟨rfl, rfl⟩
            refine Ev.br tX3_change_13 rfl (fun c13 => ?_) (fun c13 => ?_)
            · refine Ev.blk kX3_change_20 rfl trivial ?_
              refine Ev.cV (d1 := d - 1) (em_isCatcherB hM hI hi hc) tX3_change_22 qX3_109 rfl rfl (by decide) ⟨rfl, rfl, rfl⟩ (by omega) ?_
              rintro _ _ ⟨rfl, rfl⟩
              refine Ev.br tX3_change_25 rfl (fun c25 => ?_) (fun c25 => ?_)
              · exact absurd c25 (by decide)
              · refine Ev.blk kX3_change_28 rfl trivial ?_
                refine Ev.cV (d1 := d - 1) (em_isCatcherB hM hI hj hcj) tX3_change_30 qX3_109 rfl rfl (by decide) ⟨rfl, rfl, rfl⟩ (by omega) ?_
                rintro _ _ ⟨rfl, rfl⟩
                refine Ev.br tX3_change_33 rfl (fun c33 => ?_) (fun c33 => ?_)
                · exact absurd c33 (by decide)
                · refine Ev.blk kX3_change_36 rfl trivial ?_
                  refine Ev.jmp tX3_change_38 ?_
                  exact bad _ rfl3 e2
            · exact absurd (show ¬ bI true = nI 0 by decide) c13
        · rw [if_pos ⟨hc, bl_f hcj⟩] at e1
          by_cases hx : x = nI 0 ∨ x = nI 1
          · have h01 : decide (nI 0 ≤ x ∧ x ≤ nI 1) = true := by rw [in01, decide_eq_true hx]
            have e2 : wh2 (wChg st (nI i) (nI j)) x = nI 0 := by
              rw [e1]
              exact if_neg (fun z => hx.elim z.2.1 z.2.2)
            have e0 : P_change st (nI i) (nI j) x = (if x = nI 0 then nI (bm (chf (sN st) i j) 21).1 else oM1 (bm (chf (sN st) i j) 21).2, st) := by
              unfold P_change
              rw [e2, ixC (by omega), ixC (by omega)]
              exact GO_ok rfl
            rw [e0]
            have hB := chf_lt (sN st) i j
            have loop : Ev l d MX3_change 79 [some (mR 11 0), some (mI (nI i)), some (mI (nI j)), some (mI x), some (mI (nI 0)), some (mI (nI 0)), some (mI (-1)), some (mI (nI 0)), none] [] w (fun r u => MP w (if x = nI 0 then nI (bm (chf (sN st) i j) 21).1 else oM1 (bm (chf (sN st) i j) 21).2, st) r u) := by
              refine Ev.for (fun s L u => OffF w u ∧ (∃ g', MYd u (ug (sN st) g')) ∧ ∃ z, L = [some (mR 11 0), some (mI (nI i)), some (mI (nI j)), some (mI x), some (mI (nI 0)), some (mI (nI (bm (chf (sN st) i j) s).1)), some (mI (oM1 (bm (chf (sN st) i j) s).2)), some (mI (nI s)), z]) 21 ?_ ?_ 0 (Nat.zero_le _) ⟨OffF.rf, ⟨g, hM⟩, none, rfl⟩
              · rintro L u ⟨ho, ⟨g', hE⟩, z, rfl⟩
                refine Ev.blk kX3_change_79 rfl trivial ?_
                refine Ev.br tX3_change_83 rfl (fun c83 => ?_) (fun c83 => ?_)
                · refine Ev.blk kX3_change_120 rfl trivial ?_
                  refine Ev.br tX3_change_121 rfl (fun c121 => ?_) (fun c121 => ?_)
                  · refine Ev.blk kX3_change_129 rfl trivial ?_
                    refine Ev.iret tX3_change_131 rfl rfl ?_
                    refine ⟨?_, ho.lo, hC.keepF hS ho hE⟩
                    first
                      | (rw [if_neg c121])
                      | (rw [if_pos c121])
                  · rw [Classical.not_not] at c121
                    refine Ev.blk kX3_change_124 rfl trivial ?_
                    refine Ev.jmp tX3_change_126 ?_
                    refine Ev.iret tX3_change_131 rfl rfl ?_
                    refine ⟨?_, ho.lo, hC.keepF hS ho hE⟩
                    first
                      | (rw [if_neg c121])
                      | (rw [if_pos c121])
                · exact absurd (nI_le (Nat.le_refl _) (by decide)) c83
              · rintro s L u hs ⟨ho, ⟨g', hE⟩, z, rfl⟩ k
                have hm := bm_lt hB s
                have hv := hB s
                have hcmp : (oM1 (bm (chf (sN st) i j) s).2 < nI (chf (sN st) i j s)) = (oLt (bm (chf (sN st) i j) s).2 (chf (sN st) i j s) = true) := oM1_lt (fun q hq => Nat.lt_trans (hm q hq) (by decide)) (Nat.lt_trans hv (by decide))
                have hsa := em_standAfterChange (l := l) (d := d - 1) (s := s) hE (show YI (ug (sN st) g') from hI) (by omega) (by show de (sN st) + 40 < 100000; omega) (i := i) (j := j) hi hj hc (bl_f hcj) (by omega)
                rw [chf_g] at hsa
                refine Ev.blk kX3_change_79 rfl trivial ?_
                refine Ev.br tX3_change_83 rfl (fun c83 => ?_) (fun c83 => ?_)
                · exact absurd c83 (nI_ge hs (by decide))
                · refine Ev.blk kX3_change_86 rfl trivial ?_
                  refine Ev.cV (d1 := d - 1) (hsa) tX3_change_91 qX3_258 rfl rfl (by decide) ⟨rfl, rfl, rfl⟩ (by omega) ?_
                  rintro _ _ ⟨rfl, oK, g2, hE2⟩
                  refine Ev.blk kX3_change_94 rfl trivial ?_
                  refine Ev.br tX3_change_100 rfl (fun c100 => ?_) (fun c100 => ?_)
                  · rw [hcmp] at c100
                    refine Ev.blk kX3_change_106 rfl trivial ?_
                    refine Ev.blk kX3_change_114 rfl trivial ?_
                    refine Ev.jmp tX3_change_117 ?_
                    refine k _ _ ⟨ho.tr oK.F, ⟨g2, hE2⟩, some (mI (nI (chf (sN st) i j s))), ?_⟩
                    first
                      | (rw [bm_no c100, nI_add])
                      | (rw [bm_yes c100, nI_add]; rfl)
                  · rw [hcmp] at c100
                    refine Ev.jmp tX3_change_103 ?_
                    refine Ev.blk kX3_change_114 rfl trivial ?_
                    refine Ev.jmp tX3_change_117 ?_
                    refine k _ _ ⟨ho.tr oK.F, ⟨g2, hE2⟩, some (mI (nI (chf (sN st) i j s))), ?_⟩
                    first
                      | (rw [bm_no c100, nI_add])
                      | (rw [bm_yes c100, nI_add]; rfl)
            refine Ev.blk kX3_change_0 rfl trivial ?_
            refine Ev.cV (d1 := d - 1) (em_isChildB hM ha) tX3_change_2 qX3_106 rfl rfl (by decide) ⟨rfl, rfl, rfl⟩ (by omega) ?_
            rintro _ _ ⟨rfl, rfl⟩
            refine Ev.br tX3_change_5 rfl (fun c5 => ?_) (fun c5 => ?_)
            · exact absurd c5 (by decide)
            · refine Ev.blk kX3_change_8 rfl trivial ?_
              refine Ev.cV (d1 := d - 1) (em_isChildB hM hb) tX3_change_10 qX3_106 rfl rfl (by decide) ⟨rfl, rfl, rfl⟩ (by omega) ?_
              rintro _ _ ⟨rfl, rfl⟩
              refine Ev.br tX3_change_13 rfl (fun c13 => ?_) (fun c13 => ?_)
              · refine Ev.blk kX3_change_20 rfl trivial ?_
                refine Ev.cV (d1 := d - 1) (em_isCatcherB hM hI hi hc) tX3_change_22 qX3_109 rfl rfl (by decide) ⟨rfl, rfl, rfl⟩ (by omega) ?_
                rintro _ _ ⟨rfl, rfl⟩
                refine Ev.br tX3_change_25 rfl (fun c25 => ?_) (fun c25 => ?_)
                · exact absurd c25 (by decide)
                · refine Ev.blk kX3_change_28 rfl trivial ?_
                  refine Ev.cV (d1 := d - 1) (em_isCatcherB hM hI hj (bl_f hcj)) tX3_change_30 qX3_109 rfl rfl (by decide) ⟨rfl, rfl, rfl⟩ (by omega) ?_
                  rintro _ _ ⟨rfl, rfl⟩
                  refine Ev.br tX3_change_33 rfl (fun c33 => ?_) (fun c33 => ?_)
                  · refine Ev.blk kX3_change_41 rfl trivial ?_
                    refine Ev.cS (d1 := d - 1) (em_isInB h01) tX3_change_44 qX3_81 rfl ⟨rfl, rfl, rfl⟩ (by omega) ?_
                    rintro _ _ ⟨rfl, rfl⟩
                    refine Ev.br tX3_change_47 rfl (fun c47 => ?_) (fun c47 => ?_)
                    · refine Ev.blk kX3_change_55 rfl trivial ?_
                      refine Ev.blk kX3_change_56 rfl trivial ?_
                      refine Ev.br tX3_change_60 rfl (fun c60 => ?_) (fun c60 => ?_)
                      · refine Ev.blk kX3_change_70 rfl trivial ?_
                        exact loop
                      · exact absurd rfl c60
                    · exact absurd (show ¬ bI true = nI 0 by decide) c47
                  · exact absurd rfl c33
              · exact absurd (show ¬ bI true = nI 0 by decide) c13
          · have h01 : decide (nI 0 ≤ x ∧ x ≤ nI 1) = false := by rw [in01, decide_eq_false hx]
            have e2 : wh2 (wChg st (nI i) (nI j)) x = -2 := by
              rw [e1]
              exact if_pos ⟨rfl, fun z => hx (Or.inl z), fun z => hx (Or.inr z)⟩
            refine Ev.blk kX3_change_0 rfl trivial ?_
            refine Ev.cV (d1 := d - 1) (em_isChildB hM ha) tX3_change_2 qX3_106 rfl rfl (by decide) ⟨rfl, rfl, rfl⟩ (by omega) ?_
            rintro _ _ ⟨rfl, rfl⟩
            refine Ev.br tX3_change_5 rfl (fun c5 => ?_) (fun c5 => ?_)
            · exact absurd c5 (by decide)
            · refine Ev.blk kX3_change_8 rfl trivial ?_
              refine Ev.cV (d1 := d - 1) (em_isChildB hM hb) tX3_change_10 qX3_106 rfl rfl (by decide) ⟨rfl, rfl, rfl⟩ (by omega) ?_
              rintro _ _ ⟨rfl, rfl⟩
              refine Ev.br tX3_change_13 rfl (fun c13 => ?_) (fun c13 => ?_)
              · refine Ev.blk kX3_change_20 rfl trivial ?_
                refine Ev.cV (d1 := d - 1) (em_isCatcherB hM hI hi hc) tX3_change_22 qX3_109 rfl rfl (by decide) ⟨rfl, rfl, rfl⟩ (by omega) ?_
                rintro _ _ ⟨rfl, rfl⟩
                refine Ev.br tX3_change_25 rfl (fun c25 => ?_) (fun c25 => ?_)
                · exact absurd c25 (by decide)
                · refine Ev.blk kX3_change_28 rfl trivial ?_
                  refine Ev.cV (d1 := d - 1) (em_isCatcherB hM hI hj (bl_f hcj)) tX3_change_30 qX3_109 rfl rfl (by decide) ⟨rfl, rfl, rfl⟩ (by omega) ?_
                  rintro _ _ ⟨rfl, rfl⟩
                  refine Ev.br tX3_change_33 rfl (fun c33 => ?_) (fun c33 => ?_)
                  · refine Ev.blk kX3_change_41 rfl trivial ?_
                    refine Ev.cS (d1 := d - 1) (em_isInB h01) tX3_change_44 qX3_81 rfl ⟨rfl, rfl, rfl⟩ (by omega) ?_
                    rintro _ _ ⟨rfl, rfl⟩
                    refine Ev.br tX3_change_47 rfl (fun c47 => ?_) (fun c47 => ?_)
                    · exact absurd rfl c47
                    · refine Ev.blk kX3_change_50 rfl trivial ?_
                      refine Ev.jmp tX3_change_52 ?_
                      exact bad _ rfl2 e2
                  · exact absurd rfl c33
              · exact absurd (show ¬ bI true = nI 0 by decide) c13
      · rw [if_neg (fun z => hc z.1)] at e1
        have e2 : wh2 (wChg st (nI i) (nI j)) x = -3 := by
          rw [e1]
          exact if_neg (fun z => absurd z.1 (by decide))
        refine Ev.blk kX3_change_0 rfl trivial ?_
        refine Ev.cV (d1 := d - 1) (em_isChildB hM ha) tX3_change_2 qX3_106 rfl rfl (by decide) ⟨rfl, rfl, rfl⟩ (by omega) ?_
        rintro _ _ ⟨rfl, rfl⟩
        refine Ev.br tX3_change_5 rfl (fun c5 => ?_) (fun c5 => ?_)
        · exact absurd c5 (by decide)
        · refine Ev.blk kX3_change_8 rfl trivial ?_
          refine Ev.cV (d1 := d - 1) (em_isChildB hM hb) tX3_change_10 qX3_106 rfl rfl (by decide) ⟨rfl, rfl, rfl⟩ (by omega) ?_
          rintro _ _ ⟨rfl, rfl⟩
          refine Ev.br tX3_change_13 rfl (fun c13 => ?_) (fun c13 => ?_)
          · refine Ev.blk kX3_change_20 rfl trivial ?_
            refine Ev.cV (d1 := d - 1) (em_isCatcherB hM hI hi (bl_f hc)) tX3_change_22 qX3_109 rfl rfl (by decide) ⟨rfl, rfl, rfl⟩ (by omega) ?_
            rintro _ _ ⟨rfl, rfl⟩
            refine Ev.br tX3_change_25 rfl (fun c25 => ?_) (fun c25 => ?_)
            · refine Ev.blk kX3_change_36 rfl trivial ?_
              refine Ev.jmp tX3_change_38 ?_
              exact bad _ rfl3 e2
            · exact absurd rfl c25
          · exact absurd (show ¬ bI true = nI 0 by decide) c13
    · have e1 : wChg st a b = -1 := if_neg (fun z => hb z.2)
      have e2 : wh2 (wChg st a b) x = -1 := by
        rw [e1]
        exact if_neg (fun z => absurd z.1 (by decide))
      refine Ev.blk kX3_change_0 rfl trivial ?_
      refine Ev.cV (d1 := d - 1) (em_isChildB hM ha) tX3_change_2 qX3_106 rfl rfl (by decide) ⟨rfl, rfl, rfl⟩ (by omega) ?_
      rintro _ _ ⟨rfl, rfl⟩
      refine Ev.br tX3_change_5 rfl (fun c5 => ?_) (fun c5 => ?_)
      · exact absurd c5 (by decide)
      · refine Ev.blk kX3_change_8 rfl trivial ?_
        refine Ev.cV (d1 := d - 1) (em_isChild hM b) tX3_change_10 qX3_106 rfl rfl (by decide) ⟨rfl, rfl, rfl⟩ (by omega) ?_
        rintro _ _ ⟨rfl, rfl⟩
        refine Ev.br tX3_change_13 rfl (fun c13 => ?_) (fun c13 => ?_)
        · exact absurd (hasI_f hb) c13
        · refine Ev.blk kX3_change_16 rfl trivial ?_
          refine Ev.jmp tX3_change_17 ?_
          exact bad _ rfl1 e2
  · have e1 : wChg st a b = -1 := if_neg (fun z => ha z.1)
    have e2 : wh2 (wChg st a b) x = -1 := by
      rw [e1]
      exact if_neg (fun z => absurd z.1 (by decide))
    refine Ev.blk kX3_change_0 rfl trivial ?_
    refine Ev.cV (d1 := d - 1) (em_isChild hM a) tX3_change_2 qX3_106 rfl rfl (by decide) ⟨rfl, rfl, rfl⟩ (by omega) ?_
    rintro _ _ ⟨rfl, rfl⟩
    refine Ev.br tX3_change_5 rfl (fun c5 => ?_) (fun c5 => ?_)
    · refine Ev.blk kX3_change_16 rfl trivial ?_
      refine Ev.jmp tX3_change_17 ?_
      exact bad _ rfl1 e2
    · exact absurd (hasI_f ha) c5
theorem em_longest (hC : MdlAt w st) (hS : SI st) (hd : 9 ≤ d) : Cl l d MX3_longest [mR 11 0] w (fun r u => MP w (P_longest st) r u) := by
  show Ev l d MX3_longest 0 [some (mR 11 0), none, none, none, none, none] [] w _
  obtain ⟨g, hM⟩ := hC.1
  have hI : YI (sN st) := hS.1.1
  have hse : de (sN st) ≤ 999 := hS.1.2.1
  unfold P_longest
  by_cases hp : hasP (sN st) = true
  · rw [if_pos hp]
    have hB := lgf_lt (sN st)
    have loop : Ev l d MX3_longest 26 [some (mR 11 0), some (mI (nI (dl (sN st)))), some (mI (nI 0)), some (mI (-1)), some (mI (nI 0)), none] [] w (fun r u => MP w (nI (bm (lgf (sN st)) 4).1, st) r u) := by
      refine Ev.for (fun j L u => OffF w u ∧ (∃ g' y, MYd u (ug (ul (sN st) y) g')) ∧ ∃ z, L = [some (mR 11 0), some (mI (nI (dl (sN st)))), some (mI (nI (bm (lgf (sN st)) j).1)), some (mI (oM1 (bm (lgf (sN st)) j).2)), some (mI (nI j)), z]) 4 ?_ ?_ 0 (Nat.zero_le _) ⟨OffF.rf, ⟨g, dl (sN st), hM⟩, none, rfl⟩
      · rintro L u ⟨ho, ⟨g', y, hE⟩, z, rfl⟩
        have hE2 : MYd (mpf u 11 0 8 (nI (dl (sN st)))) (ug (sN st) g') := hE.pL
        refine Ev.blk kX3_longest_26 rfl trivial ?_
        refine Ev.br tX3_longest_29 rfl (fun c29 => ?_) (fun c29 => ?_)
        · refine Ev.blk kX3_longest_79 rfl trivial ?_
          refine Ev.iret tX3_longest_85 rfl rfl ?_
          exact ⟨rfl, (ho.tr (OffF.pf (by decide))).lo, hC.keepF hS (ho.tr (OffF.pf (by decide))) hE2⟩
        · exact absurd (nI_le (Nat.le_refl _) (by decide)) c29
      · rintro j L u hj ⟨ho, ⟨g', y, hE⟩, z, rfl⟩ k
        have hm := bm_lt hB j
        have hv := hB j
        have hE2 : MYd (mpf u 11 0 8 (nI j)) (ug (ul (sN st) j) g') := hE.pL
        have hcmp : (oM1 (bm (lgf (sN st)) j).2 < nI (lgf (sN st) j)) = (oLt (bm (lgf (sN st)) j).2 (lgf (sN st) j) = true) := oM1_lt (fun q hq => Nat.lt_trans (hm q hq) (by decide)) (Nat.lt_trans hv (by decide))
        have hov := em_overIn (l := l) (d := d - 1) hE2 (show YI (ug (ul (sN st) j) g') from hI.ul hj) hp (by omega) (by show de (sN st) + 61 < 100000; omega)
        rw [tov_g] at hov
        have mid : ∀ u2 z5, OffF w u2 → (∃ g' y, MYd u2 (ug (ul (sN st) y) g')) → Ev l d MX3_longest 56 [some (mR 11 0), some (mI (nI (dl (sN st)))), some (mI (nI (bm (lgf (sN st)) j).1)), some (mI (oM1 (bm (lgf (sN st)) j).2)), some (mI (nI j)), some (mI z5)] [mI (nI (lgf (sN st) j))] u2 (fun r u => MP w (nI (bm (lgf (sN st)) 4).1, st) r u) := by
          intro u2 z5 ho9 hE9
          refine Ev.blk kX3_longest_56 rfl trivial ?_
          refine Ev.br tX3_longest_61 rfl (fun c61 => ?_) (fun c61 => ?_)
          · rw [hcmp] at c61
            refine Ev.blk kX3_longest_67 rfl trivial ?_
            refine Ev.blk kX3_longest_73 rfl trivial ?_
            refine Ev.jmp tX3_longest_76 ?_
            refine k _ _ ⟨ho9, hE9, some (mI (nI (lgf (sN st) j))), ?_⟩
            first
              | (rw [bm_no c61, nI_add])
              | (rw [bm_yes c61, nI_add]; rfl)
          · rw [hcmp] at c61
            refine Ev.jmp tX3_longest_64 ?_
            refine Ev.blk kX3_longest_73 rfl trivial ?_
            refine Ev.jmp tX3_longest_76 ?_
            refine k _ _ ⟨ho9, hE9, some (mI (nI (lgf (sN st) j))), ?_⟩
            first
              | (rw [bm_no c61, nI_add])
              | (rw [bm_yes c61, nI_add]; rfl)
        cases ht : tov (ul (sN st) j) with
        | none =>
          have hl : lgf (sN st) j = 61 := by unfold lgf; rw [ht]; rfl
          rw [hl] at mid
          rw [ht] at hov
          refine Ev.blk kX3_longest_26 rfl trivial ?_
          refine Ev.br tX3_longest_29 rfl (fun c29 => ?_) (fun c29 => ?_)
          · exact absurd c29 (nI_ge hj (by decide))
          · refine Ev.blk kX3_longest_32 rfl trivial ?_
            refine Ev.cV (d1 := d - 1) (hov) tX3_longest_39 qX3_238 rfl rfl (by decide) ⟨rfl, rfl, rfl⟩ (by omega) ?_
            rintro _ _ ⟨rfl, oK, g2, hE3⟩
            refine Ev.blk kX3_longest_42 rfl trivial ?_
            refine Ev.br tX3_longest_46 rfl (fun c46 => ?_) (fun c46 => ?_)
            · exact absurd c46 (by decide)
            · refine Ev.blk kX3_longest_49 rfl trivial ?_
              refine Ev.jmp tX3_longest_51 ?_
              exact mid _ _ ((ho.tr (OffF.pf (by decide))).tr oK.F) ⟨g2, j, hE3⟩
        | some v =>
          have hv : v < 61 := (fst1_spec ht).1
          have hl : lgf (sN st) j = v := by unfold lgf; rw [ht]; rfl
          rw [hl] at mid
          rw [ht] at hov
          refine Ev.blk kX3_longest_26 rfl trivial ?_
          refine Ev.br tX3_longest_29 rfl (fun c29 => ?_) (fun c29 => ?_)
          · exact absurd c29 (nI_ge hj (by decide))
          · refine Ev.blk kX3_longest_32 rfl trivial ?_
            refine Ev.cV (d1 := d - 1) (hov) tX3_longest_39 qX3_238 rfl rfl (by decide) ⟨rfl, rfl, rfl⟩ (by omega) ?_
            rintro _ _ ⟨rfl, oK, g2, hE3⟩
            refine Ev.blk kX3_longest_42 rfl trivial ?_
            refine Ev.br tX3_longest_46 rfl (fun c46 => ?_) (fun c46 => ?_)
            · refine Ev.blk kX3_longest_54 rfl trivial ?_
              exact mid _ _ ((ho.tr (OffF.pf (by decide))).tr oK.F) ⟨g2, j, hE3⟩
            · exact absurd (nI_le (Nat.zero_le _) (by omega)) c46
    refine Ev.blk kX3_longest_0 rfl trivial ?_
    refine Ev.cV (d1 := d - 1) (em_runnersMany hM hI (by omega)) tX3_longest_1 qX3_235 rfl rfl (by decide) ⟨rfl, rfl, rfl⟩ (by omega) ?_
    rintro _ _ ⟨rfl, rfl⟩
    rw [show plN (ug (sN st) g) = plN (sN st) from rfl]
    refine Ev.br tX3_longest_4 rfl (fun c4 => ?_) (fun c4 => ?_)
    · refine Ev.blk kX3_longest_14 rfl trivial ?_
      rw [hM.l]
      exact loop
    · exact absurd (by rw [plN_0 hS.1.1, hp]; decide) c4
  · rw [if_neg hp]
    refine Ev.blk kX3_longest_0 rfl trivial ?_
    refine Ev.cV (d1 := d - 1) (em_runnersMany hM hI (by omega)) tX3_longest_1 qX3_235 rfl rfl (by decide) ⟨rfl, rfl, rfl⟩ (by omega) ?_
    rintro _ _ ⟨rfl, rfl⟩
    rw [show plN (ug (sN st) g) = plN (sN st) from rfl]
    refine Ev.br tX3_longest_4 rfl (fun c4 => ?_) (fun c4 => ?_)
    · exact absurd (by rw [plN_0 hS.1.1]; exact bl_f hp) c4
    · refine Ev.blk kX3_longest_7 rfl trivial ?_
      refine Ev.cV (d1 := d - 1) (em_no hC rfl3) tX3_longest_10 qX3_70 rfl rfl (by decide) ⟨rfl, rfl, rfl⟩ (by omega) ?_
      rintro _ _ ⟨rfl, hS2, hC2⟩
      refine Ev.iret tX3_longest_13 rfl rfl ?_
      exact ⟨rfl, hS2, hC2⟩
end M8
