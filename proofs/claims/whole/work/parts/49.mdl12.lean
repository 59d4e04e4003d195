/-! ===== the reference's letters come, its yard ===== -/
theorem cellI_nat {c : Nat} (hc : c < 1000) : cellI (nI c) = decide (c < 24) := by
  unfold cellI
  apply decide_eq_decide.mpr
  rw [nI_leI (by omega) (by omega), nI_ltI (by omega) (by omega)]
  omega
theorem telS_g {t : Nat → Nat} {D : Yd} {g p : Nat} : telS t (ug D g) p = (telS t D p).map (fun E => ug E g) := by
  unfold telS
  simp only [show addB (ug D g) = addB D from rfl, show dn (ug D g) = dn D from rfl, show isC (ug D g) = isC D from rfl]
  by_cases h1 : t p = 107
  · rw [if_pos h1, if_pos h1]
    by_cases h : addB D ((kix (t (p + 1))).getD 0) (cel t (p + 2)) (dgt t (p + 4)) = true
    · rw [if_pos h, if_pos h]; rfl
    · rw [if_neg h, if_neg h]; rfl
  · rw [if_neg h1, if_neg h1]
    by_cases h2 : t p = 116
    · rw [if_pos h2, if_pos h2]
      by_cases h : (decide (dgt t (p + 1) < dn D) && !isC D (dgt t (p + 1))) = true
      · rw [if_pos h, if_pos h]; rfl
      · rw [if_neg h, if_neg h]; rfl
    · rw [if_neg h2, if_neg h2]
      by_cases h3 : t p = 108
      · rw [if_pos h3, if_pos h3]
        by_cases h : dgt t (p + 1) < 4
        · rw [if_pos h, if_pos h]; rfl
        · rw [if_neg h, if_neg h]; rfl
      · rw [if_neg h3, if_neg h3]
        by_cases h : (decide (dgt t (p + 1) < dn D) && decide (cel t (p + 2) < 24)) = true
        · rw [if_pos h, if_pos h]; rfl
        · rw [if_neg h, if_neg h]; rfl
section M12
variable {l : Launch} {d : Nat} {w : mW} {t : Nat → Nat} {n q : Nat} {st : St}
def cmQ (w : mW) (o : Option Yd) (r : Option mV) (u : mW) : Prop := OffM w u ∧ (match o with
  | some E => r = some (mI (nI 1)) ∧ MYd u E
  | none => r = some (mI (nI 0)) ∧ mgf u 11 0 22 = mgf w 11 0 22)
theorem em_comes {D : Yd} {k : Nat} (hM : MYd w D) (hI : YI D) (hR : RecAt w t k q) (hE : stE t n q = none) (ht : ∀ j, j < n → t j < 256) (hk : k < 40) (hd : 2 ≤ d) : Cl l d MX3_comes [mR 11 0, mI (nI k)] w (cmQ w (telS t D q)) := by
  show Ev l d MX3_comes 0 [some (mR 11 0), some (mI (nI k)), none] [] w _
  have h8 := hI.1
  have x0 : (nI (3 * k)).toNatClampNeg = 3 * k := ixN (by omega)
  have x1 : (nI (3 * k + 1)).toNatClampNeg = 3 * k + 1 := ixN (by omega)
  have x2 : (nI (3 * k + 2)).toNatClampNeg = 3 * k + 2 := ixN (by omega)
  have v0 : vp_in (nI (3 * k)) 144 := vinN (by omega) (by decide)
  have v1 : vp_in (nI (3 * k + 1)) 144 := vinN (by omega) (by decide)
  have v2 : vp_in (nI (3 * k + 2)) 144 := vinN (by omega) (by decide)
  obtain ⟨r1, r2, r3, r4, r5⟩ := hR
  refine Ev.blk kX3_comes_0 rfl ⟨trivial, vinN (show k < 48 by omega) (by decide)⟩ ?_
  rw [ixN (by omega), r1, pk_mul]
  unfold telS
  rcases stE_4 hE with h1 | h1 | h1 | h1
  · rw [if_pos h1]
    obtain ⟨a1, a2, a3, a4, a5⟩ := stE_k hE h1
    obtain ⟨m0, m1, m2⟩ := r3 h1
    obtain ⟨kv, hkv⟩ := Option.isSome_iff_exists.mp a2
    have hk8 := kix_lt hkv
    rw [hkv] at m0 ⊢
    have m0 : mga w 22 0 (3 * k) = nI kv := m0
    show Ev l d MX3_comes 10 _ _ _ (cmQ w (if addB D kv (cel t (q + 2)) (dgt t (q + 4)) = true then some (addY D kv (cel t (q + 2)) (dgt t (q + 4))) else none))
    have c1 : cel t (q + 2) < 1000 := by show 10 * (t (q + 2) - 48) + (t (q + 3) - 48) < 1000; omega
    have c2 : dgt t (q + 4) < 1000 := by show t (q + 4) - 48 < 1000; omega
    have hn7 := hM.n
    refine Ev.sw (tgt := 44) tX3_comes_10 (off := 34) (by rw [h1]; decide) (by decide) ?_
    by_cases b1 : cel t (q + 2) < 24
    · have hc1 : cellI (nI (cel t (q + 2))) = true := by rw [cellI_nat c1, decide_eq_true b1]
      by_cases b2 : dgt t (q + 4) < 8
      · by_cases b3 : dn D < 8
        · have hb : addB D kv (cel t (q + 2)) (dgt t (q + 4)) = true := by unfold addB; simp; omega
          rw [if_pos hb]
          refine Ev.blk kX3_comes_44 rfl ⟨trivial, by rw [nI_add]; exact v1⟩ ?_
          rw [nI_add, x1, m1]
          refine Ev.cS (d1 := d - 1) (em_isCellB hc1) tX3_comes_52 qX3_99 rfl ⟨rfl, rfl, rfl⟩ (by omega) ?_
          rintro _ _ ⟨rfl, rfl⟩
          refine Ev.br tX3_comes_55 rfl (fun c55 => ?_) (fun c55 => ?_)
          · exact absurd c55 (by decide)
          · refine Ev.blk kX3_comes_58 rfl ⟨trivial, by rw [nI_add]; exact v2⟩ ?_
            rw [nI_add, x2, m2]
            refine Ev.br tX3_comes_68 rfl (fun c68 => ?_) (fun c68 => ?_)
            · exact absurd c68 (by rw [nI_ltI (by omega) (by omega)]; omega)
            · refine Ev.blk kX3_comes_71 rfl trivial ?_
              rw [hn7]
              refine Ev.br tX3_comes_77 rfl (fun c77 => ?_) (fun c77 => ?_)
              · refine Ev.blk kX3_comes_82 rfl ⟨⟨⟨trivial, v0⟩, by rw [nI_add]; exact v1⟩, by rw [nI_add]; exact v2⟩ ?_
                rw [nI_add, nI_add, x0, x1, x2, m0, m1, m2]
                refine Ev.cV (d1 := d - 1) (em_comesChild hM hI b3) tX3_comes_105 qX3_102 rfl rfl (by decide) ⟨rfl, rfl, rfl⟩ (by omega) ?_
                rintro _ _ ⟨rfl, oM, hE2⟩
                refine Ev.blk kX3_comes_108 rfl trivial ?_
                refine Ev.iret tX3_comes_109 rfl rfl ?_
                exact ⟨oM, rfl, hE2⟩
              · exact absurd (by rw [nI_eq (by omega) (by omega)]; omega) c77
        · have hb : ¬ addB D kv (cel t (q + 2)) (dgt t (q + 4)) = true := by unfold addB; simp; omega
          rw [if_neg hb]
          refine Ev.blk kX3_comes_44 rfl ⟨trivial, by rw [nI_add]; exact v1⟩ ?_
          rw [nI_add, x1, m1]
          refine Ev.cS (d1 := d - 1) (em_isCellB hc1) tX3_comes_52 qX3_99 rfl ⟨rfl, rfl, rfl⟩ (by omega) ?_
          rintro _ _ ⟨rfl, rfl⟩
          refine Ev.br tX3_comes_55 rfl (fun c55 => ?_) (fun c55 => ?_)
          · exact absurd c55 (by decide)
          · refine Ev.blk kX3_comes_58 rfl ⟨trivial, by rw [nI_add]; exact v2⟩ ?_
            rw [nI_add, x2, m2]
            refine Ev.br tX3_comes_68 rfl (fun c68 => ?_) (fun c68 => ?_)
            · exact absurd c68 (by rw [nI_ltI (by omega) (by omega)]; omega)
            · refine Ev.blk kX3_comes_71 rfl trivial ?_
              rw [hn7]
              refine Ev.br tX3_comes_77 rfl (fun c77 => ?_) (fun c77 => ?_)
              · exact absurd (by rw [nI_eq (by omega) (by omega)]; omega) c77
              · refine Ev.blk kX3_comes_80 rfl trivial ?_
                refine Ev.iret tX3_comes_81 rfl rfl ?_
                exact ⟨Om.rf, rfl, rfl⟩
      · have hb : ¬ addB D kv (cel t (q + 2)) (dgt t (q + 4)) = true := by unfold addB; simp; omega
        rw [if_neg hb]
        refine Ev.blk kX3_comes_44 rfl ⟨trivial, by rw [nI_add]; exact v1⟩ ?_
        rw [nI_add, x1, m1]
        refine Ev.cS (d1 := d - 1) (em_isCellB hc1) tX3_comes_52 qX3_99 rfl ⟨rfl, rfl, rfl⟩ (by omega) ?_
        rintro _ _ ⟨rfl, rfl⟩
        refine Ev.br tX3_comes_55 rfl (fun c55 => ?_) (fun c55 => ?_)
        · exact absurd c55 (by decide)
        · refine Ev.blk kX3_comes_58 rfl ⟨trivial, by rw [nI_add]; exact v2⟩ ?_
          rw [nI_add, x2, m2]
          refine Ev.br tX3_comes_68 rfl (fun c68 => ?_) (fun c68 => ?_)
          · refine Ev.blk kX3_comes_80 rfl trivial ?_
            refine Ev.iret tX3_comes_81 rfl rfl ?_
            exact ⟨Om.rf, rfl, rfl⟩
          · exact absurd (by rw [nI_ltI (by omega) (by omega)]; omega) c68
    · have hc1 : cellI (nI (cel t (q + 2))) = false := by rw [cellI_nat c1, decide_eq_false b1]
      have hb : ¬ addB D kv (cel t (q + 2)) (dgt t (q + 4)) = true := by unfold addB; simp; omega
      rw [if_neg hb]
      refine Ev.blk kX3_comes_44 rfl ⟨trivial, by rw [nI_add]; exact v1⟩ ?_
      rw [nI_add, x1, m1]
      refine Ev.cS (d1 := d - 1) (em_isCellB hc1) tX3_comes_52 qX3_99 rfl ⟨rfl, rfl, rfl⟩ (by omega) ?_
      rintro _ _ ⟨rfl, rfl⟩
      refine Ev.br tX3_comes_55 rfl (fun c55 => ?_) (fun c55 => ?_)
      · refine Ev.blk kX3_comes_80 rfl trivial ?_
        refine Ev.iret tX3_comes_81 rfl rfl ?_
        exact ⟨Om.rf, rfl, rfl⟩
      · exact absurd rfl c55
  · rw [if_neg (by omega), if_pos h1]
    obtain ⟨a1, a2, a3⟩ := stE_tl hE (Or.inl h1)
    have m0 := r4 (Or.inl h1)
    have c1 : dgt t (q + 1) < 1000 := by show t (q + 1) - 48 < 1000; omega
    have hh : hasI D (nI (dgt t (q + 1))) = decide (dgt t (q + 1) < dn D) := hasI_nat c1 h8
    refine Ev.sw (tgt := 110) tX3_comes_10 (off := 100) (by rw [h1]; decide) (by decide) ?_
    by_cases b1 : dgt t (q + 1) < dn D
    · rw [decide_eq_true b1] at hh
      have b8 : dgt t (q + 1) < 8 := by omega
      cases hc : isC D (dgt t (q + 1)) with
      | true =>
        rw [if_neg (by rw [decide_eq_true b1]; decide)]
        refine Ev.blk kX3_comes_110 rfl ⟨trivial, v0⟩ ?_
        rw [x0, m0]
        refine Ev.cV (d1 := d - 1) (em_isChildB hM hh) tX3_comes_117 qX3_106 rfl rfl (by decide) ⟨rfl, rfl, rfl⟩ (by omega) ?_
        rintro _ _ ⟨rfl, rfl⟩
        refine Ev.br tX3_comes_120 rfl (fun c120 => ?_) (fun c120 => ?_)
        · exact absurd c120 (by decide)
        · refine Ev.blk kX3_comes_123 rfl ⟨trivial, v0⟩ ?_
          rw [x0, m0]
          refine Ev.cV (d1 := d - 1) (em_isCatcherB hM hI b1 hc) tX3_comes_130 qX3_109 rfl rfl (by decide) ⟨rfl, rfl, rfl⟩ (by omega) ?_
          rintro _ _ ⟨rfl, rfl⟩
          refine Ev.br tX3_comes_133 rfl (fun c133 => ?_) (fun c133 => ?_)
          · exact absurd c133 (by decide)
          · refine Ev.blk kX3_comes_136 rfl trivial ?_
            refine Ev.iret tX3_comes_137 rfl rfl ?_
            exact ⟨Om.rf, rfl, rfl⟩
      | false =>
        rw [if_pos (by rw [decide_eq_true b1]; decide)]
        have hb : ∀ b : Bool, nI 1 - bI b = bI (!b) := by decide
        refine Ev.blk kX3_comes_110 rfl ⟨trivial, v0⟩ ?_
        rw [x0, m0]
        refine Ev.cV (d1 := d - 1) (em_isChildB hM hh) tX3_comes_117 qX3_106 rfl rfl (by decide) ⟨rfl, rfl, rfl⟩ (by omega) ?_
        rintro _ _ ⟨rfl, rfl⟩
        refine Ev.br tX3_comes_120 rfl (fun c120 => ?_) (fun c120 => ?_)
        · exact absurd c120 (by decide)
        · refine Ev.blk kX3_comes_123 rfl ⟨trivial, v0⟩ ?_
          rw [x0, m0]
          refine Ev.cV (d1 := d - 1) (em_isCatcherB hM hI b1 hc) tX3_comes_130 qX3_109 rfl rfl (by decide) ⟨rfl, rfl, rfl⟩ (by omega) ?_
          rintro _ _ ⟨rfl, rfl⟩
          refine Ev.br tX3_comes_133 rfl (fun c133 => ?_) (fun c133 => ?_)
          · refine Ev.blk kX3_comes_138 rfl ⟨⟨⟨⟨trivial, v0⟩, v0⟩, by rw [x0, m0]; exact vinN b8 (by decide)⟩, by rw [x0, m0]; exact vinN b8 (by decide)⟩ ?_
            simp only [x0, m0, ix8 b8, hM.s b8, hb]
            refine Ev.iret tX3_comes_163 rfl rfl ?_
            exact ⟨Om.pA (by decide), rfl, hM.ps rfl⟩
          · exact absurd rfl c133
    · rw [decide_eq_false b1] at hh
      rw [if_neg (by rw [decide_eq_false b1]; simp)]
      refine Ev.blk kX3_comes_110 rfl ⟨trivial, v0⟩ ?_
      rw [x0, m0]
      refine Ev.cV (d1 := d - 1) (em_isChildB hM hh) tX3_comes_117 qX3_106 rfl rfl (by decide) ⟨rfl, rfl, rfl⟩ (by omega) ?_
      rintro _ _ ⟨rfl, rfl⟩
      refine Ev.br tX3_comes_120 rfl (fun c120 => ?_) (fun c120 => ?_)
      · refine Ev.blk kX3_comes_136 rfl trivial ?_
        refine Ev.iret tX3_comes_137 rfl rfl ?_
        exact ⟨Om.rf, rfl, rfl⟩
      · exact absurd rfl c120
  · rw [if_neg (by omega), if_neg (by omega), if_pos h1]
    obtain ⟨a1, a2, a3⟩ := stE_tl hE (Or.inr h1)
    have m0 := r4 (Or.inr h1)
    have c1 : dgt t (q + 1) < 1000 := by show t (q + 1) - 48 < 1000; omega
    refine Ev.sw (tgt := 164) tX3_comes_10 (off := 154) (by rw [h1]; decide) (by decide) ?_
    by_cases b1 : dgt t (q + 1) < 4
    · rw [if_pos b1]
      refine Ev.blk kX3_comes_164 rfl ⟨trivial, v0⟩ ?_
      rw [x0, m0, mgf_pf]
      refine Ev.br tX3_comes_179 rfl (fun c179 => ?_) (fun c179 => ?_)
      · exact absurd c179 (by rw [nI_leI (by omega) (by omega)]; omega)
      · refine Ev.blk kX3_comes_182 rfl trivial ?_
        refine Ev.jmp tX3_comes_183 ?_
        refine Ev.iret tX3_comes_187 rfl rfl ?_
        exact ⟨Om.pf (by decide), rfl, hM.pL⟩
    · rw [if_neg b1]
      refine Ev.blk kX3_comes_164 rfl ⟨trivial, v0⟩ ?_
      rw [x0, m0, mgf_pf]
      refine Ev.br tX3_comes_179 rfl (fun c179 => ?_) (fun c179 => ?_)
      · refine Ev.blk kX3_comes_186 rfl trivial ?_
        refine Ev.iret tX3_comes_187 rfl rfl ?_
        exact ⟨Om.pf (by decide), rfl, mgf_pfn (by decide)⟩
      · exact absurd (by rw [nI_leI (by omega) (by omega)]; omega) c179
  · rw [if_neg (by omega), if_neg (by omega), if_neg (by omega)]
    obtain ⟨a1, a2, a3, a4⟩ := stE_g hE h1
    obtain ⟨m0, m1⟩ := r5 h1
    have c1 : dgt t (q + 1) < 1000 := by show t (q + 1) - 48 < 1000; omega
    have c2 : cel t (q + 2) < 1000 := by show 10 * (t (q + 2) - 48) + (t (q + 3) - 48) < 1000; omega
    have hh : hasI D (nI (dgt t (q + 1))) = decide (dgt t (q + 1) < dn D) := hasI_nat c1 h8
    have hcc := cellI_nat c2
    refine Ev.sw (tgt := 188) tX3_comes_10 (off := 178) (by rw [h1]; decide) (by decide) ?_
    by_cases b1 : dgt t (q + 1) < dn D
    · rw [decide_eq_true b1] at hh
      have b8 : dgt t (q + 1) < 8 := by omega
      by_cases b2 : cel t (q + 2) < 24
      · rw [decide_eq_true b2] at hcc
        rw [if_pos (by rw [decide_eq_true b1, decide_eq_true b2]; rfl)]
        refine Ev.blk kX3_comes_188 rfl ⟨trivial, v0⟩ ?_
        rw [x0, m0]
        refine Ev.cV (d1 := d - 1) (em_isChildB hM hh) tX3_comes_195 qX3_106 rfl rfl (by decide) ⟨rfl, rfl, rfl⟩ (by omega) ?_
        rintro _ _ ⟨rfl, rfl⟩
        refine Ev.br tX3_comes_198 rfl (fun c198 => ?_) (fun c198 => ?_)
        · exact absurd c198 (by decide)
        · refine Ev.blk kX3_comes_201 rfl ⟨trivial, by rw [nI_add]; exact v1⟩ ?_
          rw [nI_add, x1, m1]
          refine Ev.cS (d1 := d - 1) (em_isCellB hcc) tX3_comes_209 qX3_99 rfl ⟨rfl, rfl, rfl⟩ (by omega) ?_
          rintro _ _ ⟨rfl, rfl⟩
          refine Ev.br tX3_comes_212 rfl (fun c212 => ?_) (fun c212 => ?_)
          · refine Ev.blk kX3_comes_217 rfl ⟨⟨⟨trivial, v0⟩, by rw [nI_add]; exact v1⟩, by rw [x0, m0]; exact vinN b8 (by decide)⟩ ?_
            simp only [nI_add, x0, x1, m0, m1, ix8 b8]
            refine Ev.iret tX3_comes_237 rfl rfl ?_
            exact ⟨Om.pA (by decide), rfl, hM.pc⟩
          · exact absurd (show ¬ bI true = nI 0 by decide) c212
      · rw [decide_eq_false b2] at hcc
        rw [if_neg (by rw [decide_eq_false b2]; simp)]
        refine Ev.blk kX3_comes_188 rfl ⟨trivial, v0⟩ ?_
        rw [x0, m0]
        refine Ev.cV (d1 := d - 1) (em_isChildB hM hh) tX3_comes_195 qX3_106 rfl rfl (by decide) ⟨rfl, rfl, rfl⟩ (by omega) ?_
        rintro _ _ ⟨rfl, rfl⟩
        refine Ev.br tX3_comes_198 rfl (fun c198 => ?_) (fun c198 => ?_)
        · exact absurd c198 (by decide)
        · refine Ev.blk kX3_comes_201 rfl ⟨trivial, by rw [nI_add]; exact v1⟩ ?_
          rw [nI_add, x1, m1]
          refine Ev.cS (d1 := d - 1) (em_isCellB hcc) tX3_comes_209 qX3_99 rfl ⟨rfl, rfl, rfl⟩ (by omega) ?_
          rintro _ _ ⟨rfl, rfl⟩
          refine Ev.br tX3_comes_212 rfl (fun c212 => ?_) (fun c212 => ?_)
          · exact absurd rfl c212
          · refine Ev.blk kX3_comes_215 rfl trivial ?_
            refine Ev.iret tX3_comes_216 rfl rfl ?_
            exact ⟨Om.rf, rfl, rfl⟩
    · rw [decide_eq_false b1] at hh
      rw [if_neg (by rw [decide_eq_false b1]; simp)]
      refine Ev.blk kX3_comes_188 rfl ⟨trivial, v0⟩ ?_
      rw [x0, m0]
      refine Ev.cV (d1 := d - 1) (em_isChildB hM hh) tX3_comes_195 qX3_106 rfl rfl (by decide) ⟨rfl, rfl, rfl⟩ (by omega) ?_
      rintro _ _ ⟨rfl, rfl⟩
      refine Ev.br tX3_comes_198 rfl (fun c198 => ?_) (fun c198 => ?_)
      · refine Ev.blk kX3_comes_215 rfl trivial ?_
        refine Ev.iret tX3_comes_216 rfl rfl ?_
        exact ⟨Om.rf, rfl, rfl⟩
      · exact absurd rfl c198
theorem RecAt.of {u : mW} {k : Nat} (h : RecAt w t k q) (h0 : mga u 20 0 k = mga w 20 0 k) (h1 : mga u 21 0 k = mga w 21 0 k) (h2 : ∀ j, j < 3 * k + 3 → mga u 22 0 j = mga w 22 0 j) : RecAt u t k q := by
  obtain ⟨a1, a2, a3, a4, a5⟩ := h
  refine ⟨h0.trans a1, h1.trans a2, fun z => ⟨(h2 _ (by omega)).trans (a3 z).1, (h2 _ (by omega)).trans (a3 z).2.1, (h2 _ (by omega)).trans (a3 z).2.2⟩, fun z => (h2 _ (by omega)).trans (a4 z), fun z => ⟨(h2 _ (by omega)).trans (a5 z).1, (h2 _ (by omega)).trans (a5 z).2⟩⟩
def pos (t : Nat → Nat) : Nat → Nat
  | 0 => 0
  | k + 1 => pos t k + sln (t (pos t k))
theorem MdlAt.tape0 (h : MdlAt w st) : MdlAt (mpf w 11 0 14 (nI 0)) (vL st (sT st) 0) := by
  obtain ⟨⟨g, b1⟩, b2, b3, b4, b5, b6, b7⟩ := h
  exact ⟨⟨g, b1.of (fun _ _ _ => rfl) (fun k hk => mgf_pfn (by omega))⟩, (mgf_pfn (by decide)).trans b2, fun hb => (b3 hb).of rfl, ⟨mgf_pf, fun j hj => by have hj : j < 0 := hj; omega, fun j hj => by have hj : j < 0 := hj; omega⟩, (mgf_pfn (by decide)).trans b5, b6, b7⟩
theorem stE_end {p : Nat} (h : stE t n p = none) : p + sln (t p) ≤ n := by
  rcases stE_4 h with z | z | z | z
  · have := (stE_k h z).1; rw [sln_k z]; omega
  · have := (stE_tl h (Or.inl z)).1; rw [sln_t z]; omega
  · have := (stE_tl h (Or.inr z)).1; rw [sln_l z]; omega
  · have := (stE_g h z).1; rw [sln_g z]; omega
theorem pos_3 (hh : ∀ k, k < q → stE t n (pos t k) = none) : 3 * q ≤ pos t q := by
  induction q with
  | zero => exact Nat.zero_le _
  | succ q ih =>
    have h1 := ih (fun k hk => hh k (by omega))
    have h2 := (stE_lt (hh q (by omega))).2.2
    show 3 * (q + 1) ≤ pos t q + sln (t (pos t q))
    omega
abbrev OmZ (w u : mW) : Prop := Om (fun k => k = 15 ∨ k = 16) (fun t => 20 ≤ t ∧ t ≤ 22) w u
theorem OmZ.F {u : mW} (h : OmZ w u) : OffF w u := ⟨h.sub (fun k z => by omega) (fun t z => by omega), fun j _ => by rw [h.2 23 0 (by decide)]⟩
theorem em_yard (hC : MdlAt w st) (hS : SI st) (hd : 9 ≤ d) : Cl l d MX3_yard [mR 11 0] w (fun r u => MP w (P_yard st) r u) := by
  show Ev l d MX3_yard 0 [some (mR 11 0), none, none] [] w _
  obtain ⟨g, hM⟩ := hC.1
  have hI : YI (sN st) := hS.1.1
  obtain ⟨t14, t19, t256⟩ := hC.2.2.2.1
  have h96 := hS.2.2.1
  have hMY : ∀ {u : mW}, OmZ w u → MYd u (ug (sN st) g) := fun o => hM.of (fun t a b => o.2 t 0 (by omega)) (fun k hk => o.1 11 0 k (by omega))
  -- the letters are right: the statements come
  have second : ∀ u M (z1 : Int32), OmZ w u → mgf u 11 0 16 = nI M → (∀ k, k < M → stE (sT st) (sL st) (pos (sT st) k) = none ∧ RecAt u (sT st) k (pos (sT st) k)) → sL st ≤ pos (sT st) M → (∀ k, k < M → pos (sT st) k < sL st) → M ≤ 32 → prs (sT st) (sL st) (sL st + 1) 0 = none → Ev l d MX3_yard 78 [some (mR 11 0), some (mI z1), none] [] (mpf u 11 0 14 (nI 0)) (fun r u => MP w (P_yard st) r u) := by
    intro u M z1 ho h16 hr hp1 hp2 hM32 hp
    have hC2 : MdlAt (mpf u 11 0 14 (nI 0)) (vL st (sT st) 0) := (hC.keepF hS ho.F (hMY ho)).tape0
    have hS2 : SI (vL st (sT st) 0) := ⟨hS.1, hS.2.1, Nat.zero_le _, hS.2.2.2⟩
    have hM2 : MYd (mpf u 11 0 14 (nI 0)) (ug (sN st) g) := (hMY ho).pz (by decide)
    have lo2 : Sm (fun t _ => t ≤ 10) w (mpf u 11 0 14 (nI 0)) := ho.F.lo.tr SmF
    have rk : ∀ {a b : mW}, (∀ t, 20 ≤ t → t ≤ 22 → mga b t 0 = mga a t 0) → (∀ k, k < M → RecAt a (sT st) k (pos (sT st) k)) → ∀ k, k < M → RecAt b (sT st) k (pos (sT st) k) := fun e h k hk => (h k hk).of (by rw [e 20 (by decide) (by decide)]) (by rw [e 21 (by decide) (by decide)]) (fun j _ => by rw [e 22 (by decide) (by decide)])
    have tend : ∀ F D, telN (sT st) (sL st) F D (pos (sT st) M) M = .inr (D, M) := by
      intro F D
      cases F with
      | zero => rfl
      | succ F => exact if_neg (by omega)
    have key2 : ∀ F k v D g', sL st ≤ F + pos (sT st) k → k ≤ M → OffF (mpf u 11 0 14 (nI 0)) v → mgf v 11 0 16 = nI M → (∀ k, k < M → RecAt v (sT st) k (pos (sT st) k)) → MYd v (ug D g') → YI D → da D = da (sN st) → KeptAt v (110 * 1) (ug (sN st) g) → telN (sT st) (sL st) F D (pos (sT st) k) k = telN (sT st) (sL st) (sL st + 1) (sN st) 0 0 → Ev l d MX3_yard 86 [some (mR 11 0), some (mI z1), some (mI (nI k))] [] v (fun r u => MP w (P_yard st) r u) := by
      intro F
      induction F with
      | zero =>
        intro k v D g' q1 q2 oF v16 hRv hMv hDI hda hK hte
        have hkM : k = M := by
          rcases Nat.lt_or_ge k M with z | z
          · have := hp2 k z; omega
          · omega
        subst hkM
        rw [tend] at hte
        have e0 : P_yard st = (nI k, vL (vN st D) (sT st) 0) := by
          unfold P_yard
          rw [hp]
          dsimp only
          rw [← hte]
        rw [e0]
        refine Ev.blk kX3_yard_86 rfl trivial ?_
        rw [v16]
        refine Ev.br tX3_yard_91 rfl (fun c91 => ?_) (fun c91 => ?_)
        · refine Ev.blk kX3_yard_128 rfl trivial ?_
          rw [v16]
          refine Ev.iret tX3_yard_132 rfl rfl ?_
          exact ⟨rfl, lo2.tr oF.lo, hC2.nowF hS2 oF hMv⟩
        · exact absurd (nI_le (Nat.le_refl _) (by omega)) c91
      | succ F ih =>
        intro k v D g' q1 q2 oF v16 hRv hMv hDI hda hK hte
        rcases Nat.lt_or_ge k M with hkM | hkM
        · have hpk := hp2 k hkM
          have hst := (hr k hkM).1
          have hte2 : telN (sT st) (sL st) (F + 1) D (pos (sT st) k) k = (match telS (sT st) D (pos (sT st) k) with
            | none => .inl (pos (sT st) k)
            | some E => telN (sT st) (sL st) F E (pos (sT st) (k + 1)) (k + 1)) := if_pos hpk
          have hcm := em_comes (l := l) (d := d - 1) hMv (show YI (ug D g') from hDI) (hRv k hkM) hst t256 (show k < 40 by omega) (by omega)
          rw [telS_g] at hcm
          cases htl : telS (sT st) D (pos (sT st) k) with
          | none =>
            rw [htl] at hcm hte2
            have e0 : P_yard st = (-2000 - nI (pos (sT st) k), vL st (sT st) 0) := by
              unfold P_yard
              rw [hp]
              dsimp only
              rw [← hte, hte2]
            rw [e0]
            refine Ev.blk kX3_yard_86 rfl trivial ?_
            rw [v16]
            refine Ev.br tX3_yard_91 rfl (fun c91 => ?_) (fun c91 => ?_)
            · exact absurd c91 (nI_ge hkM (by omega))
            · refine Ev.blk kX3_yard_94 rfl trivial ?_
              refine Ev.cV (d1 := d - 1) (hcm) tX3_yard_96 qX3_123 rfl rfl (by decide) ⟨rfl, rfl, rfl⟩ (by omega) ?_
              rintro _ _ ⟨oM, rfl, f22⟩
              refine Ev.br tX3_yard_99 rfl (fun c99 => ?_) (fun c99 => ?_)
              · refine Ev.blk kX3_yard_105 rfl trivial ?_
                refine Ev.cV (d1 := d - 1) (em_back (b := 1) (E := ug (sN st) g) (g := g') (a := da D) (hK.of (oM.2 23 0 (by decide))) hI (by omega) (by decide) (f22.trans hMv.g) ((oM.1 11 0 21 (by decide)).trans hMv.a)) tX3_yard_108 qX3_119 rfl rfl (by decide) ⟨rfl, rfl, rfl⟩ (by omega) ?_
                rintro _ _ ⟨rfl, oB, hB⟩
                have r21 := (congrFun (oB.2 21 0 (by decide)) k).trans ((congrFun (oM.2 21 0 (by decide)) k).trans (hRv k hkM).2.1)
                refine Ev.blk kX3_yard_111 rfl ⟨trivial, vinN (show k < 48 by omega) (by decide)⟩ ?_
                rw [ixN (show k < 1000 by omega), r21]
                refine Ev.iret tX3_yard_121 rfl rfl ?_
                have oA := (oF.tr (OffM.F oM)).tr (OffK.ofB oB).F
                have e9 : ua (ug (ug (sN st) g) g') (da D) = ug (sN st) g' := Yd_ext rfl rfl rfl rfl rfl rfl rfl rfl rfl rfl hda
                rw [e9] at hB
                exact ⟨rfl, lo2.tr oA.lo, hC2.keepF hS2 oA hB⟩
              · exact absurd rfl c99
          | some E =>
            rw [htl] at hcm hte2
            obtain ⟨y1, y2, y3, y4⟩ := telS_YI hDI htl
            have y5 := stE_end hst
            have y6 := (stE_lt hst).2.2
            have y7 : pos (sT st) (k + 1) = pos (sT st) k + sln (sT st (pos (sT st) k)) := rfl
            refine Ev.blk kX3_yard_86 rfl trivial ?_
            rw [v16]
            refine Ev.br tX3_yard_91 rfl (fun c91 => ?_) (fun c91 => ?_)
            · exact absurd c91 (nI_ge hkM (by omega))
            · refine Ev.blk kX3_yard_94 rfl trivial ?_
              refine Ev.cV (d1 := d - 1) (hcm) tX3_yard_96 qX3_123 rfl rfl (by decide) ⟨rfl, rfl, rfl⟩ (by omega) ?_
              rintro _ _ ⟨oM, rfl, hE2⟩
              refine Ev.br tX3_yard_99 rfl (fun c99 => ?_) (fun c99 => ?_)
              · exact absurd c99 (by decide)
              · refine Ev.jmp tX3_yard_102 ?_
                refine Ev.blk kX3_yard_122 rfl trivial ?_
                rw [nI_add]
                refine Ev.jmp tX3_yard_125 ?_
                exact ih (k + 1) _ E g' (by omega) hkM (oF.tr (OffM.F oM)) ((oM.1 11 0 16 (by decide)).trans v16) (rk (fun t a b => oM.2 t 0 (by omega)) hRv) hE2 y1 (y2.trans hda) (hK.of (oM.2 23 0 (by decide))) (by rw [← hte, hte2])
        · have hkM' : k = M := by omega
          subst hkM'
          rw [tend] at hte
          have e0 : P_yard st = (nI k, vL (vN st D) (sT st) 0) := by
            unfold P_yard
            rw [hp]
            dsimp only
            rw [← hte]
          rw [e0]
          refine Ev.blk kX3_yard_86 rfl trivial ?_
          rw [v16]
          refine Ev.br tX3_yard_91 rfl (fun c91 => ?_) (fun c91 => ?_)
          · refine Ev.blk kX3_yard_128 rfl trivial ?_
            rw [v16]
            refine Ev.iret tX3_yard_132 rfl rfl ?_
            exact ⟨rfl, lo2.tr oF.lo, hC2.nowF hS2 oF hMv⟩
          · exact absurd (nI_le (Nat.le_refl _) (by omega)) c91
    refine Ev.blk kX3_yard_78 rfl trivial ?_
    refine Ev.cV (d1 := d - 1) (em_keep (b := 1) hM2 (show YI (ug (sN st) g) from hI) (by omega) (by decide)) tX3_yard_81 qX3_119 rfl rfl (by decide) ⟨rfl, rfl, rfl⟩ (by omega) ?_
    rintro _ _ ⟨rfl, oV, hM3, hK3, hf3⟩
    refine Ev.blk kX3_yard_84 rfl trivial ?_
    exact key2 (sL st + 1) 0 _ (sN st) g (by omega) (Nat.zero_le _) (OffK.ofV oV hf3).F ((oV.1 11 0 16 (by decide)).trans ((mgf_pfn (by decide)).trans h16)) (rk (fun t a b => (oV.2 t 0 (by omega)).trans rfl) (fun k hk => (hr k hk).2)) hM3 hI rfl hK3 rfl
  have bad : ∀ u r' (z1 : Option mV), OmZ w u → TpAt u (sT st) (sL st) r' → prs (sT st) (sL st) (sL st + 1) 0 = some r' → (z1 = none) → Ev l d MX3_yard 12 [some (mR 11 0), some (mI (nI 0)), z1] [] u (fun r u => MP w (P_yard st) r u) := by
    intro u r' z1 ho hT hp hz1
    subst hz1
    have h15 := hT.2.2.2.2.1
    have e0 : P_yard st = (-1000 - nI r', vL st (sT st) 0) := by
      unfold P_yard
      rw [hp]
    rw [e0]
    refine Ev.blk kX3_yard_12 rfl trivial ?_
    refine Ev.br tX3_yard_13 rfl (fun c13 => ?_) (fun c13 => ?_)
    · refine Ev.blk kX3_yard_60 rfl trivial ?_
      refine Ev.br tX3_yard_66 rfl (fun c66 => ?_) (fun c66 => ?_)
      · exact absurd c66 (by decide)
      · refine Ev.blk kX3_yard_69 rfl trivial ?_
        rw [mgf_pfn (by decide), h15]
        refine Ev.iret tX3_yard_77 rfl rfl ?_
        exact ⟨rfl, ho.F.lo.tr SmF, (hC.keepF hS ho.F (hMY ho)).tape0⟩
    · exact absurd rfl c13
  have good : ∀ u M, OmZ w u → mgf u 11 0 16 = nI M → TpAt u (sT st) (sL st) (pos (sT st) M) → (∀ k, k < M → stE (sT st) (sL st) (pos (sT st) k) = none ∧ RecAt u (sT st) k (pos (sT st) k)) → sL st ≤ pos (sT st) M → (∀ k, k < M → pos (sT st) k < sL st) → 0 < M → M ≤ 32 → prs (sT st) (sL st) (sL st + 1) 0 = none → Ev l d MX3_yard 12 [some (mR 11 0), some (mI (nI 1)), none] [] u (fun r u => MP w (P_yard st) r u) := by
    intro u M ho h16 hT hr hp1 hp2 hM0 hM32 hp
    have h15 := hT.2.2.2.2.1
    have h14 := hT.1
    have hq200 := hT.2.2.2.2.2
    refine Ev.blk kX3_yard_12 rfl trivial ?_
    refine Ev.br tX3_yard_13 rfl (fun c13 => ?_) (fun c13 => ?_)
    · exact absurd c13 (by decide)
    · refine Ev.blk kX3_yard_16 rfl trivial ?_
      rw [h15, h14]
      refine Ev.br tX3_yard_24 rfl (fun c24 => ?_) (fun c24 => ?_)
      · exact absurd c24 (nI_nlt hp1 (by omega))
      · refine Ev.blk kX3_yard_27 rfl trivial ?_
        rw [h16]
        refine Ev.br tX3_yard_31 rfl (fun c31 => ?_) (fun c31 => ?_)
        · refine Ev.blk kX3_yard_60 rfl trivial ?_
          refine Ev.br tX3_yard_66 rfl (fun c66 => ?_) (fun c66 => ?_)
          · exact second _ M _ ho h16 hr hp1 hp2 hM32 hp
          · exact absurd (show ¬ nI 1 = nI 0 by decide) c66
        · exact absurd (by rw [nI_eq (by omega) (by omega)]; omega) c31
  have step : ∀ m u, (m = 0 ∨ pos (sT st) m < sL st) → m < 40 → OmZ w u → mgf u 11 0 16 = nI m → TpAt u (sT st) (sL st) (pos (sT st) m) → (∀ k, k < m → stE (sT st) (sL st) (pos (sT st) k) = none ∧ RecAt u (sT st) k (pos (sT st) k)) →
      (∀ u' r', stE (sT st) (sL st) (pos (sT st) m) = some r' → OmZ w u' → TpAt u' (sT st) (sL st) r' → Ev l d MX3_yard 12 [some (mR 11 0), some (mI (nI 0)), none] [] u' (fun r u => MP w (P_yard st) r u)) →
      (∀ u', stE (sT st) (sL st) (pos (sT st) m) = none → OmZ w u' → mgf u' 11 0 16 = nI (m + 1) → TpAt u' (sT st) (sL st) (pos (sT st) (m + 1)) → (∀ k, k < m + 1 → stE (sT st) (sL st) (pos (sT st) k) = none ∧ RecAt u' (sT st) k (pos (sT st) k)) → Ev l d MX3_yard 12 [some (mR 11 0), some (mI (nI 1)), none] [] u' (fun r u => MP w (P_yard st) r u)) →
      Ev l d MX3_yard 12 [some (mR 11 0), some (mI (nI 1)), none] [] u (fun r u => MP w (P_yard st) r u) := by
    intro m u h2 hm ho h16 hT hr k1 k2
    have h15 := hT.2.2.2.2.1
    have h14 := hT.1
    have hq200 := hT.2.2.2.2.2
    have hq100 : pos (sT st) m ≤ 100 := by
      rcases h2 with z | z
      · subst z; exact Nat.zero_le _
      · omega
    have hsm := em_statement (l := l) (d := d - 1) hT (by omega) hm hq100 h16
    have oz : ∀ {a b : mW}, OmS a b → OmZ a b := fun h => h.sub (fun k z => Or.inl z) (fun t z => z)
    have call : Ev l d MX3_yard 34 [some (mR 11 0), some (mI (nI 1)), none] [] u (fun r u => MP w (P_yard st) r u) := by
      cases hst : stE (sT st) (sL st) (pos (sT st) m) with
      | some r' =>
        rw [hst] at hsm
        refine Ev.blk kX3_yard_34 rfl trivial ?_
        refine Ev.cV (d1 := d - 1) (hsm) tX3_yard_35 qX3_115 rfl rfl (by decide) ⟨rfl, rfl, rfl⟩ (by omega) ?_
        rintro _ _ ⟨oS, f20, f22, rfl, hT2⟩
        have g16 := (oS.1 11 0 16 (by decide)).trans h16
        refine Ev.blk kX3_yard_38 rfl trivial ?_
        rw [g16]
        refine Ev.br tX3_yard_45 rfl (fun c45 => ?_) (fun c45 => ?_)
        · refine Ev.blk kX3_yard_52 rfl trivial ?_
          refine Ev.blk kX3_yard_53 rfl trivial ?_
          rw [nI_add]
          refine Ev.jmp tX3_yard_57 ?_
          exact k1 _ r' hst ((ho.tr (oz oS)).tr (Om.pf (by decide))) (hT2.of (mgf_pfn (by decide)) (mgf_pfn (by decide)) rfl)
        · exact absurd rfl c45
      | none =>
        rw [hst] at hsm
        refine Ev.blk kX3_yard_34 rfl trivial ?_
        refine Ev.cV (d1 := d - 1) (hsm) tX3_yard_35 qX3_115 rfl rfl (by decide) ⟨rfl, rfl, rfl⟩ (by omega) ?_
        rintro _ _ ⟨oS, f20, f22, rfl, hT2, hR2⟩
        have g16 := (oS.1 11 0 16 (by decide)).trans h16
        refine Ev.blk kX3_yard_38 rfl trivial ?_
        rw [g16]
        refine Ev.br tX3_yard_45 rfl (fun c45 => ?_) (fun c45 => ?_)
        · exact absurd c45 (by decide)
        · refine Ev.blk kX3_yard_48 rfl trivial ?_
          refine Ev.jmp tX3_yard_49 ?_
          refine Ev.blk kX3_yard_53 rfl trivial ?_
          rw [nI_add]
          refine Ev.jmp tX3_yard_57 ?_
          refine k2 _ hst ((ho.tr (oz oS)).tr (Om.pf (by decide))) mgf_pf (hT2.of (mgf_pfn (by decide)) (mgf_pfn (by decide)) rfl) (fun k hk => ?_)
          by_cases e : k = m
          · subst e
            exact ⟨hst, hR2.of rfl rfl (fun _ _ => rfl)⟩
          · obtain ⟨y1, y2⟩ := hr k (by omega)
            exact ⟨y1, y2.of (f20 k (by omega)).1 (f20 k (by omega)).2 (fun j hj => f22 j (by omega))⟩
    refine Ev.blk kX3_yard_12 rfl trivial ?_
    refine Ev.br tX3_yard_13 rfl (fun c13 => ?_) (fun c13 => ?_)
    · exact absurd c13 (by decide)
    · refine Ev.blk kX3_yard_16 rfl trivial ?_
      rw [h15, h14]
      refine Ev.br tX3_yard_24 rfl (fun c24 => ?_) (fun c24 => ?_)
      · exact call
      · rw [nI_ltI (by omega) (by omega)] at c24
        have hm0 : m = 0 := by omega
        refine Ev.blk kX3_yard_27 rfl trivial ?_
        rw [h16]
        refine Ev.br tX3_yard_31 rfl (fun c31 => ?_) (fun c31 => ?_)
        · exact absurd (by rw [hm0]) c31
        · exact call
  have key : ∀ F m u, sL st ≤ F + pos (sT st) m → (m = 0 ∨ pos (sT st) m < sL st) → OmZ w u → mgf u 11 0 16 = nI m → TpAt u (sT st) (sL st) (pos (sT st) m) → (∀ k, k < m → stE (sT st) (sL st) (pos (sT st) k) = none ∧ RecAt u (sT st) k (pos (sT st) k)) → (∀ k, k < m → pos (sT st) k < sL st) → prs (sT st) (sL st) (F + 1) (pos (sT st) m) = prs (sT st) (sL st) (sL st + 1) 0 → Ev l d MX3_yard 12 [some (mR 11 0), some (mI (nI 1)), none] [] u (fun r u => MP w (P_yard st) r u) := by
    intro F
    induction F with
    | zero =>
      intro m u h1 h2 ho h16 hT hr hp2 hpr
      have h3 := pos_3 (t := sT st) (n := sL st) (q := m) (fun k hk => (hr k hk).1)
      have hm40 : m < 40 := by
        rcases h2 with z | z <;> omega
      refine step m u h2 hm40 ho h16 hT hr (fun u' r' hs o' hT' => ?_) (fun u' hs o' h16' hT' hr' => ?_)
      · refine bad u' r' none o' hT' ?_ rfl
        rw [← hpr]
        unfold prs
        rw [hs]
      · exfalso
        have := (stE_lt hs).1
        omega
    | succ F ih =>
      intro m u h1 h2 ho h16 hT hr hp2 hpr
      have h3 := pos_3 (t := sT st) (n := sL st) (q := m) (fun k hk => (hr k hk).1)
      have hm40 : m < 40 := by
        rcases h2 with z | z <;> omega
      have hprs : prs (sT st) (sL st) (F + 1 + 1) (pos (sT st) m) = (match stE (sT st) (sL st) (pos (sT st) m) with
        | some q => some q
        | none => if pos (sT st) (m + 1) < sL st then prs (sT st) (sL st) (F + 1) (pos (sT st) (m + 1)) else none) := rfl
      refine step m u h2 hm40 ho h16 hT hr (fun u' r' hs o' hT' => ?_) (fun u' hs o' h16' hT' hr' => ?_)
      · refine bad u' r' none o' hT' ?_ rfl
        rw [← hpr, hprs, hs]
      · have y1 := (stE_lt hs).1
        have y5 := stE_end hs
        have y6 := (stE_lt hs).2.2
        have y7 : pos (sT st) (m + 1) = pos (sT st) m + sln (sT st (pos (sT st) m)) := rfl
        have hp2' : ∀ k, k < m + 1 → pos (sT st) k < sL st := fun k hk => by
          by_cases e : k = m
          · subst e; exact y1
          · exact hp2 k (by omega)
        rw [hs] at hprs
        dsimp only at hprs
        by_cases hlt : pos (sT st) (m + 1) < sL st
        · rw [if_pos hlt] at hprs
          exact ih (m + 1) u' (by omega) (Or.inr hlt) o' h16' hT' hr' hp2' (by rw [← hpr, hprs])
        · rw [if_neg hlt] at hprs
          have h4 := pos_3 (t := sT st) (n := sL st) (q := m + 1) (fun k hk => (hr' k hk).1)
          exact good u' (m + 1) o' h16' hT' hr' (by omega) hp2' (by omega) (by omega) (by rw [← hpr, hprs])
  have hz : TpAt (mpf (mpf w 11 0 15 (nI 0)) 11 0 16 (nI 0)) (sT st) (sL st) 0 := ⟨(mgf_pfn (by decide)).trans ((mgf_pfn (by decide)).trans t14), t19, h96, t256, (mgf_pfn (by decide)).trans mgf_pf, by decide⟩
  refine Ev.blk kX3_yard_0 rfl trivial ?_
  exact key (sL st) 0 _ (by omega) (Or.inl rfl) ((Om.pf (by decide)).tr (Om.pf (by decide))) mgf_pf hz (fun k hk => by omega) (fun k hk => by omega) rfl
end M12
