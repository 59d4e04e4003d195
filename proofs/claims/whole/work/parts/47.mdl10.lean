/-! ===== the reference's calls 5: lots, the image, counts, a letter ===== -/
section M10
variable {l : Launch} {d : Nat} {w : mW} {st : St}
theorem sct_z (D E : Yd) (z : Int32) : ∀ n, (sct D z n).1 = (sct E z n).1
  | 0 => rfl
  | n + 1 => congrArg lz (sct_z D E z n)
theorem sct_j (D E : Yd) (z : Int32) : ∀ n j, j < n → (sct D z n).2 j = (sct E z n).2 j
  | 0, j, hj => by omega
  | n + 1, j, hj => by
    show va_up (sct D z n).2 n (lcl (lz (sct D z n).1)) j = va_up (sct E z n).2 n (lcl (lz (sct E z n).1)) j
    unfold va_up
    by_cases e : j = n
    · rw [if_pos e, if_pos e, sct_z D E]
    · rw [if_neg e, if_neg e, sct_j D E z n j (by omega)]
theorem em_lots (hC : MdlAt w st) (hS : SI st) (hd : 9 ≤ d) (n z : Int32) : Cl l d MX3_lots [mR 11 0, mI n, mI z] w (fun r u => MP w (P_lots st n z) r u) := by
  show Ev l d MX3_lots 0 [some (mR 11 0), some (mI n), some (mI z), none, none, none, none, none, none] [] w _
  obtain ⟨g, hM⟩ := hC.1
  have hI : YI (sN st) := hS.1.1
  have h8 := hI.1
  have hse : de (sN st) ≤ 999 := hS.1.2.1
  unfold P_lots
  have loop : ∀ m, m ≤ 20 → ∀ u0 (y : Int32), OffK w u0 → MYd u0 (ug (sN st) g) → KeptAt u0 (110 * 1) (ug (sN st) g) → Ev l d MX3_lots 39 [some (mR 11 0), some (mI (nI m)), some (mI z), some (mI y), some (mI z), some (mI (nI 0)), some (mI (nI (de (sN st)))), some (mI (nI 0)), none] [] u0 (fun r u => MP w (nI (lts (sN st) z m), st) r u) := by
    intro m hm u0 y ho0 hM0 hK0
    refine Ev.for (fun j L u => OffK w u ∧ KeptAt u (110 * 1) (ug (sN st) g) ∧ (∃ E, MYd u E ∧ YI E ∧ dk E = dk (sN st) ∧ df E = df (sN st) ∧ dn E = dn (sN st) ∧ dl E = dl (sN st) ∧ da E = da (sN st)) ∧ ∃ q, L = [some (mR 11 0), some (mI (nI m)), some (mI z), some (mI y), some (mI (lsd (sN st) z j)), some (mI (nI (lts (sN st) z j))), some (mI (nI (de (sN st)))), some (mI (nI j)), q]) m ?_ ?_ 0 (Nat.zero_le _) ⟨ho0, hK0, ⟨ug (sN st) g, hM0, hI, rfl, rfl, rfl, rfl, rfl⟩, none, rfl⟩
    · rintro L u ⟨ho, hK, ⟨E, hE, hEI, k1, k2, k3, k4, k5⟩, q, rfl⟩
      refine Ev.blk kX3_lots_39 rfl trivial ?_
      refine Ev.br tX3_lots_42 rfl (fun c42 => ?_) (fun c42 => ?_)
      · refine Ev.blk kX3_lots_155 rfl trivial ?_
        refine Ev.cV (d1 := d - 1) (em_back (b := 1) (E := ug (sN st) g) (g := dg E) (a := da (sN st)) hK hI (by omega) (by decide) hE.g (by rw [hE.a, k5])) tX3_lots_158 qX3_119 rfl rfl (by decide) ⟨rfl, rfl, rfl⟩ (by omega) ?_
        rintro _ _ ⟨rfl, oB, hB⟩
        refine Ev.blk kX3_lots_161 rfl trivial ?_
        refine Ev.iret tX3_lots_163 rfl rfl ?_
        exact ⟨rfl, (ho.tr (OffK.ofB oB)).F.lo, hC.keepF hS (ho.tr (OffK.ofB oB)).F (g := dg E) hB⟩
      · exact absurd (nI_le (Nat.le_refl _) (by omega)) c42
    · rintro j L u hj ⟨ho, hK, ⟨E, hE, hEI, k1, k2, k3, k4, k5⟩, q, rfl⟩ kk
      have hEn : dn E ≤ 8 := hEI.1
      have hGI : YI (GU (scD (sN st) (lsd (sN st) z j)) (dr E) (dg E)) := by
        have a1 := scD_YI hI (lsd (sN st) z j)
        exact ⟨a1.1, a1.2.1, a1.2.2.1, a1.2.2.2.1, a1.2.2.2.2.1, hEI.2.2.2.2.2.1, fun x hx => hEI.2.2.2.2.2.2.1 x (by rw [k3]; exact hx), a1.2.2.2.2.2.2.2.1, a1.2.2.2.2.2.2.2.2⟩
      have sec : ∀ u2 (q2 : Int32), OffK w u2 → KeptAt u2 (110 * 1) (ug (sN st) g) → MYd u2 (GU (scD (sN st) (lsd (sN st) z j)) (dr E) (dg E)) → Ev l d MX3_lots 120 [some (mR 11 0), some (mI (nI m)), some (mI z), some (mI y), some (mI (lsd (sN st) z (j + 1))), some (mI (nI (lts (sN st) z j))), some (mI (nI (de (sN st)))), some (mI (nI j)), some (mI (nI 0))] [] u2 (fun r u => MP w (nI (lts (sN st) z m), st) r u) := by
        intro u2 q2 ho2 hK2 hG2
        obtain ⟨T, hT⟩ : ∃ T, T = 30 := ⟨_, rfl⟩
        have e30 : nI 30 = nI T := by rw [hT]
        refine Ev.for (fun i L v => OffK w v ∧ KeptAt v (110 * 1) (ug (sN st) g) ∧ MYd v (passN (GU (scD (sN st) (lsd (sN st) z j)) (dr E) (dg E)) i) ∧ L = [some (mR 11 0), some (mI (nI m)), some (mI z), some (mI y), some (mI (lsd (sN st) z (j + 1))), some (mI (nI (lts (sN st) z j))), some (mI (nI (de (sN st)))), some (mI (nI j)), some (mI (nI i))]) T ?_ ?_ 0 (Nat.zero_le _) ⟨ho2, hK2, hG2, rfl⟩
        · rintro L v ⟨ho3, hK3, hG3, rfl⟩
          obtain ⟨f', g', eG⟩ := passN_G (D := scD (sN st) (lsd (sN st) z j)) (f := dr E) (g := dg E) T
          have hFI := passN_YI hGI T (by show de (sN st) + T < 100000; omega)
          have hpn := passN_n (D := GU (scD (sN st) (lsd (sN st) z j)) (dr E) (dg E)) T
          have hds : ds (passN (GU (scD (sN st) (lsd (sN st) z j)) (dr E) (dg E)) T) = ds (passN (scD (sN st) (lsd (sN st) z j)) 30) := by
            have q1 : ds (passN (GU (scD (sN st) (lsd (sN st) z j)) (dr E) (dg E)) T) = ds (passN (scD (sN st) (lsd (sN st) z j)) T) := by rw [eG]; rfl
            have q2 : ds (passN (scD (sN st) (lsd (sN st) z j)) T) = ds (passN (scD (sN st) (lsd (sN st) z j)) 30) := by rw [hT]
            exact q1.trans q2
          refine Ev.blk kX3_lots_120 rfl trivial ?_
          rw [e30]
          refine Ev.br tX3_lots_124 rfl (fun c124 => ?_) (fun c124 => ?_)
          · refine Ev.blk kX3_lots_137 rfl trivial ?_
            refine Ev.cV (d1 := d - 1) (em_standBits hG3 hFI) tX3_lots_140 qX3_214 rfl rfl (by decide) ⟨rfl, rfl, rfl⟩ (by omega) ?_
            rintro _ _ ⟨rfl, rfl⟩
            refine Ev.cS (d1 := d - 1) (em_bits (ds (passN (GU (scD (sN st) (lsd (sN st) z j)) (dr E) (dg E)) T))) tX3_lots_143 qX3_220 rfl ⟨rfl, rfl, rfl⟩ (by omega) ?_
            rintro _ _ ⟨rfl, rfl⟩
            rw [hds]
            refine Ev.blk kX3_lots_146 rfl trivial ?_
            rw [nI_add, nI_add, ← lts_s]
            refine Ev.jmp tX3_lots_152 ?_
            exact kk _ _ ⟨ho3, hK3, ⟨_, hG3, hFI, hpn.2.1, hpn.2.2.2.1, hpn.1, hpn.2.2.1, hpn.2.2.2.2.1⟩, _, rfl⟩
          · exact absurd (nI_le (Nat.le_refl _) (by omega)) c124
        · rintro i L v hi ⟨ho3, hK3, hG3, rfl⟩ k3
          have hFI := passN_YI hGI i (by show de (sN st) + i < 100000; omega)
          refine Ev.blk kX3_lots_120 rfl trivial ?_
          rw [e30]
          refine Ev.br tX3_lots_124 rfl (fun c124 => ?_) (fun c124 => ?_)
          · exact absurd c124 (nI_ge hi (by omega))
          · refine Ev.blk kX3_lots_127 rfl trivial ?_
            refine Ev.cV (d1 := d - 1) (em_goes hG3 hFI (by omega)) tX3_lots_128 qX3_208 rfl rfl (by decide) ⟨rfl, rfl, rfl⟩ (by omega) ?_
            rintro _ _ ⟨rfl, oM, hM2⟩
            refine Ev.blk kX3_lots_131 rfl trivial ?_
            refine Ev.jmp tX3_lots_134 ?_
            exact k3 _ _ ⟨ho3.tr (OffK.ofM oM), hK3.of (oM.2 23 0 (by decide)), hM2, by rw [nI_add]⟩
      have inn : Ev l d MX3_lots 48 [some (mR 11 0), some (mI (nI m)), some (mI z), some (mI y), some (mI (lsd (sN st) z j)), some (mI (nI (lts (sN st) z j))), some (mI (nI (de (sN st)))), some (mI (nI j)), some (mI (nI 0))] [] u (fun r u => MP w (nI (lts (sN st) z m), st) r u) := by
        refine Ev.for (fun c L v => OffK w v ∧ KeptAt v (110 * 1) (ug (sN st) g) ∧ MYd v (us (ut (uc E (sct E (lsd (sN st) z j) c).2) (fun o => if o < c then 0 else dt E o)) (fun o => if o < c then false else ds E o)) ∧ L = [some (mR 11 0), some (mI (nI m)), some (mI z), some (mI y), some (mI (sct E (lsd (sN st) z j) c).1), some (mI (nI (lts (sN st) z j))), some (mI (nI (de (sN st)))), some (mI (nI j)), some (mI (nI c))]) (dn E) ?_ ?_ 0 (Nat.zero_le _) ⟨ho, hK, by
          have e1 : (fun o => if o < 0 then 0 else dt E o) = dt E := by funext o; simp
          have e2 : (fun o => if o < 0 then false else ds E o) = ds E := by funext o; simp
          rw [e1, e2]
          exact hE, rfl⟩
        · rintro L v ⟨ho3, hK3, hG3, rfl⟩
          have hn3 : mgf v 11 0 7 = nI (dn E) := hG3.n
          have hfin : MYd (mpf v 11 0 9 (nI (de (sN st)))) (GU (scD (sN st) (lsd (sN st) z j)) (dr E) (dg E)) := by
            refine ⟨⟨fun o ho => ?_, fun o ho => ?_, fun o ho => ?_, fun o ho => ?_, fun o ho => ?_, fun o ho => ?_⟩, ?_, ?_, mgf_pf, ?_, ?_⟩
            · have ho : o < dn (sN st) := ho
              refine (hG3.1.1 o (by show o < dn E; omega)).trans ?_
              show nI (dk E o) = nI (dk (sN st) o)
              rw [k1]
            · have ho : o < dn (sN st) := ho
              refine (hG3.1.2.1 o (by show o < dn E; omega)).trans ?_
              show nI ((sct E (lsd (sN st) z j) (dn E)).2 o) = nI ((sct (sN st) (lsd (sN st) z j) (dn (sN st))).2 o)
              rw [k3, sct_j E (sN st) _ _ o ho]
            · have ho : o < dn (sN st) := ho
              refine (hG3.1.2.2.1 o (by show o < dn E; omega)).trans ?_
              show nI (df E o) = nI (df (sN st) o)
              rw [k2]
            · refine (hG3.1.2.2.2.1 o ho).trans ?_
              show bI (if o < dn E then false else ds E o) = bI false
              by_cases e : o < dn E
              · rw [if_pos e]
              · rw [if_neg e]
                cases hz : ds E o with
                | false => rfl
                | true => exact absurd (hEI.st hz).1 e
            · refine (hG3.1.2.2.2.2.1 o ho).trans ?_
              show nI (if o < dn E then 0 else dt E o) = nI 0
              by_cases e : o < dn E
              · rw [if_pos e]
              · rw [if_neg e, hEI.2.2.2.2.1 o (by omega)]
            · exact hG3.1.2.2.2.2.2 o ho
            · refine (mgf_pfn (by decide)).trans (hG3.n.trans ?_)
              show nI (dn E) = nI (dn (sN st))
              rw [k3]
            · refine (mgf_pfn (by decide)).trans (hG3.l.trans ?_)
              show nI (dl E) = nI (dl (sN st))
              rw [k4]
            · exact (mgf_pfn (by decide)).trans hG3.g
            · refine (mgf_pfn (by decide)).trans (hG3.a.trans ?_)
              show enM (da E) = enM (da (sN st))
              rw [k5]
          have es : (sct E (lsd (sN st) z j) (dn E)).1 = lsd (sN st) z (j + 1) := by
            rw [lsd_s, k3]
            exact sct_z E (sN st) _ _
          refine Ev.blk kX3_lots_48 rfl trivial ?_
          simp only [hn3]
          refine Ev.br tX3_lots_54 rfl (fun c54 => ?_) (fun c54 => ?_)
          · refine Ev.blk kX3_lots_111 rfl trivial ?_
            rw [es]
            exact sec _ 0 (ho3.tr (OffK.pf (by decide))) (hK3.of rfl) hfin
          · exact absurd (nI_le (Nat.le_refl _) (by omega)) c54
        · rintro c L v hc ⟨ho3, hK3, hG3, rfl⟩ k3'
          have hc8 : c < 8 := by omega
          have hn3 : mgf v 11 0 7 = nI (dn E) := hG3.n
          have hl := lcl_ok (lz (sct E (lsd (sN st) z j) c).1)
          unfold lz at hl
          have h1 := ((hG3.pc (i := c) (x := lcl (lz (sct E (lsd (sN st) z j) c).1))).ps (i := c) (b := false) (x := nI 0) rfl).pt (i := c) (x := 0)
          have e1 : (fun o => if o < c + 1 then 0 else dt E o) = va_up (fun o => if o < c then 0 else dt E o) c 0 := by
            funext o
            unfold va_up
            by_cases h : o = c
            · subst h; simp
            · have : (o < c + 1) = (o < c) := by apply propext; omega
              rw [if_neg h]
              simp only [this]
          have e2 : (fun o => if o < c + 1 then false else ds E o) = va_up (fun o => if o < c then false else ds E o) c false := by
            funext o
            unfold va_up
            by_cases h : o = c
            · subst h; simp
            · have : (o < c + 1) = (o < c) := by apply propext; omega
              rw [if_neg h]
              simp only [this]
          refine Ev.blk kX3_lots_48 rfl trivial ?_
          simp only [hn3]
          refine Ev.br tX3_lots_54 rfl (fun c54 => ?_) (fun c54 => ?_)
          · exact absurd c54 (nI_ge hc (by omega))
          · refine Ev.blk kX3_lots_57 rfl ⟨⟨⟨⟨⟨trivial, by decide⟩, by decide⟩, vinN hc8 (by decide)⟩, vinN hc8 (by decide)⟩, vinN hc8 (by decide)⟩ ?_
            simp only [ix8 hc8, nI_add, hl]
            refine Ev.jmp tX3_lots_108 ?_
            refine k3' _ _ ⟨((ho3.tr (OffK.pA (by decide))).tr (OffK.pA (by decide))).tr (OffK.pA (by decide)), ((hK3.of (mga_pAn (by decide))).of (mga_pAn (by decide))).of (mga_pAn (by decide)), ?_, rfl⟩
            rw [e1, e2]
            exact h1
      refine Ev.blk kX3_lots_39 rfl trivial ?_
      refine Ev.br tX3_lots_42 rfl (fun c42 => ?_) (fun c42 => ?_)
      · exact absurd c42 (nI_ge hj (by omega))
      · refine Ev.blk kX3_lots_45 rfl trivial ?_
        exact inn
  refine Ev.blk kX3_lots_0 rfl trivial ?_
  refine Ev.cS (d1 := d - 1) (em_bound n (nI 1) (nI 20)) tX3_lots_4 qX3_63 rfl ⟨rfl, rfl, rfl⟩ (by omega) ?_
  rintro _ _ ⟨rfl, rfl⟩
  refine Ev.blk kX3_lots_7 rfl trivial ?_
  refine Ev.br tX3_lots_9 rfl (fun c9 => ?_) (fun c9 => ?_)
  · rw [GO_ok c9]
    obtain ⟨k, h1, h2, rfl⟩ := outs_ok (by omega) (by omega) c9
    rw [ixC (by omega)]
    refine Ev.blk kX3_lots_18 rfl trivial ?_
    refine Ev.cV (d1 := d - 1) (em_keep (b := 1) hM (show YI (ug (sN st) g) from hI) (by omega) (by decide)) tX3_lots_21 qX3_119 rfl rfl (by decide) ⟨rfl, rfl, rfl⟩ (by omega) ?_
    rintro _ _ ⟨rfl, oV, hM1, hK1, hf1⟩
    have he1 := hM1.e
    refine Ev.blk kX3_lots_24 rfl trivial ?_
    rw [he1]
    exact loop k h2 _ _ (OffK.ofV oV hf1) hM1 hK1
  · refine Ev.blk kX3_lots_12 rfl trivial ?_
    refine Ev.cV (d1 := d - 1) (em_no hC (outs_rcn c9)) tX3_lots_14 qX3_70 rfl rfl (by decide) ⟨rfl, rfl, rfl⟩ (by omega) ?_
    rintro _ _ ⟨rfl, hS2, hC2⟩
    refine Ev.iret tX3_lots_17 rfl rfl ?_
    rw [GO_no c9]; exact ⟨rfl, hS2, hC2⟩
theorem em_image (hC : MdlAt w st) (hS : SI st) (hd : 5 ≤ d) : Cl l d MX3_image [mR 11 0] w (fun r u => MP w (P_image st) r u) := by
  show Ev l d MX3_image 0 [some (mR 11 0)] [] w _
  obtain ⟨g, hM⟩ := hC.1
  have hI : YI (ug (sN st) g) := hS.1.1
  refine Ev.blk kX3_image_0 rfl ⟨trivial, Or.inr rfl⟩ ?_
  refine Ev.cV (d1 := d - 1) (em_keep (b := 0) (hM.pz (k := 18) (x := nI 1) (by decide)) hI (by omega) (by decide)) tX3_image_8 qX3_119 rfl rfl (by decide) ⟨rfl, rfl, rfl⟩ (by omega) ?_
  rintro _ _ ⟨rfl, oV, hM1, hK1, hf1⟩
  have he1 := hM1.e
  refine Ev.blk kX3_image_11 rfl trivial ?_
  rw [he1]
  refine Ev.iret tX3_image_15 rfl rfl ?_
  refine ⟨rfl, SmF.tr ⟨fun t i k h => oV.1 t i k (by omega), fun t i h => oV.2 t i (by omega)⟩, ?_⟩
  obtain ⟨-, b2, b3, b4, b5, b6, b7⟩ := hC
  refine ⟨⟨g, hM1⟩, (oV.1 11 0 18 (by decide)).trans mgf_pf, fun _ => hK1, ⟨(oV.1 11 0 14 (by decide)).trans ((mgf_pfn (by decide)).trans b4.1), ?_, b4.2.2⟩, (oV.1 11 0 29 (by decide)).trans ((mgf_pfn (by decide)).trans b5), ?_, ?_⟩
  · rw [oV.2 19 0 (by decide)]; exact b4.2.1
  · rw [oV.2 24 0 (by decide)]; exact b6
  · rw [oV.2 12 0 (by decide)]; exact b7
theorem em_on (hC : MdlAt w st) (hS : SI st) (hd : 5 ≤ d) : Cl l d MX3_on [mR 11 0] w (fun r u => MP w (P_on st) r u) := by
  show Ev l d MX3_on 0 [some (mR 11 0)] [] w _
  obtain ⟨g, hM⟩ := hC.1
  have hb := hC.2.1
  unfold P_on
  by_cases h : sB st = true
  · rw [if_pos h]
    rw [h] at hb
    have hK := hC.2.2.1 h
    have hKI := (hS.2.1 h).1
    have h99 : da (sK st) = 99 := (hS.2.1 h).2.2.2
    have hN99 : da (sN st) = 99 := hS.1.2.2.2
    refine Ev.blk kX3_on_0 rfl trivial ?_
    rw [hb]
    refine Ev.br tX3_on_4 rfl (fun c4 => ?_) (fun c4 => ?_)
    · refine Ev.blk kX3_on_14 rfl trivial ?_
      refine Ev.cV (d1 := d - 1) (em_back (b := 0) (g := g) (a := 99) hK hKI (by omega) (by decide) hM.g (by rw [hM.a]; show enM (da (sN st)) = _; rw [hN99])) tX3_on_17 qX3_119 rfl rfl (by decide) ⟨rfl, rfl, rfl⟩ (by omega) ?_
      rintro _ _ ⟨rfl, oB, hB⟩
      have e9 : ua (ug (sK st) g) 99 = ug (sK st) g := Yd_ext rfl rfl rfl rfl rfl rfl rfl rfl rfl rfl h99.symm
      rw [e9] at hB
      have he1 := hB.e
      refine Ev.blk kX3_on_20 rfl trivial ?_
      rw [he1]
      refine Ev.iret tX3_on_24 rfl rfl ?_
      exact ⟨rfl, (OffK.ofB oB).F.lo, hC.nowF hS (OffK.ofB oB).F (D := sK st) (g := g) hB⟩
    · exact absurd (show ¬ bI true = nI 0 by decide) c4
  · rw [if_neg h]
    rw [bl_f h] at hb
    refine Ev.blk kX3_on_0 rfl trivial ?_
    rw [hb]
    refine Ev.br tX3_on_4 rfl (fun c4 => ?_) (fun c4 => ?_)
    · exact absurd rfl c4
    · refine Ev.blk kX3_on_7 rfl trivial ?_
      refine Ev.cV (d1 := d - 1) (em_no hC rfl3) tX3_on_10 qX3_70 rfl rfl (by decide) ⟨rfl, rfl, rfl⟩ (by omega) ?_
      rintro _ _ ⟨rfl, hS2, hC2⟩
      refine Ev.iret tX3_on_13 rfl rfl ?_
      exact ⟨rfl, hS2, hC2⟩
theorem em_count (hC : MdlAt w st) (hS : SI st) (hd : 5 ≤ d) (x : Int32) : Cl l d MX3_count [mR 11 0, mI x] w (fun r u => MP w (P_count st x) r u) := by
  show Ev l d MX3_count 0 [some (mR 11 0), some (mI x), none, none] [] w _
  obtain ⟨g, hM⟩ := hC.1
  have hI : YI (ug (sN st) g) := hS.1.1
  have h8 : dn (sN st) ≤ 8 := hI.1
  have hm := hC.2.2.2.2.1
  have hL := hC.2.2.2.1.1
  unfold P_count
  have hin : decide (nI 11 ≤ x ∧ x ≤ nI 16) = decide (nI 10 < x ∧ x ≤ nI 16) := by
    apply decide_eq_decide.mpr
    have h1 : (nI 11 ≤ x) ↔ (nI 10 < x) := by
      rw [Int32.le_iff_toInt_le, Int32.lt_iff_toInt_lt, nI_toInt (by decide), nI_toInt (by decide)]
      omega
    rw [h1]
  by_cases hx : nI 10 < x ∧ x ≤ nI 16
  · rw [if_pos hx]
    rw [decide_eq_true hx] at hin
    obtain ⟨k, h1, h2, rfl⟩ : ∃ k, 10 < k ∧ k ≤ 16 ∧ x = nI k := by
      rcases pk_ix x (n := 17) (by decide) with z | z | ⟨j, z1, z2⟩
      · exact absurd hx.1 (Int32.not_lt.mpr (Int32.le_of_lt (Int32.lt_of_lt_of_le z (by decide))))
      · exact absurd hx.2 (Int32.not_le.mpr (Int32.lt_of_lt_of_le (by decide) z))
      · subst z2
        rw [nI_ltI (by omega) (by omega), nI_leI (by omega) (by omega)] at hx
        exact ⟨j, hx.1, hx.2, rfl⟩
    rw [ixC (by omega)]
    have h7 := hC.2.2.2.2.2.2
    have e1 : nI k - nI 10 = nI (k - 10) := pk_sub (by omega)
    refine Ev.blk kX3_count_0 rfl trivial ?_
    refine Ev.cS (d1 := d - 1) (em_isInB hin) tX3_count_5 qX3_81 rfl ⟨rfl, rfl, rfl⟩ (by omega) ?_
    rintro _ _ ⟨rfl, rfl⟩
    refine Ev.br tX3_count_8 rfl (fun c8 => ?_) (fun c8 => ?_)
    · exact absurd c8 (by decide)
    · refine Ev.blk kX3_count_11 rfl ⟨trivial, by rw [e1]; exact vinN (show k - 10 < 7 by omega) (by decide)⟩ ?_
      rw [e1, ixN (by omega), h7 (k - 10) (by omega)]
      refine Ev.iret tX3_count_20 rfl rfl ?_
      exact ⟨rfl, Sm.rf, hC⟩
  · rw [if_neg hx]
    rw [decide_eq_false hx] at hin
    have lt5 : ∀ y : Int32, Ev l d MX3_count 111 [some (mR 11 0), some (mI y), some (mI (nI 0)), some (mI (nI 0))] [] w (fun r u => MP w (nI (sumN (dt (sN st)) (dn (sN st))), st) r u) := by
      intro y
      refine Ev.for (fun j L u => u = w ∧ L = [some (mR 11 0), some (mI y), some (mI (nI (sumN (dt (sN st)) j))), some (mI (nI j))]) (dn (sN st)) ?_ ?_ 0 (Nat.zero_le _) ⟨rfl, rfl⟩
      · rintro L u ⟨rfl, rfl⟩
        have hn : mgf u 11 0 7 = nI (dn (sN st)) := hM.n
        refine Ev.blk kX3_count_111 rfl trivial ?_
        simp only [hn]
        refine Ev.br tX3_count_116 rfl (fun c116 => ?_) (fun c116 => ?_)
        · refine Ev.blk kX3_count_134 rfl trivial ?_
          refine Ev.iret tX3_count_135 rfl rfl ?_
          exact ⟨rfl, Sm.rf, hC⟩
        · exact absurd (nI_le (Nat.le_refl _) (by omega)) c116
      · rintro j L u hj ⟨rfl, rfl⟩ k
        have hj8 : j < 8 := by omega
        have hn : mgf u 11 0 7 = nI (dn (sN st)) := hM.n
        have ht : mga u 17 0 j = nI (dt (sN st) j) := hM.t hj8
        refine Ev.blk kX3_count_111 rfl trivial ?_
        simp only [hn]
        refine Ev.br tX3_count_116 rfl (fun c116 => ?_) (fun c116 => ?_)
        · exact absurd c116 (nI_ge hj (by omega))
        · refine Ev.blk kX3_count_119 rfl ⟨trivial, vinN hj8 (by decide)⟩ ?_
          simp only [ix8 hj8, ht, nI_add]
          refine Ev.jmp tX3_count_131 ?_
          exact k _ _ ⟨rfl, rfl⟩
    have lt6 : ∀ y : Int32, Ev l d MX3_count 138 [some (mR 11 0), some (mI y), some (mI (nI 0)), some (mI (nI 0))] [] w (fun r u => MP w (nI (sumN (dr (sN st)) 64), st) r u) := by
      intro y
      refine Ev.for (fun j L u => u = w ∧ L = [some (mR 11 0), some (mI y), some (mI (nI (sumN (dr (sN st)) j))), some (mI (nI j))]) 64 ?_ ?_ 0 (Nat.zero_le _) ⟨rfl, rfl⟩
      · rintro L u ⟨rfl, rfl⟩
        refine Ev.blk kX3_count_138 rfl trivial ?_
        refine Ev.br tX3_count_144 rfl (fun c144 => ?_) (fun c144 => ?_)
        · refine Ev.blk kX3_count_162 rfl trivial ?_
          refine Ev.iret tX3_count_163 rfl rfl ?_
          exact ⟨rfl, Sm.rf, hC⟩
        · exact absurd (nI_le (Nat.le_refl _) (by decide)) c144
      · rintro j L u hj ⟨rfl, rfl⟩ k
        have ht : mga u 18 0 j = nI (dr (sN st) j) := hM.r hj
        refine Ev.blk kX3_count_138 rfl trivial ?_
        refine Ev.br tX3_count_144 rfl (fun c144 => ?_) (fun c144 => ?_)
        · exact absurd c144 (nI_ge hj (by decide))
        · refine Ev.blk kX3_count_147 rfl ⟨trivial, vinN hj (by decide)⟩ ?_
          simp only [ixN (show j < 1000 by omega), ht, nI_add]
          refine Ev.jmp tX3_count_159 ?_
          exact k _ _ ⟨rfl, rfl⟩
    refine Ev.blk kX3_count_0 rfl trivial ?_
    refine Ev.cS (d1 := d - 1) (em_isInB hin) tX3_count_5 qX3_81 rfl ⟨rfl, rfl, rfl⟩ (by omega) ?_
    rintro _ _ ⟨rfl, rfl⟩
    refine Ev.br tX3_count_8 rfl (fun c8 => ?_) (fun c8 => ?_)
    · refine Ev.blk kX3_count_21 rfl trivial ?_
      by_cases s24_0 : x = nI 0
      · subst s24_0
        refine Ev.sw (tgt := 76) tX3_count_24 (off := 52) (by decide) (by decide) ?_
        refine Ev.blk kX3_count_76 rfl trivial ?_
        rw [hM.n]
        refine Ev.iret tX3_count_80 rfl rfl ?_
        rw [if_pos rfl]; exact ⟨rfl, Sm.rf, hC⟩
      by_cases s24_1 : x = nI 1
      · subst s24_1
        refine Ev.sw (tgt := 81) tX3_count_24 (off := 57) (by decide) (by decide) ?_
        refine Ev.blk kX3_count_81 rfl trivial ?_
        rw [hM.n]
        refine Ev.cV (d1 := d - 1) (em_runnersMany hM hI (by omega)) tX3_count_86 qX3_235 rfl rfl (by decide) ⟨rfl, rfl, rfl⟩ (by omega) ?_
        rintro _ _ ⟨rfl, rfl⟩
        refine Ev.blk kX3_count_89 rfl trivial ?_
        rw [pk_sub (show plN (ug (sN st) g) ≤ dn (ug (sN st) g) from cnt_le _ _)]
        refine Ev.iret tX3_count_90 rfl rfl ?_
        rw [if_neg (by decide), if_pos rfl]; exact ⟨rfl, Sm.rf, hC⟩
      by_cases s24_2 : x = nI 2
      · subst s24_2
        refine Ev.sw (tgt := 91) tX3_count_24 (off := 67) (by decide) (by decide) ?_
        refine Ev.blk kX3_count_91 rfl trivial ?_
        refine Ev.cV (d1 := d - 1) (em_standBits hM hI) tX3_count_92 qX3_214 rfl rfl (by decide) ⟨rfl, rfl, rfl⟩ (by omega) ?_
        rintro _ _ ⟨rfl, rfl⟩
        refine Ev.cS (d1 := d - 1) (em_bits (ds (sN st))) tX3_count_95 qX3_220 rfl ⟨rfl, rfl, rfl⟩ (by omega) ?_
        rintro _ _ ⟨rfl, rfl⟩
        refine Ev.iret tX3_count_98 rfl rfl ?_
        rw [if_neg (by decide), if_neg (by decide), if_pos rfl]; exact ⟨rfl, Sm.rf, hC⟩
      by_cases s24_3 : x = nI 3
      · subst s24_3
        refine Ev.sw (tgt := 99) tX3_count_24 (off := 75) (by decide) (by decide) ?_
        refine Ev.blk kX3_count_99 rfl trivial ?_
        rw [hM.e]
        refine Ev.iret tX3_count_103 rfl rfl ?_
        rw [if_neg (by decide), if_neg (by decide), if_neg (by decide), if_pos rfl]; exact ⟨rfl, Sm.rf, hC⟩
      by_cases s24_4 : x = nI 4
      · subst s24_4
        refine Ev.sw (tgt := 104) tX3_count_24 (off := 80) (by decide) (by decide) ?_
        refine Ev.blk kX3_count_104 rfl trivial ?_
        rw [hM.l]
        refine Ev.iret tX3_count_108 rfl rfl ?_
        rw [if_neg (by decide), if_neg (by decide), if_neg (by decide), if_neg (by decide), if_pos rfl]; exact ⟨rfl, Sm.rf, hC⟩
      by_cases s24_5 : x = nI 5
      · subst s24_5
        refine Ev.sw (tgt := 109) tX3_count_24 (off := 85) (by decide) (by decide) ?_
        refine Ev.blk kX3_count_109 rfl trivial ?_
        rw [if_neg (by decide), if_neg (by decide), if_neg (by decide), if_neg (by decide), if_neg (by decide), if_pos rfl]; exact lt5 _
      by_cases s24_6 : x = nI 6
      · subst s24_6
        refine Ev.sw (tgt := 136) tX3_count_24 (off := 112) (by decide) (by decide) ?_
        refine Ev.blk kX3_count_136 rfl trivial ?_
        rw [if_neg (by decide), if_neg (by decide), if_neg (by decide), if_neg (by decide), if_neg (by decide), if_neg (by decide), if_pos rfl]; exact lt6 _
      by_cases s24_7 : x = nI 7
      · subst s24_7
        refine Ev.sw (tgt := 164) tX3_count_24 (off := 140) (by decide) (by decide) ?_
        refine Ev.blk kX3_count_164 rfl trivial ?_
        rw [hm]
        refine Ev.iret tX3_count_168 rfl rfl ?_
        rw [if_neg (by decide), if_neg (by decide), if_neg (by decide), if_neg (by decide), if_neg (by decide), if_neg (by decide), if_neg (by decide), if_pos rfl]; exact ⟨rfl, Sm.rf, hC⟩
      by_cases s24_8 : x = nI 8
      · subst s24_8
        refine Ev.sw (tgt := 169) tX3_count_24 (off := 145) (by decide) (by decide) ?_
        refine Ev.blk kX3_count_169 rfl trivial ?_
        rw [hL]
        refine Ev.iret tX3_count_173 rfl rfl ?_
        rw [if_neg (by decide), if_neg (by decide), if_neg (by decide), if_neg (by decide), if_neg (by decide), if_neg (by decide), if_neg (by decide), if_neg (by decide), if_pos rfl]; exact ⟨rfl, Sm.rf, hC⟩
      refine Ev.sw (tgt := 174) tX3_count_24 (off := 150) (mswo_out (n := 8) (by decide) (fun j hj => by rcases (show j = 0 ∨ j = 1 ∨ j = 2 ∨ j = 3 ∨ j = 4 ∨ j = 5 ∨ j = 6 ∨ j = 7 ∨ j = 8 by omega) with rfl | rfl | rfl | rfl | rfl | rfl | rfl | rfl | rfl <;> assumption)) (by decide) ?_
      refine Ev.blk kX3_count_174 rfl trivial ?_
      refine Ev.iret tX3_count_176 rfl rfl ?_
      rw [if_neg s24_0, if_neg s24_1, if_neg s24_2, if_neg s24_3, if_neg s24_4, if_neg s24_5, if_neg s24_6, if_neg s24_7, if_neg s24_8]; exact ⟨rfl, Sm.rf, hC⟩
    · exact absurd rfl c8
theorem RF6 : RF st (-6) = (-6, rfs st 6) := by
  unfold RF
  rw [show ix (-(-6 : Int32)) = 6 by decide]
theorem RF4 : RF st (-4) = (-4, rfs st 4) := by
  unfold RF
  rw [show ix (-(-4 : Int32)) = 4 by decide]
theorem em_letter (hC : MdlAt w st) (hS : SI st) (hd : 5 ≤ d) (c : Int32) : Cl l d MX3_letter [mR 11 0, mI c] w (fun r u => MP w (P_letter st c) r u) := by
  show Ev l d MX3_letter 0 [some (mR 11 0), some (mI c), none] [] w _
  have hL := hC.2.2.2.1
  have h96 := hS.2.2.1
  have bad : ∀ why, RC why → P_letter st c = RF st why → Ev l d MX3_letter 25 [some (mR 11 0), some (mI c), some (mI why)] [] w (fun r u => MP w (P_letter st c) r u) := by
    intro why hr e0
    rw [e0]
    refine Ev.blk kX3_letter_25 rfl trivial ?_
    refine Ev.br tX3_letter_26 rfl (fun c26 => ?_) (fun c26 => ?_)
    · exact absurd c26 (rc_k hr).2.2
    · refine Ev.blk kX3_letter_29 rfl trivial ?_
      refine Ev.cV (d1 := d - 1) (em_no hC hr) tX3_letter_31 qX3_70 rfl rfl (by decide) ⟨rfl, rfl, rfl⟩ (by omega) ?_
      rintro _ _ ⟨rfl, hS2, hC2⟩
      refine Ev.iret tX3_letter_34 rfl rfl ?_
      exact ⟨rfl, hS2, hC2⟩
  by_cases hw : outs c (nI 0) (nI 255) = nI 0
  · obtain ⟨k, h1, h2, rfl⟩ := outs_ok (by omega) (by omega) hw
    have n1 : ¬ nI k < nI 0 := nI_nlt (Nat.zero_le _) (by omega)
    have n2 : ¬ nI 255 < nI k := nI_nlt (by omega) (by omega)
    by_cases h3 : sL st = 96
    · have e0 : P_letter st (nI k) = RF st (-6) := by
        unfold P_letter
        rw [if_neg n1, if_pos (Or.inr h3), RF6]
      refine Ev.blk kX3_letter_0 rfl trivial ?_
      refine Ev.cS (d1 := d - 1) (em_bound (nI k) (nI 0) (nI 255)) tX3_letter_5 qX3_63 rfl ⟨rfl, rfl, rfl⟩ (by omega) ?_
      rintro _ _ ⟨rfl, rfl⟩
      rw [hw]
      refine Ev.blk kX3_letter_8 rfl trivial ?_
      refine Ev.br tX3_letter_10 rfl (fun c10 => ?_) (fun c10 => ?_)
      · exact absurd rfl c10
      · refine Ev.blk kX3_letter_13 rfl trivial ?_
        rw [hL.1]
        refine Ev.br tX3_letter_19 rfl (fun c19 => ?_) (fun c19 => ?_)
        · exact absurd (by rw [h3]) c19
        · refine Ev.blk kX3_letter_22 rfl trivial ?_
          exact bad _ (Or.inr (Or.inr (Or.inr (Or.inr rfl)))) e0
    · have hlt : sL st < 96 := by omega
      have e0 : P_letter st (nI k) = (nI (sL st + 1), vL st (va_up (sT st) (sL st) k) (sL st + 1)) := by
        unfold P_letter
        rw [if_neg n1, if_neg (by intro z; rcases z with z | z; exact n2 z; exact h3 z), ixN (by omega)]
      rw [e0]
      refine Ev.blk kX3_letter_0 rfl trivial ?_
      refine Ev.cS (d1 := d - 1) (em_bound (nI k) (nI 0) (nI 255)) tX3_letter_5 qX3_63 rfl ⟨rfl, rfl, rfl⟩ (by omega) ?_
      rintro _ _ ⟨rfl, rfl⟩
      rw [hw]
      refine Ev.blk kX3_letter_8 rfl trivial ?_
      refine Ev.br tX3_letter_10 rfl (fun c10 => ?_) (fun c10 => ?_)
      · exact absurd rfl c10
      · refine Ev.blk kX3_letter_13 rfl trivial ?_
        rw [hL.1]
        refine Ev.br tX3_letter_19 rfl (fun c19 => ?_) (fun c19 => ?_)
        · refine Ev.blk kX3_letter_25 rfl trivial ?_
          refine Ev.br tX3_letter_26 rfl (fun c26 => ?_) (fun c26 => ?_)
          · refine Ev.blk kX3_letter_35 rfl ⟨trivial, by rw [hL.1]; exact vinN hlt (by decide)⟩ ?_
            simp only [hL.1, mgf_pA, mgf_pf, nI_add]
            rw [ixN (by omega)]
            refine Ev.iret tX3_letter_59 rfl rfl ?_
            refine ⟨rfl, (Sm12 (by decide)).tr SmF, ?_⟩
            obtain ⟨⟨g, b1⟩, b2, b3, b4, b5, b6, b7⟩ := hC
            refine ⟨⟨g, (b1.of (fun t a b => mga_pAn (by omega)) (fun k hk => mgf_pfn (by omega)))⟩, (mgf_pfn (by decide)).trans b2, fun hb => (b3 hb).of (by rw [mga_pf, mga_pAn (by decide)]), ⟨mgf_pf, ?_, ?_⟩, (mgf_pfn (by decide)).trans b5, ?_, ?_⟩
            · intro j hj
              have hj : j < sL st + 1 := hj
              rw [mga_pf, mga_pA]
              show upd (mga _ 19 0) (sL st) (nI k) j = nI (va_up (sT st) (sL st) k j)
              unfold upd va_up
              by_cases e : j = sL st
              · rw [if_pos e, if_pos e]
              · rw [if_neg e, if_neg e]
                exact b4.2.1 j (by omega)
            · intro j hj
              have hj : j < sL st + 1 := hj
              show va_up (sT st) (sL st) k j < 256
              unfold va_up
              by_cases e : j = sL st
              · rw [if_pos e]; omega
              · rw [if_neg e]
                exact b4.2.2 j (by omega)
            · rw [mga_pf, mga_pAn (by decide)]; exact b6
            · rw [mga_pf, mga_pAn (by decide)]; exact b7
          · exact absurd rfl c26
        · exact absurd (by rw [nI_eq (by omega) (by omega)]; exact h3) c19
  · have e0 : P_letter st c = RF st (outs c (nI 0) (nI 255)) := by
      unfold P_letter outs
      unfold outs at hw
      by_cases z1 : c < nI 0
      · rw [if_pos z1, if_pos z1, RF4]
      · rw [if_neg z1] at hw ⊢
        rw [if_neg z1]
        by_cases z2 : nI 255 < c
        · rw [if_pos (Or.inl z2), if_pos z2, RF6]
        · rw [if_neg z2] at hw; exact absurd rfl hw
    refine Ev.blk kX3_letter_0 rfl trivial ?_
    refine Ev.cS (d1 := d - 1) (em_bound c (nI 0) (nI 255)) tX3_letter_5 qX3_63 rfl ⟨rfl, rfl, rfl⟩ (by omega) ?_
    rintro _ _ ⟨rfl, rfl⟩
    refine Ev.blk kX3_letter_8 rfl trivial ?_
    refine Ev.br tX3_letter_10 rfl (fun c10 => ?_) (fun c10 => ?_)
    · exact bad _ (outs_rcn hw) e0
    · exact absurd hw c10
end M10
