/-! ===== the reference: what goes on in mind ===== -/
/-- what a look ahead may change: the first half of what is kept stays -/
def OffK (w u : mW) : Prop := Om (fun k => k = 19 ∨ k = 20 ∨ (7 ≤ k ∧ k ≤ 9) ∨ k = 22 ∨ (23 ≤ k ∧ k ≤ 27)) (fun t => (13 ≤ t ∧ t ≤ 18) ∨ t = 23) w u ∧ ∀ j, j < 110 → mga u 23 0 j = mga w 23 0 j
section OK
variable {w u v : mW} {D : Yd}
theorem OffK.rf : OffK w w := ⟨Om.rf, fun _ _ => rfl⟩
theorem OffK.tr (h : OffK w u) (k : OffK u v) : OffK w v := ⟨h.1.tr k.1, fun j hj => (k.2 j hj).trans (h.2 j hj)⟩
theorem OffK.ofM (h : OffM w u) : OffK w u := ⟨h.sub (fun k z => by omega) (fun t z => Or.inl z), fun j _ => by rw [h.2 23 0 (by decide)]⟩
theorem OffK.ofV (h : OmV w u) (hf : ∀ j, ¬ (110 * 1 ≤ j ∧ j < 110 * 1 + 107) → mga u 23 0 j = mga w 23 0 j) : OffK w u := ⟨h.sub (fun k z => by omega) (fun t z => Or.inr z), fun j hj => hf j (by omega)⟩
theorem OffK.ofB (h : OmB w u) : OffK w u := ⟨h.sub (fun k z => by omega) (fun t z => Or.inl z), fun j _ => by rw [h.2 23 0 (by decide)]⟩
theorem OffK.pf {k : Nat} {x : Int32} (hk : k = 19 ∨ k = 20 ∨ (7 ≤ k ∧ k ≤ 9) ∨ k = 22 ∨ (23 ≤ k ∧ k ≤ 27)) : OffK w (mpf w 11 0 k x) := ⟨Om.pf hk, fun _ _ => rfl⟩
theorem OffK.pA {t : Nat} {f : Nat → Int32} (ht : 13 ≤ t ∧ t ≤ 18) : OffK w (mpA w t 0 f) := ⟨Om.pA (Or.inl ht), fun j _ => by rw [mga_pAn (by omega)]⟩
theorem MYd.pz (h : MYd w D) {k : Nat} {x : Int32} (hk : ¬ ((7 ≤ k ∧ k ≤ 9) ∨ k = 21 ∨ k = 22)) : MYd (mpf w 11 0 k x) D := h.of (fun _ _ _ => rfl) (fun k' hk' => mgf_pfn (fun z => hk (by rw [← z.2.2]; exact hk')))
theorem KeptAt.of {b : Nat} (h : KeptAt w b D) (he : mga u 23 0 = mga w 23 0) : KeptAt u b D := by
  unfold KeptAt
  rw [he]
  exact h
end OK
section GD
variable {D : Yd} {g : Nat}
theorem g_ds (k : Nat) : ds (passN (ug D g) k) = ds (passN D k) := by
  obtain ⟨g', e⟩ := passN_g (D := D) (g := g) k
  rw [e]
  rfl
theorem g_ovr (k : Nat) : ovr (passN (ug D g) k) = ovr (passN D k) := by
  obtain ⟨g', e⟩ := passN_g (D := D) (g := g) k
  rw [e]
  rfl
theorem tov_g : tov (ug D g) = tov D := fst1_congr (fun j _ => g_ovr j)
theorem ots_g (i n : Nat) : ots (ug D g) i n = ots D i n := sumN_congr (fun j _ => by rw [g_ds])
theorem unt_g (st : St) : unt st (ug D g) = unt st D := fst1_congr (fun j _ => by rw [g_ds])
theorem wat_g (i : Nat) : ∀ n, wat (ug D g) i n = wat D i n
  | 0 => rfl
  | n + 1 => by
    obtain ⟨g', e⟩ := passN_g (D := D) (g := g) (n + 1)
    show (wat (ug D g) i n && decide (cap (passN (ug D g) (n + 1)) (dc (passN (ug D g) (n + 1)) i) ≤ 1)) = (wat D i n && decide (cap (passN D (n + 1)) (dc (passN D (n + 1)) i) ≤ 1))
    rw [wat_g i n, e, cap_g]
    rfl
theorem chf_g (i j s : Nat) : chf (ug D g) i j s = chf D i j s := by
  obtain ⟨g', e⟩ := passN_g (D := D) (g := g) s
  unfold chf
  rw [e, show exch (ug (passN D s) g') i j = ug (exch (passN D s) i j) g' from rfl, g_ds]
theorem plN_p (k : Nat) : plN (passN D k) = plN D := by
  have h := passN_n (D := D) k
  unfold plN isC
  rw [h.1, h.2.1]
theorem ovr_p {k : Nat} (hp : hasP D = true) : ovr (passN D k) = !decide (cnt (ds (passN D k)) 8 < plN D) := by
  have e : hasP (passN D k) = hasP D := by unfold hasP; rw [plN_p]
  unfold ovr
  rw [e, hp, plN_p]
  rfl
end GD
section M5
variable {l : Launch} {d : Nat} {w : mW} {D : Yd} {g : Nat}
def avI (D : Yd) (n j : Nat) : Int32 := if n = 0 then nI (bts (ds D) 8) else alwI D j
theorem em_goesInMind (hM : MYd w (ug D g)) (hI : YI D) (h0 : dg D = 0) (hd : 8 ≤ d) {n i : Nat} (hn : n ≤ 60) (hi8 : i < 8) (he : de D + 60 < 100000) : Cl l d MX3_goesInMind [mR 11 0, mI (nI n), mI (nI i)] w (fun r u => r = none ∧ OffK w u ∧ MYd u (ug D (dg (passN D n))) ∧ mgf u 11 0 23 = nI (sto D n) ∧ mgf u 11 0 24 = avI D n n ∧ mgf u 11 0 25 = nI (bts (ds (passN D n)) 8) ∧ mgf u 11 0 26 = nI (dg (passN D n)) ∧ (i < dn D → mgf u 11 0 27 = nI (dc (passN D n) i))) := by
  show Ev l d MX3_goesInMind 0 [some (mR 11 0), some (mI (nI n)), some (mI (nI i)), none] [] w _
  have h8 := hI.1
  have hI' : YI (ug D g) := hI
  have hD0 : ug (ug D g) 0 = D := Yd_ext rfl rfl rfl rfl rfl rfl rfl rfl rfl h0.symm rfl
  have loop : ∀ u0, OffK w u0 → MYd u0 D → KeptAt u0 (110 * 1) (ug D g) → mgf u0 11 0 23 = nI 0 → mgf u0 11 0 24 = avI D n 0 → Ev l d MX3_goesInMind 34 [some (mR 11 0), some (mI (nI n)), some (mI (nI i)), some (mI (nI 0))] [] u0 (fun r u => r = none ∧ OffK w u ∧ MYd u (ug D (dg (passN D n))) ∧ mgf u 11 0 23 = nI (sto D n) ∧ mgf u 11 0 24 = avI D n n ∧ mgf u 11 0 25 = nI (bts (ds (passN D n)) 8) ∧ mgf u 11 0 26 = nI (dg (passN D n)) ∧ (i < dn D → mgf u 11 0 27 = nI (dc (passN D n) i))) := by
    intro u0 ho0 hM0 hK0 h230 h240
    refine Ev.for (fun j L u => OffK w u ∧ MYd u (passN D j) ∧ KeptAt u (110 * 1) (ug D g) ∧ mgf u 11 0 23 = nI (sto D j) ∧ mgf u 11 0 24 = avI D n j ∧ L = [some (mR 11 0), some (mI (nI n)), some (mI (nI i)), some (mI (nI j))]) n ?_ ?_ 0 (Nat.zero_le _) ⟨ho0, hM0, hK0, h230, h240, rfl⟩
    · rintro L u ⟨ho, hE, hK, h23, h24, rfl⟩
      have hIn := passN_YI hI n (by omega)
      have hpn := passN_n (D := D) n
      refine Ev.blk kX3_goesInMind_34 rfl trivial ?_
      refine Ev.br tX3_goesInMind_36 rfl (fun c36 => ?_) (fun c36 => ?_)
      · refine Ev.blk kX3_goesInMind_78 rfl trivial ?_
        refine Ev.cV (d1 := d - 1) (em_standBits hE hIn) tX3_goesInMind_80 qX3_214 rfl rfl (by decide) ⟨rfl, rfl, rfl⟩ (by omega) ?_
        rintro _ _ ⟨rfl, rfl⟩
        refine Ev.blk kX3_goesInMind_83 rfl ⟨trivial, vinN hi8 (by decide)⟩ ?_
        rw [mgf_pfn (by decide), hE.g, ix8 hi8]
        refine Ev.cV (d1 := d - 1) (em_back (b := 1) (E := ug D g) (g := dg (passN D n)) (a := da D) (hK.of rfl) hI' (by omega) (by decide) ((mgf_pfn (by decide)).trans ((mgf_pfn (by decide)).trans ((mgf_pfn (by decide)).trans hE.g))) ((mgf_pfn (by decide)).trans ((mgf_pfn (by decide)).trans ((mgf_pfn (by decide)).trans (by rw [hE.a, hpn.2.2.2.2.1]))))) tX3_goesInMind_107 qX3_119 rfl rfl (by decide) ⟨rfl, rfl, rfl⟩ (by omega) ?_
        rintro _ _ ⟨rfl, oB, hB⟩
        refine Ev.vret tX3_goesInMind_110 rfl ?_
        refine ⟨rfl, ((((ho.tr (OffK.pf (by decide))).tr (OffK.pf (by decide))).tr (OffK.pf (by decide))).tr (OffK.ofB oB)), hB, ?_, ?_, ?_, ?_, ?_⟩
        · exact (oB.1 11 0 23 (by decide)).trans ((mgf_pfn (by decide)).trans ((mgf_pfn (by decide)).trans ((mgf_pfn (by decide)).trans h23)))
        · exact (oB.1 11 0 24 (by decide)).trans ((mgf_pfn (by decide)).trans ((mgf_pfn (by decide)).trans ((mgf_pfn (by decide)).trans h24)))
        · exact (oB.1 11 0 25 (by decide)).trans ((mgf_pfn (by decide)).trans ((mgf_pfn (by decide)).trans mgf_pf))
        · exact (oB.1 11 0 26 (by decide)).trans ((mgf_pfn (by decide)).trans mgf_pf)
        · intro hin
          refine (oB.1 11 0 27 (by decide)).trans (mgf_pf.trans ?_)
          exact hE.c (j := i) (by rw [hpn.1]; exact hin)
      · exact absurd (nI_le (Nat.le_refl _) (by omega)) c36
    · rintro j L u hj ⟨ho, hE, hK, h23, h24, rfl⟩ k
      have hIj := passN_YI hI j (by omega)
      have hIj1 := passN_YI hI (j + 1) (by omega)
      have hav : avI D n j &&& nI (bts (ds (pass (passN D j))) 8) = avI D n (j + 1) := by
        unfold avI
        rw [if_neg (by omega), if_neg (by omega)]
        exact alwI_s
      refine Ev.blk kX3_goesInMind_34 rfl trivial ?_
      refine Ev.br tX3_goesInMind_36 rfl (fun c36 => ?_) (fun c36 => ?_)
      · exact absurd c36 (nI_ge hj (by omega))
      · refine Ev.blk kX3_goesInMind_39 rfl trivial ?_
        refine Ev.cV (d1 := d - 1) (em_goes hE hIj (by omega)) tX3_goesInMind_40 qX3_208 rfl rfl (by decide) ⟨rfl, rfl, rfl⟩ (by omega) ?_
        rintro _ _ ⟨rfl, oM, hM2⟩
        have g23 := (oM.1 11 0 23 (by decide)).trans h23
        have g24 := (oM.1 11 0 24 (by decide)).trans h24
        refine Ev.blk kX3_goesInMind_43 rfl trivial ?_
        rw [g23]
        refine Ev.cV (d1 := d - 1) (em_standBits hM2 hIj1) tX3_goesInMind_49 qX3_214 rfl rfl (by decide) ⟨rfl, rfl, rfl⟩ (by omega) ?_
        rintro _ _ ⟨rfl, rfl⟩
        refine Ev.cS (d1 := d - 1) (em_bits (ds (pass (passN D j)))) tX3_goesInMind_52 qX3_220 rfl ⟨rfl, rfl, rfl⟩ (by omega) ?_
        rintro _ _ ⟨rfl, rfl⟩
        refine Ev.blk kX3_goesInMind_55 rfl trivial ?_
        rw [mgf_pfn (by decide), g24, nI_add]
        refine Ev.cV (d1 := d - 1) (em_standBits (hM2.pz (by decide)) hIj1) tX3_goesInMind_65 qX3_214 rfl rfl (by decide) ⟨rfl, rfl, rfl⟩ (by omega) ?_
        rintro _ _ ⟨rfl, rfl⟩
        refine Ev.blk kX3_goesInMind_68 rfl trivial ?_
        rw [hav, nI_add]
        refine Ev.jmp tX3_goesInMind_75 ?_
        exact k _ _ ⟨((ho.tr (OffK.ofM oM)).tr (OffK.pf (by decide))).tr (OffK.pf (by decide)), (hM2.pz (by decide)).pz (by decide), (hK.of (oM.2 23 0 (by decide))).of rfl, (mgf_pfn (by decide)).trans mgf_pf, mgf_pf, rfl⟩
  by_cases hz : n = 0
  · subst hz
    refine Ev.blk kX3_goesInMind_0 rfl trivial ?_
    refine Ev.cV (d1 := d - 1) (em_keep (b := 1) hM hI' (by omega) (by decide)) tX3_goesInMind_3 qX3_119 rfl rfl (by decide) ⟨rfl, rfl, rfl⟩ (by omega) ?_
    rintro _ _ ⟨rfl, oV, hM1, hK1, hf1⟩
    refine Ev.blk kX3_goesInMind_6 rfl trivial ?_
    refine Ev.br tX3_goesInMind_13 rfl (fun c13 => ?_) (fun c13 => ?_)
    · exact absurd rfl c13
    · refine Ev.blk kX3_goesInMind_16 rfl trivial ?_
      refine Ev.cV (d1 := d - 1) (em_standBits (hM1.pz (by decide)) hI') tX3_goesInMind_17 qX3_214 rfl rfl (by decide) ⟨rfl, rfl, rfl⟩ (by omega) ?_
      rintro _ _ ⟨rfl, rfl⟩
      refine Ev.jmp tX3_goesInMind_20 ?_
      refine Ev.blk kX3_goesInMind_24 rfl trivial ?_
      refine loop _ ((((OffK.ofV oV hf1).tr (OffK.pf (by decide))).tr (OffK.pf (by decide))).tr (OffK.pf (by decide))) ?_ (hK1.of rfl) ((mgf_pfn (by decide)).trans ((mgf_pfn (by decide)).trans mgf_pf)) ((mgf_pfn (by decide)).trans (mgf_pf.trans rfl))
      have h9 := ((hM1.pz (k := 23) (x := nI 0) (by decide)).pz (k := 24) (x := nI (bts (ds (ug D g)) 8)) (by decide)).pG (x := 0)
      rw [hD0] at h9
      exact h9
  · skip
    refine Ev.blk kX3_goesInMind_0 rfl trivial ?_
    refine Ev.cV (d1 := d - 1) (em_keep (b := 1) hM hI' (by omega) (by decide)) tX3_goesInMind_3 qX3_119 rfl rfl (by decide) ⟨rfl, rfl, rfl⟩ (by omega) ?_
    rintro _ _ ⟨rfl, oV, hM1, hK1, hf1⟩
    refine Ev.blk kX3_goesInMind_6 rfl trivial ?_
    refine Ev.br tX3_goesInMind_13 rfl (fun c13 => ?_) (fun c13 => ?_)
    · refine Ev.blk kX3_goesInMind_23 rfl trivial ?_
      refine Ev.blk kX3_goesInMind_24 rfl trivial ?_
      refine loop _ ((((OffK.ofV oV hf1).tr (OffK.pf (by decide))).tr (OffK.pf (by decide))).tr (OffK.pf (by decide))) ?_ (hK1.of rfl) ((mgf_pfn (by decide)).trans ((mgf_pfn (by decide)).trans mgf_pf)) ((mgf_pfn (by decide)).trans (mgf_pf.trans (by unfold avI; rw [if_neg hz]; rfl)))
      have h9 := ((hM1.pz (k := 23) (x := nI 0) (by decide)).pz (k := 24) (x := -1) (by decide)).pG (x := 0)
      rw [hD0] at h9
      exact h9
    · exact absurd (by rw [nI_eq (by omega) (by omega)]; exact hz) c13
theorem em_overIn (hM : MYd w D) (hI : YI D) (hp : hasP D = true) (hd : 8 ≤ d) (he : de D + 61 < 100000) : Cl l d MX3_overIn [mR 11 0] w (fun r u => r = some (mI (oM9 (tov D))) ∧ OffK w u ∧ ∃ g', MYd u (ug D g')) := by
  show Ev l d MX3_overIn 0 [some (mR 11 0), none] [] w _
  have h8 := hI.1
  have ext : ∀ u j, j ≤ 61 → OffK w u → MYd u (passN D j) → KeptAt u (110 * 1) D → tov D = (if j ≤ 60 then some j else none) → Ev l d MX3_overIn 38 [some (mR 11 0), some (mI (nI j))] [] u (fun r u => r = some (mI (oM9 (tov D))) ∧ OffK w u ∧ ∃ g', MYd u (ug D g')) := by
    intro u j hj ho hE hK ht
    have hpn := passN_n (D := D) j
    rw [ht]
    refine Ev.blk kX3_overIn_38 rfl trivial ?_
    refine Ev.cV (d1 := d - 1) (em_back (b := 1) (g := dg (passN D j)) (a := da D) hK hI (by omega) (by decide) hE.g (by rw [hE.a, hpn.2.2.2.2.1])) tX3_overIn_41 qX3_119 rfl rfl (by decide) ⟨rfl, rfl, rfl⟩ (by omega) ?_
    rintro _ _ ⟨rfl, oB, hB⟩
    refine Ev.blk kX3_overIn_44 rfl trivial ?_
    refine Ev.br tX3_overIn_47 rfl (fun c47 => ?_) (fun c47 => ?_)
    · rw [nI_leI (by omega) (by omega)] at c47
      refine Ev.blk kX3_overIn_55 rfl trivial ?_
      refine Ev.iret tX3_overIn_56 rfl rfl ?_
      refine ⟨?_, ho.tr (OffK.ofB oB), _, hB⟩
      first
        | (rw [if_pos c47]; rfl)
        | (rw [if_neg c47]; rfl)
    · rw [nI_leI (by omega) (by omega)] at c47
      refine Ev.blk kX3_overIn_50 rfl trivial ?_
      refine Ev.jmp tX3_overIn_52 ?_
      refine Ev.iret tX3_overIn_56 rfl rfl ?_
      refine ⟨?_, ho.tr (OffK.ofB oB), _, hB⟩
      first
        | (rw [if_pos c47]; rfl)
        | (rw [if_neg c47]; rfl)
  have loop : ∀ u0, OffK w u0 → MYd u0 D → KeptAt u0 (110 * 1) D → Ev l d MX3_overIn 8 [some (mR 11 0), some (mI (nI 0))] [] u0 (fun r u => r = some (mI (oM9 (tov D))) ∧ OffK w u ∧ ∃ g', MYd u (ug D g')) := by
    intro u0 ho0 hM0 hK0
    have hpl : plN D ≤ 8 := Nat.le_trans (cnt_le _ _) h8
    refine Ev.for (fun j L u => OffK w u ∧ MYd u (passN D j) ∧ KeptAt u (110 * 1) D ∧ fst1 (fun k => ovr (passN D k)) j = none ∧ L = [some (mR 11 0), some (mI (nI j))]) 61 ?_ ?_ 0 (Nat.zero_le _) ⟨ho0, hM0, hK0, rfl, rfl⟩
    · rintro L u ⟨ho, hE, hK, hf, rfl⟩
      have hIj := passN_YI hI 61 (by omega)
      have ht : tov D = (if 61 ≤ 60 then some 61 else none) := by rw [if_neg (by decide)]; exact hf
      refine Ev.blk kX3_overIn_8 rfl trivial ?_
      refine Ev.cV (d1 := d - 1) (em_standBits hE hIj) tX3_overIn_9 qX3_214 rfl rfl (by decide) ⟨rfl, rfl, rfl⟩ (by omega) ?_
      rintro _ _ ⟨rfl, rfl⟩
      refine Ev.cS (d1 := d - 1) (em_bits (ds (passN D 61))) tX3_overIn_12 qX3_220 rfl ⟨rfl, rfl, rfl⟩ (by omega) ?_
      rintro _ _ ⟨rfl, rfl⟩
      refine Ev.blk kX3_overIn_15 rfl trivial ?_
      refine Ev.cV (d1 := d - 1) (em_runnersMany hE hIj (by omega)) tX3_overIn_16 qX3_235 rfl rfl (by decide) ⟨rfl, rfl, rfl⟩ (by omega) ?_
      rintro _ _ ⟨rfl, rfl⟩
      refine Ev.br tX3_overIn_19 rfl (fun c19 => ?_) (fun c19 => ?_)
      · exact ext _ 61 (by omega) ho hE hK ht
      · refine Ev.blk kX3_overIn_22 rfl trivial ?_
        refine Ev.br tX3_overIn_25 rfl (fun c25 => ?_) (fun c25 => ?_)
        · exact ext _ 61 (by omega) ho hE hK ht
        · exact absurd (nI_lt (by decide) (by decide)) c25
    · rintro j L u hj ⟨ho, hE, hK, hf, rfl⟩ k
      have hIj := passN_YI hI j (by omega)
      have hcl := cnt_le (ds (passN D j)) 8
      have hov := ovr_p (D := D) (k := j) hp
      refine Ev.blk kX3_overIn_8 rfl trivial ?_
      refine Ev.cV (d1 := d - 1) (em_standBits hE hIj) tX3_overIn_9 qX3_214 rfl rfl (by decide) ⟨rfl, rfl, rfl⟩ (by omega) ?_
      rintro _ _ ⟨rfl, rfl⟩
      refine Ev.cS (d1 := d - 1) (em_bits (ds (passN D j))) tX3_overIn_12 qX3_220 rfl ⟨rfl, rfl, rfl⟩ (by omega) ?_
      rintro _ _ ⟨rfl, rfl⟩
      refine Ev.blk kX3_overIn_15 rfl trivial ?_
      refine Ev.cV (d1 := d - 1) (em_runnersMany hE hIj (by omega)) tX3_overIn_16 qX3_235 rfl rfl (by decide) ⟨rfl, rfl, rfl⟩ (by omega) ?_
      rintro _ _ ⟨rfl, rfl⟩
      rw [plN_p]
      refine Ev.br tX3_overIn_19 rfl (fun c19 => ?_) (fun c19 => ?_)
      · rw [nI_leI (by omega) (by omega)] at c19
        rw [decide_eq_false (show ¬ cnt (ds (passN D j)) 8 < plN D by omega)] at hov
        exact ext _ j (by omega) ho hE hK (by rw [if_pos (by omega)]; exact fst1_some hf hov hj)
      · rw [nI_leI (by omega) (by omega)] at c19
        rw [decide_eq_true (show cnt (ds (passN D j)) 8 < plN D by omega)] at hov
        refine Ev.blk kX3_overIn_22 rfl trivial ?_
        refine Ev.br tX3_overIn_25 rfl (fun c25 => ?_) (fun c25 => ?_)
        · exact absurd c25 (nI_nlt (by omega) (by omega))
        · refine Ev.blk kX3_overIn_28 rfl trivial ?_
          refine Ev.cV (d1 := d - 1) (em_goes hE hIj (by omega)) tX3_overIn_29 qX3_208 rfl rfl (by decide) ⟨rfl, rfl, rfl⟩ (by omega) ?_
          rintro _ _ ⟨rfl, oM, hM2⟩
          refine Ev.blk kX3_overIn_32 rfl trivial ?_
          refine Ev.jmp tX3_overIn_35 ?_
          exact k _ _ ⟨ho.tr (OffK.ofM oM), hM2, hK.of (oM.2 23 0 (by decide)), fst1_f hf hov, by rw [nI_add]⟩
  refine Ev.blk kX3_overIn_0 rfl trivial ?_
  refine Ev.cV (d1 := d - 1) (em_keep (b := 1) hM hI (by omega) (by decide)) tX3_overIn_3 qX3_119 rfl rfl (by decide) ⟨rfl, rfl, rfl⟩ (by omega) ?_
  rintro _ _ ⟨rfl, oV, hM1, hK1, hf1⟩
  refine Ev.blk kX3_overIn_6 rfl trivial ?_
  exact loop _ (OffK.ofV oV hf1) hM1 hK1
theorem em_othersStand (hM : MYd w D) (hI : YI D) (hd : 8 ≤ d) (he : de D + 20 < 100000) {i : Nat} (hi : i < dn D) : Cl l d MX3_othersStand [mR 11 0, mI (nI i)] w (fun r u => r = some (mI (nI (ots D i 20))) ∧ OffK w u ∧ ∃ g', MYd u (ug D g')) := by
  show Ev l d MX3_othersStand 0 [some (mR 11 0), some (mI (nI i)), none, none] [] w _
  have h8 := hI.1
  have hi8 : i < 8 := by omega
  have loop : ∀ u0, OffK w u0 → MYd u0 D → KeptAt u0 (110 * 1) D → Ev l d MX3_othersStand 10 [some (mR 11 0), some (mI (nI i)), some (mI (nI 0)), some (mI (nI 0))] [] u0 (fun r u => r = some (mI (nI (ots D i 20))) ∧ OffK w u ∧ ∃ g', MYd u (ug D g')) := by
    intro u0 ho0 hM0 hK0
    refine Ev.for (fun j L u => OffK w u ∧ MYd u (passN D j) ∧ KeptAt u (110 * 1) D ∧ L = [some (mR 11 0), some (mI (nI i)), some (mI (nI (ots D i j))), some (mI (nI j))]) 20 ?_ ?_ 0 (Nat.zero_le _) ⟨ho0, hM0, hK0, rfl⟩
    · rintro L u ⟨ho, hE, hK, rfl⟩
      obtain ⟨X, hX⟩ : ∃ X, X = passN D 20 := ⟨_, rfl⟩
      have hpX : da X = da D := by rw [hX]; exact (passN_n 20).2.2.2.2.1
      rw [← hX] at hE
      refine Ev.blk kX3_othersStand_10 rfl trivial ?_
      refine Ev.br tX3_othersStand_13 rfl (fun c13 => ?_) (fun c13 => ?_)
      · refine Ev.blk kX3_othersStand_42 rfl trivial ?_
        refine Ev.cV (d1 := d - 1) (em_back (b := 1) (g := dg X) (a := da D) hK hI (by omega) (by decide) hE.g (by rw [hE.a, hpX])) tX3_othersStand_45 qX3_119 rfl rfl (by decide) ⟨rfl, rfl, rfl⟩ (by omega) ?_
        rintro _ _ ⟨rfl, oB, hB⟩
        refine Ev.blk kX3_othersStand_48 rfl trivial ?_
        refine Ev.iret tX3_othersStand_49 rfl rfl ?_
        exact ⟨rfl, ho.tr (OffK.ofB oB), _, hB⟩
      · exact absurd (nI_le (Nat.le_refl _) (by decide)) c13
    · rintro j L u hj ⟨ho, hE, hK, rfl⟩ k
      have hIj := passN_YI hI j (by omega)
      have hIj1 := passN_YI hI (j + 1) (by omega)
      have hc : cnt (va_up (ds (pass (passN D j))) i false) 8 = cnt (fun o => ds (passN D (j + 1)) o && !(o == i)) 8 := by
        refine cnt_congr (fun o _ => ?_)
        unfold va_up
        by_cases e : o = i
        · rw [if_pos e, e]; simp
        · rw [if_neg e, beq_false_of_ne e]
          show ds (passN D (j + 1)) o = (ds (passN D (j + 1)) o && !false)
          simp
      refine Ev.blk kX3_othersStand_10 rfl trivial ?_
      refine Ev.br tX3_othersStand_13 rfl (fun c13 => ?_) (fun c13 => ?_)
      · exact absurd c13 (nI_ge hj (by decide))
      · refine Ev.blk kX3_othersStand_16 rfl trivial ?_
        refine Ev.cV (d1 := d - 1) (em_goes hE hIj (by omega)) tX3_othersStand_17 qX3_208 rfl rfl (by decide) ⟨rfl, rfl, rfl⟩ (by omega) ?_
        rintro _ _ ⟨rfl, oM, hM2⟩
        refine Ev.blk kX3_othersStand_20 rfl trivial ?_
        refine Ev.cV (d1 := d - 1) (em_standBits hM2 hIj1) tX3_othersStand_22 qX3_214 rfl rfl (by decide) ⟨rfl, rfl, rfl⟩ (by omega) ?_
        rintro _ _ ⟨rfl, rfl⟩
        refine Ev.blk kX3_othersStand_25 rfl trivial ?_
        rw [b_clr hi8]
        refine Ev.cS (d1 := d - 1) (em_bits (va_up (ds (pass (passN D j))) i false)) tX3_othersStand_31 qX3_220 rfl ⟨rfl, rfl, rfl⟩ (by omega) ?_
        rintro _ _ ⟨rfl, rfl⟩
        refine Ev.blk kX3_othersStand_34 rfl trivial ?_
        rw [hc, nI_add, nI_add]
        refine Ev.jmp tX3_othersStand_39 ?_
        exact k _ _ ⟨ho.tr (OffK.ofM oM), hM2, hK.of (oM.2 23 0 (by decide)), rfl⟩
  refine Ev.blk kX3_othersStand_0 rfl trivial ?_
  refine Ev.cV (d1 := d - 1) (em_keep (b := 1) hM hI (by omega) (by decide)) tX3_othersStand_3 qX3_119 rfl rfl (by decide) ⟨rfl, rfl, rfl⟩ (by omega) ?_
  rintro _ _ ⟨rfl, oV, hM1, hK1, hf1⟩
  refine Ev.blk kX3_othersStand_6 rfl trivial ?_
  exact loop _ (OffK.ofV oV hf1) hM1 hK1
theorem em_changes (hM : MYd w D) (hI : YI D) {i j : Nat} (hi : i < dn D) (hj : j < dn D) (hij : i ≠ j) : Cl l d MX3_changes [mR 11 0, mI (nI i), mI (nI j)] w (fun r u => r = none ∧ OffM w u ∧ MYd u (exch D i j)) := by
  show Ev l d MX3_changes 0 [some (mR 11 0), some (mI (nI i)), some (mI (nI j)), none] [] w _
  have h8 := hI.1
  have hi8 : i < 8 := by omega
  have hj8 : j < 8 := by omega
  have h1 := ((hM.pk (i := i) (x := dk D j)).pk (i := j) (x := dk D i)).ps (i := j) (b := false) (x := nI 0) rfl
  refine Ev.blk kX3_changes_0 rfl ⟨⟨⟨⟨⟨trivial, vinN hi8 (by decide)⟩, vinN hj8 (by decide)⟩, vinN hi8 (by decide)⟩, vinN hj8 (by decide)⟩, vinN hj8 (by decide)⟩ ?_
  simp only [ix8 hi8, ix8 hj8, hM.k hi, hM.k hj]
  refine Ev.vret tX3_changes_33 rfl ?_
  exact ⟨rfl, (Om.pA (by decide)).tr ((Om.pA (by decide)).tr (Om.pA (by decide))), h1⟩
def caD (D : Yd) (i j s k : Nat) : Yd := if k ≤ s then passN D k else passN (exch (passN D s) i j) (k - s)
theorem em_standAfterChange (hM : MYd w D) (hI : YI D) (hd : 8 ≤ d) (he : de D + 40 < 100000) {i j s : Nat} (hi : i < dn D) (hj : j < dn D) (hci : isC D i = true) (hcj : isC D j = false) (hs : s ≤ 20) : Cl l d MX3_standAfterChange [mR 11 0, mI (nI i), mI (nI j), mI (nI s)] w (fun r u => r = some (mI (nI (chf D i j s))) ∧ OffK w u ∧ ∃ g', MYd u (ug D g')) := by
  show Ev l d MX3_standAfterChange 0 [some (mR 11 0), some (mI (nI i)), some (mI (nI j)), some (mI (nI s)), none] [] w _
  have h8 := hI.1
  have hij : i ≠ j := by intro e; subst e; rw [hci] at hcj; cases hcj
  have hps := passN_n (D := D) s
  have hXI : YI (exch (passN D s) i j) := (passN_YI hI s (by omega)).exch (by rw [hps.1]; exact hi) (by rw [hps.1]; exact hj) (by unfold isC; rw [hps.2.1]; exact hci) (by unfold isC; rw [hps.2.1]; exact hcj)
  have hXe : de (exch (passN D s) i j) = de D + s := hps.2.2.2.2.2
  have hcI : ∀ k, k ≤ 30 → YI (caD D i j s k) := by
    intro k hk
    unfold caD
    by_cases h : k ≤ s
    · rw [if_pos h]; exact passN_YI hI k (by omega)
    · rw [if_neg h]; exact passN_YI hXI (k - s) (by omega)
  have hca : ∀ k, da (caD D i j s k) = da D := by
    intro k
    unfold caD
    by_cases h : k ≤ s
    · rw [if_pos h]; exact (passN_n k).2.2.2.2.1
    · rw [if_neg h]; exact ((passN_n (k - s)).2.2.2.2.1).trans hps.2.2.2.2.1
  have loop : ∀ u0, OffK w u0 → MYd u0 D → KeptAt u0 (110 * 1) D → Ev l d MX3_standAfterChange 9 [some (mR 11 0), some (mI (nI i)), some (mI (nI j)), some (mI (nI s)), some (mI (nI 0))] [] u0 (fun r u => r = some (mI (nI (chf D i j s))) ∧ OffK w u ∧ ∃ g', MYd u (ug D g')) := by
    intro u0 ho0 hM0 hK0
    refine Ev.for (fun k L u => OffK w u ∧ MYd u (caD D i j s k) ∧ KeptAt u (110 * 1) D ∧ L = [some (mR 11 0), some (mI (nI i)), some (mI (nI j)), some (mI (nI s)), some (mI (nI k))]) 30 ?_ ?_ 0 (Nat.zero_le _) ⟨ho0, by unfold caD; rw [if_pos (Nat.zero_le _)]; exact hM0, hK0, rfl⟩
    · rintro L u ⟨ho, hE, hK, rfl⟩
      have hIe := hcI 30 (Nat.le_refl _)
      have hce : cnt (ds (caD D i j s 30)) 8 = chf D i j s := by
        unfold caD chf
        rw [if_neg (by omega)]
      refine Ev.blk kX3_standAfterChange_9 rfl trivial ?_
      refine Ev.br tX3_standAfterChange_13 rfl (fun c13 => ?_) (fun c13 => ?_)
      · refine Ev.blk kX3_standAfterChange_38 rfl trivial ?_
        refine Ev.cV (d1 := d - 1) (em_standBits hE hIe) tX3_standAfterChange_39 qX3_214 rfl rfl (by decide) ⟨rfl, rfl, rfl⟩ (by omega) ?_
        rintro _ _ ⟨rfl, rfl⟩
        refine Ev.cS (d1 := d - 1) (em_bits (ds (caD D i j s 30))) tX3_standAfterChange_42 qX3_220 rfl ⟨rfl, rfl, rfl⟩ (by omega) ?_
        rintro _ _ ⟨rfl, rfl⟩
        rw [hce]
        refine Ev.blk kX3_standAfterChange_45 rfl trivial ?_
        refine Ev.cV (d1 := d - 1) (em_back (b := 1) (g := dg (caD D i j s 30)) (a := da D) hK hI (by omega) (by decide) hE.g (by rw [hE.a, hca])) tX3_standAfterChange_50 qX3_119 rfl rfl (by decide) ⟨rfl, rfl, rfl⟩ (by omega) ?_
        rintro _ _ ⟨rfl, oB, hB⟩
        refine Ev.blk kX3_standAfterChange_53 rfl trivial ?_
        refine Ev.iret tX3_standAfterChange_55 rfl rfl ?_
        exact ⟨rfl, ho.tr (OffK.ofB oB), _, hB⟩
      · exact absurd (nI_le (Nat.le_refl _) (by decide)) c13
    · rintro k L u hk ⟨ho, hE, hK, rfl⟩ kk
      by_cases hks : k = s
      · subst hks
        have ek : caD D i j k k = passN D k := if_pos (Nat.le_refl _)
        have ek1 : caD D i j k (k + 1) = pass (exch (passN D k) i j) := by
          unfold caD
          rw [if_neg (by omega), show k + 1 - k = 1 by omega]
          rfl
        rw [ek] at hE
        refine Ev.blk kX3_standAfterChange_9 rfl trivial ?_
        refine Ev.br tX3_standAfterChange_13 rfl (fun c13 => ?_) (fun c13 => ?_)
        · exact absurd c13 (nI_ge hk (by decide))
        · refine Ev.blk kX3_standAfterChange_16 rfl trivial ?_
          refine Ev.br tX3_standAfterChange_19 rfl (fun c19 => ?_) (fun c19 => ?_)
          · exact absurd rfl c19
          · refine Ev.blk kX3_standAfterChange_22 rfl trivial ?_
            refine Ev.cV (d1 := d - 1) (em_changes hE (passN_YI hI k (by omega)) (show i < dn (passN D k) by rw [hps.1]; exact hi) (show j < dn (passN D k) by rw [hps.1]; exact hj) hij) tX3_standAfterChange_25 qX3_255 rfl rfl (by decide) ⟨rfl, rfl, rfl⟩ (by omega) ?_
            rintro _ _ ⟨rfl, oC, hE2⟩
            refine Ev.blk kX3_standAfterChange_28 rfl trivial ?_
            refine Ev.cV (d1 := d - 1) (em_goes hE2 hXI (by omega)) tX3_standAfterChange_29 qX3_208 rfl rfl (by decide) ⟨rfl, rfl, rfl⟩ (by omega) ?_
            rintro _ _ ⟨rfl, oM, hM2⟩
            refine Ev.blk kX3_standAfterChange_32 rfl trivial ?_
            refine Ev.jmp tX3_standAfterChange_35 ?_
            exact kk _ _ ⟨(ho.tr (OffK.ofM oC)).tr (OffK.ofM oM), by rw [ek1]; exact hM2, (hK.of (oC.2 23 0 (by decide))).of (oM.2 23 0 (by decide)), by rw [nI_add]⟩
      · have hIk := hcI k (by omega)
        have ek1 : caD D i j s (k + 1) = pass (caD D i j s k) := by
          unfold caD
          by_cases h : k + 1 ≤ s
          · rw [if_pos h, if_pos (by omega)]; rfl
          · rw [if_neg h, if_neg (by omega), show k + 1 - s = k - s + 1 by omega]; rfl
        refine Ev.blk kX3_standAfterChange_9 rfl trivial ?_
        refine Ev.br tX3_standAfterChange_13 rfl (fun c13 => ?_) (fun c13 => ?_)
        · exact absurd c13 (nI_ge hk (by decide))
        · refine Ev.blk kX3_standAfterChange_16 rfl trivial ?_
          refine Ev.br tX3_standAfterChange_19 rfl (fun c19 => ?_) (fun c19 => ?_)
          · refine Ev.blk kX3_standAfterChange_28 rfl trivial ?_
            refine Ev.cV (d1 := d - 1) (em_goes hE hIk (by omega)) tX3_standAfterChange_29 qX3_208 rfl rfl (by decide) ⟨rfl, rfl, rfl⟩ (by omega) ?_
            rintro _ _ ⟨rfl, oM, hM2⟩
            refine Ev.blk kX3_standAfterChange_32 rfl trivial ?_
            refine Ev.jmp tX3_standAfterChange_35 ?_
            exact kk _ _ ⟨ho.tr (OffK.ofM oM), by rw [ek1]; exact hM2, hK.of (oM.2 23 0 (by decide)), by rw [nI_add]⟩
          · exact absurd (by rw [nI_eq (by omega) (by omega)]; exact hks) c19
  refine Ev.blk kX3_standAfterChange_0 rfl trivial ?_
  refine Ev.cV (d1 := d - 1) (em_keep (b := 1) hM hI (by omega) (by decide)) tX3_standAfterChange_3 qX3_119 rfl rfl (by decide) ⟨rfl, rfl, rfl⟩ (by omega) ?_
  rintro _ _ ⟨rfl, oV, hM1, hK1, hf1⟩
  refine Ev.blk kX3_standAfterChange_6 rfl trivial ?_
  exact loop _ (OffK.ofV oV hf1) hM1 hK1
theorem em_isWatched (hM : MYd w D) (hI : YI D) (hd : 8 ≤ d) {n i : Nat} (hn : n ≤ 60) (he : de D + 60 < 100000) (hi : i < dn D) : Cl l d MX3_isWatched [mR 11 0, mI (nI i), mI (nI n)] w (fun r u => r = some (mI (bI (wat D i n))) ∧ OffK w u ∧ ∃ g', MYd u (ug D g')) := by
  show Ev l d MX3_isWatched 0 [some (mR 11 0), some (mI (nI i)), some (mI (nI n)), none, none] [] w _
  have h8 := hI.1
  have hi8 : i < 8 := by omega
  have hand : ∀ a b : Bool, bI a &&& bI b = bI (a && b) := by decide
  have loop : ∀ u0, OffK w u0 → MYd u0 D → KeptAt u0 (110 * 1) D → Ev l d MX3_isWatched 11 [some (mR 11 0), some (mI (nI i)), some (mI (nI n)), some (mI (nI 1)), some (mI (nI 0))] [] u0 (fun r u => r = some (mI (bI (wat D i n))) ∧ OffK w u ∧ ∃ g', MYd u (ug D g')) := by
    intro u0 ho0 hM0 hK0
    refine Ev.for (fun j L u => OffK w u ∧ MYd u (passN D j) ∧ KeptAt u (110 * 1) D ∧ L = [some (mR 11 0), some (mI (nI i)), some (mI (nI n)), some (mI (bI (wat D i j))), some (mI (nI j))]) n ?_ ?_ 0 (Nat.zero_le _) ⟨ho0, hM0, hK0, rfl⟩
    · rintro L u ⟨ho, hE, hK, rfl⟩
      have hpn := passN_n (D := D) n
      refine Ev.blk kX3_isWatched_11 rfl trivial ?_
      refine Ev.br tX3_isWatched_14 rfl (fun c14 => ?_) (fun c14 => ?_)
      · refine Ev.blk kX3_isWatched_49 rfl trivial ?_
        refine Ev.cV (d1 := d - 1) (em_back (b := 1) (g := dg (passN D n)) (a := da D) hK hI (by omega) (by decide) hE.g (by rw [hE.a, hpn.2.2.2.2.1])) tX3_isWatched_52 qX3_119 rfl rfl (by decide) ⟨rfl, rfl, rfl⟩ (by omega) ?_
        rintro _ _ ⟨rfl, oB, hB⟩
        refine Ev.blk kX3_isWatched_55 rfl trivial ?_
        refine Ev.iret tX3_isWatched_56 rfl (bI_nar _) ?_
        exact ⟨rfl, ho.tr (OffK.ofB oB), _, hB⟩
      · exact absurd (nI_le (Nat.le_refl _) (by omega)) c14
    · rintro j L u hj ⟨ho, hE, hK, rfl⟩ k
      have hIj := passN_YI hI j (by omega)
      have hIj1 := passN_YI hI (j + 1) (by omega)
      have hin : i < dn (passN D (j + 1)) := by rw [(passN_n (j + 1)).1]; exact hi
      have hcl := hIj1.cl hin
      have hcp := cap_le (passN D (j + 1)) (dc (passN D (j + 1)) i)
      have hw : wat D i (j + 1) = (wat D i j && decide (cap (passN D (j + 1)) (dc (passN D (j + 1)) i) ≤ 1)) := rfl
      refine Ev.blk kX3_isWatched_11 rfl trivial ?_
      refine Ev.br tX3_isWatched_14 rfl (fun c14 => ?_) (fun c14 => ?_)
      · exact absurd c14 (nI_ge hj (by omega))
      · refine Ev.blk kX3_isWatched_17 rfl trivial ?_
        refine Ev.cV (d1 := d - 1) (em_goes hE hIj (by omega)) tX3_isWatched_18 qX3_208 rfl rfl (by decide) ⟨rfl, rfl, rfl⟩ (by omega) ?_
        rintro _ _ ⟨rfl, oM, hM2⟩
        have hci := hM2.c (j := i) hin
        refine Ev.blk kX3_isWatched_21 rfl ⟨trivial, vinN hi8 (by decide)⟩ ?_
        rw [ix8 hi8, hci]
        refine Ev.cV (d1 := d - 1) (em_far hM2 hIj1 (by omega) hcl) tX3_isWatched_29 qX3_152 rfl rfl (by decide) ⟨rfl, rfl, rfl⟩ (by omega) ?_
        rintro _ _ ⟨rfl, rfl⟩
        refine Ev.blk kX3_isWatched_32 rfl trivial ?_
        refine Ev.br tX3_isWatched_33 rfl (fun c33 => ?_) (fun c33 => ?_)
        · have c33 : nI 2 ≤ nI (cap (passN D (j + 1)) (dc (passN D (j + 1)) i)) := c33
          rw [nI_leI (by omega) (by omega)] at c33
          rw [decide_eq_false (show ¬ cap (passN D (j + 1)) (dc (passN D (j + 1)) i) ≤ 1 by omega)] at hw
          refine Ev.blk kX3_isWatched_40 rfl trivial ?_
          refine Ev.blk kX3_isWatched_41 rfl trivial ?_
          refine Ev.jmp tX3_isWatched_46 ?_
          refine k _ _ ⟨ho.tr (OffK.ofM oM), hM2, hK.of (oM.2 23 0 (by decide)), ?_⟩
          rw [hw, nI_add]
          first
            | (rw [show bI (wat D i j) &&& nI 0 = bI (wat D i j && false) from hand _ false])
            | (rw [show bI (wat D i j) &&& nI 1 = bI (wat D i j && true) from hand _ true])
        · have c33 : ¬ nI 2 ≤ nI (cap (passN D (j + 1)) (dc (passN D (j + 1)) i)) := c33
          rw [nI_leI (by omega) (by omega)] at c33
          rw [decide_eq_true (show cap (passN D (j + 1)) (dc (passN D (j + 1)) i) ≤ 1 by omega)] at hw
          refine Ev.blk kX3_isWatched_36 rfl trivial ?_
          refine Ev.jmp tX3_isWatched_37 ?_
          refine Ev.blk kX3_isWatched_41 rfl trivial ?_
          refine Ev.jmp tX3_isWatched_46 ?_
          refine k _ _ ⟨ho.tr (OffK.ofM oM), hM2, hK.of (oM.2 23 0 (by decide)), ?_⟩
          rw [hw, nI_add]
          first
            | (rw [show bI (wat D i j) &&& nI 0 = bI (wat D i j && false) from hand _ false])
            | (rw [show bI (wat D i j) &&& nI 1 = bI (wat D i j && true) from hand _ true])
  refine Ev.blk kX3_isWatched_0 rfl trivial ?_
  refine Ev.cV (d1 := d - 1) (em_keep (b := 1) hM hI (by omega) (by decide)) tX3_isWatched_3 qX3_119 rfl rfl (by decide) ⟨rfl, rfl, rfl⟩ (by omega) ?_
  rintro _ _ ⟨rfl, oV, hM1, hK1, hf1⟩
  refine Ev.blk kX3_isWatched_6 rfl trivial ?_
  exact loop _ (OffK.ofV oV hf1) hM1 hK1
theorem em_isMayed (hM : MYd w D) (hI : YI D) {i : Nat} (hi : i < dn D) : Cl l d MX3_isMayed [mR 11 0, mI (nI i)] w (fun r u => u = w ∧ r = some (mI (bI (hfr D i)))) := by
  show Ev l d MX3_isMayed 0 [some (mR 11 0), some (mI (nI i)), none] [] w _
  have h8 := hI.1
  have hn := hM.n
  have hi8 : i < 8 := by omega
  refine Ev.blk kX3_isMayed_0 rfl trivial ?_
  refine Ev.for (fun j L u => u = w ∧ fst1 (fun o => !(o == i) && mayK D o i) j = none ∧ L = [some (mR 11 0), some (mI (nI i)), some (mI (nI j))]) (dn D) ?_ ?_ 0 (Nat.zero_le _) ⟨rfl, rfl, rfl⟩
  · rintro L u ⟨rfl, h0, rfl⟩
    refine Ev.blk kX3_isMayed_2 rfl trivial ?_
    simp only [hn]
    refine Ev.br tX3_isMayed_7 rfl (fun c7 => ?_) (fun c7 => ?_)
    · refine Ev.blk kX3_isMayed_53 rfl trivial ?_
      refine Ev.iret tX3_isMayed_54 rfl rfl ?_
      exact ⟨rfl, by unfold hfr; rw [h0]; rfl⟩
    · exact absurd (nI_le (Nat.le_refl _) (by omega)) c7
  · rintro j L u hj ⟨rfl, h0, rfl⟩ k
    have hj8 : j < 8 := by omega
    have hk := hI.kd hj
    have hf := hI.fr hj
    refine Ev.blk kX3_isMayed_2 rfl trivial ?_
    simp only [hn]
    refine Ev.br tX3_isMayed_7 rfl (fun c7 => ?_) (fun c7 => ?_)
    · exact absurd c7 (nI_ge hj (by omega))
    · refine Ev.blk kX3_isMayed_10 rfl trivial ?_
      refine Ev.br tX3_isMayed_12 rfl (fun c12 => ?_) (fun c12 => ?_)
      · rw [nI_eq (by omega) (by omega)] at c12
        have hv : (!(j == i) && mayK D j i) = false := by rw [c12]; simp
        refine Ev.blk kX3_isMayed_47 rfl trivial ?_
        refine Ev.jmp tX3_isMayed_50 ?_
        exact k _ _ ⟨rfl, fst1_f h0 hv, by rw [nI_add]⟩
      · rw [nI_eq (by omega) (by omega)] at c12
        refine Ev.blk kX3_isMayed_15 rfl ⟨trivial, vinN hj8 (by decide)⟩ ?_
        rw [ix8 hj8, hM.k hj]
        refine Ev.br tX3_isMayed_22 rfl (fun c22 => ?_) (fun c22 => ?_)
        · rw [nI_eq (by omega) (by omega)] at c22
          have hv : (!(j == i) && mayK D j i) = true := by unfold mayK; rw [c22, beq_false_of_ne c12]; rfl
          refine Ev.blk kX3_isMayed_45 rfl trivial ?_
          refine Ev.iret tX3_isMayed_46 rfl rfl ?_
          exact ⟨rfl, by unfold hfr; rw [fst1_some h0 hv hj]; rfl⟩
        · rw [nI_eq (by omega) (by omega)] at c22
          refine Ev.blk kX3_isMayed_25 rfl ⟨trivial, vinN hj8 (by decide)⟩ ?_
          rw [ix8 hj8, hM.k hj]
          refine Ev.br tX3_isMayed_32 rfl (fun c32 => ?_) (fun c32 => ?_)
          · rw [nI_eq (by omega) (by omega)] at c32
            have hv : (!(j == i) && mayK D j i) = false := by unfold mayK; rw [beq_false_of_ne c22, beq_false_of_ne c32]; simp
            refine Ev.blk kX3_isMayed_47 rfl trivial ?_
            refine Ev.jmp tX3_isMayed_50 ?_
            exact k _ _ ⟨rfl, fst1_f h0 hv, by rw [nI_add]⟩
          · rw [nI_eq (by omega) (by omega), Classical.not_not] at c32
            refine Ev.blk kX3_isMayed_35 rfl ⟨trivial, vinN hj8 (by decide)⟩ ?_
            rw [ix8 hj8, hM.f hj]
            refine Ev.br tX3_isMayed_42 rfl (fun c42 => ?_) (fun c42 => ?_)
            · rw [nI_eq (by omega) (by omega)] at c42
              have hv : (!(j == i) && mayK D j i) = false := by unfold mayK; rw [beq_false_of_ne c22, beq_false_of_ne c42]; simp
              refine Ev.blk kX3_isMayed_47 rfl trivial ?_
              refine Ev.jmp tX3_isMayed_50 ?_
              exact k _ _ ⟨rfl, fst1_f h0 hv, by rw [nI_add]⟩
            · rw [nI_eq (by omega) (by omega), Classical.not_not] at c42
              have hv : (!(j == i) && mayK D j i) = true := by unfold mayK; rw [c32, c42, beq_false_of_ne c12]; simp
              refine Ev.blk kX3_isMayed_45 rfl trivial ?_
              refine Ev.iret tX3_isMayed_46 rfl rfl ?_
              exact ⟨rfl, by unfold hfr; rw [fst1_some h0 hv hj]; rfl⟩
theorem em_comesChild (hM : MYd w D) (hI : YI D) (hn : dn D < 8) {k c f : Nat} : Cl l d MX3_comesChild [mR 11 0, mI (nI k), mI (nI c), mI (nI f)] w (fun r u => r = none ∧ OffM w u ∧ MYd u (addY D k c f)) := by
  show Ev l d MX3_comesChild 0 [some (mR 11 0), some (mI (nI k)), some (mI (nI c)), some (mI (nI f)), none] [] w _
  have hnn := hM.n
  have e1 : va_up (ds D) (dn D) false = ds D := by
    funext o
    unfold va_up
    by_cases e : o = dn D
    · rw [if_pos e]
      cases hz : ds D o with
      | false => rfl
      | true => have := (hI.st hz).1; omega
    · rw [if_neg e]
  have e2 : va_up (dt D) (dn D) 0 = dt D := by
    funext o
    unfold va_up
    by_cases e : o = dn D
    · rw [if_pos e, hI.2.2.2.2.1 o (by omega)]
    · rw [if_neg e]
  have e3 : ∀ x, dn D ≤ x / 8 ∨ dn D ≤ x % 8 → va_up (dr D) x 0 = dr D := by
    intro x hx
    funext o
    unfold va_up
    by_cases e : o = x
    · rw [if_pos e, e, hI.2.2.2.2.2.2.1 x hx]
    · rw [if_neg e]
  have f1 : ∀ g : Nat → Int32, mgf (mpA w 13 0 g) 11 0 7 = nI (dn D) := fun _ => hnn
  refine Ev.blk kX3_comesChild_0 rfl ⟨⟨⟨⟨⟨trivial, by rw [hnn]; exact vinN hn (by decide)⟩, by simp only [mgf_pA]; rw [hnn]; exact vinN hn (by decide)⟩, by simp only [mgf_pA]; rw [hnn]; exact vinN hn (by decide)⟩, by simp only [mgf_pA]; rw [hnn]; exact vinN hn (by decide)⟩, by simp only [mgf_pA]; rw [hnn]; exact vinN hn (by decide)⟩ ?_
  simp only [mgf_pA, hnn, ix8 hn]
  refine Ev.for (fun j L u => OffM w u ∧ (∀ t i k, mgf u t i k = mgf w t i k) ∧ mga u 13 0 = upd (mga w 13 0) (dn D) (nI k) ∧ mga u 14 0 = upd (mga w 14 0) (dn D) (nI c) ∧ mga u 15 0 = upd (mga w 15 0) (dn D) (nI f) ∧ mga u 16 0 = upd (mga w 16 0) (dn D) (nI 0) ∧ mga u 17 0 = upd (mga w 17 0) (dn D) (nI 0) ∧ (∀ j, j < 64 → mga u 18 0 j = nI (dr D j)) ∧ L = [some (mR 11 0), some (mI (nI k)), some (mI (nI c)), some (mI (nI f)), some (mI (nI j))]) 8 ?_ ?_ 0 (Nat.zero_le _) ⟨(Om.pA (by decide)).tr ((Om.pA (by decide)).tr ((Om.pA (by decide)).tr ((Om.pA (by decide)).tr (Om.pA (by decide))))), fun _ _ _ => rfl, ?_, ?_, ?_, ?_, ?_, ?_, rfl⟩
  · rintro L u ⟨ho, hf0, q13, q14, q15, q16, q17, q18, rfl⟩
    have hn7 : mgf u 11 0 7 = nI (dn D) := (hf0 11 0 7).trans hnn
    refine Ev.blk kX3_comesChild_53 rfl trivial ?_
    refine Ev.br tX3_comesChild_57 rfl (fun c57 => ?_) (fun c57 => ?_)
    · refine Ev.blk kX3_comesChild_98 rfl trivial ?_
      rw [hn7, nI_add]
      refine Ev.vret tX3_comesChild_108 rfl ?_
      refine ⟨rfl, ho.tr (Om.pf (by decide)), ⟨⟨fun j hj => ?_, fun j hj => ?_, fun j hj => ?_, fun j hj => ?_, fun j hj => ?_, fun j hj => ?_⟩, mgf_pf, ?_, ?_, ?_, ?_⟩⟩
      · have hj : j < dn D + 1 := hj
        refine (congrFun q13 j).trans ?_
        show (if j = dn D then nI k else mga w 13 0 j) = nI (if j = dn D then k else dk D j)
        by_cases e : j = dn D
        · rw [if_pos e, if_pos e]
        · rw [if_neg e, if_neg e]; exact hM.k (by omega)
      · have hj : j < dn D + 1 := hj
        refine (congrFun q14 j).trans ?_
        show (if j = dn D then nI c else mga w 14 0 j) = nI (if j = dn D then c else dc D j)
        by_cases e : j = dn D
        · rw [if_pos e, if_pos e]
        · rw [if_neg e, if_neg e]; exact hM.c (by omega)
      · have hj : j < dn D + 1 := hj
        refine (congrFun q15 j).trans ?_
        show (if j = dn D then nI f else mga w 15 0 j) = nI (if j = dn D then f else df D j)
        by_cases e : j = dn D
        · rw [if_pos e, if_pos e]
        · rw [if_neg e, if_neg e]; exact hM.f (by omega)
      · refine (congrFun q16 j).trans ((updB (i := dn D) (b := false) (x := nI 0) rfl hM.1.2.2.2.1 j hj).trans ?_)
        rw [e1]
        rfl
      · refine (congrFun q17 j).trans ((upd_nI (i := dn D) (v := 0) hM.1.2.2.2.2.1 j hj).trans ?_)
        rw [e2]
        rfl
      · exact q18 j hj
      · exact (mgf_pfn (by decide)).trans ((hf0 11 0 8).trans hM.l)
      · exact (mgf_pfn (by decide)).trans ((hf0 11 0 9).trans hM.e)
      · exact (mgf_pfn (by decide)).trans ((hf0 11 0 22).trans hM.g)
      · exact (mgf_pfn (by decide)).trans ((hf0 11 0 21).trans hM.a)
    · exact absurd (nI_le (Nat.le_refl _) (by decide)) c57
  · rintro j L u hj ⟨ho, hf0, q13, q14, q15, q16, q17, q18, rfl⟩ kk
    have hn7 : mgf u 11 0 7 = nI (dn D) := (hf0 11 0 7).trans hnn
    have hn7' : ∀ g : Nat → Int32, mgf (mpA u 18 0 g) 11 0 7 = nI (dn D) := fun _ => hn7
    have x1 : 8 * dn D + j < 64 := by omega
    have x2 : 8 * j + dn D < 64 := by omega
    have y1 := upd_nI (i := 8 * dn D + j) (v := 0) q18
    rw [e3 _ (Or.inl (show dn D ≤ (8 * dn D + j) / 8 by omega))] at y1
    have y2 := upd_nI (i := 8 * j + dn D) (v := 0) y1
    rw [e3 _ (Or.inr (show dn D ≤ (8 * j + dn D) % 8 by omega))] at y2
    refine Ev.blk kX3_comesChild_53 rfl trivial ?_
    refine Ev.br tX3_comesChild_57 rfl (fun c57 => ?_) (fun c57 => ?_)
    · exact absurd c57 (nI_ge hj (by decide))
    · refine Ev.blk kX3_comesChild_60 rfl ⟨⟨trivial, by rw [hn7, pk_mul, nI_add]; exact vinN x1 (by decide)⟩, by rw [hn7', pk_mul, nI_add]; exact vinN x2 (by decide)⟩ ?_
      simp only [mgf_pA, hn7, pk_mul, nI_add, mga_pA]
      rw [ixN (show 8 * dn D + j < 1000 by omega), ixN (show 8 * j + dn D < 1000 by omega)]
      refine Ev.jmp tX3_comesChild_95 ?_
      refine kk _ _ ⟨ho.tr ((Om.pA (by decide)).tr (Om.pA (by decide))), hf0, ?_, ?_, ?_, ?_, ?_, ?_, rfl⟩
      · exact (mga_pAn (by decide)).trans ((mga_pAn (by decide)).trans q13)
      · exact (mga_pAn (by decide)).trans ((mga_pAn (by decide)).trans q14)
      · exact (mga_pAn (by decide)).trans ((mga_pAn (by decide)).trans q15)
      · exact (mga_pAn (by decide)).trans ((mga_pAn (by decide)).trans q16)
      · exact (mga_pAn (by decide)).trans ((mga_pAn (by decide)).trans q17)
      · rw [mga_pA]; exact y2
  · simp (disch := decide) only [mga_pAn, mga_pA]
  · simp (disch := decide) only [mga_pAn, mga_pA]
  · simp (disch := decide) only [mga_pAn, mga_pA]
  · simp (disch := decide) only [mga_pAn, mga_pA]
  · simp (disch := decide) only [mga_pAn, mga_pA]
  · simp (disch := decide) only [mga_pAn, mga_pA]
    exact hM.1.2.2.2.2.2
end M5
