/-! ===== the class's yard: acting, a second ===== -/
/-- what acting never changes -/
def Kp (D D1 : Yd) : Prop := dk D1 = dk D ∧ df D1 = df D ∧ dn D1 = dn D ∧ dl D1 = dl D ∧ de D1 = de D ∧ da D1 = da D
theorem Kp.rf {D : Yd} : Kp D D := ⟨rfl, rfl, rfl, rfl, rfl, rfl⟩
theorem Kp.tr {D E F : Yd} (h : Kp D E) (k : Kp E F) : Kp D F := ⟨k.1.trans h.1, k.2.1.trans h.2.1, k.2.2.1.trans h.2.2.1, k.2.2.2.1.trans h.2.2.2.1, k.2.2.2.2.1.trans h.2.2.2.2.1, k.2.2.2.2.2.trans h.2.2.2.2.2⟩
theorem runs_dc {D : Yd} {i : Nat} : dc (runs D i).1 = dc D ∧ dt (runs D i).1 = dt D ∧ Kp D (runs D i).1 := by
  unfold runs
  split
  · exact ⟨rfl, rfl, Kp.rf⟩
  · split
    · exact ⟨rfl, rfl, rfl, rfl, rfl, rfl, rfl, rfl⟩
    · split
      · exact ⟨rfl, rfl, Kp.rf⟩
      · exact ⟨rfl, rfl, Kp.rf⟩
theorem frS_ds {D : Yd} {i b o : Nat} (h : frS D i b o = true) : ds D o = true := by
  unfold frS at h
  simp only [Bool.and_eq_true] at h
  exact h.1
theorem runs_YI {D : Yd} (hI : YI D) {i : Nat} (hi : i < dn D) : YI (runs D i).1 ∧ (runs D i).2 < 24 := by
  have hc := hI.cl hi
  unfold runs
  split
  · refine ⟨hI, ?_⟩
    show (if _ then _ else _) < 24
    split
    · exact hc
    · exact awy_lt hc
  · split
    · exact ⟨hI.frd hi (fun j h => frS_ds h), hc⟩
    · split
      · refine ⟨hI, ?_⟩
        show (if _ then _ else _) < 24
        split
        · exact twd_lt hc
        · exact awy_lt hc
      · exact ⟨hI, awy_lt hc⟩
theorem ply_Kp {D : Yd} {i : Nat} : Kp D (ply D i) := by
  unfold ply
  split
  · exact Kp.rf
  · split
    · exact Kp.rf
    · exact runs_dc.2.2
theorem ply_YI {D : Yd} (hI : YI D) {i : Nat} (hi : i < dn D) : YI (ply D i) := by
  have ht := hI.td i
  unfold ply
  split
  · exact hI.ut hi (by omega)
  · split
    · exact hI.ut hi (by omega)
    · obtain ⟨h1, h2⟩ := runs_YI hI hi
      obtain ⟨e1, e2, e3⟩ := runs_dc (D := D) (i := i)
      have hc := h1.uc (i := i) h2
      rw [e1] at hc
      have h4 := hc.ut (i := i) (v := tir (dt D i) ((runs D i).2 == dc D i)) (by show i < dn (runs D i).1; rw [e3.2.2.1]; exact hi) (tir_le ht _)
      have e5 : dt (uc (runs D i).1 (va_up (dc D) i (runs D i).2)) = dt D := e2
      rw [e5] at h4
      exact h4
theorem cat_Kp {D : Yd} {i : Nat} : Kp D (cat D i) := by
  unfold cat
  repeat' split
  all_goals exact Kp.rf
theorem cat_YI {D : Yd} (hI : YI D) {i : Nat} (hi : i < dn D) : YI (cat D i) := by
  have hc := hI.cl hi
  unfold cat
  split
  · exact hI
  · split
    · rename_i o ho
      obtain ⟨h1, h2⟩ := fst1_spec ho
      refine hI.us (fun j hj => ?_)
      unfold va_up at hj
      split at hj
      · rename_i e
        subst e
        refine ⟨h1, ?_⟩
        unfold tch rnr isC at h2
        simp at h2
        omega
      · exact hI.st hj
    · repeat' split
      all_goals first
        | exact hI
        | exact hI.uc (twd_lt hc)
theorem act_Kp {D : Yd} {i : Nat} : Kp D (act D i) := by
  unfold act
  split
  · exact cat_Kp
  · exact ply_Kp
theorem act_YI {D : Yd} (hI : YI D) {i : Nat} (hi : i < dn D) : YI (act D i) := by
  unfold act
  split
  · exact cat_YI hI hi
  · exact ply_YI hI hi
theorem actN_Kp {D : Yd} : ∀ i, Kp D (actN D i)
  | 0 => Kp.rf
  | i + 1 => (actN_Kp i).tr act_Kp
theorem actN_YI {D : Yd} (hI : YI D) : ∀ i, i ≤ dn D → YI (actN D i)
  | 0, _ => hI
  | i + 1, h => act_YI (actN_YI hI i (by omega)) (by rw [(actN_Kp (D := D) i).2.2.1]; omega)
theorem tnth_Kp {D : Yd} : Kp D (tnth D) := by
  unfold tnth
  split <;> exact Kp.rf
theorem tnth_YI {D : Yd} (hI : YI D) : YI (tnth D) := by
  unfold tnth
  split
  · exact hI.us (fun j h => by cases h)
  · exact hI
theorem pass_YI {D : Yd} (hI : YI D) (he : de D + 1 < 100000) : YI (pass D) := by
  unfold pass
  have h := actN_YI (tnth_YI hI) (dn D) (by rw [tnth_Kp.2.2.1]; exact Nat.le_refl _)
  exact h.ue he
theorem pass_dn {D : Yd} : dn (pass D) = dn D := ((tnth_Kp (D := D)).tr (actN_Kp (dn D))).2.2.1
theorem pass_dk {D : Yd} : dk (pass D) = dk D := ((tnth_Kp (D := D)).tr (actN_Kp (dn D))).1
theorem pass_dl {D : Yd} : dl (pass D) = dl D := ((tnth_Kp (D := D)).tr (actN_Kp (dn D))).2.2.2.1
theorem pass_df {D : Yd} : df (pass D) = df D := ((tnth_Kp (D := D)).tr (actN_Kp (dn D))).2.1
theorem pass_da {D : Yd} : da (pass D) = da D := ((tnth_Kp (D := D)).tr (actN_Kp (dn D))).2.2.2.2.2
theorem pass_de {D : Yd} : de (pass D) = de D + 1 := rfl
theorem passN_n {D : Yd} : ∀ k, dn (passN D k) = dn D ∧ dk (passN D k) = dk D ∧ dl (passN D k) = dl D ∧ df (passN D k) = df D ∧ da (passN D k) = da D ∧ de (passN D k) = de D + k
  | 0 => ⟨rfl, rfl, rfl, rfl, rfl, rfl⟩
  | k + 1 => by
    obtain ⟨h1, h2, h3, h4, h5, h6⟩ := passN_n (D := D) k
    exact ⟨pass_dn.trans h1, pass_dk.trans h2, pass_dl.trans h3, pass_df.trans h4, pass_da.trans h5, by show de (passN D k) + 1 = _; rw [h6]; rfl⟩
theorem passN_YI {D : Yd} (hI : YI D) : ∀ k, de D + k < 100000 → YI (passN D k)
  | 0, _ => hI
  | k + 1, h => pass_YI (passN_YI hI k (by omega)) (by rw [(passN_n (D := D) k).2.2.2.2.2]; omega)
theorem nearMay0 {D : Yd} {i : Nat} (h1 : dk D i ≠ 1) (h2 : dk D i ≠ 2) : nearMay D i = none ∧ aimMay D i = none := by
  have hw : ∀ o, wnt D i o = false := fun o => by unfold wnt mayK; simp [h1, h2]
  constructor
  · exact fst1_none (fun j _ => by simp [hw])
  · unfold aimMay
    cases h : nrst (wnt D i) (fun o => far (dc D i) (dc D o)) (dn D) with
    | none => rfl
    | some b => have := (nrst_spec h).2; rw [hw] at this; cases this
section Y6
variable {l : Launch} {d : Nat} {w : mW} {y : Nat} {D : Yd}
/-- freesOrFetches: what is so behind it, and whether he was busy -/
def ffD (D : Yd) (i : Nat) : Yd × Bool := match nearMay D i with
  | some o => (frd D i (frS D i o), true)
  | none => match aimMay D i with
    | some a => if 1 < cap D (dc D i) then (uc D (va_up (dc D) i (twd (dc D i) (dc D a))), true) else (D, false)
    | none => (D, false)
theorem nI_nm1 {a : Nat} (h : a < 2 ^ 31) : ¬ nI a = -1 := by rw [nI_m1 h]; exact id
theorem ev_freesOrFetches (hY : YardAt w y D) (hI : YI D) (hd : 3 ≤ d) {i : Nat} (hi : i < dn D) : Cl l d MX1_freesOrFetches [mR 1 y, mI (nI i)] w (fun r u => r = some (mI (bI (ffD D i).2)) ∧ Off y w u ∧ YardAt u y (ffD D i).1) := by
  show Ev l d MX1_freesOrFetches 0 [some (mR 1 y), some (mI (nI i)), none, none, none] [] w _
  have h8 := hI.1
  have hi8 : i < 8 := by omega
  have hci := hI.cl hi
  have hcap := cap_le D (dc D i)
  unfold ffD
  have hlb := ev_leastBeside (l := l) (d := d - 1) hY hI (by omega) hi (wnt D i)
  rw [show fst1 (fun o => wnt D i o && decide (far (dc D i) (dc D o) ≤ 1)) (dn D) = nearMay D i from rfl] at hlb
  have hnr := ev_nearest (l := l) (d := d - 1) hY hI (by omega) hi (wnt D i)
  rw [show nrst (wnt D i) (fun o => far (dc D i) (dc D o)) (dn D) = aimMay D i from rfl] at hnr
  cases hn : nearMay D i with
  | some o =>
    have hn2 : fst1 (fun o => wnt D i o && decide (far (dc D i) (dc D o) ≤ 1)) (dn D) = some o := hn
    have ho := (fst1_spec hn2).1
    rw [hn] at hlb
    refine Ev.blk kX1_freesOrFetches_0 rfl trivial ?_
    simp only [hY.s]
    refine Ev.cV (d1 := d - 1) (ev_freeableBits hY hI hi) tX1_freesOrFetches_6 qX1_93 rfl rfl (by decide) ⟨rfl, rfl, rfl⟩ (by omega) ?_
    rintro _ _ ⟨rfl, rfl⟩
    refine Ev.blk kX1_freesOrFetches_9 rfl trivial ?_
    rw [b_frb hI hi]
    refine Ev.cV (d1 := d - 1) (hlb) tX1_freesOrFetches_14 qX1_96 rfl rfl (by decide) ⟨rfl, rfl, rfl⟩ (by omega) ?_
    rintro _ _ ⟨rfl, rfl⟩
    refine Ev.blk kX1_freesOrFetches_17 rfl trivial ?_
    refine Ev.br tX1_freesOrFetches_20 rfl (fun c20 => ?_) (fun c20 => ?_)
    · exact absurd c20 (nI_nm1 (by omega))
    · refine Ev.blk kX1_freesOrFetches_23 rfl trivial ?_
      refine Ev.cV (d1 := d - 1) (ev_setFree hY hI (by omega) hi ho) tX1_freesOrFetches_26 qX1_136 rfl rfl (by decide) ⟨rfl, rfl, rfl⟩ (by omega) ?_
      rintro _ _ ⟨rfl, ho, hE⟩
      refine Ev.blk kX1_freesOrFetches_29 rfl trivial ?_
      refine Ev.iret tX1_freesOrFetches_30 rfl rfl ?_
      exact ⟨rfl, ho, hE⟩
  | none =>
    rw [hn] at hlb
    cases ha : aimMay D i with
    | none =>
      rw [ha] at hnr
      refine Ev.blk kX1_freesOrFetches_0 rfl trivial ?_
      simp only [hY.s]
      refine Ev.cV (d1 := d - 1) (ev_freeableBits hY hI hi) tX1_freesOrFetches_6 qX1_93 rfl rfl (by decide) ⟨rfl, rfl, rfl⟩ (by omega) ?_
      rintro _ _ ⟨rfl, rfl⟩
      refine Ev.blk kX1_freesOrFetches_9 rfl trivial ?_
      rw [b_frb hI hi]
      refine Ev.cV (d1 := d - 1) (hlb) tX1_freesOrFetches_14 qX1_96 rfl rfl (by decide) ⟨rfl, rfl, rfl⟩ (by omega) ?_
      rintro _ _ ⟨rfl, rfl⟩
      refine Ev.blk kX1_freesOrFetches_17 rfl trivial ?_
      refine Ev.br tX1_freesOrFetches_20 rfl (fun c20 => ?_) (fun c20 => ?_)
      · refine Ev.blk kX1_freesOrFetches_31 rfl trivial ?_
        refine Ev.cV (d1 := d - 1) (hnr) tX1_freesOrFetches_34 qX1_139 rfl rfl (by decide) ⟨rfl, rfl, rfl⟩ (by omega) ?_
        rintro _ _ ⟨rfl, rfl⟩
        refine Ev.blk kX1_freesOrFetches_37 rfl trivial ?_
        refine Ev.br tX1_freesOrFetches_42 rfl (fun c42 => ?_) (fun c42 => ?_)
        · refine Ev.blk kX1_freesOrFetches_59 rfl trivial ?_
          refine Ev.iret tX1_freesOrFetches_60 rfl rfl ?_
          exact ⟨rfl, Off.rf, hY⟩
        · exact absurd rfl c42
      · exact absurd rfl c20
    | some a =>
      have hal := (nrst_spec ha).1
      have ha8 : a < 8 := by omega
      rw [ha] at hnr
      refine Ev.blk kX1_freesOrFetches_0 rfl trivial ?_
      simp only [hY.s]
      refine Ev.cV (d1 := d - 1) (ev_freeableBits hY hI hi) tX1_freesOrFetches_6 qX1_93 rfl rfl (by decide) ⟨rfl, rfl, rfl⟩ (by omega) ?_
      rintro _ _ ⟨rfl, rfl⟩
      refine Ev.blk kX1_freesOrFetches_9 rfl trivial ?_
      rw [b_frb hI hi]
      refine Ev.cV (d1 := d - 1) (hlb) tX1_freesOrFetches_14 qX1_96 rfl rfl (by decide) ⟨rfl, rfl, rfl⟩ (by omega) ?_
      rintro _ _ ⟨rfl, rfl⟩
      refine Ev.blk kX1_freesOrFetches_17 rfl trivial ?_
      refine Ev.br tX1_freesOrFetches_20 rfl (fun c20 => ?_) (fun c20 => ?_)
      · try simp (disch := omega) only [nI_eq, nI_leI, nI_ltI, Classical.not_not] at c20
        refine Ev.blk kX1_freesOrFetches_31 rfl trivial ?_
        refine Ev.cV (d1 := d - 1) (hnr) tX1_freesOrFetches_34 qX1_139 rfl rfl (by decide) ⟨rfl, rfl, rfl⟩ (by omega) ?_
        rintro _ _ ⟨rfl, rfl⟩
        refine Ev.blk kX1_freesOrFetches_37 rfl trivial ?_
        refine Ev.br tX1_freesOrFetches_42 rfl (fun c42 => ?_) (fun c42 => ?_)
        · exact absurd c42 (nI_nm1 (by omega))
        · try simp (disch := omega) only [nI_eq, nI_leI, nI_ltI, Classical.not_not] at c42
          refine Ev.blk kX1_freesOrFetches_45 rfl ⟨trivial, vinN hi8 (by decide)⟩ ?_
          simp only [ix8 hi8, hY.c hi8]
          refine Ev.cV (d1 := d - 1) (ev_catcherApart hY hI (by omega) hci) tX1_freesOrFetches_52 qX1_127 rfl rfl (by decide) ⟨rfl, rfl, rfl⟩ (by omega) ?_
          rintro _ _ ⟨rfl, rfl⟩
          refine Ev.blk kX1_freesOrFetches_55 rfl trivial ?_
          refine Ev.br tX1_freesOrFetches_56 rfl (fun c56 => ?_) (fun c56 => ?_)
          · try simp (disch := omega) only [nI_eq, nI_leI, nI_ltI, Classical.not_not] at c56
            show Ev l d MX1_freesOrFetches 61 [_, _, _, _, some (mI (nI a))] [] _ _
            refine Ev.blk kX1_freesOrFetches_61 rfl ⟨trivial, vinN ha8 (by decide)⟩ ?_
            simp only [ix8 ha8, hY.c ha8]
            refine Ev.cV (d1 := d - 1) (ev_stepToward hY hI (by omega) hi (hI.cl hal)) tX1_freesOrFetches_70 qX1_142 rfl rfl (by decide) ⟨rfl, rfl, rfl⟩ (by omega) ?_
            rintro _ _ ⟨rfl, ho, hE⟩
            refine Ev.blk kX1_freesOrFetches_73 rfl trivial ?_
            refine Ev.iret tX1_freesOrFetches_74 rfl rfl ?_
            rw [if_pos (by omega)]
            exact ⟨rfl, ho, hE⟩
          · try simp (disch := omega) only [nI_eq, nI_leI, nI_ltI, Classical.not_not] at c56
            refine Ev.blk kX1_freesOrFetches_59 rfl trivial ?_
            refine Ev.iret tX1_freesOrFetches_60 rfl rfl ?_
            rw [if_neg (by omega)]
            exact ⟨rfl, Off.rf, hY⟩
      · exact absurd rfl c20
theorem runs_ff {D : Yd} {i : Nat} (h3 : ¬ dk D i = 3) : ((ffD D i).2 = true → uc (runs D i).1 (va_up (dc D) i (runs D i).2) = (ffD D i).1) ∧ ((ffD D i).2 = false → (ffD D i).1 = D ∧ runs D i = (D, awy D (dc D i))) := by
  unfold runs ffD
  rw [if_neg h3]
  cases nearMay D i with
  | some o =>
    refine ⟨fun _ => ?_, fun h => by cases h⟩
    show uc (frd D i (frS D i o)) (va_up (dc D) i (dc D i)) = _
    rw [va_up_id]
    rfl
  | none =>
    cases aimMay D i with
    | none => exact ⟨(fun h => by cases h), fun _ => ⟨rfl, rfl⟩⟩
    | some a =>
      dsimp only
      by_cases hc : 1 < cap D (dc D i)
      · rw [if_pos hc, if_pos hc]
        exact ⟨fun _ => rfl, (fun h => by cases h)⟩
      · rw [if_neg hc, if_neg hc]
        exact ⟨(fun h => by cases h), fun _ => ⟨rfl, rfl⟩⟩
theorem ply_at {D : Yd} {i : Nat} (h1 : ¬ (ds D i = true ∨ i = da D)) (h2 : ¬ dt D i = 9) : ply D i = ut (uc (runs D i).1 (va_up (dc D) i (runs D i).2)) (va_up (dt D) i (tir (dt D i) ((runs D i).2 == dc D i))) := by
  unfold ply
  rw [if_neg h1, if_neg h2]
theorem enA_i {i a : Nat} (hi : i < 8) : (nI i = enA a) = (i = a) := by
  unfold enA
  split
  · rw [nI_eq (by omega) (by omega)]
  · rw [nI_m1 (by omega)]
    apply (eq_false _).symm
    omega
theorem ev_pl121 {u : mW} {E : Yd} (hd : 4 ≤ d) (ho : Off y w u) (hY : YardAt u y E) (hI : YI E) {i c : Nat} {x : Option mV} (hi : i < dn E) (hc : c < 24) : Ev l d MX1_playerActs 121 [some (mR 1 y), some (mI (nI i)), some (mI (nI c)), x] [] u (fun r v => r = none ∧ Off y w v ∧ YardAt v y (ut E (va_up (dt E) i (tir (dt E i) (dc E i == c))))) := by
  have h8 := hI.1
  have hi8 : i < 8 := by omega
  have hci := hI.cl hi
  refine Ev.blk kX1_playerActs_121 rfl ⟨trivial, vinN hi8 (by decide)⟩ ?_
  simp only [ix8 hi8, hY.c hi8]
  refine Ev.br tX1_playerActs_130 rfl (fun c130 => ?_) (fun c130 => ?_)
  · try simp (disch := omega) only [nI_eq, nI_leI, nI_ltI, Classical.not_not] at c130
    refine Ev.blk kX1_playerActs_137 rfl trivial ?_
    refine Ev.cV (d1 := d - 1) (ev_tire hY hI (by omega) hi8 (dc E i == c) (by first | (rw [beq_false_of_ne (by omega)]; rfl) | (rw [show (dc E i == c) = true by simp; omega]; rfl))) tX1_playerActs_138 qX1_117 rfl rfl (by decide) ⟨rfl, rfl, rfl⟩ (by omega) ?_
    rintro _ _ ⟨rfl, ho2, hE⟩
    refine Ev.vret tX1_playerActs_141 rfl ?_
    exact ⟨rfl, ho.tr ho2, hE⟩
  · try simp (disch := omega) only [nI_eq, nI_leI, nI_ltI, Classical.not_not] at c130
    refine Ev.blk kX1_playerActs_133 rfl trivial ?_
    refine Ev.jmp tX1_playerActs_134 ?_
    refine Ev.cV (d1 := d - 1) (ev_tire hY hI (by omega) hi8 (dc E i == c) (by first | (rw [beq_false_of_ne (by omega)]; rfl) | (rw [show (dc E i == c) = true by simp; omega]; rfl))) tX1_playerActs_138 qX1_117 rfl rfl (by decide) ⟨rfl, rfl, rfl⟩ (by omega) ?_
    rintro _ _ ⟨rfl, ho2, hE⟩
    refine Ev.vret tX1_playerActs_141 rfl ?_
    exact ⟨rfl, ho.tr ho2, hE⟩
theorem ev_playerActs (hY : YardAt w y D) (hI : YI D) (hd : 4 ≤ d) {i : Nat} (hi : i < dn D) (hk : isC D i = false) : Cl l d MX1_playerActs [mR 1 y, mI (nI i)] w (fun r u => r = none ∧ Off y w u ∧ YardAt u y (ply D i)) := by
  show Ev l d MX1_playerActs 0 [some (mR 1 y), some (mI (nI i)), none, none] [] w _
  have h8 := hI.1
  have hi8 : i < 8 := by omega
  have hci := hI.cl hi
  have hk8 := hI.kd hi
  have ht9 := hI.td i
  have hcap := cap_le D (dc D i)
  have hk4 : dk D i < 4 := by unfold isC at hk; simp at hk; omega
  obtain ⟨e1, e2, e3⟩ := runs_dc (D := D) (i := i)
  obtain ⟨r1, r2⟩ := runs_YI hI hi
  have fin : ∀ (u : mW) (x : Option mV), ¬ (ds D i = true ∨ i = da D) → ¬ dt D i = 9 → Off y w u → YardAt u y (uc (runs D i).1 (va_up (dc D) i (runs D i).2)) → Ev l d MX1_playerActs 121 [some (mR 1 y), some (mI (nI i)), some (mI (nI (dc D i))), x] [] u (fun r u => r = none ∧ Off y w u ∧ YardAt u y (ply D i)) := by
    intro u x g1 g2 ho hE
    have hEI : YI (uc (runs D i).1 (va_up (dc D) i (runs D i).2)) := by
      have := r1.uc (i := i) r2
      rw [e1] at this
      exact this
    have h9 := ev_pl121 (l := l) (w := w) (x := x) hd ho hE hEI (i := i) (c := dc D i) (by show i < dn (runs D i).1; rw [e3.2.2.1]; exact hi) hci
    rw [ply_at g1 g2]
    rw [show dt (uc (runs D i).1 (va_up (dc D) i (runs D i).2)) = dt D from e2, show dc (uc (runs D i).1 (va_up (dc D) i (runs D i).2)) i = (runs D i).2 by show va_up (dc D) i _ i = _; unfold va_up; rw [if_pos rfl]] at h9
    exact h9
  have aw : ∀ (u : mW) (x : Option mV), ¬ (ds D i = true ∨ i = da D) → ¬ dt D i = 9 → Off y w u → YardAt u y D → runs D i = (D, awy D (dc D i)) → Ev l d MX1_playerActs 116 [some (mR 1 y), some (mI (nI i)), some (mI (nI (dc D i))), x] [] u (fun r u => r = none ∧ Off y w u ∧ YardAt u y (ply D i)) := by
    intro u x g1 g2 ho hE hr
    refine Ev.blk kX1_playerActs_116 rfl trivial ?_
    refine Ev.cV (d1 := d - 1) (ev_stepAway hE hI (by omega) hi) tX1_playerActs_118 qX1_130 rfl rfl (by decide) ⟨rfl, rfl, rfl⟩ (by omega) ?_
    rintro _ v ⟨rfl, ho2, hF⟩
    refine fin v x g1 g2 (ho.tr ho2) ?_
    rw [hr]
    exact hF
  refine Ev.blk kX1_playerActs_0 rfl trivial ?_
  refine Ev.cV (d1 := d - 1) (ev_isStanding hY hI (by omega) hi) tX1_playerActs_2 qX1_90 rfl rfl (by decide) ⟨rfl, rfl, rfl⟩ (by omega) ?_
  rintro _ _ ⟨rfl, rfl⟩
  refine Ev.br tX1_playerActs_5 rfl (fun c5 => ?_) (fun c5 => ?_)
  · rw [bI_0] at c5
    have hs : ds D i = true := by cases hz : ds D i; exact absurd hz c5; rfl
    refine Ev.blk kX1_playerActs_16 rfl trivial ?_
    refine Ev.cV (d1 := d - 1) (ev_tire hY hI (by omega) hi8 true rfl) tX1_playerActs_19 qX1_117 rfl rfl (by decide) ⟨rfl, rfl, rfl⟩ (by omega) ?_
    rintro _ _ ⟨rfl, ho, hE⟩
    refine Ev.vret tX1_playerActs_22 rfl ?_
    refine ⟨rfl, ho, ?_⟩
    have e : ply D i = ut D (va_up (dt D) i (dt D i - 1)) := by unfold ply; rw [if_pos (by first | exact Or.inl hs | exact Or.inr ha)]
    rw [e]
    exact hE
  · rw [bI_0] at c5
    have hs : ds D i = false := Decidable.not_not.mp c5
    refine Ev.blk kX1_playerActs_8 rfl trivial ?_
    simp only [hY.a]
    refine Ev.br tX1_playerActs_13 rfl (fun c13 => ?_) (fun c13 => ?_)
    · rw [enA_i hi8] at c13
      refine Ev.blk kX1_playerActs_23 rfl ⟨trivial, vinN hi8 (by decide)⟩ ?_
      simp only [ix8 hi8, hY.t hi8]
      refine Ev.br tX1_playerActs_31 rfl (fun c31 => ?_) (fun c31 => ?_)
      · rw [nI_eq (by omega) (by omega)] at c31
        have g1 : ¬ (ds D i = true ∨ i = da D) := by rw [hs]; simp; exact c13
        refine Ev.blk kX1_playerActs_42 rfl ⟨⟨trivial, vinN hi8 (by decide)⟩, vinN hi8 (by decide)⟩ ?_
        simp only [ix8 hi8, hY.c hi8, hY.k hi8]
        refine Ev.br tX1_playerActs_58 rfl (fun c58 => ?_) (fun c58 => ?_)
        · try simp (disch := omega) only [nI_eq, nI_leI, nI_ltI, Classical.not_not] at c58
          refine Ev.blk kX1_playerActs_71 rfl trivial ?_
          refine Ev.cV (d1 := d - 1) (ev_freesOrFetches hY hI (by omega) hi) tX1_playerActs_73 qX1_121 rfl rfl (by decide) ⟨rfl, rfl, rfl⟩ (by omega) ?_
          rintro _ _ ⟨rfl, ho, hE⟩
          obtain ⟨f1, f2⟩ := runs_ff (D := D) (i := i) (by omega)
          refine Ev.bj kX1_playerActs_76 tX1_playerActs_77 rfl trivial ?_
          refine Ev.bb kX1_playerActs_112 tX1_playerActs_113 rfl rfl trivial (fun c113 => ?_) (fun c113 => ?_)
          · rw [bI_0] at c113
            have hb : (ffD D i).2 = true := by cases hz : (ffD D i).2; exact absurd hz c113; rfl
            refine fin _ _ g1 c31 ho ?_
            rw [f1 hb]
            exact hE
          · rw [bI_0] at c113
            obtain ⟨f3, f4⟩ := f2 (Decidable.not_not.mp c113)
            rw [f3] at hE
            exact aw _ _ g1 c31 ho hE f4
        · try simp (disch := omega) only [nI_eq, nI_leI, nI_ltI, Classical.not_not] at c58
          refine Ev.blk kX1_playerActs_61 rfl ⟨trivial, vinN hi8 (by decide)⟩ ?_
          simp only [ix8 hi8, hY.k hi8]
          refine Ev.br tX1_playerActs_68 rfl (fun c68 => ?_) (fun c68 => ?_)
          · try simp (disch := omega) only [nI_eq, nI_leI, nI_ltI, Classical.not_not] at c68
            refine Ev.blk kX1_playerActs_80 rfl ⟨trivial, vinN hi8 (by decide)⟩ ?_
            simp only [ix8 hi8, hY.k hi8]
            refine Ev.br tX1_playerActs_87 rfl (fun c87 => ?_) (fun c87 => ?_)
            · try simp (disch := omega) only [nI_eq, nI_leI, nI_ltI, Classical.not_not] at c87
              refine Ev.bb kX1_playerActs_112 tX1_playerActs_113 rfl rfl trivial (fun c113 => ?_) (fun c113 => ?_)
              · exact absurd rfl c113
              · obtain ⟨n1, n2⟩ := nearMay0 (D := D) (i := i) (by omega) (by omega)
                exact aw _ _ g1 c31 Off.rf hY (by unfold runs; rw [if_neg (by omega), n1, n2])
            · try simp (disch := omega) only [nI_eq, nI_leI, nI_ltI, Classical.not_not] at c87
              refine Ev.blk kX1_playerActs_90 rfl trivial ?_
              refine Ev.cS (d1 := d - 1) (ev_isEdge hci) tX1_playerActs_91 qX1_124 rfl ⟨rfl, rfl, rfl⟩ (by omega) ?_
              rintro _ _ ⟨rfl, rfl⟩
              refine Ev.br tX1_playerActs_94 rfl (fun c94 => ?_) (fun c94 => ?_)
              · rw [bI_0] at c94
                have hbz : (edg (dc D i) && decide (1 < cap D (dc D i))) = false := by rw [c94]; rfl
                refine Ev.blk kX1_playerActs_110 rfl trivial ?_
                refine Ev.blk kX1_playerActs_111 rfl trivial ?_
                refine Ev.bb kX1_playerActs_112 tX1_playerActs_113 rfl rfl trivial (fun c113 => ?_) (fun c113 => ?_)
                · first
                    | exact absurd rfl c113
                    | (refine fin _ _ g1 c31 Off.rf ?_
                       have hr : runs D i = (D, dc D i) := by unfold runs; rw [if_pos (by omega), if_pos hbz]
                       rw [hr]
                       show YardAt _ y (uc D (va_up (dc D) i (dc D i)))
                       rw [va_up_id]
                       exact hY)
                · first
                    | exact absurd (by decide) c113
                    | (refine aw _ _ g1 c31 Off.rf hY ?_
                       unfold runs
                       rw [if_pos (by omega), if_neg (by rw [hbz]; decide)])
              · rw [bI_0] at c94
                have hed : edg (dc D i) = true := by cases hz : edg (dc D i); exact absurd hz c94; rfl
                refine Ev.blk kX1_playerActs_97 rfl trivial ?_
                refine Ev.cV (d1 := d - 1) (ev_catcherApart hY hI (by omega) hci) tX1_playerActs_99 qX1_127 rfl rfl (by decide) ⟨rfl, rfl, rfl⟩ (by omega) ?_
                rintro _ _ ⟨rfl, rfl⟩
                refine Ev.blk kX1_playerActs_102 rfl trivial ?_
                refine Ev.br tX1_playerActs_103 rfl (fun c103 => ?_) (fun c103 => ?_)
                · rw [nI_leI (by omega) (by omega)] at c103
                  have hbz : (edg (dc D i) && decide (1 < cap D (dc D i))) = false := by rw [hed]; simp; omega
                  refine Ev.blk kX1_playerActs_110 rfl trivial ?_
                  refine Ev.blk kX1_playerActs_111 rfl trivial ?_
                  refine Ev.bb kX1_playerActs_112 tX1_playerActs_113 rfl rfl trivial (fun c113 => ?_) (fun c113 => ?_)
                  · first
                      | exact absurd rfl c113
                      | (refine fin _ _ g1 c31 Off.rf ?_
                         have hr : runs D i = (D, dc D i) := by unfold runs; rw [if_pos (by omega), if_pos hbz]
                         rw [hr]
                         show YardAt _ y (uc D (va_up (dc D) i (dc D i)))
                         rw [va_up_id]
                         exact hY)
                  · first
                      | exact absurd (by decide) c113
                      | (refine aw _ _ g1 c31 Off.rf hY ?_
                         unfold runs
                         rw [if_pos (by omega), if_neg (by rw [hbz]; decide)])
                · rw [nI_leI (by omega) (by omega)] at c103
                  have hbz : (edg (dc D i) && decide (1 < cap D (dc D i))) = true := by rw [hed]; simp; omega
                  refine Ev.blk kX1_playerActs_106 rfl trivial ?_
                  refine Ev.jmp tX1_playerActs_107 ?_
                  refine Ev.blk kX1_playerActs_111 rfl trivial ?_
                  refine Ev.bb kX1_playerActs_112 tX1_playerActs_113 rfl rfl trivial (fun c113 => ?_) (fun c113 => ?_)
                  · first
                      | exact absurd rfl c113
                      | (refine fin _ _ g1 c31 Off.rf ?_
                         have hr : runs D i = (D, dc D i) := by unfold runs; rw [if_pos (by omega), if_pos hbz]
                         rw [hr]
                         show YardAt _ y (uc D (va_up (dc D) i (dc D i)))
                         rw [va_up_id]
                         exact hY)
                  · first
                      | exact absurd (by decide) c113
                      | (refine aw _ _ g1 c31 Off.rf hY ?_
                         unfold runs
                         rw [if_pos (by omega), if_neg (by rw [hbz]; decide)])
          · try simp (disch := omega) only [nI_eq, nI_leI, nI_ltI, Classical.not_not] at c68
            refine Ev.blk kX1_playerActs_71 rfl trivial ?_
            refine Ev.cV (d1 := d - 1) (ev_freesOrFetches hY hI (by omega) hi) tX1_playerActs_73 qX1_121 rfl rfl (by decide) ⟨rfl, rfl, rfl⟩ (by omega) ?_
            rintro _ _ ⟨rfl, ho, hE⟩
            obtain ⟨f1, f2⟩ := runs_ff (D := D) (i := i) (by omega)
            refine Ev.bj kX1_playerActs_76 tX1_playerActs_77 rfl trivial ?_
            refine Ev.bb kX1_playerActs_112 tX1_playerActs_113 rfl rfl trivial (fun c113 => ?_) (fun c113 => ?_)
            · rw [bI_0] at c113
              have hb : (ffD D i).2 = true := by cases hz : (ffD D i).2; exact absurd hz c113; rfl
              refine fin _ _ g1 c31 ho ?_
              rw [f1 hb]
              exact hE
            · rw [bI_0] at c113
              obtain ⟨f3, f4⟩ := f2 (Decidable.not_not.mp c113)
              rw [f3] at hE
              exact aw _ _ g1 c31 ho hE f4
      · rw [nI_eq (by omega) (by omega)] at c31
        have g1 : ¬ (ds D i = true ∨ i = da D) := by rw [hs]; simp; exact c13
        refine Ev.blk kX1_playerActs_34 rfl ⟨trivial, vinN hi8 (by decide)⟩ ?_
        simp only [ix8 hi8]
        refine Ev.vret tX1_playerActs_41 rfl ?_
        refine ⟨rfl, Off.pA (by decide), ?_⟩
        have e : ply D i = ut D (va_up (dt D) i 0) := by unfold ply; rw [if_neg g1, if_pos (Decidable.not_not.mp c31)]
        rw [e]
        exact hY.pt
    · rw [enA_i hi8] at c13
      have ha : i = da D := Decidable.not_not.mp c13
      refine Ev.blk kX1_playerActs_16 rfl trivial ?_
      refine Ev.cV (d1 := d - 1) (ev_tire hY hI (by omega) hi8 true rfl) tX1_playerActs_19 qX1_117 rfl rfl (by decide) ⟨rfl, rfl, rfl⟩ (by omega) ?_
      rintro _ _ ⟨rfl, ho, hE⟩
      refine Ev.vret tX1_playerActs_22 rfl ?_
      refine ⟨rfl, ho, ?_⟩
      have e : ply D i = ut D (va_up (dt D) i (dt D i - 1)) := by unfold ply; rw [if_pos (by first | exact Or.inl hs | exact Or.inr ha)]
      rw [e]
      exact hE
theorem ev_guards (hY : YardAt w y D) (hI : YI D) (hd : 2 ≤ d) {i : Nat} (hi : i < dn D) : Cl l d MX1_guards [mR 1 y, mI (nI i)] w (fun r u => r = none ∧ Off y w u ∧ YardAt u y (match nrst (ds D) (fun o => far (dc D i) (dc D o)) (dn D) with
    | some a => if 1 < far (dc D i) (dc D a) then uc D (va_up (dc D) i (twd (dc D i) (dc D a))) else D
    | none => D)) := by
  show Ev l d MX1_guards 0 [some (mR 1 y), some (mI (nI i)), none] [] w _
  have h8 := hI.1
  have hi8 : i < 8 := by omega
  have hci := hI.cl hi
  have hnr := ev_nearest (l := l) (d := d - 1) hY hI (by omega) hi (ds D)
  cases hn : nrst (ds D) (fun o => far (dc D i) (dc D o)) (dn D) with
  | none =>
    rw [hn] at hnr
    refine Ev.blk kX1_guards_0 rfl trivial ?_
    simp only [hY.s]
    refine Ev.cV (d1 := d - 1) (hnr) tX1_guards_6 qX1_139 rfl rfl (by decide) ⟨rfl, rfl, rfl⟩ (by omega) ?_
    rintro _ _ ⟨rfl, rfl⟩
    refine Ev.blk kX1_guards_9 rfl trivial ?_
    refine Ev.br tX1_guards_12 rfl (fun c12 => ?_) (fun c12 => ?_)
    · refine Ev.vret tX1_guards_45 rfl ?_
      exact ⟨rfl, Off.rf, hY⟩
    · exact absurd rfl c12
  | some a =>
    rw [hn] at hnr
    have hal := (nrst_spec hn).1
    have ha8 : a < 8 := by omega
    have hca := hI.cl hal
    have hfl := far_le _ hci _ hca
    dsimp only
    refine Ev.blk kX1_guards_0 rfl trivial ?_
    simp only [hY.s]
    refine Ev.cV (d1 := d - 1) (hnr) tX1_guards_6 qX1_139 rfl rfl (by decide) ⟨rfl, rfl, rfl⟩ (by omega) ?_
    rintro _ _ ⟨rfl, rfl⟩
    refine Ev.blk kX1_guards_9 rfl trivial ?_
    refine Ev.br tX1_guards_12 rfl (fun c12 => ?_) (fun c12 => ?_)
    · exact absurd c12 (nI_nm1 (by omega))
    · try simp (disch := omega) only [nI_eq, nI_leI, nI_ltI, Classical.not_not] at c12
      show Ev l d MX1_guards 15 [_, _, some (mI (nI a))] [] _ _
      refine Ev.blk kX1_guards_15 rfl ⟨⟨trivial, vinN hi8 (by decide)⟩, vinN ha8 (by decide)⟩ ?_
      simp only [ix8 hi8, ix8 ha8, hY.c hi8, hY.c ha8]
      refine Ev.cS (d1 := d - 1) (ev_apart hci hca) tX1_guards_27 qX1_100 rfl ⟨rfl, rfl, rfl⟩ (by omega) ?_
      rintro _ _ ⟨rfl, rfl⟩
      refine Ev.blk kX1_guards_30 rfl trivial ?_
      refine Ev.br tX1_guards_31 rfl (fun c31 => ?_) (fun c31 => ?_)
      · try simp (disch := omega) only [nI_eq, nI_leI, nI_ltI, Classical.not_not] at c31
        refine Ev.vret tX1_guards_45 rfl ?_
        first
        | (rw [if_neg (by omega)]; exact ⟨rfl, Off.rf, hY⟩)
        | (rw [if_pos (by omega)]; exact ⟨rfl, ho, hE⟩)
      · try simp (disch := omega) only [nI_eq, nI_leI, nI_ltI, Classical.not_not] at c31
        refine Ev.blk kX1_guards_34 rfl ⟨trivial, vinN ha8 (by decide)⟩ ?_
        simp only [ix8 ha8, hY.c ha8]
        refine Ev.cV (d1 := d - 1) (ev_stepToward hY hI (by omega) hi hca) tX1_guards_42 qX1_142 rfl rfl (by decide) ⟨rfl, rfl, rfl⟩ (by omega) ?_
        rintro _ _ ⟨rfl, ho, hE⟩
        refine Ev.vret tX1_guards_45 rfl ?_
        first
        | (rw [if_neg (by omega)]; exact ⟨rfl, Off.rf, hY⟩)
        | (rw [if_pos (by omega)]; exact ⟨rfl, ho, hE⟩)
theorem ev_catcherActs (hY : YardAt w y D) (hI : YI D) (hd : 3 ≤ d) {i : Nat} (hi : i < dn D) (hk : isC D i = true) : Cl l d MX1_catcherActs [mR 1 y, mI (nI i)] w (fun r u => r = none ∧ Off y w u ∧ YardAt u y (cat D i)) := by
  show Ev l d MX1_catcherActs 0 [some (mR 1 y), some (mI (nI i)), none, none, none] [] w _
  have h8 := hI.1
  have hi8 : i < 8 := by omega
  have hci := hI.cl hi
  have hk8 := hI.kd hi
  have hse := hI.se
  have e3 : mrem (nI (de D)) (nI 3) = nI (de D % 3) := mrem_n (by omega) (by omega) (by omega)
  have hlb := ev_leastBeside (l := l) (d := d - 1) hY hI (by omega) hi (fun j => (plq D j && !ds D j) && !sfq D j)
  rw [show fst1 (fun o => ((plq D o && !ds D o) && !sfq D o) && decide (far (dc D i) (dc D o) ≤ 1)) (dn D) = fst1 (tch D i) (dn D) from fst1_congr (fun j hj => by
    unfold plq sfq tch rnr
    have e : decide (j < dn D) = true := by simp [hj]
    rw [e]
    cases isC D j <;> cases ds D j <;> cases (j == da D) <;> cases (dl D == 1 && edg (dc D j)) <;> simp)] at hlb
  have hnr := ev_nearest (l := l) (d := d - 1) hY hI (by omega) hi (fun j => plq D j && !ds D j)
  rw [show nrst (fun j => plq D j && !ds D j) (fun o => far (dc D i) (dc D o)) (dn D) = nrst (rnr D) (fun o => far (dc D i) (dc D o)) (dn D) from nrst_congr (fun j hj => by
    unfold plq rnr
    have e : decide (j < dn D) = true := by simp [hj]
    rw [e]
    simp) (fun _ _ => rfl)] at hnr
  have hz : (nI (bts (ds D) 8) = nI 0) = (nrst (ds D) (fun o => far (dc D i) (dc D o)) (dn D) = none) := by
    apply propext
    rw [b_eq0]
    constructor
    · intro h
      cases hn : nrst (ds D) (fun o => far (dc D i) (dc D o)) (dn D) with
      | none => rfl
      | some b =>
        obtain ⟨g1, g2⟩ := nrst_spec hn
        rw [h b (by omega)] at g2
        cases g2
    · intro h j hj
      cases hd : ds D j with
      | false => rfl
      | true =>
        have := nrst_no h j (hI.st hd).1
        rw [hd] at this
        cases this
  by_cases hbusy : dk D i = 7 ∧ de D % 3 = 0
  · have ec : cat D i = D := by unfold cat; rw [if_pos hbusy]
    rw [ec]
    refine Ev.blk kX1_catcherActs_0 rfl ⟨trivial, vinN hi8 (by decide)⟩ ?_
    simp only [ix8 hi8, hY.k hi8]
    refine Ev.br tX1_catcherActs_10 rfl (fun c10 => ?_) (fun c10 => ?_)
    · rw [nI_eq (by omega) (by omega)] at c10
      omega
    · try simp (disch := omega) only [nI_eq, nI_leI, nI_ltI, Classical.not_not] at c10
      refine Ev.blk kX1_catcherActs_13 rfl ⟨trivial, by decide⟩ ?_
      simp only [hY.e, e3]
      refine Ev.br tX1_catcherActs_19 rfl (fun c19 => ?_) (fun c19 => ?_)
      · rw [nI_eq (by omega) (by omega)] at c19
        omega
      · try simp (disch := omega) only [nI_eq, nI_leI, nI_ltI, Classical.not_not] at c19
        refine Ev.vret tX1_catcherActs_22 rfl ?_
        exact ⟨rfl, Off.rf, hY⟩
  · have go : Ev l d MX1_catcherActs 23 [some (mR 1 y), some (mI (nI i)), some (mI (nI (dk D i))), none, none] [] w (fun r u => r = none ∧ Off y w u ∧ YardAt u y (cat D i)) := by
      unfold cat
      rw [if_neg hbusy]
      cases ht : fst1 (tch D i) (dn D) with
      | some o =>
        rw [ht] at hlb
        have hol := (fst1_spec ht).1
        have ho8 : o < 8 := by omega
        refine Ev.blk kX1_catcherActs_23 rfl trivial ?_
        refine Ev.cV (d1 := d - 1) (ev_runningBits hY hI (by omega)) tX1_catcherActs_26 qX1_145 rfl rfl (by decide) ⟨rfl, rfl, rfl⟩ (by omega) ?_
        rintro _ _ ⟨rfl, rfl⟩
        refine Ev.blk kX1_catcherActs_29 rfl trivial ?_
        refine Ev.cV (d1 := d - 1) (ev_safeBits hY hI (by omega)) tX1_catcherActs_30 qX1_148 rfl rfl (by decide) ⟨rfl, rfl, rfl⟩ (by omega) ?_
        rintro _ _ ⟨rfl, rfl⟩
        refine Ev.blk kX1_catcherActs_33 rfl trivial ?_
        rw [b_andn]
        refine Ev.cV (d1 := d - 1) (hlb) tX1_catcherActs_36 qX1_96 rfl rfl (by decide) ⟨rfl, rfl, rfl⟩ (by omega) ?_
        rintro _ _ ⟨rfl, rfl⟩
        refine Ev.blk kX1_catcherActs_39 rfl trivial ?_
        refine Ev.br tX1_catcherActs_42 rfl (fun c42 => ?_) (fun c42 => ?_)
        · exact absurd c42 (nI_nm1 (by omega))
        · show Ev l d MX1_catcherActs 45 [_, _, _, some (mI (nI o)), _] [] _ _
          refine Ev.blk kX1_catcherActs_45 rfl trivial ?_
          rw [hY.s, b_or ho8]
          refine Ev.jmp tX1_catcherActs_57 ?_
          refine Ev.vret tX1_catcherActs_123 rfl ?_
          exact ⟨rfl, Off.pf, hY.pS⟩
      | none =>
        rw [ht] at hlb
        have hun : Ev l d MX1_catcherActs 94 [some (mR 1 y), some (mI (nI i)), some (mI (nI (dk D i))), some (mI (oM1 none)), none] [] w (fun r u => r = none ∧ Off y w u ∧ YardAt u y (match nrst (rnr D) (fun o => far (dc D i) (dc D o)) (dn D) with
            | some b => uc D (va_up (dc D) i (twd (dc D i) (dc D b)))
            | none => D)) := by
          cases hn : nrst (rnr D) (fun o => far (dc D i) (dc D o)) (dn D) with
          | none =>
            rw [hn] at hnr
            refine Ev.blk kX1_catcherActs_94 rfl trivial ?_
            refine Ev.cV (d1 := d - 1) (ev_runningBits hY hI (by omega)) tX1_catcherActs_97 qX1_145 rfl rfl (by decide) ⟨rfl, rfl, rfl⟩ (by omega) ?_
            rintro _ _ ⟨rfl, rfl⟩
            refine Ev.cV (d1 := d - 1) (hnr) tX1_catcherActs_100 qX1_139 rfl rfl (by decide) ⟨rfl, rfl, rfl⟩ (by omega) ?_
            rintro _ _ ⟨rfl, rfl⟩
            refine Ev.blk kX1_catcherActs_103 rfl trivial ?_
            refine Ev.br tX1_catcherActs_108 rfl (fun c108 => ?_) (fun c108 => ?_)
            · refine Ev.vret tX1_catcherActs_123 rfl ?_
              exact ⟨rfl, Off.rf, hY⟩
            · exact absurd rfl c108
          | some b =>
            rw [hn] at hnr
            have hbl := (nrst_spec hn).1
            have hb8 : b < 8 := by omega
            refine Ev.blk kX1_catcherActs_94 rfl trivial ?_
            refine Ev.cV (d1 := d - 1) (ev_runningBits hY hI (by omega)) tX1_catcherActs_97 qX1_145 rfl rfl (by decide) ⟨rfl, rfl, rfl⟩ (by omega) ?_
            rintro _ _ ⟨rfl, rfl⟩
            refine Ev.cV (d1 := d - 1) (hnr) tX1_catcherActs_100 qX1_139 rfl rfl (by decide) ⟨rfl, rfl, rfl⟩ (by omega) ?_
            rintro _ _ ⟨rfl, rfl⟩
            refine Ev.blk kX1_catcherActs_103 rfl trivial ?_
            refine Ev.br tX1_catcherActs_108 rfl (fun c108 => ?_) (fun c108 => ?_)
            · exact absurd c108 (nI_nm1 (by omega))
            · show Ev l d MX1_catcherActs 111 [_, _, _, _, some (mI (nI b))] [] _ _
              refine Ev.blk kX1_catcherActs_111 rfl ⟨trivial, vinN hb8 (by decide)⟩ ?_
              simp only [ix8 hb8, hY.c hb8]
              refine Ev.cV (d1 := d - 1) (ev_stepToward hY hI (by omega) hi (hI.cl hbl)) tX1_catcherActs_120 qX1_142 rfl rfl (by decide) ⟨rfl, rfl, rfl⟩ (by omega) ?_
              rintro _ _ ⟨rfl, ho, hE⟩
              refine Ev.vret tX1_catcherActs_123 rfl ?_
              exact ⟨rfl, ho, hE⟩
        have hgd := ev_guards (l := l) (d := d - 1) hY hI (by omega) hi
        cases hs : nrst (ds D) (fun o => far (dc D i) (dc D o)) (dn D) with
        | none =>
          rw [hs] at hz
          refine Ev.blk kX1_catcherActs_23 rfl trivial ?_
          refine Ev.cV (d1 := d - 1) (ev_runningBits hY hI (by omega)) tX1_catcherActs_26 qX1_145 rfl rfl (by decide) ⟨rfl, rfl, rfl⟩ (by omega) ?_
          rintro _ _ ⟨rfl, rfl⟩
          refine Ev.blk kX1_catcherActs_29 rfl trivial ?_
          refine Ev.cV (d1 := d - 1) (ev_safeBits hY hI (by omega)) tX1_catcherActs_30 qX1_148 rfl rfl (by decide) ⟨rfl, rfl, rfl⟩ (by omega) ?_
          rintro _ _ ⟨rfl, rfl⟩
          refine Ev.blk kX1_catcherActs_33 rfl trivial ?_
          rw [b_andn]
          refine Ev.cV (d1 := d - 1) (hlb) tX1_catcherActs_36 qX1_96 rfl rfl (by decide) ⟨rfl, rfl, rfl⟩ (by omega) ?_
          rintro _ _ ⟨rfl, rfl⟩
          refine Ev.blk kX1_catcherActs_39 rfl trivial ?_
          refine Ev.br tX1_catcherActs_42 rfl (fun c42 => ?_) (fun c42 => ?_)
          · refine Ev.blk kX1_catcherActs_60 rfl trivial ?_
            refine Ev.br tX1_catcherActs_63 rfl (fun c63 => ?_) (fun c63 => ?_)
            · refine Ev.blk kX1_catcherActs_74 rfl trivial ?_
              refine Ev.br tX1_catcherActs_76 rfl (fun c76 => ?_) (fun c76 => ?_)
              · exact hun
              · refine Ev.blk kX1_catcherActs_79 rfl trivial ?_
                rw [hY.s]
                refine Ev.br tX1_catcherActs_83 rfl (fun c83 => ?_) (fun c83 => ?_)
                · exact hun
                · exact absurd (by rw [hz]) c83
            · refine Ev.blk kX1_catcherActs_66 rfl trivial ?_
              rw [hY.s]
              refine Ev.br tX1_catcherActs_70 rfl (fun c70 => ?_) (fun c70 => ?_)
              · refine Ev.blk kX1_catcherActs_74 rfl trivial ?_
                refine Ev.br tX1_catcherActs_76 rfl (fun c76 => ?_) (fun c76 => ?_)
                · exact hun
                · refine Ev.blk kX1_catcherActs_79 rfl trivial ?_
                  rw [hY.s]
                  refine Ev.br tX1_catcherActs_83 rfl (fun c83 => ?_) (fun c83 => ?_)
                  · exact hun
                  · exact absurd (by rw [hz]) c83
              · exact absurd (by rw [hz]) c70
          · exact absurd rfl c42
        | some a =>
          rw [hs] at hz hgd
          dsimp only at hgd ⊢
          refine Ev.blk kX1_catcherActs_23 rfl trivial ?_
          refine Ev.cV (d1 := d - 1) (ev_runningBits hY hI (by omega)) tX1_catcherActs_26 qX1_145 rfl rfl (by decide) ⟨rfl, rfl, rfl⟩ (by omega) ?_
          rintro _ _ ⟨rfl, rfl⟩
          refine Ev.blk kX1_catcherActs_29 rfl trivial ?_
          refine Ev.cV (d1 := d - 1) (ev_safeBits hY hI (by omega)) tX1_catcherActs_30 qX1_148 rfl rfl (by decide) ⟨rfl, rfl, rfl⟩ (by omega) ?_
          rintro _ _ ⟨rfl, rfl⟩
          refine Ev.blk kX1_catcherActs_33 rfl trivial ?_
          rw [b_andn]
          refine Ev.cV (d1 := d - 1) (hlb) tX1_catcherActs_36 qX1_96 rfl rfl (by decide) ⟨rfl, rfl, rfl⟩ (by omega) ?_
          rintro _ _ ⟨rfl, rfl⟩
          refine Ev.blk kX1_catcherActs_39 rfl trivial ?_
          refine Ev.br tX1_catcherActs_42 rfl (fun c42 => ?_) (fun c42 => ?_)
          · try simp (disch := omega) only [nI_eq, nI_leI, nI_ltI, Classical.not_not] at c42
            refine Ev.blk kX1_catcherActs_60 rfl trivial ?_
            refine Ev.br tX1_catcherActs_63 rfl (fun c63 => ?_) (fun c63 => ?_)
            · try simp (disch := omega) only [nI_eq, nI_leI, nI_ltI, Classical.not_not] at c63
              refine Ev.blk kX1_catcherActs_74 rfl trivial ?_
              refine Ev.br tX1_catcherActs_76 rfl (fun c76 => ?_) (fun c76 => ?_)
              · try simp (disch := omega) only [nI_eq, nI_leI, nI_ltI, Classical.not_not] at c76
                rw [if_neg (by omega), if_neg (by omega)]
                exact hun
              · try simp (disch := omega) only [nI_eq, nI_leI, nI_ltI, Classical.not_not] at c76
                refine Ev.blk kX1_catcherActs_79 rfl trivial ?_
                rw [hY.s]
                refine Ev.br tX1_catcherActs_83 rfl (fun c83 => ?_) (fun c83 => ?_)
                · exact absurd c83 (by rw [hz]; exact fun z => by cases z)
                · try simp (disch := omega) only [nI_eq, nI_leI, nI_ltI, Classical.not_not] at c83
                  refine Ev.blk kX1_catcherActs_86 rfl trivial ?_
                  refine Ev.cV (d1 := d - 1) (hgd) tX1_catcherActs_88 qX1_151 rfl rfl (by decide) ⟨rfl, rfl, rfl⟩ (by omega) ?_
                  rintro _ _ ⟨rfl, ho, hE⟩
                  refine Ev.jmp tX1_catcherActs_91 ?_
                  refine Ev.vret tX1_catcherActs_123 rfl ?_
                  rw [if_neg (by omega), if_pos (by omega)]
                  exact ⟨rfl, ho, hE⟩
            · try simp (disch := omega) only [nI_eq, nI_leI, nI_ltI, Classical.not_not] at c63
              refine Ev.blk kX1_catcherActs_66 rfl trivial ?_
              rw [hY.s]
              refine Ev.br tX1_catcherActs_70 rfl (fun c70 => ?_) (fun c70 => ?_)
              · exact absurd c70 (by rw [hz]; exact fun z => by cases z)
              · try simp (disch := omega) only [nI_eq, nI_leI, nI_ltI, Classical.not_not] at c70
                refine Ev.vret tX1_catcherActs_73 rfl ?_
                rw [if_pos (by omega)]
                exact ⟨rfl, Off.rf, hY⟩
          · exact absurd rfl c42
    refine Ev.blk kX1_catcherActs_0 rfl ⟨trivial, vinN hi8 (by decide)⟩ ?_
    simp only [ix8 hi8, hY.k hi8]
    refine Ev.br tX1_catcherActs_10 rfl (fun c10 => ?_) (fun c10 => ?_)
    · try simp (disch := omega) only [nI_eq, nI_leI, nI_ltI, Classical.not_not] at c10
      exact go
    · try simp (disch := omega) only [nI_eq, nI_leI, nI_ltI, Classical.not_not] at c10
      refine Ev.blk kX1_catcherActs_13 rfl ⟨trivial, by decide⟩ ?_
      simp only [hY.e, e3]
      refine Ev.br tX1_catcherActs_19 rfl (fun c19 => ?_) (fun c19 => ?_)
      · try simp (disch := omega) only [nI_eq, nI_leI, nI_ltI, Classical.not_not] at c19
        exact go
      · try simp (disch := omega) only [nI_eq, nI_leI, nI_ltI, Classical.not_not] at c19
        refine Ev.vret tX1_catcherActs_22 rfl ?_
        exact absurd ⟨by omega, by omega⟩ hbusy
theorem ev_pass (hY : YardAt w y D) (hI : YI D) (hd : 5 ≤ d) : Cl l d MX1_pass [mR 1 y] w (fun r u => r = none ∧ Off y w u ∧ YardAt u y (pass D)) := by
  show Ev l d MX1_pass 0 [some (mR 1 y), none] [] w _
  have h8 := hI.1
  have hse := hI.se
  have hlw := hI.lw
  have e3 : mrem (nI (de D)) (nI 10) = nI (de D % 10) := mrem_n (by omega) (by omega) (by omega)
  have kp := tnth_Kp (D := D)
  have go : ∀ u, Off y w u → YardAt u y (tnth D) → Ev l d MX1_pass 23 [some (mR 1 y), none] [] u (fun r u => r = none ∧ Off y w u ∧ YardAt u y (pass D)) := by
    intro u ho hE
    refine Ev.blk kX1_pass_23 rfl trivial ?_
    refine Ev.for (fun j L v => Off y w v ∧ YardAt v y (actN (tnth D) j) ∧ L = [some (mR 1 y), some (mI (nI j))]) (dn D) ?_ ?_ 0 (Nat.zero_le _) ⟨ho, hE, rfl⟩
    · rintro L v ⟨ho, hE, rfl⟩
      have kn := (kp.tr (actN_Kp (D := tnth D) (dn D)))
      have hn : mgf v 1 y 5 = nI (dn D) := by rw [← kn.2.2.1]; exact hE.n
      have he : mgf v 1 y 8 = nI (de D) := by rw [← kn.2.2.2.2.1]; exact hE.e
      refine Ev.blk kX1_pass_25 rfl trivial ?_
      simp only [hn]
      refine Ev.br tX1_pass_30 rfl (fun c30 => ?_) (fun c30 => ?_)
      · refine Ev.blk kX1_pass_60 rfl trivial ?_
        rw [he, nI_add]
        refine Ev.vret tX1_pass_70 rfl ?_
        exact ⟨rfl, ho.tr Off.pf, hE.pE⟩
      · exact absurd (nI_le (Nat.le_refl _) (by omega)) c30
    · rintro j L v hj ⟨ho, hE, rfl⟩ k
      have kn := (kp.tr (actN_Kp (D := tnth D) j))
      have hEI := actN_YI (tnth_YI hI) j (by rw [kp.2.2.1]; omega)
      have hn : mgf v 1 y 5 = nI (dn D) := by rw [← kn.2.2.1]; exact hE.n
      have hjn : j < dn (actN (tnth D) j) := by rw [kn.2.2.1]; exact hj
      refine Ev.blk kX1_pass_25 rfl trivial ?_
      simp only [hn]
      refine Ev.br tX1_pass_30 rfl (fun c30 => ?_) (fun c30 => ?_)
      · exact absurd c30 (nI_ge hj (by omega))
      · refine Ev.blk kX1_pass_33 rfl trivial ?_
        refine Ev.cV (d1 := d - 1) (ev_isCatcher hE hEI (by omega) hjn) tX1_pass_35 qX1_80 rfl rfl (by decide) ⟨rfl, rfl, rfl⟩ (by omega) ?_
        rintro _ _ ⟨rfl, rfl⟩
        refine Ev.br tX1_pass_38 rfl (fun c38 => ?_) (fun c38 => ?_)
        · rw [bI_0] at c38
          refine Ev.blk kX1_pass_49 rfl trivial ?_
          refine Ev.cV (d1 := d - 1) (ev_playerActs hE hEI (by omega) hjn c38) tX1_pass_51 qX1_114 rfl rfl (by decide) ⟨rfl, rfl, rfl⟩ (by omega) ?_
          rintro _ _ ⟨rfl, ho2, hF⟩
          refine Ev.blk kX1_pass_54 rfl trivial ?_
          refine Ev.jmp tX1_pass_57 ?_
          refine k _ _ ⟨ho.tr ho2, ?_, by rw [nI_add]⟩
          show YardAt _ y (act (actN (tnth D) j) j)
          unfold act
          first
            | (rw [if_pos hC]; exact hF)
            | (rw [if_neg (by rw [c38]; decide)]; exact hF)
        · rw [bI_0] at c38
          have hC : isC (actN (tnth D) j) j = true := by cases hz : isC (actN (tnth D) j) j; exact absurd hz c38; rfl
          refine Ev.blk kX1_pass_41 rfl trivial ?_
          refine Ev.cV (d1 := d - 1) (ev_catcherActs hE hEI (by omega) hjn hC) tX1_pass_43 qX1_111 rfl rfl (by decide) ⟨rfl, rfl, rfl⟩ (by omega) ?_
          rintro _ _ ⟨rfl, ho2, hF⟩
          refine Ev.jmp tX1_pass_46 ?_
          refine Ev.blk kX1_pass_54 rfl trivial ?_
          refine Ev.jmp tX1_pass_57 ?_
          refine k _ _ ⟨ho.tr ho2, ?_, by rw [nI_add]⟩
          show YardAt _ y (act (actN (tnth D) j) j)
          unfold act
          first
            | (rw [if_pos hC]; exact hF)
            | (rw [if_neg (by rw [c38]; decide)]; exact hF)
  refine Ev.blk kX1_pass_0 rfl trivial ?_
  simp only [hY.l]
  refine Ev.br tX1_pass_5 rfl (fun c5 => ?_) (fun c5 => ?_)
  · try simp (disch := omega) only [nI_eq, nI_leI, nI_ltI, Classical.not_not] at c5
    first
    | exact go _ Off.pf (by
        unfold tnth
        rw [if_pos ⟨by omega, by omega⟩]
        exact hY.pS)
    | exact go _ Off.rf (by
        unfold tnth
        rw [if_neg (by omega)]
        exact hY)
  · try simp (disch := omega) only [nI_eq, nI_leI, nI_ltI, Classical.not_not] at c5
    refine Ev.blk kX1_pass_8 rfl ⟨trivial, by decide⟩ ?_
    simp only [hY.e, e3]
    refine Ev.br tX1_pass_15 rfl (fun c15 => ?_) (fun c15 => ?_)
    · try simp (disch := omega) only [nI_eq, nI_leI, nI_ltI, Classical.not_not] at c15
      first
      | exact go _ Off.pf (by
          unfold tnth
          rw [if_pos ⟨by omega, by omega⟩]
          exact hY.pS)
      | exact go _ Off.rf (by
          unfold tnth
          rw [if_neg (by omega)]
          exact hY)
    · try simp (disch := omega) only [nI_eq, nI_leI, nI_ltI, Classical.not_not] at c15
      refine Ev.blk kX1_pass_18 rfl trivial ?_
      rw [b_zero]
      first
      | exact go _ Off.pf (by
          unfold tnth
          rw [if_pos ⟨by omega, by omega⟩]
          exact hY.pS)
      | exact go _ Off.rf (by
          unfold tnth
          rw [if_neg (by omega)]
          exact hY)
theorem ev_passMany (hY : YardAt w y D) (hI : YI D) (hd : 6 ≤ d) {n : Nat} (hn : n < 1000) (he : de D + n < 100000) : Cl l d MX1_passMany [mR 1 y, mI (nI n)] w (fun r u => r = none ∧ Off y w u ∧ YardAt u y (passN D n)) := by
  show Ev l d MX1_passMany 0 [some (mR 1 y), some (mI (nI n)), none] [] w _
  refine Ev.blk kX1_passMany_0 rfl trivial ?_
  refine Ev.for (fun j L v => Off y w v ∧ YardAt v y (passN D j) ∧ L = [some (mR 1 y), some (mI (nI n)), some (mI (nI j))]) n ?_ ?_ 0 (Nat.zero_le _) ⟨Off.rf, hY, rfl⟩
  · rintro L v ⟨ho, hE, rfl⟩
    refine Ev.blk kX1_passMany_2 rfl trivial ?_
    refine Ev.br tX1_passMany_4 rfl (fun c4 => ?_) (fun c4 => ?_)
    · refine Ev.vret tX1_passMany_17 rfl ?_
      exact ⟨rfl, ho, hE⟩
    · exact absurd (nI_le (Nat.le_refl _) (by omega)) c4
  · rintro j L v hj ⟨ho, hE, rfl⟩ k
    refine Ev.blk kX1_passMany_2 rfl trivial ?_
    refine Ev.br tX1_passMany_4 rfl (fun c4 => ?_) (fun c4 => ?_)
    · exact absurd c4 (nI_ge hj (by omega))
    · refine Ev.blk kX1_passMany_7 rfl trivial ?_
      refine Ev.cV (d1 := d - 1) (ev_pass hE (passN_YI hI j (by omega)) (by omega)) tX1_passMany_8 qX1_108 rfl rfl (by decide) ⟨rfl, rfl, rfl⟩ (by omega) ?_
      rintro _ _ ⟨rfl, ho2, hF⟩
      refine Ev.blk kX1_passMany_11 rfl trivial ?_
      refine Ev.jmp tX1_passMany_14 ?_
      exact k _ _ ⟨ho.tr ho2, hF, by rw [nI_add]⟩
end Y6
