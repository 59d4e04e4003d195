/-! ===== the class's yard: the rest ===== -/
/-- how many are no catchers -/
def plN (D : Yd) : Nat := cnt (fun j => !isC D j) (dn D)
def hasP (D : Yd) : Bool := !(plN D == 0)
def ovr (D : Yd) : Bool := hasP D && !(decide (cnt (ds D) 8 < plN D))
def addB (D : Yd) (k c f : Nat) : Bool := decide (k < 8) && (decide (c < 24) && (decide (f < 8) && decide (dn D < 8)))
def addY (D : Yd) (k c f : Nat) : Yd := un (uf (uc (uk D (va_up (dk D) (dn D) k)) (va_up (dc D) (dn D) c)) (va_up (df D) (dn D) f)) (dn D + 1)
def oM9 : Option Nat → Int32
  | some t => nI t
  | none => -9
def lz (z : Int32) : Int32 := z * nI 1664525 + nI 1013904223
def lcl (z : Int32) : Nat := (z &&& nI 2147483647).toNatClampNeg / 256 % 24
def sct (D : Yd) (z : Int32) : Nat → Int32 × (Nat → Nat)
  | 0 => (z, dc D)
  | j + 1 => (lz (sct D z j).1, va_up (sct D z j).2 j (lcl (lz (sct D z j).1)))
def hfr (D : Yd) (i : Nat) : Bool := (fst1 (fun o => !(o == i) && mayK D o i) (dn D)).isSome
theorem lcl_ok (z : Int32) : mrem ((z &&& nI 2147483647) / nI 256) (nI 24) = nI (lcl z) := by
  obtain ⟨j, hj, e⟩ := pk_andE z (m := nI 2147483647) 31 (by decide)
  unfold lcl
  rw [e, nI_clamp hj, pk_div hj (by omega) (by omega), mrem_n (by omega) (by omega) (by omega)]
theorem cnt_mono {p q : Nat → Bool} (h : ∀ j, p j = true → q j = true) : ∀ n, cnt p n ≤ cnt q n
  | 0 => Nat.le_refl _
  | n + 1 => by
    have := cnt_mono h n
    show cnt p n + (if p n = true then 1 else 0) ≤ cnt q n + (if q n = true then 1 else 0)
    by_cases hp : p n = true
    · rw [if_pos hp, if_pos (h n hp)]; omega
    · rw [if_neg hp]; split <;> omega
theorem cnt_eq_iff {p q : Nat → Bool} (h : ∀ j, p j = true → q j = true) : ∀ n, cnt q n ≤ cnt p n → ∀ j, j < n → p j = q j
  | 0, _, j, hj => by omega
  | n + 1, hc, j, hj => by
    have hm := cnt_mono h n
    have hc : cnt q n + (if q n = true then 1 else 0) ≤ cnt p n + (if p n = true then 1 else 0) := hc
    have hn : p n = q n := by
      cases hp : p n with
      | true => rw [h n hp]
      | false =>
        cases hq : q n with
        | false => rfl
        | true => rw [hp, hq] at hc; simp at hc; omega
    by_cases e : j = n
    · subst e; exact hn
    · rw [hn] at hc
      exact cnt_eq_iff h n (by omega) j (by omega)
theorem cnt_pl {D : Yd} (hI : YI D) : cnt (plq D) 8 = plN D := by
  unfold plN
  rw [cnt_cut (n := dn D) (fun j hj => by unfold plq at hj; simp at hj; exact hj.1) hI.1]
  exact cnt_congr (fun j hj => by unfold plq; simp [hj])
theorem pl_zero {D : Yd} (hI : YI D) : (nI (bts (plq D) 8) = nI 0) = (plN D = 0) := by
  apply propext
  rw [b_eq0, ← cnt_pl hI]
  constructor
  · intro h
    rw [cnt_congr (q' := fun _ => false) h]
    rfl
  · intro h j hj
    exact (cnt_eq_iff (p := fun _ => false) (q := plq D) (fun _ z => by cases z) 8 (by rw [h]; exact Nat.zero_le _) j hj).symm
theorem ds_pl {D : Yd} (hI : YI D) : ∀ j, ds D j = true → plq D j = true := fun j h => by
  obtain ⟨h1, h2⟩ := hI.st h
  unfold plq isC
  simp
  omega
theorem pl_all {D : Yd} (hI : YI D) : (nI (bts (ds D) 8) = nI (bts (plq D) 8)) = ¬ (cnt (ds D) 8 < plN D) := by
  apply propext
  rw [b_inj, ← cnt_pl hI]
  constructor
  · intro h
    rw [cnt_congr h]
    omega
  · intro h j hj
    exact cnt_eq_iff (ds_pl hI) 8 (by omega) j hj
theorem sumN_congr {f g : Nat → Nat} : ∀ {n : Nat}, (∀ j, j < n → f j = g j) → sumN f n = sumN g n
  | 0, _ => rfl
  | n + 1, h => by
    unfold sumN
    rw [sumN_congr (fun j hj => h j (by omega)), h n (by omega)]
theorem hasI_nat {D : Yd} {i : Nat} (hi : i < 1000) (h8 : dn D ≤ 8) : hasI D (nI i) = decide (i < dn D) := by
  unfold hasI
  apply decide_eq_decide.mpr
  rw [nI_leI (by omega) (by omega), nI_ltI (by omega) (by omega)]
  omega
theorem frb_at {D : Yd} (hI : YI D) {o i : Nat} (ho : o < dn D) (hi : i < 8) : mshr (frb D o) (nI i) &&& nI 1 = nI (if mayK D o i then 1 else 0) := by
  unfold frb mayK
  by_cases h1 : dk D o = 1
  · rw [if_pos h1, tb_m1b i hi]; simp [h1]
  · rw [if_neg h1]
    by_cases h2 : dk D o = 2
    · rw [if_pos h2, b_pow (hI.fr ho), b_at hi]
      have : (i == df D o) = (df D o == i) := by
        by_cases e : i = df D o
        · subst e; rfl
        · rw [beq_eq_false_iff_ne.mpr e, beq_eq_false_iff_ne.mpr (Ne.symm e)]
      simp [h2, this]
    · rw [if_neg h2, b_zero, b_at hi]
      simp [h1, h2]
theorem s_len : ∀ k, k < 6 → mshr (nI (sLen.getD k 0)) 0 = nI (sLen.getD k 0) := by decide
section Y7
variable {l : Launch} {d : Nat} {w : mW} {y : Nat} {D : Yd}
theorem ev_coder (k : Nat) : Cl l d MJ0_coder_7d493 [mR 30 k] w (fun r u => u = w ∧ r = some (mI 0)) := by
  show Ev l d MJ0_coder_7d493 0 [some (mR 30 k)] [] w _
  refine Ev.blk kJ0_coder_7d493_0 rfl trivial ?_
  refine Ev.br tJ0_coder_7d493_3 rfl (fun c3 => ?_) (fun c3 => ?_)
  · exact absurd c3 (by decide)
  · refine Ev.blk kJ0_coder_7d493_6 rfl trivial ?_
    refine Ev.jmp tJ0_coder_7d493_10 ?_
    refine Ev.iret tJ0_coder_7d493_14 rfl rfl ?_
    exact ⟨rfl, rfl⟩
theorem ev_strlen (hd : 1 ≤ d) {k : Nat} (hk : k < 6) : Cl l d MJ0_length_8abf5 [mR 30 k] w (fun r u => u = w ∧ r = some (mI (nI (sLen.getD k 0)))) := by
  show Ev l d MJ0_length_8abf5 0 [some (mR 30 k)] [] w _
  refine Ev.blk kJ0_length_8abf5_0 rfl trivial ?_
  refine Ev.cV (d1 := d - 1) (ev_coder k) tJ0_length_8abf5_6 qJ0_335 rfl rfl (by decide) ⟨rfl, rfl, rfl⟩ (by omega) ?_
  rintro _ _ ⟨rfl, rfl⟩
  refine Ev.blk kJ0_length_8abf5_9 rfl trivial ?_
  rw [s_len k hk]
  refine Ev.iret tJ0_length_8abf5_10 rfl rfl ?_
  exact ⟨rfl, rfl⟩
theorem ev_copyFrom {z : Nat} (hyz : y ≠ z) (hZ : YardAt w z D) (hd : 1 ≤ d) : Cl l d MX1_copyFrom [mR 1 y, mR 1 z] w (fun r u => r = none ∧ Off y w u ∧ YardAt u y (ua (ug D 0) 99)) := by
  show Ev l d MX1_copyFrom 0 [some (mR 1 y), some (mR 1 z)] [] w _
  have hzy : z ≠ y := Ne.symm hyz
  have c8 : (nI 8).toNatClampNeg = 8 := by decide
  have c64 : (nI 64).toNatClampNeg = 64 := by decide
  have c0 : (nI 0).toNatClampNeg = 0 := by decide
  have cp : ∀ (f g : Nat → Int32) (n j : Nat), j < n → va_cpy f g 0 0 n j = f j := fun f g n j hj => by
    rw [pk_cpy_in (Nat.zero_le _) (by omega)]
    simp
  refine Ev.blk kX1_copyFrom_0 rfl trivial ?_
  refine Ev.acp tX1_copyFrom_12 qX1_31 ⟨by decide, by decide, rfl, rfl⟩ ⟨by decide, by decide, by decide, by decide, by decide⟩ (by omega) (Nat.le_of_ble_eq_true rfl) ?_
  refine Ev.blk kX1_copyFrom_15 rfl trivial ?_
  refine Ev.acp tX1_copyFrom_27 qX1_31 ⟨by decide, by decide, rfl, rfl⟩ ⟨by decide, by decide, by decide, by decide, by decide⟩ (by omega) (Nat.le_of_ble_eq_true rfl) ?_
  refine Ev.blk kX1_copyFrom_30 rfl trivial ?_
  refine Ev.acp tX1_copyFrom_42 qX1_31 ⟨by decide, by decide, rfl, rfl⟩ ⟨by decide, by decide, by decide, by decide, by decide⟩ (by omega) (Nat.le_of_ble_eq_true rfl) ?_
  refine Ev.blk kX1_copyFrom_45 rfl trivial ?_
  refine Ev.acp tX1_copyFrom_57 qX1_31 ⟨by decide, by decide, rfl, rfl⟩ ⟨by decide, by decide, by decide, by decide, by decide⟩ (by omega) (Nat.le_of_ble_eq_true rfl) ?_
  refine Ev.blk kX1_copyFrom_60 rfl trivial ?_
  refine Ev.acp tX1_copyFrom_72 qX1_31 ⟨by decide, by decide, rfl, rfl⟩ ⟨by decide, by decide, by decide, by decide, by decide⟩ (by omega) (Nat.le_of_ble_eq_true rfl) ?_
  refine Ev.blk kX1_copyFrom_75 rfl trivial ?_
  refine Ev.vret tX1_copyFrom_117 rfl ?_
  refine ⟨rfl, ?_, ?_⟩
  · exact (Off.pA (by decide)).tr ((Off.pA (by decide)).tr ((Off.pA (by decide)).tr ((Off.pA (by decide)).tr ((Off.pA (by decide)).tr (Off.pf.tr (Off.pf.tr (Off.pf.tr (Off.pf.tr (Off.pf.tr Off.pf)))))))))
  · have n2 : ¬ (2 = 3 ∧ z = y) := by omega
    refine ⟨⟨fun j hj => ?_, fun j hj => ?_, fun j hj => ?_, fun j hj => ?_, fun j hj => ?_⟩, ?_, ?_, ?_, ?_, ?_, ?_⟩
    · simp only [mga_pf]
      simp (disch := omega) only [mga_pAn, mga_pA, c8, c0]
      rw [cp _ _ _ _ hj]
      exact hZ.k hj
    · simp only [mga_pf]
      simp (disch := omega) only [mga_pAn, mga_pA, c8, c0]
      rw [cp _ _ _ _ hj]
      exact hZ.c hj
    · simp only [mga_pf]
      simp (disch := omega) only [mga_pAn, mga_pA, c8, c0]
      rw [cp _ _ _ _ hj]
      exact hZ.f hj
    · simp only [mga_pf]
      simp (disch := omega) only [mga_pAn, mga_pA, c8, c0]
      rw [cp _ _ _ _ hj]
      exact hZ.t hj
    · simp only [mga_pf]
      simp (disch := omega) only [mga_pAn, mga_pA, c64, c0]
      rw [cp _ _ _ _ hj]
      exact hZ.r hj
    · simp (disch := omega) only [mgf_pfn, mgf_pf, mgf_pA]
      exact hZ.n
    · simp (disch := omega) only [mgf_pfn, mgf_pf, mgf_pA]
      exact hZ.s
    · simp (disch := omega) only [mgf_pfn, mgf_pf, mgf_pA]
      exact hZ.l
    · simp (disch := omega) only [mgf_pfn, mgf_pf, mgf_pA]
      exact hZ.e
    · simp (disch := omega) only [mgf_pfn, mgf_pf, mgf_pA]
      rfl
    · simp (disch := omega) only [mgf_pfn, mgf_pf, mgf_pA]
      rfl
theorem ev_tiredSum (hY : YardAt w y D) (hI : YI D) : Cl l d MX1_tiredSum [mR 1 y] w (fun r u => u = w ∧ r = some (mI (nI (sumN (dt D) (dn D))))) := by
  show Ev l d MX1_tiredSum 0 [some (mR 1 y), none, none] [] w _
  refine Ev.blk kX1_tiredSum_0 rfl trivial ?_
  have hn := hY.n
  have h8 := hI.1
  refine Ev.for (fun j L u => u = w ∧ L = [some (mR 1 y), some (mI (nI (sumN (dt D) j))), some (mI (nI j))]) (dn D) ?_ ?_ 0 (Nat.zero_le _) ⟨rfl, rfl⟩
  · rintro L u ⟨rfl, rfl⟩
    refine Ev.blk kX1_tiredSum_4 rfl trivial ?_
    simp only [hn]
    refine Ev.br tX1_tiredSum_9 rfl (fun c9 => ?_) (fun c9 => ?_)
    · refine Ev.blk kX1_tiredSum_27 rfl trivial ?_
      refine Ev.iret tX1_tiredSum_28 rfl rfl ?_
      exact ⟨rfl, rfl⟩
    · exact absurd (nI_le (Nat.le_refl _) (by omega)) c9
  · rintro j L u hj ⟨rfl, rfl⟩ k
    have hj8 : j < 8 := by omega
    refine Ev.blk kX1_tiredSum_4 rfl trivial ?_
    simp only [hn]
    refine Ev.br tX1_tiredSum_9 rfl (fun c9 => ?_) (fun c9 => ?_)
    · exact absurd c9 (nI_ge hj (by omega))
    · refine Ev.blk kX1_tiredSum_12 rfl ⟨trivial, vinN hj8 (by decide)⟩ ?_
      simp only [ix8 hj8, hY.t hj8, nI_add]
      refine Ev.jmp tX1_tiredSum_24 ?_
      exact k _ _ ⟨rfl, rfl⟩
theorem ev_freedSum (hY : YardAt w y D) : Cl l d MX1_freedSum [mR 1 y] w (fun r u => u = w ∧ r = some (mI (nI (sumN (dr D) 64)))) := by
  show Ev l d MX1_freedSum 0 [some (mR 1 y), none, none] [] w _
  refine Ev.blk kX1_freedSum_0 rfl trivial ?_
  refine Ev.for (fun j L u => u = w ∧ L = [some (mR 1 y), some (mI (nI (sumN (dr D) j))), some (mI (nI j))]) 64 ?_ ?_ 0 (Nat.zero_le _) ⟨rfl, rfl⟩
  · rintro L u ⟨rfl, rfl⟩
    refine Ev.blk kX1_freedSum_4 rfl trivial ?_
    refine Ev.br tX1_freedSum_10 rfl (fun c10 => ?_) (fun c10 => ?_)
    · refine Ev.blk kX1_freedSum_28 rfl trivial ?_
      refine Ev.iret tX1_freedSum_29 rfl rfl ?_
      exact ⟨rfl, rfl⟩
    · exact absurd (nI_le (Nat.le_refl _) (by decide)) c10
  · rintro j L u hj ⟨rfl, rfl⟩ k
    refine Ev.blk kX1_freedSum_4 rfl trivial ?_
    refine Ev.br tX1_freedSum_10 rfl (fun c10 => ?_) (fun c10 => ?_)
    · exact absurd c10 (nI_ge hj (by decide))
    · refine Ev.blk kX1_freedSum_13 rfl ⟨trivial, vinN hj (by decide)⟩ ?_
      simp only [ixN (show j < 1000 by omega), hY.r hj, nI_add]
      refine Ev.jmp tX1_freedSum_25 ?_
      exact k _ _ ⟨rfl, rfl⟩
theorem ev_hasPlayers (hY : YardAt w y D) (hI : YI D) (hd : 1 ≤ d) : Cl l d MX1_hasPlayers [mR 1 y] w (fun r u => u = w ∧ r = some (mI (bI (hasP D)))) := by
  show Ev l d MX1_hasPlayers 0 [some (mR 1 y)] [] w _
  refine Ev.blk kX1_hasPlayers_0 rfl trivial ?_
  refine Ev.cV (d1 := d - 1) (ev_playerBits hY hI) tX1_hasPlayers_1 qX1_62 rfl rfl (by decide) ⟨rfl, rfl, rfl⟩ (by omega) ?_
  rintro _ _ ⟨rfl, rfl⟩
  refine Ev.br tX1_hasPlayers_4 rfl (fun c4 => ?_) (fun c4 => ?_)
  · rw [pl_zero hI] at c4
    refine Ev.blk kX1_hasPlayers_11 rfl trivial ?_
    refine Ev.iret tX1_hasPlayers_12 rfl rfl ?_
    refine ⟨rfl, ?_⟩
    unfold hasP
    first
      | (rw [c4]; rfl)
      | (rw [beq_false_of_ne c4]; rfl)
  · rw [pl_zero hI] at c4
    refine Ev.blk kX1_hasPlayers_7 rfl trivial ?_
    refine Ev.jmp tX1_hasPlayers_8 ?_
    refine Ev.iret tX1_hasPlayers_12 rfl rfl ?_
    refine ⟨rfl, ?_⟩
    unfold hasP
    first
      | (rw [c4]; rfl)
      | (rw [beq_false_of_ne c4]; rfl)
theorem ev_isOver (hY : YardAt w y D) (hI : YI D) (hd : 2 ≤ d) : Cl l d MX1_isOver [mR 1 y] w (fun r u => u = w ∧ r = some (mI (bI (ovr D)))) := by
  show Ev l d MX1_isOver 0 [some (mR 1 y)] [] w _
  refine Ev.blk kX1_isOver_0 rfl trivial ?_
  refine Ev.cV (d1 := d - 1) (ev_hasPlayers hY hI (by omega)) tX1_isOver_1 qX1_66 rfl rfl (by decide) ⟨rfl, rfl, rfl⟩ (by omega) ?_
  rintro _ _ ⟨rfl, rfl⟩
  refine Ev.br tX1_isOver_4 rfl (fun c4 => ?_) (fun c4 => ?_)
  · rw [bI_0] at c4
    refine Ev.blk kX1_isOver_22 rfl trivial ?_
    refine Ev.iret tX1_isOver_23 rfl rfl ?_
    refine ⟨rfl, ?_⟩
    unfold ovr
    first
      | (rw [c4]; rfl)
      | (rw [hp, decide_eq_true (Decidable.not_not.mp c15)]; rfl)
      | (rw [hp, decide_eq_false (Decidable.not_not.mp c15)]; rfl)
  · rw [bI_0] at c4
    have hp : hasP D = true := by cases hz : hasP D; exact absurd hz c4; rfl
    refine Ev.blk kX1_isOver_7 rfl trivial ?_
    simp only [hY.s]
    refine Ev.cV (d1 := d - 1) (ev_playerBits hY hI) tX1_isOver_12 qX1_62 rfl rfl (by decide) ⟨rfl, rfl, rfl⟩ (by omega) ?_
    rintro _ _ ⟨rfl, rfl⟩
    refine Ev.br tX1_isOver_15 rfl (fun c15 => ?_) (fun c15 => ?_)
    · rw [pl_all hI] at c15
      refine Ev.blk kX1_isOver_22 rfl trivial ?_
      refine Ev.iret tX1_isOver_23 rfl rfl ?_
      refine ⟨rfl, ?_⟩
      unfold ovr
      first
        | (rw [c4]; rfl)
        | (rw [hp, decide_eq_true (Decidable.not_not.mp c15)]; rfl)
        | (rw [hp, decide_eq_false (Decidable.not_not.mp c15)]; rfl)
    · rw [pl_all hI] at c15
      refine Ev.blk kX1_isOver_18 rfl trivial ?_
      refine Ev.jmp tX1_isOver_19 ?_
      refine Ev.iret tX1_isOver_23 rfl rfl ?_
      refine ⟨rfl, ?_⟩
      unfold ovr
      first
        | (rw [c4]; rfl)
        | (rw [hp, decide_eq_true (Decidable.not_not.mp c15)]; rfl)
        | (rw [hp, decide_eq_false (Decidable.not_not.mp c15)]; rfl)
theorem ev_catcherCount (hY : YardAt w y D) (hI : YI D) (hd : 1 ≤ d) : Cl l d MX1_catcherCount [mR 1 y] w (fun r u => u = w ∧ r = some (mI (nI (dn D - plN D)))) := by
  show Ev l d MX1_catcherCount 0 [some (mR 1 y)] [] w _
  refine Ev.blk kX1_catcherCount_0 rfl trivial ?_
  simp only [hY.n]
  refine Ev.cV (d1 := d - 1) (ev_playerBits hY hI) tX1_catcherCount_5 qX1_62 rfl rfl (by decide) ⟨rfl, rfl, rfl⟩ (by omega) ?_
  rintro _ _ ⟨rfl, rfl⟩
  refine Ev.cS (d1 := d - 1) (ev_bitCount (plq D)) tX1_catcherCount_8 qX1_56 rfl ⟨rfl, rfl, rfl⟩ (by omega) ?_
  rintro _ _ ⟨rfl, rfl⟩
  refine Ev.blk kX1_catcherCount_11 rfl trivial ?_
  rw [cnt_pl hI, pk_sub (show plN D ≤ dn D from cnt_le _ _)]
  refine Ev.iret tX1_catcherCount_12 rfl rfl ?_
  exact ⟨rfl, rfl⟩
theorem ev_add (hY : YardAt w y D) (hI : YI D) (hd : 2 ≤ d) {k c f : Nat} (hk : k < 1000) (hc : c < 1000) (hf : f < 1000) : Cl l d MX1_add [mR 1 y, mI (nI k), mI (nI c), mI (nI f)] w (fun r u => r = some (mI (bI (addB D k c f))) ∧ Off y w u ∧ YardAt u y (if addB D k c f then addY D k c f else D)) := by
  show Ev l d MX1_add 0 [some (mR 1 y), some (mI (nI k)), some (mI (nI c)), some (mI (nI f)), none] [] w _
  have h8 := hI.1
  have no : addB D k c f = false → Ev l d MX1_add 51 [some (mR 1 y), some (mI (nI k)), some (mI (nI c)), some (mI (nI f)), some (mI (nI 0))] [] w (fun r u => r = some (mI (bI (addB D k c f))) ∧ Off y w u ∧ YardAt u y (if addB D k c f then addY D k c f else D)) ∧ Ev l d MX1_add 51 [some (mR 1 y), some (mI (nI k)), some (mI (nI c)), some (mI (nI f)), some (mI (nI 1))] [] w (fun r u => r = some (mI (bI (addB D k c f))) ∧ Off y w u ∧ YardAt u y (if addB D k c f then addY D k c f else D)) := by
    intro h
    rw [h]
    refine ⟨?_, ?_⟩
    · refine Ev.blk kX1_add_51 rfl trivial ?_
      exact Ev.iret tX1_add_52 rfl rfl ⟨rfl, Off.rf, hY⟩
    · refine Ev.blk kX1_add_51 rfl trivial ?_
      exact Ev.iret tX1_add_52 rfl rfl ⟨rfl, Off.rf, hY⟩
  have ok : k < 8 → c < 24 → f < 8 → Ev l d MX1_add 42 [some (mR 1 y), some (mI (nI k)), some (mI (nI c)), some (mI (nI f)), some (mI (nI 1))] [] w (fun r u => r = some (mI (bI (addB D k c f))) ∧ Off y w u ∧ YardAt u y (if addB D k c f then addY D k c f else D)) := by
    intro g1 g2 g3
    refine Ev.blk kX1_add_42 rfl trivial ?_
    simp only [hY.n]
    refine Ev.br tX1_add_48 rfl (fun c48 => ?_) (fun c48 => ?_)
    · rw [nI_ltI (by omega) (by omega)] at c48
      have hb : addB D k c f = true := by unfold addB; simp; omega
      have hn1 : ∀ (g : Nat → Int32) t, mgf (mpA w t y g) 1 y 5 = nI (dn D) := fun g t => hY.n
      rw [hb]
      refine Ev.blk kX1_add_53 rfl ⟨⟨⟨trivial, by rw [hY.n]; exact vinN c48 (by decide)⟩, by simp only [mgf_pA]; rw [hY.n]; exact vinN c48 (by decide)⟩, by simp only [mgf_pA]; rw [hY.n]; exact vinN c48 (by decide)⟩ ?_
      simp only [mgf_pA, hY.n, ix8 c48, nI_add]
      refine Ev.iret tX1_add_94 rfl rfl ⟨rfl, (Off.pA (by decide)).tr ((Off.pA (by decide)).tr ((Off.pA (by decide)).tr Off.pf)), ?_⟩
      have h1 := hY.pk (i := dn D) (v := k)
      have h2 := h1.pc (i := dn D) (v := c)
      have h3 := h2.pF (i := dn D) (v := f)
      exact h3.pN (x := dn D + 1)
    · rw [nI_ltI (by omega) (by omega)] at c48
      exact (no (by unfold addB; simp; omega)).2
  refine Ev.blk kX1_add_0 rfl trivial ?_
  refine Ev.br tX1_add_1 rfl (fun c1 => ?_) (fun c1 => ?_)
  · rw [nI_ltI (by omega) (by omega)] at c1
    omega
  · try simp (disch := omega) only [nI_eq, nI_leI, nI_ltI, Classical.not_not] at c1
    refine Ev.blk kX1_add_4 rfl trivial ?_
    refine Ev.cV (d1 := d - 1) (ev_strlen (k := 5) (by omega) (by decide)) tX1_add_7 qX1_72 rfl rfl (by decide) ⟨rfl, rfl, rfl⟩ (by omega) ?_
    rintro _ _ ⟨rfl, rfl⟩
    show Ev l d MX1_add 10 _ [mI (nI 8), mI (nI k)] _ _
    refine Ev.br tX1_add_10 rfl (fun c10 => ?_) (fun c10 => ?_)
    · try simp (disch := omega) only [nI_eq, nI_leI, nI_ltI, Classical.not_not] at c10
      refine Ev.blk kX1_add_34 rfl trivial ?_
      refine Ev.bb kX1_add_35 tX1_add_39 rfl rfl trivial (fun c39 => ?_) (fun c39 => ?_)
      · first
          | exact absurd c39 (by decide)
          | exact (no (by unfold addB; simp; omega)).1
      · first
          | exact absurd rfl c39
          | exact ok (by omega) (by omega) (by omega)
    · try simp (disch := omega) only [nI_eq, nI_leI, nI_ltI, Classical.not_not] at c10
      refine Ev.blk kX1_add_13 rfl trivial ?_
      refine Ev.cS (d1 := d - 1) (ev_isCell (nI c)) tX1_add_14 qX1_77 rfl ⟨rfl, rfl, rfl⟩ (by omega) ?_
      rintro _ _ ⟨rfl, rfl⟩
      refine Ev.br tX1_add_17 rfl (fun c17 => ?_) (fun c17 => ?_)
      · rw [bI_0] at c17
        simp (disch := omega) only [nI_leI, nI_ltI, decide_eq_false_iff_not] at c17
        refine Ev.blk kX1_add_34 rfl trivial ?_
        refine Ev.bb kX1_add_35 tX1_add_39 rfl rfl trivial (fun c39 => ?_) (fun c39 => ?_)
        · first
            | exact absurd c39 (by decide)
            | exact (no (by unfold addB; simp; omega)).1
        · first
            | exact absurd rfl c39
            | exact ok (by omega) (by omega) (by omega)
      · rw [bI_0] at c17
        simp (disch := omega) only [nI_leI, nI_ltI, decide_eq_false_iff_not, Classical.not_not] at c17
        refine Ev.blk kX1_add_20 rfl trivial ?_
        refine Ev.br tX1_add_21 rfl (fun c21 => ?_) (fun c21 => ?_)
        · rw [nI_ltI (by omega) (by omega)] at c21
          omega
        · try simp (disch := omega) only [nI_eq, nI_leI, nI_ltI, Classical.not_not] at c21
          refine Ev.blk kX1_add_24 rfl trivial ?_
          refine Ev.br tX1_add_27 rfl (fun c27 => ?_) (fun c27 => ?_)
          · try simp (disch := omega) only [nI_eq, nI_leI, nI_ltI, Classical.not_not] at c27
            refine Ev.blk kX1_add_34 rfl trivial ?_
            refine Ev.bb kX1_add_35 tX1_add_39 rfl rfl trivial (fun c39 => ?_) (fun c39 => ?_)
            · first
                | exact absurd c39 (by decide)
                | exact (no (by unfold addB; simp; omega)).1
            · first
                | exact absurd rfl c39
                | exact ok (by omega) (by omega) (by omega)
          · try simp (disch := omega) only [nI_eq, nI_leI, nI_ltI, Classical.not_not] at c27
            refine Ev.blk kX1_add_30 rfl trivial ?_
            refine Ev.jmp tX1_add_31 ?_
            refine Ev.bb kX1_add_35 tX1_add_39 rfl rfl trivial (fun c39 => ?_) (fun c39 => ?_)
            · first
                | exact absurd c39 (by decide)
                | exact (no (by unfold addB; simp; omega)).1
            · first
                | exact absurd rfl c39
                | exact ok (by omega) (by omega) (by omega)
theorem ev_turnOver (hY : YardAt w y D) (hI : YI D) (hd : 2 ≤ d) {i : Nat} (hi : i < 1000) : Cl l d MX1_turnOver [mR 1 y, mI (nI i)] w (fun r u => r = some (mI (bI (decide (i < dn D) && !isC D i))) ∧ Off y w u ∧ YardAt u y (if (decide (i < dn D) && !isC D i) = true then us D (va_up (ds D) i (!ds D i)) else D)) := by
  show Ev l d MX1_turnOver 0 [some (mR 1 y), some (mI (nI i))] [] w _
  have h8 := hI.1
  have hh : hasI D (nI i) = decide (i < dn D) := hasI_nat hi h8
  refine Ev.blk kX1_turnOver_0 rfl trivial ?_
  refine Ev.cV (d1 := d - 1) (ev_has hY (nI i)) tX1_turnOver_2 qX1_52 rfl rfl (by decide) ⟨rfl, rfl, rfl⟩ (by omega) ?_
  rintro _ _ ⟨rfl, rfl⟩
  refine Ev.br tX1_turnOver_5 rfl (fun c5 => ?_) (fun c5 => ?_)
  · rw [bI_0, hh] at c5
    have hb : (decide (i < dn D) && !isC D i) = false := by rw [c5]; rfl
    refine Ev.blk kX1_turnOver_16 rfl trivial ?_
    refine Ev.iret tX1_turnOver_17 rfl rfl ?_
    rw [hb]
    exact ⟨rfl, Off.rf, hY⟩
  · rw [bI_0, hh] at c5
    have hin : i < dn D := by simpa using c5
    refine Ev.blk kX1_turnOver_8 rfl trivial ?_
    refine Ev.cV (d1 := d - 1) (ev_isCatcher hY hI (by omega) hin) tX1_turnOver_10 qX1_80 rfl rfl (by decide) ⟨rfl, rfl, rfl⟩ (by omega) ?_
    rintro _ _ ⟨rfl, rfl⟩
    refine Ev.br tX1_turnOver_13 rfl (fun c13 => ?_) (fun c13 => ?_)
    · rw [bI_0] at c13
      have hb : (decide (i < dn D) && !isC D i) = true := by rw [c13]; simp [hin]
      refine Ev.blk kX1_turnOver_18 rfl trivial ?_
      rw [hY.s, b_xor (by omega)]
      refine Ev.iret tX1_turnOver_31 rfl rfl ?_
      rw [hb]
      exact ⟨rfl, Off.pf, hY.pS⟩
    · rw [bI_0] at c13
      have hb : (decide (i < dn D) && !isC D i) = false := by cases hz : isC D i; exact absurd hz c13; simp
      refine Ev.blk kX1_turnOver_16 rfl trivial ?_
      refine Ev.iret tX1_turnOver_17 rfl rfl ?_
      rw [hb]
      exact ⟨rfl, Off.rf, hY⟩
theorem ev_setLaw (hY : YardAt w y D) {v : Nat} (hv : v < 4) : Cl l d MX1_setLaw [mR 1 y, mI (nI v)] w (fun r u => r = some (mI (nI 1)) ∧ Off y w u ∧ YardAt u y (ul D v)) := by
  show Ev l d MX1_setLaw 0 [some (mR 1 y), some (mI (nI v))] [] w _
  refine Ev.blk kX1_setLaw_0 rfl trivial ?_
  refine Ev.br tX1_setLaw_1 rfl (fun c1 => ?_) (fun c1 => ?_)
  · rw [nI_ltI (by omega) (by omega)] at c1
    omega
  · refine Ev.blk kX1_setLaw_4 rfl trivial ?_
    refine Ev.br tX1_setLaw_6 rfl (fun c6 => ?_) (fun c6 => ?_)
    · refine Ev.blk kX1_setLaw_11 rfl trivial ?_
      refine Ev.iret tX1_setLaw_17 rfl rfl ?_
      exact ⟨rfl, Off.pf, hY.pL⟩
    · rw [nI_ltI (by omega) (by omega)] at c6
      omega
theorem ev_setLaw_no {v : Int32} (hv : v < nI 0 ∨ nI 4 ≤ v) : Cl l d MX1_setLaw [mR 1 y, mI v] w (fun r u => r = some (mI (nI 0)) ∧ u = w) := by
  show Ev l d MX1_setLaw 0 [some (mR 1 y), some (mI v)] [] w _
  refine Ev.blk kX1_setLaw_0 rfl trivial ?_
  refine Ev.br tX1_setLaw_1 rfl (fun c1 => ?_) (fun c1 => ?_)
  · refine Ev.blk kX1_setLaw_9 rfl trivial ?_
    refine Ev.iret tX1_setLaw_10 rfl rfl ?_
    exact ⟨rfl, rfl⟩
  · refine Ev.blk kX1_setLaw_4 rfl trivial ?_
    refine Ev.br tX1_setLaw_6 rfl (fun c6 => ?_) (fun c6 => ?_)
    · exact absurd hv (by intro z; rcases z with z | z; exact c1 z; exact (Int32.not_le.mpr c6) z)
    · refine Ev.blk kX1_setLaw_9 rfl trivial ?_
      refine Ev.iret tX1_setLaw_10 rfl rfl ?_
      exact ⟨rfl, rfl⟩
theorem ev_put (hY : YardAt w y D) (hI : YI D) (hd : 1 ≤ d) {i c : Nat} (hi : i < 1000) (hc : c < 1000) : Cl l d MX1_put [mR 1 y, mI (nI i), mI (nI c)] w (fun r u => r = some (mI (bI (decide (i < dn D) && decide (c < 24)))) ∧ Off y w u ∧ YardAt u y (if (decide (i < dn D) && decide (c < 24)) = true then uc D (va_up (dc D) i c) else D)) := by
  show Ev l d MX1_put 0 [some (mR 1 y), some (mI (nI i)), some (mI (nI c))] [] w _
  have h8 := hI.1
  have hh : hasI D (nI i) = decide (i < dn D) := hasI_nat hi h8
  refine Ev.blk kX1_put_0 rfl trivial ?_
  refine Ev.cV (d1 := d - 1) (ev_has hY (nI i)) tX1_put_2 qX1_52 rfl rfl (by decide) ⟨rfl, rfl, rfl⟩ (by omega) ?_
  rintro _ _ ⟨rfl, rfl⟩
  refine Ev.br tX1_put_5 rfl (fun c5 => ?_) (fun c5 => ?_)
  · rw [bI_0, hh] at c5
    have hb : (decide (i < dn D) && decide (c < 24)) = false := by rw [c5]; rfl
    refine Ev.blk kX1_put_15 rfl trivial ?_
    refine Ev.iret tX1_put_16 rfl rfl ?_
    rw [hb]
    exact ⟨rfl, Off.rf, hY⟩
  · rw [bI_0, hh] at c5
    have hin : i < dn D := by simpa using c5
    refine Ev.blk kX1_put_8 rfl trivial ?_
    refine Ev.cS (d1 := d - 1) (ev_isCell (nI c)) tX1_put_9 qX1_77 rfl ⟨rfl, rfl, rfl⟩ (by omega) ?_
    rintro _ _ ⟨rfl, rfl⟩
    refine Ev.br tX1_put_12 rfl (fun c12 => ?_) (fun c12 => ?_)
    · rw [bI_0] at c12
      simp (disch := omega) only [nI_leI, nI_ltI, decide_eq_false_iff_not, Classical.not_not] at c12
      have hb : (decide (i < dn D) && decide (c < 24)) = true := by simp; omega
      refine Ev.blk kX1_put_17 rfl ⟨trivial, vinN (show i < 8 by omega) (by decide)⟩ ?_
      simp only [ixN hi]
      refine Ev.iret tX1_put_25 rfl rfl ?_
      rw [hb]
      exact ⟨rfl, Off.pA (by decide), hY.pc⟩
    · rw [bI_0] at c12
      simp (disch := omega) only [nI_leI, nI_ltI, decide_eq_false_iff_not, Classical.not_not] at c12
      have hb : (decide (i < dn D) && decide (c < 24)) = false := by simp; omega
      refine Ev.blk kX1_put_15 rfl trivial ?_
      refine Ev.iret tX1_put_16 rfl rfl ?_
      rw [hb]
      exact ⟨rfl, Off.rf, hY⟩
theorem ev_setKind (hY : YardAt w y D) (hI : YI D) (hd : 1 ≤ d) {i k : Nat} (hi : i < dn D) : Cl l d MX1_setKind [mR 1 y, mI (nI i), mI (nI k)] w (fun r u => r = none ∧ Off y w u ∧ YardAt u y (uk D (va_up (dk D) i k))) := by
  show Ev l d MX1_setKind 0 [some (mR 1 y), some (mI (nI i)), some (mI (nI k))] [] w _
  have h8 := hI.1
  have hi8 : i < 8 := by omega
  refine Ev.blk kX1_setKind_0 rfl trivial ?_
  refine Ev.cV (d1 := d - 1) (ev_has_i hY h8 hi) tX1_setKind_2 qX1_52 rfl rfl (by decide) ⟨rfl, rfl, rfl⟩ (by omega) ?_
  rintro _ _ ⟨rfl, rfl⟩
  refine Ev.br tX1_setKind_5 rfl (fun c5 => ?_) (fun c5 => ?_)
  · exact absurd c5 (by decide)
  · refine Ev.blk kX1_setKind_8 rfl ⟨trivial, vinN hi8 (by decide)⟩ ?_
    simp only [ix8 hi8]
    refine Ev.vret tX1_setKind_15 rfl ?_
    exact ⟨rfl, Off.pA (by decide), hY.pk⟩
theorem ev_setAside (hY : YardAt w y D) {i : Nat} (hi : i < 8) : Cl l d MX1_setAside [mR 1 y, mI (nI i)] w (fun r u => r = none ∧ Off y w u ∧ YardAt u y (ua D i)) := by
  show Ev l d MX1_setAside 0 [some (mR 1 y), some (mI (nI i))] [] w _
  refine Ev.blk kX1_setAside_0 rfl trivial ?_
  refine Ev.vret tX1_setAside_5 rfl ?_
  exact ⟨rfl, Off.pf, hY.pa (by unfold enA; rw [if_pos hi])⟩
theorem ev_exchange (hY : YardAt w y D) (hI : YI D) (hd : 1 ≤ d) {i j : Nat} (hi : i < dn D) (hj : j < dn D) (hij : i ≠ j) : Cl l d MX1_exchange [mR 1 y, mI (nI i), mI (nI j)] w (fun r u => r = none ∧ Off y w u ∧ YardAt u y (us (uk D (va_up (va_up (dk D) i (dk D j)) j (dk D i))) (va_up (ds D) j false))) := by
  show Ev l d MX1_exchange 0 [some (mR 1 y), some (mI (nI i)), some (mI (nI j)), none] [] w _
  have h8 := hI.1
  have hi8 : i < 8 := by omega
  have hj8 : j < 8 := by omega
  have h1 := hY.pk (i := i) (v := dk D j)
  have h2 := h1.pk (i := j) (v := dk D i)
  refine Ev.blk kX1_exchange_0 rfl trivial ?_
  refine Ev.cV (d1 := d - 1) (ev_has_i hY h8 hi) tX1_exchange_2 qX1_52 rfl rfl (by decide) ⟨rfl, rfl, rfl⟩ (by omega) ?_
  rintro _ _ ⟨rfl, rfl⟩
  refine Ev.br tX1_exchange_5 rfl (fun c5 => ?_) (fun c5 => ?_)
  · exact absurd c5 (by decide)
  · refine Ev.blk kX1_exchange_8 rfl trivial ?_
    refine Ev.cV (d1 := d - 1) (ev_has_i hY h8 hj) tX1_exchange_10 qX1_52 rfl rfl (by decide) ⟨rfl, rfl, rfl⟩ (by omega) ?_
    rintro _ _ ⟨rfl, rfl⟩
    refine Ev.br tX1_exchange_13 rfl (fun c13 => ?_) (fun c13 => ?_)
    · exact absurd c13 (by decide)
    · refine Ev.blk kX1_exchange_16 rfl ⟨⟨⟨⟨trivial, vinN hi8 (by decide)⟩, vinN hj8 (by decide)⟩, vinN hi8 (by decide)⟩, vinN hj8 (by decide)⟩ ?_
      simp only [ix8 hi8, ix8 hj8, hY.k hi8, hY.k hj8]
      refine Ev.cV (d1 := d - 1) (ev_letRun h2 hj8) tX1_exchange_44 qX1_83 rfl rfl (by decide) ⟨rfl, rfl, rfl⟩ (by omega) ?_
      rintro _ _ ⟨rfl, ho, hE⟩
      refine Ev.vret tX1_exchange_47 rfl ?_
      exact ⟨rfl, (Off.pA (by decide)).tr ((Off.pA (by decide)).tr ho), hE⟩
theorem ev_scatter (hY : YardAt w y D) (hI : YI D) (z : Int32) : Cl l d MX1_scatter [mR 1 y, mI z] w (fun r u => r = some (mI (sct D z (dn D)).1) ∧ Off y w u ∧ YardAt u y (us (ut (uc D (sct D z (dn D)).2) (fun _ => 0)) (fun _ => false))) := by
  show Ev l d MX1_scatter 0 [some (mR 1 y), some (mI z), none, none] [] w _
  refine Ev.blk kX1_scatter_0 rfl trivial ?_
  have h8 := hI.1
  refine Ev.for (fun j L u => Off y w u ∧ YardAt u y (ut (uc D (sct D z j).2) (fun o => if o < j then 0 else dt D o)) ∧ L = [some (mR 1 y), some (mI z), some (mI (sct D z j).1), some (mI (nI j))]) (dn D) ?_ ?_ 0 (Nat.zero_le _) ⟨Off.rf, by
    have e : (fun o => if o < 0 then 0 else dt D o) = dt D := by funext o; simp
    rw [e]
    exact hY, rfl⟩
  · rintro L u ⟨ho, hE, rfl⟩
    have hn : mgf u 1 y 5 = nI (dn D) := hE.n
    have e : (fun o => if o < dn D then 0 else dt D o) = fun _ => 0 := by
      funext o
      split
      · rfl
      · exact hI.2.2.2.2.1 o (by omega)
    rw [e] at hE
    refine Ev.blk kX1_scatter_4 rfl trivial ?_
    simp only [hn]
    refine Ev.br tX1_scatter_9 rfl (fun c9 => ?_) (fun c9 => ?_)
    · refine Ev.blk kX1_scatter_50 rfl trivial ?_
      rw [b_zero]
      refine Ev.iret tX1_scatter_56 rfl rfl ?_
      exact ⟨rfl, ho.tr Off.pf, hE.pS⟩
    · exact absurd (nI_le (Nat.le_refl _) (by omega)) c9
  · rintro j L u hj ⟨ho, hE, rfl⟩ k
    have hj8 : j < 8 := by omega
    have hn : mgf u 1 y 5 = nI (dn D) := hE.n
    have h1 := hE.pc (i := j) (v := lcl (lz (sct D z j).1))
    have h2 := h1.pt (i := j) (v := 0)
    have hl := lcl_ok (lz (sct D z j).1)
    unfold lz at hl
    refine Ev.blk kX1_scatter_4 rfl trivial ?_
    simp only [hn]
    refine Ev.br tX1_scatter_9 rfl (fun c9 => ?_) (fun c9 => ?_)
    · exact absurd c9 (nI_ge hj (by omega))
    · refine Ev.blk kX1_scatter_12 rfl ⟨⟨⟨⟨trivial, by decide⟩, by decide⟩, vinN hj8 (by decide)⟩, vinN hj8 (by decide)⟩ ?_
      simp only [ix8 hj8, nI_add, hl]
      refine Ev.jmp tX1_scatter_47 ?_
      refine k _ _ ⟨ho.tr ((Off.pA (by decide)).tr (Off.pA (by decide))), ?_, rfl⟩
      have e : (fun o => if o < j + 1 then 0 else dt D o) = va_up (fun o => if o < j then 0 else dt D o) j 0 := by
        funext o
        unfold va_up
        by_cases h : o = j
        · subst h; simp
        · have : (o < j + 1) = (o < j) := by apply propext; omega
          rw [if_neg h]
          simp only [this]
      rw [e]
      exact h2
theorem ev_couldFree (hY : YardAt w y D) (hI : YI D) (hd : 2 ≤ d) {i : Nat} (hi : i < dn D) : Cl l d MX1_couldFree [mR 1 y, mI (nI i)] w (fun r u => u = w ∧ r = some (mI (oM9 (if ds D i then none else nearMay D i)))) := by
  show Ev l d MX1_couldFree 0 [some (mR 1 y), some (mI (nI i)), none] [] w _
  have h8 := hI.1
  have hlb := ev_leastBeside (l := l) (d := d - 1) hY hI (by omega) hi (wnt D i)
  rw [show fst1 (fun o => wnt D i o && decide (far (dc D i) (dc D o) ≤ 1)) (dn D) = nearMay D i from rfl] at hlb
  cases hn : nearMay D i with
  | none =>
    rw [hn] at hlb
    refine Ev.blk kX1_couldFree_0 rfl trivial ?_
    refine Ev.cV (d1 := d - 1) (ev_has_i hY h8 hi) tX1_couldFree_2 qX1_52 rfl rfl (by decide) ⟨rfl, rfl, rfl⟩ (by omega) ?_
    rintro _ _ ⟨rfl, rfl⟩
    refine Ev.br tX1_couldFree_5 rfl (fun c5 => ?_) (fun c5 => ?_)
    · exact absurd c5 (by decide)
    · refine Ev.blk kX1_couldFree_8 rfl trivial ?_
      refine Ev.cV (d1 := d - 1) (ev_isStanding hY hI (by omega) hi) tX1_couldFree_10 qX1_90 rfl rfl (by decide) ⟨rfl, rfl, rfl⟩ (by omega) ?_
      rintro _ _ ⟨rfl, rfl⟩
      refine Ev.br tX1_couldFree_13 rfl (fun c13 => ?_) (fun c13 => ?_)
      · refine Ev.blk kX1_couldFree_19 rfl trivial ?_
        simp only [hY.s]
        refine Ev.cV (d1 := d - 1) (ev_freeableBits hY hI hi) tX1_couldFree_27 qX1_93 rfl rfl (by decide) ⟨rfl, rfl, rfl⟩ (by omega) ?_
        rintro _ _ ⟨rfl, rfl⟩
        refine Ev.blk kX1_couldFree_30 rfl trivial ?_
        rw [b_frb hI hi]
        refine Ev.cV (d1 := d - 1) (hlb) tX1_couldFree_31 qX1_96 rfl rfl (by decide) ⟨rfl, rfl, rfl⟩ (by omega) ?_
        rintro _ _ ⟨rfl, rfl⟩
        refine Ev.blk kX1_couldFree_34 rfl trivial ?_
        refine Ev.br tX1_couldFree_37 rfl (fun c37 => ?_) (fun c37 => ?_)
        · exact absurd rfl c37
        · refine Ev.blk kX1_couldFree_40 rfl trivial ?_
          refine Ev.jmp tX1_couldFree_42 ?_
          refine Ev.iret tX1_couldFree_46 rfl rfl ?_
          exact ⟨rfl, by split <;> rfl⟩
      · refine Ev.blk kX1_couldFree_16 rfl trivial ?_
        refine Ev.iret tX1_couldFree_18 rfl rfl ?_
        exact ⟨rfl, by split <;> rfl⟩
  | some o =>
    rw [hn] at hlb
    have hol := (fst1_spec hn).1
    refine Ev.blk kX1_couldFree_0 rfl trivial ?_
    refine Ev.cV (d1 := d - 1) (ev_has_i hY h8 hi) tX1_couldFree_2 qX1_52 rfl rfl (by decide) ⟨rfl, rfl, rfl⟩ (by omega) ?_
    rintro _ _ ⟨rfl, rfl⟩
    refine Ev.br tX1_couldFree_5 rfl (fun c5 => ?_) (fun c5 => ?_)
    · exact absurd c5 (by decide)
    · refine Ev.blk kX1_couldFree_8 rfl trivial ?_
      refine Ev.cV (d1 := d - 1) (ev_isStanding hY hI (by omega) hi) tX1_couldFree_10 qX1_90 rfl rfl (by decide) ⟨rfl, rfl, rfl⟩ (by omega) ?_
      rintro _ _ ⟨rfl, rfl⟩
      refine Ev.br tX1_couldFree_13 rfl (fun c13 => ?_) (fun c13 => ?_)
      · rw [bI_0] at c13
        refine Ev.blk kX1_couldFree_19 rfl trivial ?_
        simp only [hY.s]
        refine Ev.cV (d1 := d - 1) (ev_freeableBits hY hI hi) tX1_couldFree_27 qX1_93 rfl rfl (by decide) ⟨rfl, rfl, rfl⟩ (by omega) ?_
        rintro _ _ ⟨rfl, rfl⟩
        refine Ev.blk kX1_couldFree_30 rfl trivial ?_
        rw [b_frb hI hi]
        refine Ev.cV (d1 := d - 1) (hlb) tX1_couldFree_31 qX1_96 rfl rfl (by decide) ⟨rfl, rfl, rfl⟩ (by omega) ?_
        rintro _ _ ⟨rfl, rfl⟩
        refine Ev.blk kX1_couldFree_34 rfl trivial ?_
        refine Ev.br tX1_couldFree_37 rfl (fun c37 => ?_) (fun c37 => ?_)
        · refine Ev.blk kX1_couldFree_45 rfl trivial ?_
          refine Ev.iret tX1_couldFree_46 rfl rfl ?_
          exact ⟨rfl, by rw [c13]; rfl⟩
        · exact absurd c37 (by intro z; exact z (nI_nm1 (by omega)))
      · rw [bI_0] at c13
        have hs : ds D i = true := by cases hz : ds D i; exact absurd hz c13; rfl
        refine Ev.blk kX1_couldFree_16 rfl trivial ?_
        refine Ev.iret tX1_couldFree_18 rfl rfl ?_
        exact ⟨rfl, by rw [hs]; rfl⟩
theorem ev_hasFreerFor (hY : YardAt w y D) (hI : YI D) (hd : 1 ≤ d) {i : Nat} (hi : i < dn D) : Cl l d MX1_hasFreerFor [mR 1 y, mI (nI i)] w (fun r u => u = w ∧ r = some (mI (bI (hfr D i)))) := by
  show Ev l d MX1_hasFreerFor 0 [some (mR 1 y), some (mI (nI i)), none] [] w _
  refine Ev.blk kX1_hasFreerFor_0 rfl trivial ?_
  have hn := hY.n
  have h8 := hI.1
  have hi8 : i < 8 := by omega
  refine Ev.for (fun j L u => u = w ∧ L = [some (mR 1 y), some (mI (nI i)), some (mI (nI j))] ∧ fst1 (fun o => !(o == i) && mayK D o i) j = none) (dn D) ?_ ?_ 0 (Nat.zero_le _) ⟨rfl, rfl, rfl⟩
  · rintro L u ⟨rfl, rfl, h0⟩
    refine Ev.blk kX1_hasFreerFor_2 rfl trivial ?_
    simp only [hn]
    refine Ev.br tX1_hasFreerFor_7 rfl (fun c7 => ?_) (fun c7 => ?_)
    · refine Ev.blk kX1_hasFreerFor_36 rfl trivial ?_
      refine Ev.iret tX1_hasFreerFor_37 rfl rfl ?_
      exact ⟨rfl, by unfold hfr; rw [h0]; rfl⟩
    · exact absurd (nI_le (Nat.le_refl _) (by omega)) c7
  · rintro j L u hj ⟨rfl, rfl, h0⟩ k
    have nx : (!(j == i) && mayK D j i) = false → fst1 (fun o => !(o == i) && mayK D o i) (j + 1) = none := by
      intro h
      unfold fst1
      rw [h0]
      simp only [h]
      rfl
    refine Ev.blk kX1_hasFreerFor_2 rfl trivial ?_
    simp only [hn]
    refine Ev.br tX1_hasFreerFor_7 rfl (fun c7 => ?_) (fun c7 => ?_)
    · exact absurd c7 (nI_ge hj (by omega))
    · try simp (disch := omega) only [nI_eq, nI_leI, nI_ltI, Classical.not_not] at c7
      refine Ev.blk kX1_hasFreerFor_10 rfl trivial ?_
      refine Ev.br tX1_hasFreerFor_12 rfl (fun c12 => ?_) (fun c12 => ?_)
      · try simp (disch := omega) only [nI_eq, nI_leI, nI_ltI, Classical.not_not] at c12
        refine Ev.blk kX1_hasFreerFor_30 rfl trivial ?_
        refine Ev.jmp tX1_hasFreerFor_33 ?_
        refine k _ _ ⟨rfl, by rw [nI_add], nx ?_⟩
        first
          | (rw [hm]; simp; done)
          | (rw [c12]; simp; done)
      · try simp (disch := omega) only [nI_eq, nI_leI, nI_ltI, Classical.not_not] at c12
        refine Ev.blk kX1_hasFreerFor_15 rfl trivial ?_
        refine Ev.cV (d1 := d - 1) (ev_freeableBits hY hI hj) tX1_hasFreerFor_17 qX1_93 rfl rfl (by decide) ⟨rfl, rfl, rfl⟩ (by omega) ?_
        rintro _ _ ⟨rfl, rfl⟩
        refine Ev.blk kX1_hasFreerFor_20 rfl trivial ?_
        rw [frb_at hI hj hi8]
        refine Ev.br tX1_hasFreerFor_25 rfl (fun c25 => ?_) (fun c25 => ?_)
        · have hm : mayK D j i = false := by cases hz : mayK D j i; rfl; rw [hz] at c25; exact absurd rfl c25
          refine Ev.blk kX1_hasFreerFor_30 rfl trivial ?_
          refine Ev.jmp tX1_hasFreerFor_33 ?_
          refine k _ _ ⟨rfl, by rw [nI_add], nx ?_⟩
          first
            | (rw [hm]; simp; done)
            | (rw [c12]; simp; done)
        · have hm : mayK D j i = true := by cases hz : mayK D j i; rw [hz] at c25; exact absurd (by decide) c25; rfl
          refine Ev.blk kX1_hasFreerFor_28 rfl trivial ?_
          refine Ev.iret tX1_hasFreerFor_29 rfl rfl ?_
          refine ⟨rfl, ?_⟩
          unfold hfr
          rw [fst1_some h0 (by rw [hm, beq_false_of_ne c12]; rfl) hj]
          rfl
end Y7
