/-! ===== the reference: running, catching, a second ===== -/
section M3
variable {l : Launch} {d : Nat} {w : mW} {D : Yd}
theorem runs_3 {i : Nat} (h : dk D i = 3) : runs D i = (D, if edg (dc D i) && decide (1 < cap D (dc D i)) then dc D i else awy D (dc D i)) := if_pos h
theorem runs_n {i o : Nat} (h : ¬ dk D i = 3) (hn : nearMay D i = some o) : runs D i = (frd D i (frS D i o), dc D i) := by
  have e : runs D i = (match nearMay D i with
    | some o => (frd D i (frS D i o), dc D i)
    | none => match aimMay D i with
      | some a => (D, if 1 < cap D (dc D i) then twd (dc D i) (dc D a) else awy D (dc D i))
      | none => (D, awy D (dc D i))) := if_neg h
  rw [e, hn]
theorem runs_a {i a : Nat} (h : ¬ dk D i = 3) (hn : nearMay D i = none) (ha : aimMay D i = some a) : runs D i = (D, if 1 < cap D (dc D i) then twd (dc D i) (dc D a) else awy D (dc D i)) := by
  have e : runs D i = (match nearMay D i with
    | some o => (frd D i (frS D i o), dc D i)
    | none => match aimMay D i with
      | some a => (D, if 1 < cap D (dc D i) then twd (dc D i) (dc D a) else awy D (dc D i))
      | none => (D, awy D (dc D i))) := if_neg h
  rw [e, hn]
  dsimp only
  rw [ha]
theorem runs_0 {i : Nat} (h : ¬ dk D i = 3) (hn : nearMay D i = none) (ha : aimMay D i = none) : runs D i = (D, awy D (dc D i)) := by
  have e : runs D i = (match nearMay D i with
    | some o => (frd D i (frS D i o), dc D i)
    | none => match aimMay D i with
      | some a => (D, if 1 < cap D (dc D i) then twd (dc D i) (dc D a) else awy D (dc D i))
      | none => (D, awy D (dc D i))) := if_neg h
  rw [e, hn]
  dsimp only
  rw [ha]
theorem em_runsTo (hM : MYd w D) (hI : YI D) (hd : 4 ≤ d) {i : Nat} (hi : i < dn D) (hs : ds D i = false) : Cl l d MX3_runsTo [mR 11 0, mI (nI i)] w (fun r u => r = some (mI (nI (runs D i).2)) ∧ OffM w u ∧ MYd u (runs D i).1) := by
  show Ev l d MX3_runsTo 0 [some (mR 11 0), some (mI (nI i)), none, none] [] w _
  have h8 := hI.1
  have hi8 : i < 8 := by omega
  have hci := hI.cl hi
  have hki := hI.kd hi
  have hcp := cap_le D (dc D i)
  have hc0 := hM.c hi
  by_cases h3 : dk D i = 3
  · rw [runs_3 h3]
    refine Ev.blk kX3_runsTo_0 rfl ⟨trivial, vinN hi8 (by decide)⟩ ?_
    rw [ix8 hi8, hM.k hi, h3]
    refine Ev.br tX3_runsTo_7 rfl (fun c7 => ?_) (fun c7 => ?_)
    · exact absurd rfl c7
    · refine Ev.blk kX3_runsTo_10 rfl ⟨trivial, vinN hi8 (by decide)⟩ ?_
      rw [ix8 hi8, hc0]
      refine Ev.cS (d1 := d - 1) (em_isEdge hci) tX3_runsTo_16 qX3_165 rfl ⟨rfl, rfl, rfl⟩ (by omega) ?_
      rintro _ _ ⟨rfl, rfl⟩
      refine Ev.br tX3_runsTo_19 rfl (fun c19 => ?_) (fun c19 => ?_)
      · rw [bI_0] at c19
        refine Ev.blk kX3_runsTo_45 rfl ⟨trivial, vinN hi8 (by decide)⟩ ?_
        rw [ix8 hi8, hc0]
        refine Ev.cV (d1 := d - 1) (em_away hM hI (by omega) hci) tX3_runsTo_52 qX3_168 rfl rfl (by decide) ⟨rfl, rfl, rfl⟩ (by omega) ?_
        rintro _ _ ⟨rfl, rfl⟩
        refine Ev.iret tX3_runsTo_55 rfl rfl ?_
        refine ⟨?_, Om.rf, hM⟩
        first
          | (rw [if_neg (show ¬ (edg (dc D i) && decide (1 < cap D (dc D i))) = true by rw [c19]; simp)])
          | (rw [if_neg (show ¬ (edg (dc D i) && decide (1 < cap D (dc D i))) = true by rw [decide_eq_false (show ¬ 1 < cap D (dc D i) by omega)]; simp)])
          | (rw [if_pos (show (edg (dc D i) && decide (1 < cap D (dc D i))) = true by rw [bl_t c19, decide_eq_true (show 1 < cap D (dc D i) by omega)]; rfl)])
      · rw [bI_0] at c19
        refine Ev.blk kX3_runsTo_22 rfl ⟨trivial, vinN hi8 (by decide)⟩ ?_
        rw [ix8 hi8, hc0]
        refine Ev.cV (d1 := d - 1) (em_far hM hI (by omega) hci) tX3_runsTo_29 qX3_152 rfl rfl (by decide) ⟨rfl, rfl, rfl⟩ (by omega) ?_
        rintro _ _ ⟨rfl, rfl⟩
        refine Ev.blk kX3_runsTo_32 rfl trivial ?_
        refine Ev.br tX3_runsTo_33 rfl (fun c33 => ?_) (fun c33 => ?_)
        · rw [nI_leI (by omega) (by omega)] at c33
          refine Ev.blk kX3_runsTo_45 rfl ⟨trivial, vinN hi8 (by decide)⟩ ?_
          rw [ix8 hi8, hc0]
          refine Ev.cV (d1 := d - 1) (em_away hM hI (by omega) hci) tX3_runsTo_52 qX3_168 rfl rfl (by decide) ⟨rfl, rfl, rfl⟩ (by omega) ?_
          rintro _ _ ⟨rfl, rfl⟩
          refine Ev.iret tX3_runsTo_55 rfl rfl ?_
          refine ⟨?_, Om.rf, hM⟩
          first
            | (rw [if_neg (show ¬ (edg (dc D i) && decide (1 < cap D (dc D i))) = true by rw [c19]; simp)])
            | (rw [if_neg (show ¬ (edg (dc D i) && decide (1 < cap D (dc D i))) = true by rw [decide_eq_false (show ¬ 1 < cap D (dc D i) by omega)]; simp)])
            | (rw [if_pos (show (edg (dc D i) && decide (1 < cap D (dc D i))) = true by rw [bl_t c19, decide_eq_true (show 1 < cap D (dc D i) by omega)]; rfl)])
        · rw [nI_leI (by omega) (by omega)] at c33
          refine Ev.blk kX3_runsTo_36 rfl ⟨trivial, vinN hi8 (by decide)⟩ ?_
          rw [ix8 hi8, hc0]
          refine Ev.jmp tX3_runsTo_42 ?_
          refine Ev.iret tX3_runsTo_55 rfl rfl ?_
          refine ⟨?_, Om.rf, hM⟩
          first
            | (rw [if_neg (show ¬ (edg (dc D i) && decide (1 < cap D (dc D i))) = true by rw [c19]; simp)])
            | (rw [if_neg (show ¬ (edg (dc D i) && decide (1 < cap D (dc D i))) = true by rw [decide_eq_false (show ¬ 1 < cap D (dc D i) by omega)]; simp)])
            | (rw [if_pos (show (edg (dc D i) && decide (1 < cap D (dc D i))) = true by rw [bl_t c19, decide_eq_true (show 1 < cap D (dc D i) by omega)]; rfl)])
  · cases hn : nearMay D i with
    | some o =>
      have hon := (fst1_spec hn).1
      have hoq := (fst1_spec hn).2
      simp only [Bool.and_eq_true, decide_eq_true_eq] at hoq
      have hso : ds D o = true := by
        have z := hoq.1
        unfold wnt at z
        simp only [Bool.and_eq_true] at z
        exact z.1
      have hfs : frS D i o o = true := by
        unfold frS
        rw [hso]
        by_cases h2 : dl D = 2
        · rw [if_pos h2, decide_eq_true hoq.2]; rfl
        · rw [if_neg h2]; simp
      rw [runs_n h3 hn]
      refine Ev.blk kX3_runsTo_0 rfl ⟨trivial, vinN hi8 (by decide)⟩ ?_
      rw [ix8 hi8, hM.k hi]
      refine Ev.br tX3_runsTo_7 rfl (fun c7 => ?_) (fun c7 => ?_)
      · refine Ev.blk kX3_runsTo_56 rfl trivial ?_
        refine Ev.cV (d1 := d - 1) (em_nearMay hM hI (by omega) hi hs) tX3_runsTo_58 qX3_171 rfl rfl (by decide) ⟨rfl, rfl, rfl⟩ (by omega) ?_
        rintro _ _ ⟨rfl, rfl⟩
        rw [hn]
        refine Ev.blk kX3_runsTo_61 rfl trivial ?_
        refine Ev.br tX3_runsTo_63 rfl (fun c63 => ?_) (fun c63 => ?_)
        · exact absurd c63 (nI_nlt (Nat.zero_le _) (by omega))
        · refine Ev.blk kX3_runsTo_66 rfl trivial ?_
          refine Ev.cV (d1 := d - 1) (em_freesAll hM hI (by omega) hi hon hs hfs) tX3_runsTo_69 qX3_174 rfl rfl (by decide) ⟨rfl, rfl, rfl⟩ (by omega) ?_
          rintro _ _ ⟨rfl, ho, hE⟩
          have hc1 := hE.c (j := i) hi
          refine Ev.blk kX3_runsTo_72 rfl ⟨trivial, vinN hi8 (by decide)⟩ ?_
          rw [ix8 hi8, hc1]
          refine Ev.iret tX3_runsTo_78 rfl rfl ?_
          exact ⟨rfl, ho, hE⟩
      · exact absurd (by rw [nI_eq (by omega) (by omega)]; exact h3) c7
    | none =>
      cases ha : aimMay D i with
      | none =>
        rw [runs_0 h3 hn ha]
        refine Ev.blk kX3_runsTo_0 rfl ⟨trivial, vinN hi8 (by decide)⟩ ?_
        rw [ix8 hi8, hM.k hi]
        refine Ev.br tX3_runsTo_7 rfl (fun c7 => ?_) (fun c7 => ?_)
        · refine Ev.blk kX3_runsTo_56 rfl trivial ?_
          refine Ev.cV (d1 := d - 1) (em_nearMay hM hI (by omega) hi hs) tX3_runsTo_58 qX3_171 rfl rfl (by decide) ⟨rfl, rfl, rfl⟩ (by omega) ?_
          rintro _ _ ⟨rfl, rfl⟩
          rw [hn]
          refine Ev.blk kX3_runsTo_61 rfl trivial ?_
          refine Ev.br tX3_runsTo_63 rfl (fun c63 => ?_) (fun c63 => ?_)
          · refine Ev.blk kX3_runsTo_79 rfl trivial ?_
            refine Ev.cV (d1 := d - 1) (em_nearestMay hM hI (by omega) hi hs) tX3_runsTo_81 qX3_177 rfl rfl (by decide) ⟨rfl, rfl, rfl⟩ (by omega) ?_
            rintro _ _ ⟨rfl, rfl⟩
            rw [ha]
            refine Ev.blk kX3_runsTo_84 rfl trivial ?_
            refine Ev.br tX3_runsTo_86 rfl (fun c86 => ?_) (fun c86 => ?_)
            · refine Ev.blk kX3_runsTo_121 rfl ⟨trivial, vinN hi8 (by decide)⟩ ?_
              rw [ix8 hi8, hc0]
              refine Ev.cV (d1 := d - 1) (em_away hM hI (by omega) hci) tX3_runsTo_128 qX3_168 rfl rfl (by decide) ⟨rfl, rfl, rfl⟩ (by omega) ?_
              rintro _ _ ⟨rfl, rfl⟩
              refine Ev.iret tX3_runsTo_131 rfl rfl ?_
              exact ⟨rfl, Om.rf, hM⟩
            · exact absurd (show oM9 none < nI 0 by decide) c86
          · exact absurd (show oM9 none < nI 0 by decide) c63
        · exact absurd (by rw [nI_eq (by omega) (by omega)]; exact h3) c7
      | some a =>
        have han := (nrst_spec ha).1
        have ha8 : a < 8 := by omega
        have hca := hI.cl han
        rw [runs_a h3 hn ha]
        refine Ev.blk kX3_runsTo_0 rfl ⟨trivial, vinN hi8 (by decide)⟩ ?_
        rw [ix8 hi8, hM.k hi]
        refine Ev.br tX3_runsTo_7 rfl (fun c7 => ?_) (fun c7 => ?_)
        · refine Ev.blk kX3_runsTo_56 rfl trivial ?_
          refine Ev.cV (d1 := d - 1) (em_nearMay hM hI (by omega) hi hs) tX3_runsTo_58 qX3_171 rfl rfl (by decide) ⟨rfl, rfl, rfl⟩ (by omega) ?_
          rintro _ _ ⟨rfl, rfl⟩
          rw [hn]
          refine Ev.blk kX3_runsTo_61 rfl trivial ?_
          refine Ev.br tX3_runsTo_63 rfl (fun c63 => ?_) (fun c63 => ?_)
          · refine Ev.blk kX3_runsTo_79 rfl trivial ?_
            refine Ev.cV (d1 := d - 1) (em_nearestMay hM hI (by omega) hi hs) tX3_runsTo_81 qX3_177 rfl rfl (by decide) ⟨rfl, rfl, rfl⟩ (by omega) ?_
            rintro _ _ ⟨rfl, rfl⟩
            rw [ha]
            refine Ev.blk kX3_runsTo_84 rfl trivial ?_
            refine Ev.br tX3_runsTo_86 rfl (fun c86 => ?_) (fun c86 => ?_)
            · exact absurd c86 (nI_nlt (Nat.zero_le _) (by omega))
            · refine Ev.blk kX3_runsTo_89 rfl ⟨trivial, vinN hi8 (by decide)⟩ ?_
              rw [ix8 hi8, hc0]
              refine Ev.cV (d1 := d - 1) (em_far hM hI (by omega) hci) tX3_runsTo_96 qX3_152 rfl rfl (by decide) ⟨rfl, rfl, rfl⟩ (by omega) ?_
              rintro _ _ ⟨rfl, rfl⟩
              refine Ev.blk kX3_runsTo_99 rfl trivial ?_
              refine Ev.br tX3_runsTo_100 rfl (fun c100 => ?_) (fun c100 => ?_)
              · rw [nI_leI (by omega) (by omega)] at c100
                refine Ev.blk kX3_runsTo_121 rfl ⟨trivial, vinN hi8 (by decide)⟩ ?_
                rw [ix8 hi8, hc0]
                refine Ev.cV (d1 := d - 1) (em_away hM hI (by omega) hci) tX3_runsTo_128 qX3_168 rfl rfl (by decide) ⟨rfl, rfl, rfl⟩ (by omega) ?_
                rintro _ _ ⟨rfl, rfl⟩
                refine Ev.iret tX3_runsTo_131 rfl rfl ?_
                refine ⟨?_, Om.rf, hM⟩
                first
                  | (rw [if_neg (show ¬ 1 < cap D (dc D i) by omega)])
                  | (rw [if_pos (show 1 < cap D (dc D i) by omega)])
              · rw [nI_leI (by omega) (by omega)] at c100
                refine Ev.blk kX3_runsTo_103 rfl ⟨⟨trivial, vinN hi8 (by decide)⟩, vinN ha8 (by decide)⟩ ?_
                rw [show oM9 (some a) = nI a from rfl]
                simp only [ix8 hi8, ix8 ha8, hc0, hM.c han]
                refine Ev.cS (d1 := d - 1) (em_toward (by omega) hci hca) tX3_runsTo_115 qX3_180 rfl ⟨rfl, rfl, rfl⟩ (by omega) ?_
                rintro _ _ ⟨rfl, rfl⟩
                refine Ev.jmp tX3_runsTo_118 ?_
                refine Ev.iret tX3_runsTo_131 rfl rfl ?_
                refine ⟨?_, Om.rf, hM⟩
                first
                  | (rw [if_neg (show ¬ 1 < cap D (dc D i) by omega)])
                  | (rw [if_pos (show 1 < cap D (dc D i) by omega)])
          · exact absurd (show oM9 none < nI 0 by decide) c63
        · exact absurd (by rw [nI_eq (by omega) (by omega)]; exact h3) c7
def rno (D : Yd) (i : Nat) : Option Nat := nrst (rnr D) (fun o => far (dc D i) (dc D o)) (dn D)
def hnC (D : Yd) (i : Nat) : Nat := match rno D i with
  | some b => twd (dc D i) (dc D b)
  | none => dc D i
theorem nsq_r (D : Yd) (i : Nat) : nrst (nsq D false) (fun o => far (dc D i) (dc D o)) (dn D) = rno D i := by
  unfold rno
  refine nrst_congr (fun j _ => ?_) (fun _ _ => rfl)
  unfold nsq rnr
  cases ds D j <;> rfl
theorem nsq_s {D : Yd} (hI : YI D) (i : Nat) : nrst (nsq D true) (fun o => far (dc D i) (dc D o)) (dn D) = nrst (ds D) (fun o => far (dc D i) (dc D o)) (dn D) := by
  refine nrst_congr (fun j _ => ?_) (fun _ _ => rfl)
  unfold nsq
  cases hz : ds D j with
  | false => simp
  | true =>
    have := (hI.st hz).2
    have e : isC D j = false := by unfold isC; simp; omega
    rw [e]
    rfl
theorem em_hunts (hM : MYd w D) (hI : YI D) (hd : 3 ≤ d) {i : Nat} (hi : i < dn D) : Cl l d MX3_hunts [mR 11 0, mI (nI i)] w (fun r u => u = w ∧ r = some (mI (nI (hnC D i)))) := by
  show Ev l d MX3_hunts 0 [some (mR 11 0), some (mI (nI i)), none] [] w _
  have h8 := hI.1
  have hi8 : i < 8 := by omega
  have hci := hI.cl hi
  have hc0 := hM.c hi
  have hne := em_nearest (l := l) (d := d - 1) hM hI (by omega) hi false (x := nI 0) rfl
  rw [nsq_r] at hne
  unfold hnC
  cases hr : rno D i with
  | none =>
    rw [hr] at hne
    refine Ev.blk kX3_hunts_0 rfl trivial ?_
    refine Ev.cV (d1 := d - 1) (hne) tX3_hunts_3 qX3_186 rfl rfl (by decide) ⟨rfl, rfl, rfl⟩ (by omega) ?_
    rintro _ _ ⟨rfl, rfl⟩
    refine Ev.blk kX3_hunts_6 rfl trivial ?_
    refine Ev.br tX3_hunts_8 rfl (fun c8 => ?_) (fun c8 => ?_)
    · exact absurd c8 (by decide)
    · refine Ev.blk kX3_hunts_11 rfl ⟨trivial, vinN hi8 (by decide)⟩ ?_
      rw [ix8 hi8, hc0]
      refine Ev.jmp tX3_hunts_17 ?_
      refine Ev.iret tX3_hunts_35 rfl rfl ?_
      exact ⟨rfl, rfl⟩
  | some b =>
    rw [hr] at hne
    have hbn := (nrst_spec hr).1
    have hb8 : b < 8 := by omega
    have hcb := hI.cl hbn
    refine Ev.blk kX3_hunts_0 rfl trivial ?_
    refine Ev.cV (d1 := d - 1) (hne) tX3_hunts_3 qX3_186 rfl rfl (by decide) ⟨rfl, rfl, rfl⟩ (by omega) ?_
    rintro _ _ ⟨rfl, rfl⟩
    refine Ev.blk kX3_hunts_6 rfl trivial ?_
    refine Ev.br tX3_hunts_8 rfl (fun c8 => ?_) (fun c8 => ?_)
    · refine Ev.blk kX3_hunts_20 rfl ⟨⟨trivial, vinN hi8 (by decide)⟩, vinN hb8 (by decide)⟩ ?_
      rw [show oM9 (some b) = nI b from rfl]
      simp only [ix8 hi8, ix8 hb8, hc0, hM.c hbn]
      refine Ev.cS (d1 := d - 1) (em_toward (by omega) hci hcb) tX3_hunts_32 qX3_180 rfl ⟨rfl, rfl, rfl⟩ (by omega) ?_
      rintro _ _ ⟨rfl, rfl⟩
      refine Ev.iret tX3_hunts_35 rfl rfl ?_
      exact ⟨rfl, rfl⟩
    · exact absurd (nI_le (Nat.zero_le _) (by omega)) c8
theorem cat_b {i : Nat} (h : dk D i = 7 ∧ de D % 3 = 0) : cat D i = D := if_pos h
theorem cat_t {i o : Nat} (h : ¬ (dk D i = 7 ∧ de D % 3 = 0)) (ht : fst1 (tch D i) (dn D) = some o) : cat D i = us D (va_up (ds D) o true) := by
  unfold cat
  rw [if_neg h, ht]
theorem cat_h {i : Nat} (h : ¬ (dk D i = 7 ∧ de D % 3 = 0)) (ht : fst1 (tch D i) (dn D) = none) (hn : nrst (ds D) (fun o => far (dc D i) (dc D o)) (dn D) = none ∨ (dk D i ≠ 6 ∧ dk D i ≠ 5)) : cat D i = uc D (va_up (dc D) i (hnC D i)) := by
  have key : (match nrst (rnr D) (fun o => far (dc D i) (dc D o)) (dn D) with
        | some b => uc D (va_up (dc D) i (twd (dc D i) (dc D b)))
        | none => D) = uc D (va_up (dc D) i (hnC D i)) := by
    unfold hnC rno
    cases nrst (rnr D) (fun o => far (dc D i) (dc D o)) (dn D) with
    | some b => rfl
    | none =>
      dsimp only
      rw [va_up_id]
      rfl
  unfold cat
  rw [if_neg h, ht]
  dsimp only
  cases hs : nrst (ds D) (fun o => far (dc D i) (dc D o)) (dn D) with
  | none => exact key
  | some a =>
    dsimp only
    rcases hn with z | ⟨z1, z2⟩
    · rw [hs] at z; cases z
    · rw [if_neg z1, if_neg z2]
      exact key
theorem cat_g {i a : Nat} (h : ¬ (dk D i = 7 ∧ de D % 3 = 0)) (ht : fst1 (tch D i) (dn D) = none) (hn : nrst (ds D) (fun o => far (dc D i) (dc D o)) (dn D) = some a) (h5 : dk D i = 5) : cat D i = if 1 < far (dc D i) (dc D a) then uc D (va_up (dc D) i (twd (dc D i) (dc D a))) else D := by
  unfold cat
  rw [if_neg h, ht]
  dsimp only
  rw [hn]
  dsimp only
  rw [if_neg (by omega), if_pos h5]
theorem cat_w {i a : Nat} (h : ¬ (dk D i = 7 ∧ de D % 3 = 0)) (ht : fst1 (tch D i) (dn D) = none) (hn : nrst (ds D) (fun o => far (dc D i) (dc D o)) (dn D) = some a) (h6 : dk D i = 6) : cat D i = D := by
  unfold cat
  rw [if_neg h, ht]
  dsimp only
  rw [hn]
  dsimp only
  rw [if_pos h6]
theorem em_catches (hM : MYd w D) (hI : YI D) (hd : 4 ≤ d) {i : Nat} (hi : i < dn D) (hk : isC D i = true) : Cl l d MX3_catches [mR 11 0, mI (nI i)] w (fun r u => r = none ∧ OffM w u ∧ MYd u (cat D i)) := by
  show Ev l d MX3_catches 0 [some (mR 11 0), some (mI (nI i)), none] [] w _
  have h8 := hI.1
  have hi8 : i < 8 := by omega
  have hci := hI.cl hi
  have hki := hI.kd hi
  have hse := hI.se
  have hk4 : 4 ≤ dk D i := by unfold isC at hk; simpa using hk
  have e3 : mrem (nI (de D)) (nI 3) = nI (de D % 3) := mrem_n (by omega) (by omega) (by omega)
  have go : ¬ (dk D i = 7 ∧ de D % 3 = 0) → Ev l d MX3_catches 20 [some (mR 11 0), some (mI (nI i)), none] [] w (fun r u => r = none ∧ OffM w u ∧ MYd u (cat D i)) := by
    intro hb
    have htc := em_touches (l := l) (d := d - 1) hM hI (by omega) hi
    unfold tcD at htc
    cases ht : fst1 (tch D i) (dn D) with
    | some o =>
      rw [ht] at htc
      rw [cat_t hb ht]
      refine Ev.blk kX3_catches_20 rfl trivial ?_
      refine Ev.cV (d1 := d - 1) (htc) tX3_catches_22 qX3_189 rfl rfl (by decide) ⟨rfl, rfl, rfl⟩ (by omega) ?_
      rintro _ _ ⟨rfl, ho, hE⟩
      refine Ev.br tX3_catches_25 rfl (fun c25 => ?_) (fun c25 => ?_)
      · exact absurd c25 (show ¬ bI true = nI 0 by decide)
      · refine Ev.vret tX3_catches_28 rfl ?_
        exact ⟨rfl, ho, hE⟩
    | none =>
      rw [ht] at htc
      dsimp only at htc
      have hunt : ∀ u z, OffM w u → MYd u D → nrst (ds D) (fun o => far (dc D i) (dc D o)) (dn D) = none ∨ (dk D i ≠ 6 ∧ dk D i ≠ 5) → Ev l d MX3_catches 61 [some (mR 11 0), some (mI (nI i)), some (mI z)] [] u (fun r u => r = none ∧ OffM w u ∧ MYd u (cat D i)) := by
        intro u z ho hE hn
        rw [cat_h hb ht hn]
        refine Ev.blk kX3_catches_61 rfl trivial ?_
        refine Ev.cV (d1 := d - 1) (em_hunts hE hI (by omega) hi) tX3_catches_68 qX3_192 rfl rfl (by decide) ⟨rfl, rfl, rfl⟩ (by omega) ?_
        rintro _ _ ⟨rfl, rfl⟩
        refine Ev.blk kX3_catches_71 rfl ⟨trivial, vinN hi8 (by decide)⟩ ?_
        rw [ix8 hi8]
        refine Ev.vret tX3_catches_72 rfl ?_
        exact ⟨rfl, ho.tr (Om.pA (by decide)), hE.pc⟩
      cases hn : nrst (ds D) (fun o => far (dc D i) (dc D o)) (dn D) with
      | none =>
        refine Ev.blk kX3_catches_20 rfl trivial ?_
        refine Ev.cV (d1 := d - 1) (htc) tX3_catches_22 qX3_189 rfl rfl (by decide) ⟨rfl, rfl, rfl⟩ (by omega) ?_
        rintro _ _ ⟨rfl, ho, hE⟩
        have hne := em_nearest (l := l) (d := d - 1) hE hI (by omega) hi true (x := nI 1) rfl
        rw [nsq_s hI, hn] at hne
        refine Ev.br tX3_catches_25 rfl (fun c25 => ?_) (fun c25 => ?_)
        · refine Ev.blk kX3_catches_29 rfl trivial ?_
          refine Ev.cV (d1 := d - 1) (hne) tX3_catches_32 qX3_186 rfl rfl (by decide) ⟨rfl, rfl, rfl⟩ (by omega) ?_
          rintro _ _ ⟨rfl, rfl⟩
          refine Ev.blk kX3_catches_35 rfl trivial ?_
          refine Ev.br tX3_catches_37 rfl (fun c37 => ?_) (fun c37 => ?_)
          · exact hunt _ _ ho hE (Or.inl hn)
          · exact absurd (show oM9 none < nI 0 by decide) c37
        · exact absurd rfl c25
      | some a =>
        have han := (nrst_spec hn).1
        have ha8 : a < 8 := by omega
        have hca := hI.cl han
        have hfl := far_le _ hci _ hca
        refine Ev.blk kX3_catches_20 rfl trivial ?_
        refine Ev.cV (d1 := d - 1) (htc) tX3_catches_22 qX3_189 rfl rfl (by decide) ⟨rfl, rfl, rfl⟩ (by omega) ?_
        rintro _ _ ⟨rfl, ho, hE⟩
        have hne := em_nearest (l := l) (d := d - 1) hE hI (by omega) hi true (x := nI 1) rfl
        rw [nsq_s hI, hn] at hne
        refine Ev.br tX3_catches_25 rfl (fun c25 => ?_) (fun c25 => ?_)
        · refine Ev.blk kX3_catches_29 rfl trivial ?_
          refine Ev.cV (d1 := d - 1) (hne) tX3_catches_32 qX3_186 rfl rfl (by decide) ⟨rfl, rfl, rfl⟩ (by omega) ?_
          rintro _ _ ⟨rfl, rfl⟩
          refine Ev.blk kX3_catches_35 rfl trivial ?_
          refine Ev.br tX3_catches_37 rfl (fun c37 => ?_) (fun c37 => ?_)
          · exact absurd c37 (nI_nlt (Nat.zero_le _) (by omega))
          · refine Ev.blk kX3_catches_40 rfl ⟨trivial, vinN hi8 (by decide)⟩ ?_
            rw [ix8 hi8, hE.k hi]
            refine Ev.br tX3_catches_47 rfl (fun c47 => ?_) (fun c47 => ?_)
            · rw [nI_eq (by omega) (by omega)] at c47
              exact hunt _ _ ho hE (Or.inr ⟨by omega, by omega⟩)
            · rw [nI_eq (by omega) (by omega)] at c47
              refine Ev.blk kX3_catches_50 rfl ⟨trivial, vinN hi8 (by decide)⟩ ?_
              rw [ix8 hi8, hE.k hi]
              refine Ev.br tX3_catches_58 rfl (fun c58 => ?_) (fun c58 => ?_)
              · rw [nI_eq (by omega) (by omega)] at c58
                refine Ev.blk kX3_catches_73 rfl ⟨trivial, vinN hi8 (by decide)⟩ ?_
                rw [ix8 hi8, hE.k hi]
                refine Ev.br tX3_catches_80 rfl (fun c80 => ?_) (fun c80 => ?_)
                · rw [nI_eq (by omega) (by omega)] at c80
                  have e : cat D i = D := cat_w hb ht hn (by omega)
                  refine Ev.vret tX3_catches_123 rfl ?_
                  first
                  | (rw [e]; exact ⟨rfl, ho, hE⟩)
                  | (rw [e0]; exact ⟨rfl, ho.tr (Om.pA (by decide)), hE.pc⟩)
                · rw [nI_eq (by omega) (by omega), Classical.not_not] at c80
                  have e0 := cat_g hb ht hn c80
                  refine Ev.blk kX3_catches_83 rfl ⟨⟨trivial, vinN hi8 (by decide)⟩, vinN ha8 (by decide)⟩ ?_
                  rw [show oM9 (some a) = nI a from rfl]
                  simp only [ix8 hi8, ix8 ha8, hE.c hi, hE.c han]
                  refine Ev.cS (d1 := d - 1) (em_farOf (by omega) hci hca) tX3_catches_95 qX3_146 rfl ⟨rfl, rfl, rfl⟩ (by omega) ?_
                  rintro _ _ ⟨rfl, rfl⟩
                  refine Ev.blk kX3_catches_98 rfl trivial ?_
                  refine Ev.br tX3_catches_99 rfl (fun c99 => ?_) (fun c99 => ?_)
                  · rw [nI_leI (by omega) (by omega)] at c99
                    rw [if_neg (show ¬ 1 < far (dc D i) (dc D a) by omega)] at e0
                    have e : cat D i = D := e0
                    refine Ev.vret tX3_catches_123 rfl ?_
                    first
                    | (rw [e]; exact ⟨rfl, ho, hE⟩)
                    | (rw [e0]; exact ⟨rfl, ho.tr (Om.pA (by decide)), hE.pc⟩)
                  · rw [nI_leI (by omega) (by omega)] at c99
                    rw [if_pos (show 1 < far (dc D i) (dc D a) by omega)] at e0
                    refine Ev.blk kX3_catches_102 rfl ⟨⟨trivial, vinN hi8 (by decide)⟩, vinN ha8 (by decide)⟩ ?_
                    simp only [ix8 hi8, ix8 ha8, hE.c hi, hE.c han]
                    refine Ev.cS (d1 := d - 1) (em_toward (by omega) hci hca) tX3_catches_119 qX3_180 rfl ⟨rfl, rfl, rfl⟩ (by omega) ?_
                    rintro _ _ ⟨rfl, rfl⟩
                    refine Ev.blk kX3_catches_122 rfl ⟨trivial, vinN hi8 (by decide)⟩ ?_
                    rw [ix8 hi8]
                    refine Ev.vret tX3_catches_123 rfl ?_
                    first
                    | (rw [e]; exact ⟨rfl, ho, hE⟩)
                    | (rw [e0]; exact ⟨rfl, ho.tr (Om.pA (by decide)), hE.pc⟩)
              · rw [nI_eq (by omega) (by omega), Classical.not_not] at c58
                exact hunt _ _ ho hE (Or.inr ⟨by omega, by omega⟩)
        · exact absurd rfl c25
  refine Ev.blk kX3_catches_0 rfl ⟨trivial, vinN hi8 (by decide)⟩ ?_
  rw [ix8 hi8, hM.k hi]
  refine Ev.br tX3_catches_8 rfl (fun c8 => ?_) (fun c8 => ?_)
  · rw [nI_eq (by omega) (by omega)] at c8
    exact go (by omega)
  · rw [nI_eq (by omega) (by omega), Classical.not_not] at c8
    refine Ev.blk kX3_catches_11 rfl ⟨trivial, by decide⟩ ?_
    rw [hM.e, e3]
    refine Ev.br tX3_catches_17 rfl (fun c17 => ?_) (fun c17 => ?_)
    · rw [nI_eq (by omega) (by omega)] at c17
      refine Ev.vret tX3_catches_28 rfl ?_
      rw [cat_b ⟨c8, c17⟩]
      exact ⟨rfl, Om.rf, hM⟩
    · rw [nI_eq (by omega) (by omega)] at c17
      exact go (by omega)
theorem em_less {t : Nat} (ht : t < 1000) : Cl l d MX3_less [mI (nI t)] w (fun r u => u = w ∧ r = some (mI (nI (t - 1)))) := by
  show Ev l d MX3_less 0 [some (mI (nI t))] [] w _
  refine Ev.blk kX3_less_0 rfl trivial ?_
  refine Ev.br tX3_less_1 rfl (fun c1 => ?_) (fun c1 => ?_)
  · rw [nI_leI (by omega) (by omega)] at c1
    refine Ev.blk kX3_less_10 rfl trivial ?_
    refine Ev.iret tX3_less_11 rfl rfl ?_
    refine ⟨rfl, ?_⟩
    first
      | (rw [pk_sub (by omega)])
      | (rw [show t - 1 = 0 by omega])
  · rw [nI_leI (by omega) (by omega)] at c1
    refine Ev.blk kX3_less_4 rfl trivial ?_
    refine Ev.jmp tX3_less_7 ?_
    refine Ev.iret tX3_less_11 rfl rfl ?_
    refine ⟨rfl, ?_⟩
    first
      | (rw [pk_sub (by omega)])
      | (rw [show t - 1 = 0 by omega])
theorem em_goesOn (hM : MYd w D) (hI : YI D) (hd : 5 ≤ d) {i : Nat} (hi : i < dn D) : Cl l d MX3_goesOn [mR 11 0, mI (nI i)] w (fun r u => r = none ∧ OffM w u ∧ MYd u (act D i)) := by
  show Ev l d MX3_goesOn 0 [some (mR 11 0), some (mI (nI i)), none] [] w _
  have h8 := hI.1
  have hi8 : i < 8 := by omega
  have hci := hI.cl hi
  have ht9 := hI.td i
  cases hk : isC D i with
  | true =>
    have e : act D i = cat D i := if_pos hk
    rw [e]
    refine Ev.blk kX3_goesOn_0 rfl trivial ?_
    refine Ev.cV (d1 := d - 1) (em_isCatcherB hM hI hi hk) tX3_goesOn_2 qX3_109 rfl rfl (by decide) ⟨rfl, rfl, rfl⟩ (by omega) ?_
    rintro _ _ ⟨rfl, rfl⟩
    refine Ev.br tX3_goesOn_5 rfl (fun c5 => ?_) (fun c5 => ?_)
    · exact absurd c5 (by decide)
    · refine Ev.blk kX3_goesOn_8 rfl trivial ?_
      refine Ev.cV (d1 := d - 1) (em_catches hM hI (by omega) hi hk) tX3_goesOn_10 qX3_195 rfl rfl (by decide) ⟨rfl, rfl, rfl⟩ (by omega) ?_
      rintro _ _ ⟨rfl, ho, hE⟩
      refine Ev.vret tX3_goesOn_13 rfl ?_
      exact ⟨rfl, ho, hE⟩
  | false =>
    have e : act D i = ply D i := if_neg (by rw [hk]; decide)
    rw [e]
    obtain ⟨hr1, hr2⟩ := runs_YI hI hi
    obtain ⟨r1, r2, r3⟩ := runs_dc (D := D) (i := i)
    refine Ev.blk kX3_goesOn_0 rfl trivial ?_
    refine Ev.cV (d1 := d - 1) (em_isCatcherB hM hI hi hk) tX3_goesOn_2 qX3_109 rfl rfl (by decide) ⟨rfl, rfl, rfl⟩ (by omega) ?_
    rintro _ _ ⟨rfl, rfl⟩
    refine Ev.br tX3_goesOn_5 rfl (fun c5 => ?_) (fun c5 => ?_)
    · refine Ev.blk kX3_goesOn_14 rfl ⟨trivial, vinN hi8 (by decide)⟩ ?_
      rw [ix8 hi8, hM.s hi8]
      refine Ev.br tX3_goesOn_21 rfl (fun c21 => ?_) (fun c21 => ?_)
      · rw [bI_1] at c21
        have hz : ds D i = true ∨ i = da D := Or.inl c21
        refine Ev.blk kX3_goesOn_32 rfl ⟨trivial, vinN hi8 (by decide)⟩ ?_
        rw [ix8 hi8, hM.t hi8]
        refine Ev.cS (d1 := d - 1) (em_less (by omega)) tX3_goesOn_43 qX3_199 rfl ⟨rfl, rfl, rfl⟩ (by omega) ?_
        rintro _ _ ⟨rfl, rfl⟩
        refine Ev.blk kX3_goesOn_46 rfl ⟨trivial, vinN hi8 (by decide)⟩ ?_
        rw [ix8 hi8]
        refine Ev.vret tX3_goesOn_47 rfl ?_
        have e2 : ply D i = ut D (va_up (dt D) i (dt D i - 1)) := if_pos hz
        rw [e2]
        exact ⟨rfl, Om.pA (by decide), hM.pt⟩
      · rw [bI_1] at c21
        refine Ev.blk kX3_goesOn_24 rfl trivial ?_
        rw [hM.a]
        refine Ev.br tX3_goesOn_29 rfl (fun c29 => ?_) (fun c29 => ?_)
        · rw [enM_i hi8] at c29
          have hz : ¬ (ds D i = true ∨ i = da D) := fun z => z.elim c21 c29
          refine Ev.blk kX3_goesOn_48 rfl ⟨trivial, vinN hi8 (by decide)⟩ ?_
          rw [ix8 hi8, hM.t hi8]
          refine Ev.br tX3_goesOn_56 rfl (fun c56 => ?_) (fun c56 => ?_)
          · rw [nI_eq (by omega) (by omega)] at c56
            refine Ev.blk kX3_goesOn_67 rfl trivial ?_
            refine Ev.cV (d1 := d - 1) (em_runsTo hM hI (by omega) hi (bl_f c21)) tX3_goesOn_69 qX3_202 rfl rfl (by decide) ⟨rfl, rfl, rfl⟩ (by omega) ?_
            rintro _ _ ⟨rfl, ho, hE⟩
            have hin : i < dn (runs D i).1 := by rw [r3.2.2.1]; exact hi
            have hcE := hE.c hin
            have htE := hE.t hi8
            rw [r1] at hcE
            rw [r2] at htE
            have e2 : ply D i = uc (ut (runs D i).1 (va_up (dt D) i (tir (dt D i) ((runs D i).2 == dc D i)))) (va_up (dc D) i (runs D i).2) := by
              rw [ply_at hz c56]
              rfl
            rw [e2]
            refine Ev.blk kX3_goesOn_72 rfl ⟨trivial, vinN hi8 (by decide)⟩ ?_
            simp only [ix8 hi8, hcE]
            refine Ev.br tX3_goesOn_85 rfl (fun c85 => ?_) (fun c85 => ?_)
            · rw [nI_eq (by omega) (by omega)] at c85
              have ev : tir (dt D i) ((runs D i).2 == dc D i) = dt D i + 1 := by
                rw [beq_false_of_ne c85]
                show (if dt D i < 9 then dt D i + 1 else 9) = _
                rw [if_pos (by omega)]
              refine Ev.blk kX3_goesOn_100 rfl ⟨trivial, vinN hi8 (by decide)⟩ ?_
              rw [ix8 hi8, htE, nI_add]
              refine Ev.blk kX3_goesOn_108 rfl ⟨⟨trivial, vinN hi8 (by decide)⟩, vinN hi8 (by decide)⟩ ?_
              rw [ix8 hi8]
              refine Ev.vret tX3_goesOn_116 rfl ?_
              refine ⟨rfl, ho.tr ((Om.pA (by decide)).tr (Om.pA (by decide))), ?_⟩
              rw [ev]
              have h1 := hE.pt (i := i) (x := tir (dt D i) ((runs D i).2 == dc D i))
              rw [ev, r2] at h1
              have h2 := h1.pc (i := i) (x := (runs D i).2)
              have e5 : dc (ut (runs D i).1 (va_up (dt D) i (tir (dt D i) ((runs D i).2 == dc D i)))) = dc D := r1
              rw [ev] at e5
              rw [e5] at h2
              exact h2
            · rw [nI_eq (by omega) (by omega), Classical.not_not] at c85
              have ev : tir (dt D i) ((runs D i).2 == dc D i) = dt D i - 1 := by
                rw [c85]
                unfold tir
                simp
              refine Ev.blk kX3_goesOn_88 rfl ⟨trivial, vinN hi8 (by decide)⟩ ?_
              rw [ix8 hi8, htE]
              refine Ev.cS (d1 := d - 1) (em_less (by omega)) tX3_goesOn_94 qX3_199 rfl ⟨rfl, rfl, rfl⟩ (by omega) ?_
              rintro _ _ ⟨rfl, rfl⟩
              refine Ev.jmp tX3_goesOn_97 ?_
              refine Ev.blk kX3_goesOn_108 rfl ⟨⟨trivial, vinN hi8 (by decide)⟩, vinN hi8 (by decide)⟩ ?_
              rw [ix8 hi8]
              refine Ev.vret tX3_goesOn_116 rfl ?_
              refine ⟨rfl, ho.tr ((Om.pA (by decide)).tr (Om.pA (by decide))), ?_⟩
              rw [ev]
              have h1 := hE.pt (i := i) (x := tir (dt D i) ((runs D i).2 == dc D i))
              rw [ev, r2] at h1
              have h2 := h1.pc (i := i) (x := (runs D i).2)
              have e5 : dc (ut (runs D i).1 (va_up (dt D) i (tir (dt D i) ((runs D i).2 == dc D i)))) = dc D := r1
              rw [ev] at e5
              rw [e5] at h2
              exact h2
          · rw [nI_eq (by omega) (by omega), Classical.not_not] at c56
            refine Ev.blk kX3_goesOn_59 rfl ⟨trivial, vinN hi8 (by decide)⟩ ?_
            rw [ix8 hi8]
            refine Ev.vret tX3_goesOn_66 rfl ?_
            have e2 : ply D i = ut D (va_up (dt D) i 0) := by
              unfold ply
              rw [if_neg hz, if_pos c56]
            rw [e2]
            exact ⟨rfl, Om.pA (by decide), hM.pt⟩
        · rw [enM_i hi8, Classical.not_not] at c29
          have hz : ds D i = true ∨ i = da D := Or.inr c29
          refine Ev.blk kX3_goesOn_32 rfl ⟨trivial, vinN hi8 (by decide)⟩ ?_
          rw [ix8 hi8, hM.t hi8]
          refine Ev.cS (d1 := d - 1) (em_less (by omega)) tX3_goesOn_43 qX3_199 rfl ⟨rfl, rfl, rfl⟩ (by omega) ?_
          rintro _ _ ⟨rfl, rfl⟩
          refine Ev.blk kX3_goesOn_46 rfl ⟨trivial, vinN hi8 (by decide)⟩ ?_
          rw [ix8 hi8]
          refine Ev.vret tX3_goesOn_47 rfl ?_
          have e2 : ply D i = ut D (va_up (dt D) i (dt D i - 1)) := if_pos hz
          rw [e2]
          exact ⟨rfl, Om.pA (by decide), hM.pt⟩
    · exact absurd rfl c5
theorem em_goes (hM : MYd w D) (hI : YI D) (hd : 6 ≤ d) : Cl l d MX3_goes [mR 11 0] w (fun r u => r = none ∧ OffM w u ∧ MYd u (pass D)) := by
  show Ev l d MX3_goes 0 [some (mR 11 0), none] [] w _
  have h8 := hI.1
  have hse := hI.se
  have hlw := hI.lw
  have e3 : mrem (nI (de D)) (nI 10) = nI (de D % 10) := mrem_n (by omega) (by omega) (by omega)
  have kp := tnth_Kp (D := D)
  have go : ∀ u z, OffM w u → MYd u (tnth D) → Ev l d MX3_goes 41 [some (mR 11 0), some (mI z)] [] u (fun r u => r = none ∧ OffM w u ∧ MYd u (pass D)) := by
    intro u z ho hE
    refine Ev.blk kX3_goes_41 rfl trivial ?_
    refine Ev.for (fun j L v => OffM w v ∧ MYd v (actN (tnth D) j) ∧ L = [some (mR 11 0), some (mI (nI j))]) (dn D) ?_ ?_ 0 (Nat.zero_le _) ⟨ho, hE, rfl⟩
    · rintro L v ⟨ho, hE, rfl⟩
      have kn := (kp.tr (actN_Kp (D := tnth D) (dn D)))
      have hn : mgf v 11 0 7 = nI (dn D) := by rw [← kn.2.2.1]; exact hE.n
      have he : mgf v 11 0 9 = nI (de D) := by rw [← kn.2.2.2.2.1]; exact hE.e
      refine Ev.blk kX3_goes_43 rfl trivial ?_
      simp only [hn]
      refine Ev.br tX3_goes_48 rfl (fun c48 => ?_) (fun c48 => ?_)
      · refine Ev.blk kX3_goes_62 rfl trivial ?_
        rw [he, nI_add]
        refine Ev.vret tX3_goes_72 rfl ?_
        exact ⟨rfl, ho.tr (Om.pf (by decide)), hE.pE⟩
      · exact absurd (nI_le (Nat.le_refl _) (by omega)) c48
    · rintro j L v hj ⟨ho, hE, rfl⟩ k
      have kn := (kp.tr (actN_Kp (D := tnth D) j))
      have hEI := actN_YI (tnth_YI hI) j (by rw [kp.2.2.1]; omega)
      have hn : mgf v 11 0 7 = nI (dn D) := by rw [← kn.2.2.1]; exact hE.n
      have hjn : j < dn (actN (tnth D) j) := by rw [kn.2.2.1]; exact hj
      refine Ev.blk kX3_goes_43 rfl trivial ?_
      simp only [hn]
      refine Ev.br tX3_goes_48 rfl (fun c48 => ?_) (fun c48 => ?_)
      · exact absurd c48 (nI_ge hj (by omega))
      · refine Ev.blk kX3_goes_51 rfl trivial ?_
        refine Ev.cV (d1 := d - 1) (em_goesOn hE hEI (by omega) hjn) tX3_goes_53 qX3_205 rfl rfl (by decide) ⟨rfl, rfl, rfl⟩ (by omega) ?_
        rintro _ _ ⟨rfl, ho2, hF⟩
        refine Ev.blk kX3_goes_56 rfl trivial ?_
        refine Ev.jmp tX3_goes_59 ?_
        exact k _ _ ⟨ho.tr ho2, hF, by rw [nI_add]⟩
  by_cases ht : dl D = 3 ∧ de D % 10 = 0
  · have et : tnth D = us D (fun _ => false) := if_pos ht
    refine Ev.blk kX3_goes_0 rfl trivial ?_
    refine Ev.for (fun j L u => OffM w u ∧ MYd u (us D (fun o => ds D o && !decide (o < j))) ∧ L = [some (mR 11 0), some (mI (nI j))]) (dn D) ?_ ?_ 0 (Nat.zero_le _) ⟨Om.rf, by
      have e : (fun o => ds D o && !decide (o < 0)) = ds D := by funext o; simp
      rw [e]
      exact hM, rfl⟩
    · rintro L u ⟨ho, hE, rfl⟩
      have hn : mgf u 11 0 7 = nI (dn D) := hE.n
      have e : (fun o => ds D o && !decide (o < dn D)) = fun _ => false := by
        funext o
        cases hz : ds D o with
        | false => rfl
        | true =>
          have := (hI.st hz).1
          simp [this]
      rw [e] at hE
      refine Ev.blk kX3_goes_2 rfl trivial ?_
      simp only [hn]
      refine Ev.br tX3_goes_7 rfl (fun c7 => ?_) (fun c7 => ?_)
      · exact go _ _ ho (by rw [et]; exact hE)
      · exact absurd (nI_le (Nat.le_refl _) (by omega)) c7
    · rintro j L u hj ⟨ho, hE, rfl⟩ k
      have hj8 : j < 8 := by omega
      have hn : mgf u 11 0 7 = nI (dn D) := hE.n
      have hl : mgf u 11 0 8 = nI (dl D) := hE.l
      have he : mgf u 11 0 9 = nI (de D) := hE.e
      refine Ev.blk kX3_goes_2 rfl trivial ?_
      simp only [hn]
      refine Ev.br tX3_goes_7 rfl (fun c7 => ?_) (fun c7 => ?_)
      · exact absurd c7 (nI_ge hj (by omega))
      · refine Ev.blk kX3_goes_10 rfl trivial ?_
        rw [hl, ht.1]
        refine Ev.br tX3_goes_15 rfl (fun c15 => ?_) (fun c15 => ?_)
        · exact absurd rfl c15
        · refine Ev.blk kX3_goes_18 rfl ⟨trivial, by decide⟩ ?_
          rw [he, e3, ht.2]
          refine Ev.br tX3_goes_25 rfl (fun c25 => ?_) (fun c25 => ?_)
          · exact absurd rfl c25
          · refine Ev.blk kX3_goes_28 rfl ⟨trivial, vinN hj8 (by decide)⟩ ?_
            rw [ix8 hj8, nI_add]
            refine Ev.jmp tX3_goes_38 ?_
            refine k _ _ ⟨ho.tr (Om.pA (by decide)), ?_, rfl⟩
            have h1 := hE.ps (i := j) (b := false) (x := nI 0) rfl
            have e : (fun o => ds D o && !decide (o < j + 1)) = va_up (ds (us D (fun o => ds D o && !decide (o < j)))) j false := by
              funext o
              unfold va_up
              by_cases eo : o = j
              · subst eo; simp
              · rw [if_neg eo]
                show _ = (ds D o && !decide (o < j))
                have : decide (o < j + 1) = decide (o < j) := by simp; omega
                rw [this]
            rw [e]
            exact h1
  · have et : tnth D = D := if_neg ht
    refine Ev.blk kX3_goes_0 rfl trivial ?_
    refine Ev.blk kX3_goes_2 rfl trivial ?_
    rw [hM.n]
    refine Ev.br tX3_goes_7 rfl (fun c7 => ?_) (fun c7 => ?_)
    · skip
      exact go _ _ Om.rf (by rw [et]; exact hM)
    · refine Ev.blk kX3_goes_10 rfl trivial ?_
      rw [hM.l]
      refine Ev.br tX3_goes_15 rfl (fun c15 => ?_) (fun c15 => ?_)
      · exact go _ _ Om.rf (by rw [et]; exact hM)
      · rw [nI_eq (by omega) (by omega), Classical.not_not] at c15
        refine Ev.blk kX3_goes_18 rfl ⟨trivial, by decide⟩ ?_
        rw [hM.e, e3]
        refine Ev.br tX3_goes_25 rfl (fun c25 => ?_) (fun c25 => ?_)
        · exact go _ _ Om.rf (by rw [et]; exact hM)
        · exact absurd (by rw [nI_eq (by omega) (by omega)]; exact fun z => ht ⟨c15, z⟩) c25
end M3
