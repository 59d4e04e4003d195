/-! ===== the class's yard: sets of children as bits; steps ===== -/
theorem YI.n8 {D : Yd} (h : YI D) : dn D ≤ 8 := h.1
theorem YI.cl {D : Yd} (h : YI D) {j : Nat} (hj : j < dn D) : dc D j < 24 := (h.2.1 j hj).2.1
theorem YI.kd {D : Yd} (h : YI D) {j : Nat} (hj : j < dn D) : dk D j < 8 := (h.2.1 j hj).1
theorem YI.fr {D : Yd} (h : YI D) {j : Nat} (hj : j < dn D) : df D j < 8 := (h.2.1 j hj).2.2
theorem YI.td {D : Yd} (h : YI D) (j : Nat) : dt D j ≤ 9 := h.2.2.1 j
theorem YI.st {D : Yd} (h : YI D) {j : Nat} (hj : ds D j = true) : j < dn D ∧ dk D j < 4 := h.2.2.2.1 j hj
theorem YI.rd {D : Yd} (h : YI D) (x : Nat) : dr D x ≤ 99 := h.2.2.2.2.2.1 x
theorem YI.lw {D : Yd} (h : YI D) : dl D < 4 := h.2.2.2.2.2.2.2.1
theorem YI.se {D : Yd} (h : YI D) : de D < 100000 := h.2.2.2.2.2.2.2.2
theorem YI.uc {D : Yd} (h : YI D) {i v : Nat} (hv : v < 24) : YI (uc D (va_up (dc D) i v)) := by
  obtain ⟨h1, h2, h3⟩ := h
  refine ⟨h1, fun j hj => ⟨(h2 j hj).1, ?_, (h2 j hj).2.2⟩, h3⟩
  show va_up (dc D) i v j < 24
  unfold va_up
  split
  · exact hv
  · exact (h2 j hj).2.1
theorem YI.ut {D : Yd} (h : YI D) {i v : Nat} (hi : i < dn D) (hv : v ≤ 9) : YI (ut D (va_up (dt D) i v)) := by
  obtain ⟨h1, h2, h3, h4, h5, h6⟩ := h
  refine ⟨h1, h2, fun j => ?_, h4, fun j hj => ?_, h6⟩
  · show va_up (dt D) i v j ≤ 9
    unfold va_up
    split
    · exact hv
    · exact h3 j
  · show va_up (dt D) i v j = 0
    unfold va_up
    have hj : dn D ≤ j := hj
    rw [if_neg (by omega)]
    exact h5 j hj
theorem YI.us {D : Yd} (h : YI D) {q : Nat → Bool} (hq : ∀ j, q j = true → j < dn D ∧ dk D j < 4) : YI (us D q) := ⟨h.1, h.2.1, h.2.2.1, hq, h.2.2.2.2⟩
theorem YI.ug {D : Yd} (h : YI D) {g : Nat} : YI (ug D g) := h
theorem YI.ua {D : Yd} (h : YI D) {g : Nat} : YI (ua D g) := h
theorem YI.ue {D : Yd} (h : YI D) {g : Nat} (hg : g < 100000) : YI (ue D g) := ⟨h.1, h.2.1, h.2.2.1, h.2.2.2.1, h.2.2.2.2.1, h.2.2.2.2.2.1, h.2.2.2.2.2.2.1, h.2.2.2.2.2.2.2.1, hg⟩
theorem YI.frd {D : Yd} (h : YI D) {i : Nat} {q : Nat → Bool} (hi : i < dn D) (hq : ∀ j, q j = true → ds D j = true) : YI (frd D i q) := by
  obtain ⟨h1, h2, h3, h4, h5, h6, h7, h8⟩ := h
  refine ⟨h1, h2, h3, fun j hj => ?_, h5, fun x => ?_, fun x hx => ?_, h8⟩
  · have hj : (ds D j && !q j) = true := hj
    simp only [Bool.and_eq_true] at hj
    exact h4 j hj.1
  · show (if x / 8 = i ∧ q (x % 8) = true then (if dr D x < 99 then dr D x + 1 else 99) else dr D x) ≤ 99
    have := h6 x
    split
    · split <;> omega
    · exact this
  · show (if x / 8 = i ∧ q (x % 8) = true then (if dr D x < 99 then dr D x + 1 else 99) else dr D x) = 0
    have hx : dn D ≤ x / 8 ∨ dn D ≤ x % 8 := hx
    rw [if_neg]
    · exact h7 x hx
    · rintro ⟨e1, e2⟩
      have := (h4 _ (hq _ e2)).1
      omega
theorem capL_le (D : Yd) (c : Nat) : ∀ i, capL D c i ≤ 99
  | 0 => Nat.le_refl _
  | i + 1 => by
    have := capL_le D c i
    unfold capL
    repeat' split
    all_goals omega
theorem cap_le (D : Yd) (c : Nat) : cap D c ≤ 99 := capL_le D c _
theorem stp_in {c way t : Nat} (hc : c < 24) (hw : way < 5) (h : stp c way = some t) : t < 24 := by
  have := stp_lt c hc way hw
  rw [h] at this
  simpa using this
theorem awS_lt {D : Yd} {c b way : Nat} (hc : c < 24) (hb : b < 24) (hw : way < 5) : awS D c b way < 24 := by
  unfold awS
  split
  · rename_i t ht
    have := stp_in hc hw ht
    split <;> omega
  · exact hb
theorem awy_lt {D : Yd} {c : Nat} (hc : c < 24) : awy D c < 24 := awS_lt hc (awS_lt hc (awS_lt hc (awS_lt hc hc (by decide)) (by decide)) (by decide)) (by decide)
theorem twS_lt {c a b way : Nat} (hc : c < 24) (hb : b < 24) (hw : way < 5) : twS c a b way < 24 := by
  unfold twS
  split
  · rename_i t ht
    have := stp_in hc hw ht
    split <;> omega
  · exact hb
theorem twd_lt {c a : Nat} (hc : c < 24) : twd c a < 24 := twS_lt hc (twS_lt hc (twS_lt hc (twS_lt hc hc (by decide)) (by decide)) (by decide)) (by decide)
def aws (D : Yd) (c : Nat) : Nat → Nat
  | 0 => c
  | s + 1 => if s = 0 then c else awS D c (aws D c s) s
theorem aws_lt {D : Yd} {c : Nat} (hc : c < 24) : ∀ s, s ≤ 5 → aws D c s < 24
  | 0, _ => hc
  | s + 1, h => by
    unfold aws
    split
    · exact hc
    · exact awS_lt hc (aws_lt hc s (by omega)) (by omega)
theorem aws_5 (D : Yd) (c : Nat) : aws D c 5 = awy D c := rfl
def tws (c a : Nat) : Nat → Nat
  | 0 => c
  | s + 1 => if s = 0 then c else twS c a (tws c a s) s
theorem tws_lt {c a : Nat} (hc : c < 24) : ∀ s, s ≤ 5 → tws c a s < 24
  | 0, _ => hc
  | s + 1, h => by
    unfold tws
    split
    · exact hc
    · exact twS_lt hc (tws_lt hc s (by omega)) (by omega)
theorem tws_5 (c a : Nat) : tws c a 5 = twd c a := rfl
theorem tb_tire : ∀ t, t < 10 → imx (nI 0) (imn (nI 9) (nI t + (-1))) = nI (tir t true) ∧ imx (nI 0) (imn (nI 9) (nI t + nI 1)) = nI (tir t false) := by decide +kernel
theorem tir_le {t : Nat} (h : t ≤ 9) (b : Bool) : tir t b ≤ 9 := by
  unfold tir
  split
  · omega
  · split <;> omega
section Y4
variable {l : Launch} {d : Nat} {w : mW} {y : Nat} {D : Yd}
theorem ev_playerBits (hY : YardAt w y D) (hI : YI D) : Cl l d MX1_playerBits [mR 1 y] w (fun r u => u = w ∧ r = some (mI (nI (bts (plq D) 8)))) := by
  show Ev l d MX1_playerBits 0 [some (mR 1 y), none, none] [] w _
  refine Ev.blk kX1_playerBits_0 rfl trivial ?_
  have hn := hY.n
  have h8 := hI.1
  refine Ev.for (fun j L u => u = w ∧ L = [some (mR 1 y), some (mI (nI (bts (fun o => decide (o < j) && !isC D o) 8))), some (mI (nI j))]) (dn D) ?_ ?_ 0 (Nat.zero_le _) ⟨rfl, by simp; exact b_zero⟩
  · rintro L u ⟨rfl, rfl⟩
    refine Ev.blk kX1_playerBits_4 rfl trivial ?_
    simp only [hn]
    refine Ev.br tX1_playerBits_9 rfl (fun c9 => ?_) (fun c9 => ?_)
    · refine Ev.blk kX1_playerBits_34 rfl trivial ?_
      refine Ev.iret tX1_playerBits_35 rfl rfl ?_
      exact ⟨rfl, rfl⟩
    · exact absurd (nI_le (Nat.le_refl _) (by omega)) c9
  · rintro j L u hj ⟨rfl, rfl⟩ k
    have hj8 : j < 8 := by omega
    have hkk := hI.kd hj
    refine Ev.blk kX1_playerBits_4 rfl trivial ?_
    simp only [hn]
    refine Ev.br tX1_playerBits_9 rfl (fun c9 => ?_) (fun c9 => ?_)
    · exact absurd c9 (nI_ge hj (by omega))
    · try simp (disch := omega) only [nI_eq, nI_leI, nI_ltI] at c9
      refine Ev.blk kX1_playerBits_12 rfl ⟨trivial, vinN hj8 (by decide)⟩ ?_
      simp only [ix8 hj8, hY.k hj8]
      refine Ev.br tX1_playerBits_19 rfl (fun c19 => ?_) (fun c19 => ?_)
      · try simp (disch := omega) only [nI_eq, nI_leI, nI_ltI] at c19
        refine Ev.blk kX1_playerBits_28 rfl trivial ?_
        refine Ev.jmp tX1_playerBits_31 ?_
        refine k _ _ ⟨rfl, ?_⟩
        rw [nI_add]
        have e : ∀ o, o < 8 → (decide (o < j + 1) && !isC D o) = (if o = j then !isC D j else (decide (o < j) && !isC D o)) := by
          intro o _
          by_cases h : o = j
          · subst h; simp
          · rw [if_neg h]
            have : decide (o < j + 1) = decide (o < j) := by simp; omega
            rw [this]
        rw [bts_congr e]
        first
          | (have hC : isC D j = true := by unfold isC; simp; omega
             congr 5
             refine bts_congr (fun o ho => ?_)
             by_cases h : o = j
             · subst h; simp [hC]
             · rw [if_neg h])
          | (have hC : isC D j = false := by unfold isC; simp; omega
             congr 5
             refine bts_congr (fun o ho => ?_)
             unfold va_up
             by_cases h : o = j
             · subst h; simp [hC]
             · rw [if_neg h, if_neg h])
      · try simp (disch := omega) only [nI_eq, nI_leI, nI_ltI] at c19
        refine Ev.blk kX1_playerBits_22 rfl trivial ?_
        rw [b_or hj8]
        refine Ev.blk kX1_playerBits_28 rfl trivial ?_
        refine Ev.jmp tX1_playerBits_31 ?_
        refine k _ _ ⟨rfl, ?_⟩
        rw [nI_add]
        have e : ∀ o, o < 8 → (decide (o < j + 1) && !isC D o) = (if o = j then !isC D j else (decide (o < j) && !isC D o)) := by
          intro o _
          by_cases h : o = j
          · subst h; simp
          · rw [if_neg h]
            have : decide (o < j + 1) = decide (o < j) := by simp; omega
            rw [this]
        rw [bts_congr e]
        first
          | (have hC : isC D j = true := by unfold isC; simp; omega
             congr 5
             refine bts_congr (fun o ho => ?_)
             by_cases h : o = j
             · subst h; simp [hC]
             · rw [if_neg h])
          | (have hC : isC D j = false := by unfold isC; simp; omega
             congr 5
             refine bts_congr (fun o ho => ?_)
             unfold va_up
             by_cases h : o = j
             · subst h; simp [hC]
             · rw [if_neg h, if_neg h])
theorem ev_runningBits (hY : YardAt w y D) (hI : YI D) (hd : 1 ≤ d) : Cl l d MX1_runningBits [mR 1 y] w (fun r u => u = w ∧ r = some (mI (nI (bts (fun j => plq D j && !ds D j) 8)))) := by
  show Ev l d MX1_runningBits 0 [some (mR 1 y)] [] w _
  refine Ev.blk kX1_runningBits_0 rfl trivial ?_
  refine Ev.cV (d1 := d - 1) (ev_playerBits hY hI) tX1_runningBits_1 qX1_62 rfl rfl (by decide) ⟨rfl, rfl, rfl⟩ (by omega) ?_
  rintro _ _ ⟨rfl, rfl⟩
  refine Ev.blk kX1_runningBits_4 rfl trivial ?_
  simp only [hY.s, b_andn]
  refine Ev.iret tX1_runningBits_11 rfl rfl ?_
  exact ⟨rfl, rfl⟩
theorem ev_safeBits (hY : YardAt w y D) (hI : YI D) (hd : 1 ≤ d) : Cl l d MX1_safeBits [mR 1 y] w (fun r u => u = w ∧ r = some (mI (nI (bts (sfq D) 8)))) := by
  show Ev l d MX1_safeBits 0 [some (mR 1 y), none, none] [] w _
  refine Ev.blk kX1_safeBits_0 rfl trivial ?_
  have hn := hY.n
  have h8 := hI.1
  have hl4 := hI.lw
  refine Ev.for (fun j L u => u = w ∧ L = [some (mR 1 y), some (mI (nI (bts (fun o => decide (o < j) && (o == da D || (dl D == 1 && edg (dc D o)))) 8))), some (mI (nI j))]) (dn D) ?_ ?_ 0 (Nat.zero_le _) ⟨rfl, by simp; exact b_zero⟩
  · rintro L u ⟨rfl, rfl⟩
    refine Ev.blk kX1_safeBits_4 rfl trivial ?_
    simp only [hn]
    refine Ev.br tX1_safeBits_9 rfl (fun c9 => ?_) (fun c9 => ?_)
    · refine Ev.blk kX1_safeBits_52 rfl trivial ?_
      refine Ev.iret tX1_safeBits_53 rfl rfl ?_
      exact ⟨rfl, rfl⟩
    · exact absurd (nI_le (Nat.le_refl _) (by omega)) c9
  · rintro j L u hj ⟨rfl, rfl⟩ k
    have hj8 : j < 8 := by omega
    have hcj := hI.cl hj
    have ha : (nI j = enA (da D)) = (j = da D) := by
      unfold enA
      split
      · rw [nI_eq (by omega) (by omega)]
      · rw [nI_m1 (by omega)]
        apply (eq_false _).symm
        omega
    have e : ∀ b : Bool, (j == da D || (dl D == 1 && edg (dc D j))) = b → bts (fun o => decide (o < j + 1) && (o == da D || (dl D == 1 && edg (dc D o)))) 8 = bts (va_up (fun o => decide (o < j) && (o == da D || (dl D == 1 && edg (dc D o)))) j b) 8 := by
      intro b hb
      refine bts_congr (fun o _ => ?_)
      unfold va_up
      by_cases h : o = j
      · subst h; simp only [if_true]; rw [hb]; simp
      · rw [if_neg h]
        have : decide (o < j + 1) = decide (o < j) := by simp; omega
        rw [this]
    have e0 : bts (va_up (fun o => decide (o < j) && (o == da D || (dl D == 1 && edg (dc D o)))) j false) 8 = bts (fun o => decide (o < j) && (o == da D || (dl D == 1 && edg (dc D o)))) 8 := by
      refine bts_congr (fun o _ => ?_)
      unfold va_up
      by_cases h : o = j
      · subst h; simp
      · rw [if_neg h]
    refine Ev.blk kX1_safeBits_4 rfl trivial ?_
    simp only [hn]
    refine Ev.br tX1_safeBits_9 rfl (fun c9 => ?_) (fun c9 => ?_)
    · exact absurd c9 (nI_ge hj (by omega))
    · try simp (disch := omega) only [nI_eq, nI_leI, nI_ltI] at c9
      refine Ev.blk kX1_safeBits_12 rfl trivial ?_
      simp only [hY.a]
      refine Ev.br tX1_safeBits_17 rfl (fun c17 => ?_) (fun c17 => ?_)
      · rw [ha] at c17
        refine Ev.blk kX1_safeBits_40 rfl trivial ?_
        rw [b_or hj8]
        refine Ev.blk kX1_safeBits_46 rfl trivial ?_
        refine Ev.jmp tX1_safeBits_49 ?_
        refine k _ _ ⟨rfl, ?_⟩
        rw [nI_add]
        cases hb : (j == da D || (dl D == 1 && edg (dc D j)))
        · rw [e false hb, e0] <;> first | rfl | (exfalso; simp_all; done)
        · rw [e true hb] <;> first | rfl | (exfalso; simp_all; done)
      · rw [ha] at c17
        refine Ev.blk kX1_safeBits_20 rfl trivial ?_
        simp only [hY.l]
        refine Ev.br tX1_safeBits_25 rfl (fun c25 => ?_) (fun c25 => ?_)
        · try simp (disch := omega) only [nI_eq, nI_leI, nI_ltI] at c25
          refine Ev.blk kX1_safeBits_46 rfl trivial ?_
          refine Ev.jmp tX1_safeBits_49 ?_
          refine k _ _ ⟨rfl, ?_⟩
          rw [nI_add]
          cases hb : (j == da D || (dl D == 1 && edg (dc D j)))
          · rw [e false hb, e0] <;> first | rfl | (exfalso; simp_all; done)
          · rw [e true hb] <;> first | rfl | (exfalso; simp_all; done)
        · try simp (disch := omega) only [nI_eq, nI_leI, nI_ltI] at c25
          refine Ev.blk kX1_safeBits_28 rfl ⟨trivial, vinN hj8 (by decide)⟩ ?_
          simp only [ix8 hj8, hY.c hj8]
          refine Ev.cS (d1 := d - 1) (ev_isEdge hcj) tX1_safeBits_34 qX1_124 rfl ⟨rfl, rfl, rfl⟩ (by omega) ?_
          rintro _ _ ⟨rfl, rfl⟩
          refine Ev.br tX1_safeBits_37 rfl (fun c37 => ?_) (fun c37 => ?_)
          · rw [bI_0] at c37
            refine Ev.blk kX1_safeBits_46 rfl trivial ?_
            refine Ev.jmp tX1_safeBits_49 ?_
            refine k _ _ ⟨rfl, ?_⟩
            rw [nI_add]
            cases hb : (j == da D || (dl D == 1 && edg (dc D j)))
            · rw [e false hb, e0] <;> first | rfl | (exfalso; simp_all; done)
            · rw [e true hb] <;> first | rfl | (exfalso; simp_all; done)
          · rw [bI_0] at c37
            refine Ev.blk kX1_safeBits_40 rfl trivial ?_
            rw [b_or hj8]
            refine Ev.blk kX1_safeBits_46 rfl trivial ?_
            refine Ev.jmp tX1_safeBits_49 ?_
            refine k _ _ ⟨rfl, ?_⟩
            rw [nI_add]
            cases hb : (j == da D || (dl D == 1 && edg (dc D j)))
            · rw [e false hb, e0] <;> first | rfl | (exfalso; simp_all; done)
            · rw [e true hb] <;> first | rfl | (exfalso; simp_all; done)
theorem ev_freeableBits (hY : YardAt w y D) (hI : YI D) {i : Nat} (hi : i < dn D) : Cl l d MX1_freeableBits [mR 1 y, mI (nI i)] w (fun r u => u = w ∧ r = some (mI (frb D i))) := by
  show Ev l d MX1_freeableBits 0 [some (mR 1 y), some (mI (nI i))] [] w _
  have h8 := hI.1
  have hi8 : i < 8 := by omega
  have hk8 := hI.kd hi
  refine Ev.blk kX1_freeableBits_0 rfl ⟨trivial, vinN hi8 (by decide)⟩ ?_
  simp only [ix8 hi8, hY.k hi8]
  refine Ev.br tX1_freeableBits_7 rfl (fun c7 => ?_) (fun c7 => ?_)
  · try simp (disch := omega) only [nI_eq, nI_leI, nI_ltI] at c7
    refine Ev.blk kX1_freeableBits_12 rfl ⟨trivial, vinN hi8 (by decide)⟩ ?_
    simp only [ix8 hi8, hY.k hi8]
    refine Ev.br tX1_freeableBits_19 rfl (fun c19 => ?_) (fun c19 => ?_)
    · try simp (disch := omega) only [nI_eq, nI_leI, nI_ltI] at c19
      refine Ev.blk kX1_freeableBits_33 rfl trivial ?_
      refine Ev.iret tX1_freeableBits_34 rfl rfl ?_
      refine ⟨rfl, ?_⟩
      unfold frb
      first
        | (rw [if_pos (by omega)])
        | (rw [if_neg (by omega), if_pos (by omega)])
        | (rw [if_neg (by omega), if_neg (by omega)])
    · try simp (disch := omega) only [nI_eq, nI_leI, nI_ltI] at c19
      refine Ev.blk kX1_freeableBits_22 rfl ⟨trivial, vinN hi8 (by decide)⟩ ?_
      simp only [ix8 hi8, hY.f hi8]
      refine Ev.jmp tX1_freeableBits_30 ?_
      refine Ev.iret tX1_freeableBits_34 rfl rfl ?_
      refine ⟨rfl, ?_⟩
      unfold frb
      first
        | (rw [if_pos (by omega)])
        | (rw [if_neg (by omega), if_pos (by omega)])
        | (rw [if_neg (by omega), if_neg (by omega)])
  · try simp (disch := omega) only [nI_eq, nI_leI, nI_ltI] at c7
    refine Ev.blk kX1_freeableBits_10 rfl trivial ?_
    refine Ev.iret tX1_freeableBits_11 rfl rfl ?_
    refine ⟨rfl, ?_⟩
    unfold frb
    first
      | (rw [if_pos (by omega)])
      | (rw [if_neg (by omega), if_pos (by omega)])
      | (rw [if_neg (by omega), if_neg (by omega)])
theorem ev_letRun (hY : YardAt w y D) {i : Nat} (hi : i < 8) : Cl l d MX1_letRun [mR 1 y, mI (nI i)] w (fun r u => r = none ∧ Off y w u ∧ YardAt u y (us D (va_up (ds D) i false))) := by
  show Ev l d MX1_letRun 0 [some (mR 1 y), some (mI (nI i))] [] w _
  refine Ev.blk kX1_letRun_0 rfl trivial ?_
  rw [hY.s, b_clr hi]
  refine Ev.vret tX1_letRun_14 rfl ?_
  exact ⟨rfl, Off.pf, hY.pS⟩
theorem ev_tire (hY : YardAt w y D) (hI : YI D) (hd : 1 ≤ d) {i : Nat} (hi : i < 8) {x : Int32} (b : Bool) (hx : x = if b then -1 else nI 1) : Cl l d MX1_tire [mR 1 y, mI (nI i), mI x] w (fun r u => r = none ∧ Off y w u ∧ YardAt u y (ut D (va_up (dt D) i (tir (dt D i) b)))) := by
  show Ev l d MX1_tire 0 [some (mR 1 y), some (mI (nI i)), some (mI x)] [] w _
  have ht := hI.td i
  have hv : imx (nI 0) (imn (nI 9) (nI (dt D i) + x)) = nI (tir (dt D i) b) := by
    cases b
    · rw [hx]; exact (tb_tire (dt D i) (by omega)).2
    · rw [hx]; exact (tb_tire (dt D i) (by omega)).1
  refine Ev.blk kX1_tire_0 rfl ⟨trivial, vinN hi (by decide)⟩ ?_
  simp only [ix8 hi, hY.t hi]
  refine Ev.mmin tX1_tire_16 qX1_103 (by omega) (Nat.le_of_ble_eq_true rfl) ?_
  refine Ev.mmax tX1_tire_19 qX1_133 (by omega) (Nat.le_of_ble_eq_true rfl) ?_
  rw [hv]
  refine Ev.blk kX1_tire_22 rfl ⟨trivial, vinN hi (by decide)⟩ ?_
  rw [ix8 hi]
  refine Ev.vret tX1_tire_23 rfl ?_
  exact ⟨rfl, Off.pA (by decide), hY.pt⟩
theorem ev_stepAway (hY : YardAt w y D) (hI : YI D) (hd : 2 ≤ d) {i : Nat} (hi : i < dn D) : Cl l d MX1_stepAway [mR 1 y, mI (nI i)] w (fun r u => r = none ∧ Off y w u ∧ YardAt u y (uc D (va_up (dc D) i (awy D (dc D i))))) := by
  show Ev l d MX1_stepAway 0 [some (mR 1 y), some (mI (nI i)), none, none, none, none] [] w _
  have h8 := hI.1
  have hi8 : i < 8 := by omega
  have hci := hI.cl hi
  refine Ev.blk kX1_stepAway_0 rfl ⟨trivial, vinN hi8 (by decide)⟩ ?_
  simp only [ix8 hi8, hY.c hi8]
  refine Ev.for (fun s L u => u = w ∧ ∃ x, L = [some (mR 1 y), some (mI (nI i)), some (mI (nI (aws D (dc D i) s))), some (mI (if s = 0 then -1 else nI (cap D (aws D (dc D i) s)))), some (mI (nI s)), x]) 5 ?_ ?_ 0 (by decide) ⟨rfl, none, rfl⟩
  · rintro L u ⟨rfl, x, rfl⟩
    refine Ev.blk kX1_stepAway_12 rfl trivial ?_
    refine Ev.br tX1_stepAway_15 rfl (fun c15 => ?_) (fun c15 => ?_)
    · refine Ev.blk kX1_stepAway_63 rfl ⟨trivial, vinN hi8 (by decide)⟩ ?_
      rw [ix8 hi8, aws_5]
      refine Ev.vret tX1_stepAway_70 rfl ?_
      exact ⟨rfl, Off.pA (by decide), hY.pc⟩
    · exact absurd (nI_le (Nat.le_refl _) (by omega)) c15
  · rintro s L u hs ⟨rfl, x, rfl⟩ k
    have hlt := aws_lt (D := D) hci s (by omega)
    have hcb := cap_le D (aws D (dc D i) s)
    have e : aws D (dc D i) (s + 1) = if s = 0 then dc D i else (match stp (dc D i) s with
        | some t => if cap D (aws D (dc D i) s) < cap D t then t else aws D (dc D i) s
        | none => aws D (dc D i) s) := rfl
    cases ht : stp (dc D i) s with
    | none =>
      have hs0 : ¬ s = 0 := by intro z; subst z; cases ht
      have e2 : aws D (dc D i) (s + 1) = aws D (dc D i) s := by rw [e, if_neg hs0, ht]
      refine Ev.blk kX1_stepAway_12 rfl trivial ?_
      refine Ev.br tX1_stepAway_15 rfl (fun c15 => ?_) (fun c15 => ?_)
      · exact absurd c15 (nI_ge hs (by omega))
      · refine Ev.blk kX1_stepAway_18 rfl ⟨trivial, vinN hi8 (by decide)⟩ ?_
        simp only [ix8 hi8, hY.c hi8]
        refine Ev.cS (d1 := d - 1) (ev_cellBehind hci hs) tX1_stepAway_26 qX1_154 rfl ⟨rfl, rfl, rfl⟩ (by omega) ?_
        rintro _ _ ⟨rfl, rfl⟩
        rw [ht]
        refine Ev.blk kX1_stepAway_29 rfl trivial ?_
        refine Ev.br tX1_stepAway_34 rfl (fun c34 => ?_) (fun c34 => ?_)
        · refine Ev.blk kX1_stepAway_57 rfl trivial ?_
          refine Ev.jmp tX1_stepAway_60 ?_
          refine k _ _ ⟨rfl, some (mI (-1)), ?_⟩
          rw [nI_add, e2, if_neg hs0, if_neg (by omega)]
          rfl
        · exact absurd rfl c34
    | some t =>
      have htl := stp_in hci hs ht
      have hct := cap_le D t
      refine Ev.blk kX1_stepAway_12 rfl trivial ?_
      refine Ev.br tX1_stepAway_15 rfl (fun c15 => ?_) (fun c15 => ?_)
      · exact absurd c15 (nI_ge hs (by omega))
      · refine Ev.blk kX1_stepAway_18 rfl ⟨trivial, vinN hi8 (by decide)⟩ ?_
        simp only [ix8 hi8, hY.c hi8]
        refine Ev.cS (d1 := d - 1) (ev_cellBehind hci hs) tX1_stepAway_26 qX1_154 rfl ⟨rfl, rfl, rfl⟩ (by omega) ?_
        rintro _ _ ⟨rfl, rfl⟩
        rw [ht]
        refine Ev.blk kX1_stepAway_29 rfl trivial ?_
        refine Ev.br tX1_stepAway_34 rfl (fun c34 => ?_) (fun c34 => ?_)
        · exact absurd c34 (by show ¬ (nI t = -1); rw [nI_m1 (by omega)]; exact id)
        · refine Ev.blk kX1_stepAway_37 rfl trivial ?_
          refine Ev.cV (d1 := d - 1) (ev_catcherApart hY hI (by omega) htl) tX1_stepAway_40 qX1_127 rfl rfl (by decide) ⟨rfl, rfl, rfl⟩ (by omega) ?_
          rintro _ _ ⟨rfl, rfl⟩
          refine Ev.blk kX1_stepAway_43 rfl trivial ?_
          refine Ev.br tX1_stepAway_44 rfl (fun c44 => ?_) (fun c44 => ?_)
          · refine Ev.blk kX1_stepAway_57 rfl trivial ?_
            refine Ev.jmp tX1_stepAway_60 ?_
            refine k _ _ ⟨rfl, some (mI (nI t)), ?_⟩
            rw [nI_add, if_neg (show ¬ s + 1 = 0 by omega)]
            by_cases hs0 : s = 0
            · subst hs0
              have htc : t = dc D i := by cases ht; rfl
              subst htc
              first
                | exact absurd c44 (by rw [if_pos rfl]; show ¬ (nI (cap D (dc D i)) ≤ -1); rw [Int32.le_iff_toInt_le, nI_toInt (by omega)]; have : (-1 : Int32).toInt = -1 := by decide
                                       omega)
                | rfl
            · rw [if_neg hs0, nI_leI (by omega) (by omega)] at c44
              have e2 : aws D (dc D i) (s + 1) = if cap D (aws D (dc D i) s) < cap D t then t else aws D (dc D i) s := by rw [e, if_neg hs0, ht]
              first
                | (have e3 : aws D (dc D i) (s + 1) = aws D (dc D i) s := by rw [e2]; exact if_neg (by omega)
                   rw [e3, if_neg hs0] <;> rfl)
                | (have e3 : aws D (dc D i) (s + 1) = t := by rw [e2]; exact if_pos (by omega)
                   rw [e3] <;> rfl)
          · refine Ev.blk kX1_stepAway_47 rfl trivial ?_
            refine Ev.cV (d1 := d - 1) (ev_catcherApart hY hI (by omega) htl) tX1_stepAway_50 qX1_127 rfl rfl (by decide) ⟨rfl, rfl, rfl⟩ (by omega) ?_
            rintro _ _ ⟨rfl, rfl⟩
            refine Ev.blk kX1_stepAway_53 rfl trivial ?_
            refine Ev.blk kX1_stepAway_57 rfl trivial ?_
            refine Ev.jmp tX1_stepAway_60 ?_
            refine k _ _ ⟨rfl, some (mI (nI t)), ?_⟩
            rw [nI_add, if_neg (show ¬ s + 1 = 0 by omega)]
            by_cases hs0 : s = 0
            · subst hs0
              have htc : t = dc D i := by cases ht; rfl
              subst htc
              first
                | exact absurd c44 (by rw [if_pos rfl]; show ¬ (nI (cap D (dc D i)) ≤ -1); rw [Int32.le_iff_toInt_le, nI_toInt (by omega)]; have : (-1 : Int32).toInt = -1 := by decide
                                       omega)
                | rfl
            · rw [if_neg hs0, nI_leI (by omega) (by omega)] at c44
              have e2 : aws D (dc D i) (s + 1) = if cap D (aws D (dc D i) s) < cap D t then t else aws D (dc D i) s := by rw [e, if_neg hs0, ht]
              first
                | (have e3 : aws D (dc D i) (s + 1) = aws D (dc D i) s := by rw [e2]; exact if_neg (by omega)
                   rw [e3, if_neg hs0] <;> rfl)
                | (have e3 : aws D (dc D i) (s + 1) = t := by rw [e2]; exact if_pos (by omega)
                   rw [e3] <;> rfl)
theorem ev_stepToward (hY : YardAt w y D) (hI : YI D) (hd : 1 ≤ d) {i g : Nat} (hi : i < dn D) (hg : g < 24) : Cl l d MX1_stepToward [mR 1 y, mI (nI i), mI (nI g)] w (fun r u => r = none ∧ Off y w u ∧ YardAt u y (uc D (va_up (dc D) i (twd (dc D i) g)))) := by
  show Ev l d MX1_stepToward 0 [some (mR 1 y), some (mI (nI i)), some (mI (nI g)), none, none, none, none] [] w _
  have h8 := hI.1
  have hi8 : i < 8 := by omega
  have hci := hI.cl hi
  refine Ev.blk kX1_stepToward_0 rfl ⟨trivial, vinN hi8 (by decide)⟩ ?_
  simp only [ix8 hi8, hY.c hi8]
  refine Ev.for (fun s L u => u = w ∧ ∃ x, L = [some (mR 1 y), some (mI (nI i)), some (mI (nI g)), some (mI (nI (tws (dc D i) g s))), some (mI (nI (if s = 0 then 99 else far (tws (dc D i) g s) g))), some (mI (nI s)), x]) 5 ?_ ?_ 0 (by decide) ⟨rfl, none, rfl⟩
  · rintro L u ⟨rfl, x, rfl⟩
    refine Ev.blk kX1_stepToward_14 rfl trivial ?_
    refine Ev.br tX1_stepToward_17 rfl (fun c17 => ?_) (fun c17 => ?_)
    · refine Ev.blk kX1_stepToward_67 rfl ⟨trivial, vinN hi8 (by decide)⟩ ?_
      rw [ix8 hi8, tws_5]
      refine Ev.vret tX1_stepToward_74 rfl ?_
      exact ⟨rfl, Off.pA (by decide), hY.pc⟩
    · exact absurd (nI_le (Nat.le_refl _) (by omega)) c17
  · rintro s L u hs ⟨rfl, x, rfl⟩ k
    have hlt := tws_lt (a := g) hci s (by omega)
    have hcb := far_le (tws (dc D i) g s) hlt g hg
    have e : tws (dc D i) g (s + 1) = if s = 0 then dc D i else (match stp (dc D i) s with
        | some t => if far t g < far (tws (dc D i) g s) g then t else tws (dc D i) g s
        | none => tws (dc D i) g s) := rfl
    cases ht : stp (dc D i) s with
    | none =>
      have hs0 : ¬ s = 0 := by intro z; subst z; cases ht
      have e2 : tws (dc D i) g (s + 1) = tws (dc D i) g s := by rw [e, if_neg hs0, ht]
      refine Ev.blk kX1_stepToward_14 rfl trivial ?_
      refine Ev.br tX1_stepToward_17 rfl (fun c17 => ?_) (fun c17 => ?_)
      · exact absurd c17 (nI_ge hs (by omega))
      · refine Ev.blk kX1_stepToward_20 rfl ⟨trivial, vinN hi8 (by decide)⟩ ?_
        simp only [ix8 hi8, hY.c hi8]
        refine Ev.cS (d1 := d - 1) (ev_cellBehind hci hs) tX1_stepToward_28 qX1_154 rfl ⟨rfl, rfl, rfl⟩ (by omega) ?_
        rintro _ _ ⟨rfl, rfl⟩
        rw [ht]
        refine Ev.blk kX1_stepToward_31 rfl trivial ?_
        refine Ev.br tX1_stepToward_36 rfl (fun c36 => ?_) (fun c36 => ?_)
        · refine Ev.blk kX1_stepToward_61 rfl trivial ?_
          refine Ev.jmp tX1_stepToward_64 ?_
          refine k _ _ ⟨rfl, some (mI (-1)), ?_⟩
          rw [nI_add, e2, if_neg hs0, if_neg (by omega)]
          rfl
        · exact absurd rfl c36
    | some t =>
      have htl := stp_in hci hs ht
      have hct := far_le t htl g hg
      have hmo : (if s = 0 then 99 else far (tws (dc D i) g s) g) ≤ 99 := by split <;> omega
      refine Ev.blk kX1_stepToward_14 rfl trivial ?_
      refine Ev.br tX1_stepToward_17 rfl (fun c17 => ?_) (fun c17 => ?_)
      · exact absurd c17 (nI_ge hs (by omega))
      · refine Ev.blk kX1_stepToward_20 rfl ⟨trivial, vinN hi8 (by decide)⟩ ?_
        simp only [ix8 hi8, hY.c hi8]
        refine Ev.cS (d1 := d - 1) (ev_cellBehind hci hs) tX1_stepToward_28 qX1_154 rfl ⟨rfl, rfl, rfl⟩ (by omega) ?_
        rintro _ _ ⟨rfl, rfl⟩
        rw [ht]
        refine Ev.blk kX1_stepToward_31 rfl trivial ?_
        refine Ev.br tX1_stepToward_36 rfl (fun c36 => ?_) (fun c36 => ?_)
        · exact absurd c36 (by show ¬ (nI t = -1); rw [nI_m1 (by omega)]; exact id)
        · refine Ev.blk kX1_stepToward_39 rfl trivial ?_
          refine Ev.cS (d1 := d - 1) (ev_apart htl hg) tX1_stepToward_42 qX1_100 rfl ⟨rfl, rfl, rfl⟩ (by omega) ?_
          rintro _ _ ⟨rfl, rfl⟩
          refine Ev.blk kX1_stepToward_45 rfl trivial ?_
          refine Ev.br tX1_stepToward_47 rfl (fun c47 => ?_) (fun c47 => ?_)
          · refine Ev.blk kX1_stepToward_61 rfl trivial ?_
            refine Ev.jmp tX1_stepToward_64 ?_
            refine k _ _ ⟨rfl, some (mI (nI t)), ?_⟩
            rw [nI_leI (by omega) (by omega)] at c47
            rw [nI_add, if_neg (show ¬ s + 1 = 0 by omega)]
            by_cases hs0 : s = 0
            · subst hs0
              have htc : t = dc D i := by cases ht; rfl
              subst htc
              rw [if_pos rfl] at c47
              first
                | omega
                | rfl
            · rw [if_neg hs0] at c47
              have e2 : tws (dc D i) g (s + 1) = if far t g < far (tws (dc D i) g s) g then t else tws (dc D i) g s := by rw [e, if_neg hs0, ht]
              first
                | (have e3 : tws (dc D i) g (s + 1) = tws (dc D i) g s := by rw [e2]; exact if_neg (by omega)
                   rw [e3, if_neg hs0] <;> rfl)
                | (have e3 : tws (dc D i) g (s + 1) = t := by rw [e2]; exact if_pos (by omega)
                   rw [e3] <;> rfl)
          · refine Ev.blk kX1_stepToward_50 rfl trivial ?_
            refine Ev.cS (d1 := d - 1) (ev_apart htl hg) tX1_stepToward_53 qX1_100 rfl ⟨rfl, rfl, rfl⟩ (by omega) ?_
            rintro _ _ ⟨rfl, rfl⟩
            refine Ev.blk kX1_stepToward_56 rfl trivial ?_
            refine Ev.blk kX1_stepToward_61 rfl trivial ?_
            refine Ev.jmp tX1_stepToward_64 ?_
            refine k _ _ ⟨rfl, some (mI (nI t)), ?_⟩
            rw [nI_leI (by omega) (by omega)] at c47
            rw [nI_add, if_neg (show ¬ s + 1 = 0 by omega)]
            by_cases hs0 : s = 0
            · subst hs0
              have htc : t = dc D i := by cases ht; rfl
              subst htc
              rw [if_pos rfl] at c47
              first
                | omega
                | rfl
            · rw [if_neg hs0] at c47
              have e2 : tws (dc D i) g (s + 1) = if far t g < far (tws (dc D i) g s) g then t else tws (dc D i) g s := by rw [e, if_neg hs0, ht]
              first
                | (have e3 : tws (dc D i) g (s + 1) = tws (dc D i) g s := by rw [e2]; exact if_neg (by omega)
                   rw [e3, if_neg hs0] <;> rfl)
                | (have e3 : tws (dc D i) g (s + 1) = t := by rw [e2]; exact if_pos (by omega)
                   rw [e3] <;> rfl)
end Y4
