/-! ===== the reference reads letters ===== -/
def TpAt (w : mW) (t : Nat → Nat) (n q : Nat) : Prop := mgf w 11 0 14 = nI n ∧ (∀ j, j < n → mga w 19 0 j = nI (t j)) ∧ n ≤ 96 ∧ (∀ j, j < n → t j < 256) ∧ mgf w 11 0 15 = nI q ∧ q ≤ 200
def nx (t : Nat → Nat) (n q : Nat) : Int32 := if q < n then nI (t q) else -1
def dig (t : Nat → Nat) (n q : Nat) : Bool := decide (q < n) && fitC 68 (t q)
def valD (t : Nat → Nat) (q : Nat) : Nat → Nat
  | 0 => 0
  | k + 1 => 10 * valD t q k + (t (q + k) - 48)
def rdF (t : Nat → Nat) (n q D : Nat) : Option Nat := fst1 (fun k => !dig t n (q + k)) D
theorem dig_of {t : Nat → Nat} {n q : Nat} (h : dig t n q = true) : q < n ∧ 48 ≤ t q ∧ t q ≤ 57 := by
  unfold dig fitC at h
  simp only [Bool.and_eq_true, decide_eq_true_eq] at h
  exact ⟨h.1, by simpa using h.2⟩
theorem dig_in {t : Nat → Nat} {n q : Nat} (ht : ∀ j, j < n → t j < 256) : decide (nI 48 ≤ nx t n q ∧ nx t n q ≤ nI 57) = dig t n q := by
  unfold nx dig
  by_cases h : q < n
  · have hq := ht q h
    rw [if_pos h, decide_eq_true h, Bool.true_and]
    show decide (nI 48 ≤ nI (t q) ∧ nI (t q) ≤ nI 57) = decide (48 ≤ t q ∧ t q ≤ 57)
    apply decide_eq_decide.mpr
    rw [nI_leI (by omega) (by omega), nI_leI (by omega) (by omega)]
  · rw [if_neg h, decide_eq_false h, Bool.false_and]
    decide
theorem rd1 (t : Nat → Nat) (n q : Nat) : rdF t n q 1 = if dig t n q = true then none else some 0 := by
  show (match fst1 (fun k => !dig t n (q + k)) 0 with | some b => some b | none => if (!dig t n (q + 0)) = true then some 0 else none) = _
  cases h : dig t n q with
  | true => rfl
  | false => rfl
theorem rd2 (t : Nat → Nat) (n q : Nat) : rdF t n q 2 = if dig t n q = true then (if dig t n (q + 1) = true then none else some 1) else some 0 := by
  have h1 := rd1 t n q
  show (match rdF t n q 1 with | some b => some b | none => if (!dig t n (q + 1)) = true then some 1 else none) = _
  rw [h1]
  cases h : dig t n q with
  | true =>
    cases h2 : dig t n (q + 1) with
    | true => rfl
    | false => rfl
  | false => rfl
theorem fbD {t : Nat → Nat} {n q : Nat} {cs : List Nat} : fbad t n q (68 :: cs) = if dig t n q = true then fbad t n (q + 1) cs else some q := by
  show (if q < n ∧ fitC 68 (t q) = true then fbad t n (q + 1) cs else some q) = _
  unfold dig
  by_cases h : q < n
  · rw [decide_eq_true h, Bool.true_and]
    by_cases h2 : fitC 68 (t q) = true
    · rw [if_pos ⟨h, h2⟩, if_pos h2]
    · rw [if_neg (fun z => h2 z.2), if_neg h2]
  · rw [if_neg (fun z => h z.1), if_neg (by rw [decide_eq_false h]; simp)]
theorem fb1 {t : Nat → Nat} {n q : Nat} {cs : List Nat} : fbad t n q (68 :: cs) = (match rdF t n q 1 with
    | some k => some (q + k)
    | none => fbad t n (q + 1) cs) := by
  rw [fbD, rd1]
  by_cases h : dig t n q = true
  · rw [if_pos h, if_pos h]
  · rw [if_neg h, if_neg h]
    rfl
theorem fb2 {t : Nat → Nat} {n q : Nat} {cs : List Nat} : fbad t n q (68 :: 68 :: cs) = (match rdF t n q 2 with
    | some k => some (q + k)
    | none => fbad t n (q + 2) cs) := by
  rw [fbD, fbD, rd2]
  by_cases h : dig t n q = true
  · rw [if_pos h, if_pos h]
    by_cases h2 : dig t n (q + 1) = true
    · rw [if_pos h2, if_pos h2]
    · rw [if_neg h2, if_neg h2]
  · rw [if_neg h, if_neg h]
    rfl
theorem fbS {t : Nat → Nat} {n q : Nat} : fbad t n q [59] = if q < n ∧ t q = 59 then none else some q := by
  show (if q < n ∧ fitC 59 (t q) = true then none else some q) = _
  have e : fitC 59 (t q) = true ↔ t q = 59 := by
    unfold fitC
    rw [if_neg (by decide), if_neg (by decide), beq_iff_eq]
  by_cases h : q < n ∧ t q = 59
  · rw [if_pos h, if_pos ⟨h.1, e.mpr h.2⟩]
  · rw [if_neg h, if_neg (fun z => h ⟨z.1, e.mp z.2⟩)]
theorem fbA {t : Nat → Nat} {n : Nat} {ds : List Nat} : ∀ (cs : List Nat) (q : Nat), fbad t n q (cs ++ ds) = (match fbad t n q cs with
    | some r => some r
    | none => fbad t n (q + cs.length) ds)
  | [], q => rfl
  | c :: cs, q => by
    show (if q < n ∧ fitC c (t q) = true then fbad t n (q + 1) (cs ++ ds) else some q) = (match (if q < n ∧ fitC c (t q) = true then fbad t n (q + 1) cs else some q) with
      | some r => some r
      | none => fbad t n (q + (cs.length + 1)) ds)
    by_cases h : q < n ∧ fitC c (t q) = true
    · rw [if_pos h, if_pos h, fbA cs (q + 1), show q + 1 + cs.length = q + (cs.length + 1) by omega]
    · rw [if_neg h, if_neg h]
abbrev OmA (w u : mW) : Prop := Om (fun k => k = 15) (fun t => t = 22) w u
section M11
variable {l : Launch} {d : Nat} {w : mW} {t : Nat → Nat} {n q : Nat}
theorem TpAt.of {u : mW} (h : TpAt w t n q) (h1 : mgf u 11 0 14 = mgf w 11 0 14) (h2 : mgf u 11 0 15 = mgf w 11 0 15) (h3 : mga u 19 0 = mga w 19 0) : TpAt u t n q := ⟨h1.trans h.1, by rw [h3]; exact h.2.1, h.2.2.1, h.2.2.2.1, h2.trans h.2.2.2.2.1, h.2.2.2.2.2⟩
theorem TpAt.adv (h : TpAt w t n q) (hq : q + 1 ≤ 200) : TpAt (mpf w 11 0 15 (nI (q + 1))) t n (q + 1) := ⟨(mgf_pfn (by decide)).trans h.1, h.2.1, h.2.2.1, h.2.2.2.1, mgf_pf, hq⟩
theorem em_next (h : TpAt w t n q) : Cl l d MX3_next [mR 11 0] w (fun r u => u = w ∧ r = some (mI (nx t n q))) := by
  show Ev l d MX3_next 0 [some (mR 11 0)] [] w _
  obtain ⟨h1, h2, h3, h4, h5, h6⟩ := h
  unfold nx
  refine Ev.blk kX3_next_0 rfl trivial ?_
  rw [h5, h1]
  refine Ev.br tX3_next_8 rfl (fun c8 => ?_) (fun c8 => ?_)
  · rw [nI_leI (by omega) (by omega)] at c8
    refine Ev.blk kX3_next_23 rfl trivial ?_
    refine Ev.iret tX3_next_24 rfl rfl ?_
    refine ⟨rfl, ?_⟩
    first
      | (rw [if_neg (by omega)])
      | (rw [if_pos (by omega)])
  · rw [nI_leI (by omega) (by omega)] at c8
    refine Ev.blk kX3_next_11 rfl ⟨trivial, by rw [h5]; exact vinN (show q < 96 by omega) (by decide)⟩ ?_
    rw [h5, ixN (by omega), h2 q (by omega)]
    refine Ev.jmp tX3_next_20 ?_
    refine Ev.iret tX3_next_24 rfl rfl ?_
    refine ⟨rfl, ?_⟩
    first
      | (rw [if_neg (by omega)])
      | (rw [if_pos (by omega)])
def rdQ (w : mW) (t : Nat → Nat) (n q p D : Nat) (o : Option Nat) (r : Option mV) (u : mW) : Prop := OmA w u ∧ (match o with
  | some k => r = some (mI (nI 0)) ∧ TpAt u t n (q + k) ∧ mga u 22 0 = mga w 22 0
  | none => r = some (mI (nI 1)) ∧ TpAt u t n (q + D) ∧ mga u 22 0 = upd (mga w 22 0) p (nI (valD t q D)))
theorem em_readsDigits (h : TpAt w t n q) (hd : 2 ≤ d) {p D : Nat} (hp : p < 144) (hD : D ≤ 2) (hq : q ≤ 150) : Cl l d MX3_readsDigits [mR 11 0, mI (nI p), mI (nI D)] w (rdQ w t n q p D (rdF t n q D)) := by
  show Ev l d MX3_readsDigits 0 [some (mR 11 0), some (mI (nI p)), some (mI (nI D)), none, none] [] w _
  have ht := h.2.2.2.1
  have hv : ∀ k, k ≤ 2 → (∀ j, j < k → dig t n (q + j) = true) → valD t q k < 1000 := by
    intro k hk hj
    match k, hk with
    | 0, _ =>
      show 0 < 1000
      decide
    | 1, _ =>
      have := dig_of (hj 0 (by decide))
      show 10 * 0 + (t (q + 0) - 48) < 1000
      omega
    | 2, _ =>
      have a := dig_of (hj 0 (by decide))
      have b := dig_of (hj 1 (by decide))
      show 10 * (10 * 0 + (t (q + 0) - 48)) + (t (q + 1) - 48) < 1000
      omega
  refine Ev.blk kX3_readsDigits_0 rfl trivial ?_
  refine Ev.for (fun k L u => OmA w u ∧ mga u 22 0 = mga w 22 0 ∧ TpAt u t n (q + k) ∧ rdF t n q k = none ∧ L = [some (mR 11 0), some (mI (nI p)), some (mI (nI D)), some (mI (nI (valD t q k))), some (mI (nI k))]) D ?_ ?_ 0 (Nat.zero_le _) ⟨Om.rf, rfl, h, rfl, rfl⟩
  · rintro L u ⟨ho, h22, hT, h0, rfl⟩
    rw [h0]
    refine Ev.blk kX3_readsDigits_5 rfl trivial ?_
    refine Ev.br tX3_readsDigits_8 rfl (fun c8 => ?_) (fun c8 => ?_)
    · refine Ev.blk kX3_readsDigits_56 rfl ⟨trivial, vinN hp (by decide)⟩ ?_
      rw [ixN (by omega)]
      refine Ev.iret tX3_readsDigits_64 rfl rfl ?_
      refine ⟨ho.tr (Om.pA (by decide)), rfl, hT.of rfl rfl (mga_pAn (by decide)), ?_⟩
      rw [mga_pA, h22]
    · exact absurd (nI_le (Nat.le_refl _) (by omega)) c8
  · rintro k L u hk ⟨ho, h22, hT, h0, rfl⟩ kk
    have hall : ∀ j, j < k → dig t n (q + j) = true := fun j hj => by
      have := fst1_no h0 j hj
      simpa using this
    have hvk := hv k (by omega) hall
    cases hdg : dig t n (q + k) with
    | false =>
      have hrd : rdF t n q D = some k := fst1_some h0 (by rw [hdg]; rfl) hk
      rw [hrd]
      have hin := em_isInB (l := l) (d := d - 1) (w := u) (v := nx t n (q + k)) (a := nI 48) (b := nI 57) (q := false) ((dig_in ht).trans hdg)
      refine Ev.blk kX3_readsDigits_5 rfl trivial ?_
      refine Ev.br tX3_readsDigits_8 rfl (fun c8 => ?_) (fun c8 => ?_)
      · exact absurd c8 (nI_ge hk (by omega))
      · refine Ev.blk kX3_readsDigits_11 rfl trivial ?_
        refine Ev.cV (d1 := d - 1) (em_next hT) tX3_readsDigits_12 qX3_77 rfl rfl (by decide) ⟨rfl, rfl, rfl⟩ (by omega) ?_
        rintro _ _ ⟨rfl, rfl⟩
        refine Ev.blk kX3_readsDigits_15 rfl trivial ?_
        refine Ev.cS (d1 := d - 1) (hin) tX3_readsDigits_19 qX3_81 rfl ⟨rfl, rfl, rfl⟩ (by omega) ?_
        rintro _ _ ⟨rfl, rfl⟩
        refine Ev.br tX3_readsDigits_22 rfl (fun c22 => ?_) (fun c22 => ?_)
        · exact absurd rfl c22
        · refine Ev.blk kX3_readsDigits_25 rfl trivial ?_
          refine Ev.iret tX3_readsDigits_26 rfl rfl ?_
          exact ⟨ho, rfl, hT, h22⟩
    | true =>
      obtain ⟨q1, q2, q3⟩ := dig_of hdg
      have hnx : nx t n (q + k) = nI (t (q + k)) := if_pos q1
      have hin := em_isInB (l := l) (d := d - 1) (w := u) (v := nx t n (q + k)) (a := nI 48) (b := nI 57) (q := true) ((dig_in ht).trans hdg)
      have hval : nI 10 * nI (valD t q k) + nI (t (q + k)) - nI 48 = nI (valD t q (k + 1)) := by
        rw [pk_mul, nI_add, pk_sub (by omega)]
        show nI (10 * valD t q k + t (q + k) - 48) = nI (10 * valD t q k + (t (q + k) - 48))
        rw [Nat.add_sub_assoc q2]
      have hT15 := hT.2.2.2.2.1
      refine Ev.blk kX3_readsDigits_5 rfl trivial ?_
      refine Ev.br tX3_readsDigits_8 rfl (fun c8 => ?_) (fun c8 => ?_)
      · exact absurd c8 (nI_ge hk (by omega))
      · refine Ev.blk kX3_readsDigits_11 rfl trivial ?_
        refine Ev.cV (d1 := d - 1) (em_next hT) tX3_readsDigits_12 qX3_77 rfl rfl (by decide) ⟨rfl, rfl, rfl⟩ (by omega) ?_
        rintro _ _ ⟨rfl, rfl⟩
        refine Ev.blk kX3_readsDigits_15 rfl trivial ?_
        refine Ev.cS (d1 := d - 1) (hin) tX3_readsDigits_19 qX3_81 rfl ⟨rfl, rfl, rfl⟩ (by omega) ?_
        rintro _ _ ⟨rfl, rfl⟩
        refine Ev.br tX3_readsDigits_22 rfl (fun c22 => ?_) (fun c22 => ?_)
        · refine Ev.blk kX3_readsDigits_27 rfl trivial ?_
          refine Ev.cV (d1 := d - 1) (em_next hT) tX3_readsDigits_32 qX3_77 rfl rfl (by decide) ⟨rfl, rfl, rfl⟩ (by omega) ?_
          rintro _ _ ⟨rfl, rfl⟩
          rw [hnx]
          refine Ev.blk kX3_readsDigits_35 rfl trivial ?_
          rw [hval, hT15, nI_add, nI_add]
          refine Ev.jmp tX3_readsDigits_53 ?_
          refine kk _ _ ⟨ho.tr (Om.pf (by decide)), h22, ?_, fst1_f h0 (by rw [hdg]; rfl), rfl⟩
          have := hT.adv (by omega)
          rw [show q + k + 1 = q + (k + 1) by omega] at this
          exact this
        · exact absurd (show ¬ bI true = nI 0 by decide) c22
theorem kind_tab : ∀ c, c < 256 → (mswo sX3_kindOf_1 (nI c), oM1 (kix c)) ∈ [((103 : Int), (nI 0 : Int32)), (105, nI 1), (107, nI 2), (109, nI 3), (111, nI 4), (113, nI 5), (115, nI 6), (118, nI 7), (121, -1)] := by decide +kernel
theorem em_kindOf {c : Nat} (hc : c < 256) : Cl l d MX3_kindOf [mI (nI c)] w (fun r u => u = w ∧ r = some (mI (oM1 (kix c)))) := by
  show Ev l d MX3_kindOf 0 [some (mI (nI c))] [] w _
  have h := kind_tab c hc
  refine Ev.blk kX3_kindOf_0 rfl trivial ?_
  simp only [List.mem_cons, Prod.mk.injEq, List.not_mem_nil, or_false] at h
  rcases h with ⟨h1, h2⟩ | ⟨h1, h2⟩ | ⟨h1, h2⟩ | ⟨h1, h2⟩ | ⟨h1, h2⟩ | ⟨h1, h2⟩ | ⟨h1, h2⟩ | ⟨h1, h2⟩ | ⟨h1, h2⟩
  · refine Ev.sw (tgt := 104) tX3_kindOf_1 h1 (by decide) ?_
    refine Ev.blk kX3_kindOf_104 rfl trivial ?_
    refine Ev.iret tX3_kindOf_105 rfl rfl ?_
    exact ⟨rfl, by rw [h2]⟩
  · refine Ev.sw (tgt := 106) tX3_kindOf_1 h1 (by decide) ?_
    refine Ev.blk kX3_kindOf_106 rfl trivial ?_
    refine Ev.iret tX3_kindOf_107 rfl rfl ?_
    exact ⟨rfl, by rw [h2]⟩
  · refine Ev.sw (tgt := 108) tX3_kindOf_1 h1 (by decide) ?_
    refine Ev.blk kX3_kindOf_108 rfl trivial ?_
    refine Ev.iret tX3_kindOf_109 rfl rfl ?_
    exact ⟨rfl, by rw [h2]⟩
  · refine Ev.sw (tgt := 110) tX3_kindOf_1 h1 (by decide) ?_
    refine Ev.blk kX3_kindOf_110 rfl trivial ?_
    refine Ev.iret tX3_kindOf_111 rfl rfl ?_
    exact ⟨rfl, by rw [h2]⟩
  · refine Ev.sw (tgt := 112) tX3_kindOf_1 h1 (by decide) ?_
    refine Ev.blk kX3_kindOf_112 rfl trivial ?_
    refine Ev.iret tX3_kindOf_113 rfl rfl ?_
    exact ⟨rfl, by rw [h2]⟩
  · refine Ev.sw (tgt := 114) tX3_kindOf_1 h1 (by decide) ?_
    refine Ev.blk kX3_kindOf_114 rfl trivial ?_
    refine Ev.iret tX3_kindOf_115 rfl rfl ?_
    exact ⟨rfl, by rw [h2]⟩
  · refine Ev.sw (tgt := 116) tX3_kindOf_1 h1 (by decide) ?_
    refine Ev.blk kX3_kindOf_116 rfl trivial ?_
    refine Ev.iret tX3_kindOf_118 rfl rfl ?_
    exact ⟨rfl, by rw [h2]⟩
  · refine Ev.sw (tgt := 119) tX3_kindOf_1 h1 (by decide) ?_
    refine Ev.blk kX3_kindOf_119 rfl trivial ?_
    refine Ev.iret tX3_kindOf_121 rfl rfl ?_
    exact ⟨rfl, by rw [h2]⟩
  · refine Ev.sw (tgt := 122) tX3_kindOf_1 h1 (by decide) ?_
    refine Ev.blk kX3_kindOf_122 rfl trivial ?_
    refine Ev.iret tX3_kindOf_123 rfl rfl ?_
    exact ⟨rfl, by rw [h2]⟩
theorem em_kindOf_m : Cl l d MX3_kindOf [mI (-1)] w (fun r u => u = w ∧ r = some (mI (-1))) := by
  show Ev l d MX3_kindOf 0 [some (mI (-1))] [] w _
  refine Ev.blk kX3_kindOf_0 rfl trivial ?_
  refine Ev.sw (tgt := 122) tX3_kindOf_1 (off := 121) (by decide) (by decide) ?_
  refine Ev.blk kX3_kindOf_122 rfl trivial ?_
  refine Ev.iret tX3_kindOf_123 rfl rfl ?_
  exact ⟨rfl, rfl⟩
/-- the kind of what comes next -/
def nk (t : Nat → Nat) (n q : Nat) : Option Nat := if q < n then kix (t q) else none
theorem em_kindNx (h : TpAt w t n q) : Cl l d MX3_kindOf [mI (nx t n q)] w (fun r u => u = w ∧ r = some (mI (oM1 (nk t n q)))) := by
  unfold nx nk
  by_cases hq : q < n
  · rw [if_pos hq, if_pos hq]
    exact em_kindOf (h.2.2.2.1 q hq)
  · rw [if_neg hq, if_neg hq]
    exact em_kindOf_m
theorem kix_lt {c v : Nat} (h : kix c = some v) : v < 8 := (fst1_spec h).1
theorem fbK {cs : List Nat} : fbad t n q (75 :: cs) = if (nk t n q).isSome = true then fbad t n (q + 1) cs else some q := by
  show (if q < n ∧ fitC 75 (t q) = true then fbad t n (q + 1) cs else some q) = _
  unfold nk
  by_cases h : q < n
  · rw [if_pos h]
    have : fitC 75 (t q) = (kix (t q)).isSome := rfl
    rw [this]
    by_cases h2 : (kix (t q)).isSome = true
    · rw [if_pos ⟨h, h2⟩, if_pos h2]
    · rw [if_neg (fun z => h2 z.2), if_neg h2]
  · rw [if_neg (fun z => h z.1), if_neg h]
    rfl
theorem vD1 (t : Nat → Nat) (q : Nat) : valD t q 1 = dgt t q := by
  show 10 * 0 + (t (q + 0) - 48) = t q - 48
  rw [Nat.mul_zero, Nat.zero_add, Nat.add_zero]
theorem vD2 (t : Nat → Nat) (q : Nat) : valD t q 2 = cel t q := by
  show 10 * valD t q 1 + (t (q + 1) - 48) = 10 * dgt t q + dgt t (q + 1)
  rw [vD1]
  rfl
def rcQ (w : mW) (t : Nat → Nat) (n q p : Nat) (o : Option Nat) (r : Option mV) (u : mW) : Prop := OmA w u ∧ (∀ j, ¬ (p ≤ j ∧ j < p + 3) → mga u 22 0 j = mga w 22 0 j) ∧ (match o with
  | some r' => r = some (mI (nI 0)) ∧ TpAt u t n r'
  | none => r = some (mI (nI 1)) ∧ TpAt u t n (q + 4) ∧ mga u 22 0 p = nI ((kix (t q)).getD 0) ∧ mga u 22 0 (p + 1) = nI (cel t (q + 1)) ∧ mga u 22 0 (p + 2) = nI (dgt t (q + 3)))
theorem upd_at (f : Nat → Int32) (i : Nat) (v : Int32) : upd f i v i = v := if_pos rfl
theorem upd_ne {f : Nat → Int32} {i j : Nat} {v : Int32} (h : j ≠ i) : upd f i v j = f j := if_neg h
theorem em_readsChild (h : TpAt w t n q) (hd : 3 ≤ d) {p : Nat} (hp : p + 2 < 144) (hq : q ≤ 140) : Cl l d MX3_readsChild [mR 11 0, mI (nI p)] w (rcQ w t n q p (fbad t n q [75, 68, 68, 68])) := by
  show Ev l d MX3_readsChild 0 [some (mR 11 0), some (mI (nI p))] [] w _
  have hp9 : p < 144 := by omega
  have f1 : ∀ x : Int32, mga (mpA w 22 0 (upd (mga w 22 0) p x)) 22 0 p = x := fun x => by rw [mga_pA]; exact upd_at _ _ _
  cases hk : nk t n q with
  | none =>
    have e : fbad t n q [75, 68, 68, 68] = some q := by rw [fbK, hk]; rfl
    rw [e]
    refine Ev.blk kX3_readsChild_0 rfl trivial ?_
    refine Ev.cV (d1 := d - 1) (em_next h) tX3_readsChild_6 qX3_77 rfl rfl (by decide) ⟨rfl, rfl, rfl⟩ (by omega) ?_
    rintro _ _ ⟨rfl, rfl⟩
    refine Ev.cS (d1 := d - 1) (em_kindNx h) tX3_readsChild_9 qX3_85 rfl ⟨rfl, rfl, rfl⟩ (by omega) ?_
    rintro _ _ ⟨rfl, rfl⟩
    rw [hk]
    refine Ev.blk kX3_readsChild_12 rfl ⟨⟨trivial, vinN hp9 (by decide)⟩, vinN hp9 (by decide)⟩ ?_
    rw [ixN (by omega), f1]
    refine Ev.br tX3_readsChild_19 rfl (fun c19 => ?_) (fun c19 => ?_)
    · exact absurd c19 (by decide)
    · refine Ev.blk kX3_readsChild_22 rfl trivial ?_
      refine Ev.iret tX3_readsChild_23 rfl rfl ?_
      exact ⟨Om.pA (by decide), fun j hj => by rw [mga_pA]; exact upd_ne (by omega), rfl, h.of rfl rfl (mga_pAn (by decide))⟩
  | some v =>
    have hqn : q < n := by
      unfold nk at hk
      by_cases z : q < n
      · exact z
      · rw [if_neg z] at hk; cases hk
    have hkx : kix (t q) = some v := by unfold nk at hk; rw [if_pos hqn] at hk; exact hk
    have hv8 := kix_lt hkx
    have h15 := h.2.2.2.2.1
    have hT1 : TpAt (mpf (mpA w 22 0 (upd (mga w 22 0) p (nI v))) 11 0 15 (nI (q + 1))) t n (q + 1) := (h.of (u := mpA w 22 0 (upd (mga w 22 0) p (nI v))) rfl rfl (mga_pAn (by decide))).adv (by omega)
    have r2 := em_readsDigits (l := l) (d := d - 1) hT1 (by omega) (p := p + 1) (D := 2) (by omega) (by decide) (by omega)
    have e0 : fbad t n q [75, 68, 68, 68] = fbad t n (q + 1) [68, 68, 68] := by rw [fbK, hk]; rfl
    have w22 : ∀ j, ¬ (p ≤ j ∧ j < p + 3) → mga (mpf (mpA w 22 0 (upd (mga w 22 0) p (nI v))) 11 0 15 (nI (q + 1))) 22 0 j = mga w 22 0 j := fun j hj => by rw [mga_pf, mga_pA]; exact upd_ne (by omega)
    have wp : mga (mpf (mpA w 22 0 (upd (mga w 22 0) p (nI v))) 11 0 15 (nI (q + 1))) 22 0 p = nI v := by rw [mga_pf, mga_pA]; exact upd_at _ _ _
    have oW : OmA w (mpf (mpA w 22 0 (upd (mga w 22 0) p (nI v))) 11 0 15 (nI (q + 1))) := (Om.pA (by decide)).tr (Om.pf (by decide))
    have w15 : ∀ f : Nat → Int32, mgf (mpA w 22 0 f) 11 0 15 = nI q := fun _ => h15
    rw [e0, fb2]
    cases hr2 : rdF t n (q + 1) 2 with
    | some k =>
      rw [hr2] at r2
      dsimp only
      refine Ev.blk kX3_readsChild_0 rfl trivial ?_
      refine Ev.cV (d1 := d - 1) (em_next h) tX3_readsChild_6 qX3_77 rfl rfl (by decide) ⟨rfl, rfl, rfl⟩ (by omega) ?_
      rintro _ _ ⟨rfl, rfl⟩
      refine Ev.cS (d1 := d - 1) (em_kindNx h) tX3_readsChild_9 qX3_85 rfl ⟨rfl, rfl, rfl⟩ (by omega) ?_
      rintro _ _ ⟨rfl, rfl⟩
      rw [hk]
      refine Ev.blk kX3_readsChild_12 rfl ⟨⟨trivial, vinN hp9 (by decide)⟩, vinN hp9 (by decide)⟩ ?_
      rw [ixN (by omega), f1, show oM1 (some v) = nI v from rfl]
      refine Ev.br tX3_readsChild_19 rfl (fun c19 => ?_) (fun c19 => ?_)
      · refine Ev.blk kX3_readsChild_24 rfl trivial ?_
        rw [w15, nI_add, nI_add]
        refine Ev.cV (d1 := d - 1) (r2) tX3_readsChild_39 qX3_88 rfl rfl (by decide) ⟨rfl, rfl, rfl⟩ (by omega) ?_
        rintro _ _ ⟨o2, rfl, hT2, h22⟩
        refine Ev.br tX3_readsChild_42 rfl (fun c42 => ?_) (fun c42 => ?_)
        · refine Ev.blk kX3_readsChild_60 rfl trivial ?_
          refine Ev.iret tX3_readsChild_61 rfl rfl ?_
          exact ⟨oW.tr o2, fun j hj => (congrFun h22 j).trans (w22 j hj), rfl, hT2⟩
        · exact absurd rfl c42
      · exact absurd (nI_le (Nat.zero_le _) (by omega)) c19
    | none =>
      rw [hr2] at r2
      dsimp only
      have r3 : ∀ u, TpAt u t n (q + 1 + 2) → Cl l (d - 1) MX3_readsDigits [mR 11 0, mI (nI (p + 2)), mI (nI 1)] u (rdQ u t n (q + 1 + 2) (p + 2) 1 (rdF t n (q + 1 + 2) 1)) := fun u hT => em_readsDigits hT (by omega) (by omega) (by decide) (by omega)
      rw [fb1]
      cases hr3 : rdF t n (q + 1 + 2) 1 with
      | some k =>
        rw [hr3] at r3
        dsimp only
        refine Ev.blk kX3_readsChild_0 rfl trivial ?_
        refine Ev.cV (d1 := d - 1) (em_next h) tX3_readsChild_6 qX3_77 rfl rfl (by decide) ⟨rfl, rfl, rfl⟩ (by omega) ?_
        rintro _ _ ⟨rfl, rfl⟩
        refine Ev.cS (d1 := d - 1) (em_kindNx h) tX3_readsChild_9 qX3_85 rfl ⟨rfl, rfl, rfl⟩ (by omega) ?_
        rintro _ _ ⟨rfl, rfl⟩
        rw [hk]
        refine Ev.blk kX3_readsChild_12 rfl ⟨⟨trivial, vinN hp9 (by decide)⟩, vinN hp9 (by decide)⟩ ?_
        rw [ixN (by omega), f1, show oM1 (some v) = nI v from rfl]
        refine Ev.br tX3_readsChild_19 rfl (fun c19 => ?_) (fun c19 => ?_)
        · refine Ev.blk kX3_readsChild_24 rfl trivial ?_
          rw [w15, nI_add, nI_add]
          refine Ev.cV (d1 := d - 1) (r2) tX3_readsChild_39 qX3_88 rfl rfl (by decide) ⟨rfl, rfl, rfl⟩ (by omega) ?_
          rintro _ _ ⟨o2, rfl, hT2, h22⟩
          refine Ev.br tX3_readsChild_42 rfl (fun c42 => ?_) (fun c42 => ?_)
          · exact absurd c42 (by decide)
          · refine Ev.blk kX3_readsChild_45 rfl trivial ?_
            rw [nI_add]
            refine Ev.cV (d1 := d - 1) (r3 _ hT2) tX3_readsChild_50 qX3_88 rfl rfl (by decide) ⟨rfl, rfl, rfl⟩ (by omega) ?_
            rintro _ _ ⟨o3, rfl, hT3, h23⟩
            refine Ev.br tX3_readsChild_53 rfl (fun c53 => ?_) (fun c53 => ?_)
            · refine Ev.blk kX3_readsChild_60 rfl trivial ?_
              refine Ev.iret tX3_readsChild_61 rfl rfl ?_
              exact ⟨(oW.tr o2).tr o3, fun j hj => (congrFun h23 j).trans ((congrFun h22 j).trans ((upd_ne (by omega)).trans (w22 j hj))), rfl, hT3⟩
            · exact absurd rfl c53
        · exact absurd (nI_le (Nat.zero_le _) (by omega)) c19
      | none =>
        rw [hr3] at r3
        dsimp only
        refine Ev.blk kX3_readsChild_0 rfl trivial ?_
        refine Ev.cV (d1 := d - 1) (em_next h) tX3_readsChild_6 qX3_77 rfl rfl (by decide) ⟨rfl, rfl, rfl⟩ (by omega) ?_
        rintro _ _ ⟨rfl, rfl⟩
        refine Ev.cS (d1 := d - 1) (em_kindNx h) tX3_readsChild_9 qX3_85 rfl ⟨rfl, rfl, rfl⟩ (by omega) ?_
        rintro _ _ ⟨rfl, rfl⟩
        rw [hk]
        refine Ev.blk kX3_readsChild_12 rfl ⟨⟨trivial, vinN hp9 (by decide)⟩, vinN hp9 (by decide)⟩ ?_
        rw [ixN (by omega), f1, show oM1 (some v) = nI v from rfl]
        refine Ev.br tX3_readsChild_19 rfl (fun c19 => ?_) (fun c19 => ?_)
        · refine Ev.blk kX3_readsChild_24 rfl trivial ?_
          rw [w15, nI_add, nI_add]
          refine Ev.cV (d1 := d - 1) (r2) tX3_readsChild_39 qX3_88 rfl rfl (by decide) ⟨rfl, rfl, rfl⟩ (by omega) ?_
          rintro _ _ ⟨o2, rfl, hT2, h22⟩
          refine Ev.br tX3_readsChild_42 rfl (fun c42 => ?_) (fun c42 => ?_)
          · exact absurd c42 (by decide)
          · refine Ev.blk kX3_readsChild_45 rfl trivial ?_
            rw [nI_add]
            refine Ev.cV (d1 := d - 1) (r3 _ hT2) tX3_readsChild_50 qX3_88 rfl rfl (by decide) ⟨rfl, rfl, rfl⟩ (by omega) ?_
            rintro _ _ ⟨o3, rfl, hT3, h23⟩
            refine Ev.br tX3_readsChild_53 rfl (fun c53 => ?_) (fun c53 => ?_)
            · exact absurd c53 (by decide)
            · refine Ev.blk kX3_readsChild_56 rfl trivial ?_
              refine Ev.jmp tX3_readsChild_57 ?_
              refine Ev.iret tX3_readsChild_61 rfl rfl ?_
              refine ⟨(oW.tr o2).tr o3, fun j hj => (congrFun h23 j).trans ((upd_ne (by omega)).trans ((congrFun h22 j).trans ((upd_ne (by omega)).trans (w22 j hj)))), rfl, hT3, ?_, ?_, ?_⟩
              · rw [hkx]
                exact (congrFun h23 p).trans ((upd_ne (by omega)).trans ((congrFun h22 p).trans ((upd_ne (by omega)).trans wp)))
              · exact (congrFun h23 (p + 1)).trans ((upd_ne (by omega)).trans ((congrFun h22 (p + 1)).trans ((upd_at _ _ _).trans (congrArg nI (vD2 t (q + 1))))))
              · exact (congrFun h23 (p + 2)).trans ((upd_at _ _ _).trans (congrArg nI (vD1 t (q + 3))))
        · exact absurd (nI_le (Nat.zero_le _) (by omega)) c19
/-- what is recorded of the statement k, that begins at q -/
def RecAt (w : mW) (t : Nat → Nat) (k q : Nat) : Prop := mga w 20 0 k = nI (t q) ∧ mga w 21 0 k = nI q ∧ (t q = 107 → mga w 22 0 (3 * k) = nI ((kix (t (q + 1))).getD 0) ∧ mga w 22 0 (3 * k + 1) = nI (cel t (q + 2)) ∧ mga w 22 0 (3 * k + 2) = nI (dgt t (q + 4))) ∧ (t q = 116 ∨ t q = 108 → mga w 22 0 (3 * k) = nI (dgt t (q + 1))) ∧ (t q = 103 → mga w 22 0 (3 * k) = nI (dgt t (q + 1)) ∧ mga w 22 0 (3 * k + 1) = nI (cel t (q + 2)))
abbrev OmS (w u : mW) : Prop := Om (fun k => k = 15) (fun t => 20 ≤ t ∧ t ≤ 22) w u
def stQ (w : mW) (t : Nat → Nat) (n q m : Nat) (o : Option Nat) (r : Option mV) (u : mW) : Prop := OmS w u ∧ (∀ j, j < m → mga u 20 0 j = mga w 20 0 j ∧ mga u 21 0 j = mga w 21 0 j) ∧ (∀ j, j < 3 * m → mga u 22 0 j = mga w 22 0 j) ∧ (match o with
  | some r' => r = some (mI (nI 0)) ∧ TpAt u t n r'
  | none => r = some (mI (nI 1)) ∧ TpAt u t n (q + sln (t q)) ∧ RecAt u t m q)
theorem sln_k {c : Nat} (h : c = 107) : sln c = 6 := by subst h; decide
theorem sln_t {c : Nat} (h : c = 116) : sln c = 3 := by subst h; decide
theorem sln_l {c : Nat} (h : c = 108) : sln c = 3 := by subst h; decide
theorem sln_g {c : Nat} (h : c = 103) : sln c = 5 := by subst h; decide
theorem stE_sh {a b : Nat} {cs : List Nat} (hq : q < n) (h : shp (t q) = a :: b :: cs) (ha : fitC a (t q) = true) : stE t n q = fbad t n (q + 1) (b :: cs) := by
  rw [stE_fb hq (by unfold sln; rw [h]; simp), h]
  show (if q < n ∧ fitC a (t q) = true then fbad t n (q + 1) (b :: cs) else some q) = _
  rw [if_pos ⟨hq, ha⟩]
theorem em_statement (h : TpAt w t n q) (hd : 4 ≤ d) {m : Nat} (hm : m < 40) (hq : q ≤ 100) (hs : mgf w 11 0 16 = nI m) : Cl l d MX3_statement [mR 11 0] w (stQ w t n q m (stE t n q)) := by
  show Ev l d MX3_statement 0 [some (mR 11 0), none, none, none] [] w _
  have h15 := h.2.2.2.2.1
  have ht := h.2.2.2.1
  by_cases hk4 : q < n ∧ (t q = 107 ∨ t q = 116 ∨ t q = 108 ∨ t q = 103)
  · obtain ⟨hqn, h4⟩ := hk4
    have htq := ht q hqn
    have hnx : nx t n q = nI (t q) := if_pos hqn
    have a20 : mga (mpA w 20 0 (upd (mga w 20 0) m (nI (t q)))) 21 0 = mga w 21 0 := mga_pAn (by decide)
    have a20' : ∀ f : Nat → Int32, mga (mpA w 20 0 f) 21 0 = mga w 21 0 := fun _ => mga_pAn (by decide)
    obtain ⟨w1, hw1⟩ : ∃ x, x = mpf (mpA (mpA w 20 0 (upd (mga w 20 0) m (nI (t q)))) 21 0 (upd (mga w 21 0) m (nI q))) 11 0 15 (nI (q + 1)) := ⟨_, rfl⟩
    have o1 : OmS w w1 := by rw [hw1]; exact ((Om.pA (by decide)).tr (Om.pA (by decide))).tr (Om.pf (by decide))
    have hT1 : TpAt w1 t n (q + 1) := by
      rw [hw1]
      exact (h.of (u := mpA (mpA w 20 0 (upd (mga w 20 0) m (nI (t q)))) 21 0 (upd (mga w 21 0) m (nI q))) rfl rfl ((mga_pAn (by decide)).trans (mga_pAn (by decide)))).adv (by omega)
    have e20 : mga w1 20 0 = upd (mga w 20 0) m (nI (t q)) := by rw [hw1, mga_pf, mga_pAn (by decide), mga_pA]
    have e21 : mga w1 21 0 = upd (mga w 21 0) m (nI q) := by rw [hw1, mga_pf, mga_pA]
    have e22 : mga w1 22 0 = mga w 22 0 := by rw [hw1, mga_pf, mga_pAn (by decide), mga_pAn (by decide)]
    have fin : ∀ u, OmA w1 u → (∀ j, ¬ (3 * m ≤ j ∧ j < 3 * m + 3) → mga u 22 0 j = mga w1 22 0 j) → (OmS w u ∧ (∀ j, j < m → mga u 20 0 j = mga w 20 0 j ∧ mga u 21 0 j = mga w 21 0 j) ∧ (∀ j, j < 3 * m → mga u 22 0 j = mga w 22 0 j)) ∧ mga u 20 0 m = nI (t q) ∧ mga u 21 0 m = nI q := by
      intro u o h22
      have g20 := (o.2 20 0 (by decide)).trans e20
      have g21 := (o.2 21 0 (by decide)).trans e21
      refine ⟨⟨o1.tr (o.sub (fun k z => z) (fun k z => by omega)), fun j hj => ⟨(congrFun g20 j).trans (upd_ne (by omega)), (congrFun g21 j).trans (upd_ne (by omega))⟩, fun j hj => (h22 j (by omega)).trans (congrFun e22 j)⟩, (congrFun g20 m).trans (upd_at _ _ _), (congrFun g21 m).trans (upd_at _ _ _)⟩
    have mid : ∀ Q : Option mV → mW → Prop, (t q = 107 → Ev l d MX3_statement 77 [some (mR 11 0), some (mI (nI (t q))), some (mI (nI (3 * m))), none] [] w1 Q) → (¬ t q = 107 → Ev l d MX3_statement 85 [some (mR 11 0), some (mI (nI (t q))), some (mI (nI (3 * m))), none] [] w1 Q) → Ev l d MX3_statement 31 [some (mR 11 0), some (mI (nI (t q))), none, none] [] w Q := by
      intro Q k1 k2
      refine Ev.blk kX3_statement_31 rfl ⟨⟨trivial, by rw [hs]; exact vinN (show m < 48 by omega) (by decide)⟩, by simp only [mgf_pA]; rw [hs]; exact vinN (show m < 48 by omega) (by decide)⟩ ?_
      simp only [mgf_pA, hs, h15, nI_add, pk_mul, a20']
      rw [ixN (show m < 1000 by omega)]
      rw [mgf_pfn (by decide)]
      simp only [mgf_pA, hs, pk_mul, a20, ← hw1]
      refine Ev.br tX3_statement_74 rfl (fun c74 => ?_) (fun c74 => ?_)
      · rw [nI_eq (by omega) (by omega)] at c74
        exact k2 c74
      · rw [nI_eq (by omega) (by omega), Classical.not_not] at c74
        exact k1 c74
    have start : ∀ Q : Option mV → mW → Prop, Ev l d MX3_statement 31 [some (mR 11 0), some (mI (nI (t q))), none, none] [] w Q → Ev l d MX3_statement 0 [some (mR 11 0), none, none, none] [] w Q := by
      intro Q k
      refine Ev.blk kX3_statement_0 rfl trivial ?_
      refine Ev.cV (d1 := d - 1) (em_next h) tX3_statement_1 qX3_77 rfl rfl (by decide) ⟨rfl, rfl, rfl⟩ (by omega) ?_
      rintro _ _ ⟨rfl, rfl⟩
      rw [hnx]
      refine Ev.blk kX3_statement_4 rfl trivial ?_
      refine Ev.br tX3_statement_8 rfl (fun c8 => ?_) (fun c8 => ?_)
      · rw [nI_eq (by omega) (by omega)] at c8
        exact k
      · rw [nI_eq (by omega) (by omega)] at c8
        refine Ev.blk kX3_statement_11 rfl trivial ?_
        refine Ev.br tX3_statement_14 rfl (fun c14 => ?_) (fun c14 => ?_)
        · rw [nI_eq (by omega) (by omega)] at c14
          exact k
        · rw [nI_eq (by omega) (by omega)] at c14
          refine Ev.blk kX3_statement_17 rfl trivial ?_
          refine Ev.br tX3_statement_20 rfl (fun c20 => ?_) (fun c20 => ?_)
          · rw [nI_eq (by omega) (by omega)] at c20
            exact k
          · rw [nI_eq (by omega) (by omega)] at c20
            refine Ev.blk kX3_statement_23 rfl trivial ?_
            refine Ev.br tX3_statement_26 rfl (fun c26 => ?_) (fun c26 => ?_)
            · rw [nI_eq (by omega) (by omega)] at c26
              exact k
            · rw [nI_eq (by omega) (by omega)] at c26
              exfalso
              omega
    have tail : ∀ (Q : Option mV → mW → Prop) (u : mW) (q2 : Nat) (x1 x2 : Int32), TpAt u t n q2 → q2 ≤ 190 → (q2 < n ∧ t q2 = 59 → Q (some (mI (nI 1))) (mpf u 11 0 15 (nI (q2 + 1)))) → (¬ (q2 < n ∧ t q2 = 59) → Q (some (mI (nI 0))) u) → Ev l d MX3_statement 116 [some (mR 11 0), some (mI x1), some (mI x2), none] [mI (nI 1)] u Q := by
      intro Q u q2 x1 x2 hT hq2 hy hn
      have hu15 := hT.2.2.2.2.1
      have hnq : (nx t n q2 = nI 59) = (q2 < n ∧ t q2 = 59) := by
        apply propext
        unfold nx
        by_cases z : q2 < n
        · have := ht q2 z
          rw [if_pos z, nI_eq (by omega) (by omega)]
          exact ⟨fun y => ⟨z, y⟩, fun y => y.2⟩
        · rw [if_neg z]
          exact ⟨fun y => absurd y (by decide), fun y => absurd y.1 z⟩
      refine Ev.blk kX3_statement_116 rfl trivial ?_
      refine Ev.br tX3_statement_118 rfl (fun c118 => ?_) (fun c118 => ?_)
      · exact absurd c118 (by decide)
      · refine Ev.blk kX3_statement_121 rfl trivial ?_
        refine Ev.cV (d1 := d - 1) (em_next hT) tX3_statement_122 qX3_77 rfl rfl (by decide) ⟨rfl, rfl, rfl⟩ (by omega) ?_
        rintro _ _ ⟨rfl, rfl⟩
        refine Ev.blk kX3_statement_125 rfl trivial ?_
        refine Ev.br tX3_statement_127 rfl (fun c127 => ?_) (fun c127 => ?_)
        · rw [hnq] at c127
          refine Ev.blk kX3_statement_132 rfl trivial ?_
          rw [hu15, nI_add]
          refine Ev.iret tX3_statement_143 rfl rfl ?_
          exact hy c127
        · rw [hnq] at c127
          refine Ev.blk kX3_statement_130 rfl trivial ?_
          refine Ev.iret tX3_statement_131 rfl rfl ?_
          exact hn c127
    have tail0 : ∀ (Q : Option mV → mW → Prop) (u : mW) (x1 x2 : Int32), Q (some (mI (nI 0))) u → Ev l d MX3_statement 116 [some (mR 11 0), some (mI x1), some (mI x2), none] [mI (nI 0)] u Q := by
      intro Q u x1 x2 hq0
      refine Ev.blk kX3_statement_116 rfl trivial ?_
      refine Ev.br tX3_statement_118 rfl (fun c118 => ?_) (fun c118 => ?_)
      · refine Ev.blk kX3_statement_130 rfl trivial ?_
        refine Ev.iret tX3_statement_131 rfl rfl ?_
        exact hq0
      · exact absurd rfl c118
    refine start _ (mid _ (fun hk => ?_) (fun hnk => ?_))
    · have hsh : shp (t q) = 107 :: 75 :: [68, 68, 68, 59] := by rw [hk]; rfl
      have hst : stE t n q = fbad t n (q + 1) ([75, 68, 68, 68] ++ [59]) := stE_sh hqn hsh (by rw [hk]; rfl)
      rw [hst, fbA]
      have rc := em_readsChild (l := l) (d := d - 1) hT1 (by omega) (p := 3 * m) (by omega) (by omega)
      cases hr : fbad t n (q + 1) [75, 68, 68, 68] with
      | some r' =>
        rw [hr] at rc
        dsimp only
        refine Ev.blk kX3_statement_77 rfl trivial ?_
        refine Ev.cV (d1 := d - 1) (rc) tX3_statement_79 qX3_95 rfl rfl (by decide) ⟨rfl, rfl, rfl⟩ (by omega) ?_
        rintro _ _ ⟨o2, h22, rfl, hT2⟩
        refine Ev.jmp tX3_statement_82 ?_
        exact tail0 _ _ _ _ ⟨(fin _ o2 h22).1.1, (fin _ o2 h22).1.2.1, (fin _ o2 h22).1.2.2, rfl, hT2⟩
      | none =>
        rw [hr] at rc
        dsimp only
        rw [show ([75, 68, 68, 68] : List Nat).length = 4 from rfl, fbS]
        refine Ev.blk kX3_statement_77 rfl trivial ?_
        refine Ev.cV (d1 := d - 1) (rc) tX3_statement_79 qX3_95 rfl rfl (by decide) ⟨rfl, rfl, rfl⟩ (by omega) ?_
        rintro _ _ ⟨o2, h22, rfl, hT2, v1, v2, v3⟩
        have hf := fin _ o2 h22
        refine Ev.jmp tX3_statement_82 ?_
        refine tail _ _ (q + 1 + 4) _ _ hT2 (by omega) (fun hy => ?_) (fun hn => ?_)
        · rw [if_pos hy]
          refine ⟨hf.1.1.tr (Om.pf (by decide)), hf.1.2.1, hf.1.2.2, rfl, ?_, hf.2.1, hf.2.2, fun _ => ⟨v1, v2, v3⟩, fun z => by omega, fun z => by omega⟩
          rw [sln_k hk, show q + 6 = q + 1 + 4 + 1 by omega]
          exact hT2.adv (by omega)
        · rw [if_neg hn]
          exact ⟨hf.1.1, hf.1.2.1, hf.1.2.2, rfl, hT2⟩
    · have r1 := em_readsDigits (l := l) (d := d - 1) hT1 (by omega) (p := 3 * m) (D := 1) (by omega) (by decide) (by omega)
      by_cases hg : t q = 103
      · have hsh : shp (t q) = 103 :: 68 :: [68, 68, 59] := by rw [hg]; rfl
        have hst : stE t n q = fbad t n (q + 1) [68, 68, 68, 59] := stE_sh hqn hsh (by rw [hg]; rfl)
        rw [hst, fb1]
        cases hr1 : rdF t n (q + 1) 1 with
        | some k =>
          rw [hr1] at r1
          dsimp only
          refine Ev.blk kX3_statement_85 rfl trivial ?_
          refine Ev.cV (d1 := d - 1) (r1) tX3_statement_88 qX3_88 rfl rfl (by decide) ⟨rfl, rfl, rfl⟩ (by omega) ?_
          rintro _ _ ⟨o2, rfl, hT2, h22⟩
          refine Ev.br tX3_statement_91 rfl (fun c91 => ?_) (fun c91 => ?_)
          · refine Ev.blk kX3_statement_115 rfl trivial ?_
            exact tail0 _ _ _ _ ⟨(fin _ o2 (fun j _ => congrFun h22 j)).1.1, (fin _ o2 (fun j _ => congrFun h22 j)).1.2.1, (fin _ o2 (fun j _ => congrFun h22 j)).1.2.2, rfl, hT2⟩
          · exact absurd rfl c91
        | none =>
          rw [hr1] at r1
          dsimp only
          rw [fb2]
          have r2 : ∀ u, TpAt u t n (q + 1 + 1) → Cl l (d - 1) MX3_readsDigits [mR 11 0, mI (nI (3 * m + 1)), mI (nI 2)] u (rdQ u t n (q + 1 + 1) (3 * m + 1) 2 (rdF t n (q + 1 + 1) 2)) := fun u hT => em_readsDigits hT (by omega) (by omega) (by decide) (by omega)
          cases hr2 : rdF t n (q + 1 + 1) 2 with
          | some k =>
            rw [hr2] at r2
            dsimp only
            refine Ev.blk kX3_statement_85 rfl trivial ?_
            refine Ev.cV (d1 := d - 1) (r1) tX3_statement_88 qX3_88 rfl rfl (by decide) ⟨rfl, rfl, rfl⟩ (by omega) ?_
            rintro _ _ ⟨o2, rfl, hT2, h22⟩
            refine Ev.br tX3_statement_91 rfl (fun c91 => ?_) (fun c91 => ?_)
            · exact absurd c91 (by decide)
            · refine Ev.blk kX3_statement_94 rfl trivial ?_
              refine Ev.br tX3_statement_97 rfl (fun c97 => ?_) (fun c97 => ?_)
              · exact absurd (by rw [nI_eq (by omega) (by omega)]; exact hg) c97
              · refine Ev.blk kX3_statement_100 rfl trivial ?_
                rw [nI_add]
                refine Ev.cV (d1 := d - 1) (r2 _ hT2) tX3_statement_105 qX3_88 rfl rfl (by decide) ⟨rfl, rfl, rfl⟩ (by omega) ?_
                rintro _ _ ⟨o3, rfl, hT3, h23⟩
                refine Ev.br tX3_statement_108 rfl (fun c108 => ?_) (fun c108 => ?_)
                · refine Ev.blk kX3_statement_115 rfl trivial ?_
                  have hf := fin _ (o2.tr o3) (fun j hj => (congrFun h23 j).trans ((congrFun h22 j).trans (upd_ne (by omega))))
                  exact tail0 _ _ _ _ ⟨hf.1.1, hf.1.2.1, hf.1.2.2, rfl, hT3⟩
                · exact absurd rfl c108
          | none =>
            rw [hr2] at r2
            dsimp only
            rw [fbS]
            refine Ev.blk kX3_statement_85 rfl trivial ?_
            refine Ev.cV (d1 := d - 1) (r1) tX3_statement_88 qX3_88 rfl rfl (by decide) ⟨rfl, rfl, rfl⟩ (by omega) ?_
            rintro _ _ ⟨o2, rfl, hT2, h22⟩
            refine Ev.br tX3_statement_91 rfl (fun c91 => ?_) (fun c91 => ?_)
            · exact absurd c91 (by decide)
            · refine Ev.blk kX3_statement_94 rfl trivial ?_
              refine Ev.br tX3_statement_97 rfl (fun c97 => ?_) (fun c97 => ?_)
              · exact absurd (by rw [nI_eq (by omega) (by omega)]; exact hg) c97
              · refine Ev.blk kX3_statement_100 rfl trivial ?_
                rw [nI_add]
                refine Ev.cV (d1 := d - 1) (r2 _ hT2) tX3_statement_105 qX3_88 rfl rfl (by decide) ⟨rfl, rfl, rfl⟩ (by omega) ?_
                rintro _ _ ⟨o3, rfl, hT3, h23⟩
                refine Ev.br tX3_statement_108 rfl (fun c108 => ?_) (fun c108 => ?_)
                · exact absurd c108 (by decide)
                · refine Ev.blk kX3_statement_111 rfl trivial ?_
                  refine Ev.jmp tX3_statement_112 ?_
                  have hf := fin _ (o2.tr o3) (fun j hj => (congrFun h23 j).trans ((upd_ne (by omega)).trans ((congrFun h22 j).trans (upd_ne (by omega)))))
                  refine tail _ _ (q + 1 + 1 + 2) _ _ hT3 (by omega) (fun hy => ?_) (fun hn => ?_)
                  · rw [if_pos hy]
                    refine ⟨hf.1.1.tr (Om.pf (by decide)), hf.1.2.1, hf.1.2.2, rfl, ?_, hf.2.1, hf.2.2, fun z => absurd z hnk, fun z => by omega, fun _ => ⟨?_, ?_⟩⟩
                    · rw [sln_g hg, show q + 5 = q + 1 + 1 + 2 + 1 by omega]
                      exact hT3.adv (by omega)
                    · exact (congrFun h23 (3 * m)).trans ((upd_ne (by omega)).trans ((congrFun h22 (3 * m)).trans ((upd_at _ _ _).trans (congrArg nI (vD1 t (q + 1))))))
                    · exact (congrFun h23 (3 * m + 1)).trans ((upd_at _ _ _).trans (congrArg nI (vD2 t (q + 2))))
                  · rw [if_neg hn]
                    exact ⟨hf.1.1, hf.1.2.1, hf.1.2.2, rfl, hT3⟩
      · have htl : t q = 116 ∨ t q = 108 := by omega
        have hst : stE t n q = fbad t n (q + 1) [68, 59] := by
          rcases htl with z | z
          · exact stE_sh hqn (a := 116) (by rw [z]; rfl) (by rw [z]; rfl)
          · exact stE_sh hqn (a := 108) (by rw [z]; rfl) (by rw [z]; rfl)
        have hsl : sln (t q) = 3 := htl.elim sln_t sln_l
        rw [hst, fb1]
        cases hr1 : rdF t n (q + 1) 1 with
        | some k =>
          rw [hr1] at r1
          dsimp only
          refine Ev.blk kX3_statement_85 rfl trivial ?_
          refine Ev.cV (d1 := d - 1) (r1) tX3_statement_88 qX3_88 rfl rfl (by decide) ⟨rfl, rfl, rfl⟩ (by omega) ?_
          rintro _ _ ⟨o2, rfl, hT2, h22⟩
          refine Ev.br tX3_statement_91 rfl (fun c91 => ?_) (fun c91 => ?_)
          · refine Ev.blk kX3_statement_115 rfl trivial ?_
            exact tail0 _ _ _ _ ⟨(fin _ o2 (fun j _ => congrFun h22 j)).1.1, (fin _ o2 (fun j _ => congrFun h22 j)).1.2.1, (fin _ o2 (fun j _ => congrFun h22 j)).1.2.2, rfl, hT2⟩
          · exact absurd rfl c91
        | none =>
          rw [hr1] at r1
          dsimp only
          rw [fbS]
          refine Ev.blk kX3_statement_85 rfl trivial ?_
          refine Ev.cV (d1 := d - 1) (r1) tX3_statement_88 qX3_88 rfl rfl (by decide) ⟨rfl, rfl, rfl⟩ (by omega) ?_
          rintro _ _ ⟨o2, rfl, hT2, h22⟩
          refine Ev.br tX3_statement_91 rfl (fun c91 => ?_) (fun c91 => ?_)
          · exact absurd c91 (by decide)
          · refine Ev.blk kX3_statement_94 rfl trivial ?_
            refine Ev.br tX3_statement_97 rfl (fun c97 => ?_) (fun c97 => ?_)
            · refine Ev.blk kX3_statement_111 rfl trivial ?_
              refine Ev.jmp tX3_statement_112 ?_
              have hf := fin _ o2 (fun j hj => (congrFun h22 j).trans (upd_ne (by omega)))
              refine tail _ _ (q + 1 + 1) _ _ hT2 (by omega) (fun hy => ?_) (fun hn => ?_)
              · rw [if_pos hy]
                refine ⟨hf.1.1.tr (Om.pf (by decide)), hf.1.2.1, hf.1.2.2, rfl, ?_, hf.2.1, hf.2.2, fun z => absurd z hnk, fun _ => ?_, fun z => absurd z hg⟩
                · rw [hsl, show q + 3 = q + 1 + 1 + 1 by omega]
                  exact hT2.adv (by omega)
                · exact (congrFun h22 (3 * m)).trans ((upd_at _ _ _).trans (congrArg nI (vD1 t (q + 1))))
              · rw [if_neg hn]
                exact ⟨hf.1.1, hf.1.2.1, hf.1.2.2, rfl, hT2⟩
            · exact absurd (by rw [nI_eq (by omega) (by omega)]; exact hg) c97
  · have e : stE t n q = some q := by
      by_cases hqn : q < n
      · refine stE_0 hqn ?_
        unfold sln shp
        rw [if_neg (fun z => hk4 ⟨hqn, Or.inl z⟩), if_neg (fun z => hk4 ⟨hqn, Or.inr (Or.inl z)⟩), if_neg (fun z => hk4 ⟨hqn, Or.inr (Or.inr (Or.inl z))⟩), if_neg (fun z => hk4 ⟨hqn, Or.inr (Or.inr (Or.inr z))⟩)]
        rfl
      · exact if_neg hqn
    rw [e]
    have nn : ∀ c, c < 256 → (c = 107 ∨ c = 116 ∨ c = 108 ∨ c = 103) → ¬ nx t n q = nI c := by
      intro c hc hcc z
      unfold nx at z
      by_cases hqn : q < n
      · rw [if_pos hqn, nI_eq (by have := ht q hqn; omega) (by omega)] at z
        exact hk4 ⟨hqn, by rw [z]; exact hcc⟩
      · rw [if_neg hqn] at z
        exact absurd z.symm (by rw [nI_m1 (by omega)]; exact id)
    refine Ev.blk kX3_statement_0 rfl trivial ?_
    refine Ev.cV (d1 := d - 1) (em_next h) tX3_statement_1 qX3_77 rfl rfl (by decide) ⟨rfl, rfl, rfl⟩ (by omega) ?_
    rintro _ _ ⟨rfl, rfl⟩
    refine Ev.blk kX3_statement_4 rfl trivial ?_
    refine Ev.br tX3_statement_8 rfl (fun c8 => ?_) (fun c8 => ?_)
    · exact absurd c8 (nn 107 (by decide) (by decide))
    · refine Ev.blk kX3_statement_11 rfl trivial ?_
      refine Ev.br tX3_statement_14 rfl (fun c14 => ?_) (fun c14 => ?_)
      · exact absurd c14 (nn 116 (by decide) (by decide))
      · refine Ev.blk kX3_statement_17 rfl trivial ?_
        refine Ev.br tX3_statement_20 rfl (fun c20 => ?_) (fun c20 => ?_)
        · exact absurd c20 (nn 108 (by decide) (by decide))
        · refine Ev.blk kX3_statement_23 rfl trivial ?_
          refine Ev.br tX3_statement_26 rfl (fun c26 => ?_) (fun c26 => ?_)
          · exact absurd c26 (nn 103 (by decide) (by decide))
          · refine Ev.blk kX3_statement_29 rfl trivial ?_
            refine Ev.iret tX3_statement_30 rfl rfl ?_
            exact ⟨Om.rf, fun _ _ => ⟨rfl, rfl⟩, fun _ _ => rfl, rfl, h⟩
end M11
