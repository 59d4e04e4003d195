/-! ===== the rules of a method's frame ===== -/
section EV
variable {l : Launch} {d d1 : Nat} {M M1 : mM} {pc pc1 tgt idx n : Nat} {L L1 : List (Option mV)} {S S1 S0 : List mV} {w w1 : mW} {Q Q1 : Option mV → mW → Prop} {is : List mB} {P1 C : Prop} {i : Instr}
theorem Ev.blk (hk : mchk M pc is pc1 = true) (hr : mrun is True L S w = some (P1, L1, S1, w1)) (hP : P1) (k : Ev l d M pc1 L1 S1 w1 Q) : Ev l d M pc L S w Q :=
  fun E p e s m args below meth c hc hlk hrt => mrun_ok hc hP (k E p e s m args below meth c hc hlk hrt) hk hr
theorem Ev.br (hk : mbk M pc i tgt = true) (hb : mcnd i S = some (C, S0)) (kt : C → Ev l d M tgt L S0 w Q) (kf : ¬ C → Ev l d M (pc + 3) L S0 w Q) : Ev l d M pc L S w Q :=
  fun E p e s m args below meth c hc hlk hrt => mbr_ok hc hk hb (fun h => kt h E p e s m args below meth c hc hlk hrt) (fun h => kf h E p e s m args below meth c hc hlk hrt)
theorem Ev.jmp {o : Int} (hk : mbk M pc (.goto o) tgt = true) (k : Ev l d M tgt L S w Q) : Ev l d M pc L S w Q :=
  fun E p e s m args below meth c hc hlk hrt => mjmp_ok hc hk (k E p e s m args below meth c hc hlk hrt)
/-- a stretch, then a branch -/
theorem Ev.bb (hk : mchk M pc is pc1 = true) (hk2 : mbk M pc1 i tgt = true) (hr : mrun is True L S w = some (P1, L1, S1, w1)) (hb : mcnd i S1 = some (C, S0)) (hP : P1) (kt : C → Ev l d M tgt L1 S0 w1 Q) (kf : ¬ C → Ev l d M (pc1 + 3) L1 S0 w1 Q) : Ev l d M pc L S w Q :=
  Ev.blk hk hr hP (Ev.br hk2 hb kt kf)
theorem Ev.bj {o : Int} (hk : mchk M pc is pc1 = true) (hk2 : mbk M pc1 (.goto o) tgt = true) (hr : mrun is True L S w = some (P1, L1, S1, w1)) (hP : P1) (k : Ev l d M tgt L1 S1 w1 Q) : Ev l d M pc L S w Q :=
  Ev.blk hk hr hP (Ev.jmp hk2 k)
theorem Ev.iret {ty : FieldType} {v : Int32} (hk : mrk M pc .ireturn = true) (hty : M.2.2.2 = some ty) (hn : narrow ty (.int v) = .int v) (hq : Q (some (mI v)) w) : Ev l d M pc L [mI v] w Q :=
  fun E p e s m args below meth c hc hlk hrt H locs ls hH hS hL hO => W.zret (v := v) (ty := ty) hc.1 hc.2.1 (hrt.trans hty) hn (fun t ht hW => ⟨⟨some (mI v), w, rfl, (fun z hz => by cases hz; trivial), hq, by rw [ht]; exact hH⟩, hS.F ht⟩) hS.2.2 (of_decide_eq_true hk) hlk
theorem Ev.lret {v : Int64} (hk : mrk M pc .lreturn = true) (hty : M.2.2.2 = some .long) (hq : Q (some (mJ v)) w) : Ev l d M pc L [mJ v] w Q :=
  fun E p e s m args below meth c hc hlk hrt H locs ls hH hS hL hO => W.lret (v := v) hc.1 hc.2.1 (hrt.trans hty) (fun t ht hW => ⟨⟨some (mJ v), w, rfl, (fun z hz => by cases hz; trivial), hq, by rw [ht]; exact hH⟩, hS.F ht⟩) hS.2.2 (of_decide_eq_true hk) hlk
theorem Ev.vret (hk : mrk M pc .return_ = true) (hty : M.2.2.2 = none) (hq : Q none w) : Ev l d M pc L [] w Q :=
  fun E p e s m args below meth c hc hlk hrt H locs ls hH hS hL hO => W.vret hc.1 hc.2.1 (hrt.trans hty) (fun t ht hW => ⟨⟨none, w, rfl, (fun z hz => by cases hz), hq, by rw [ht]; exact hH⟩, hS.F ht⟩) hS.2.2 (of_decide_eq_true hk) hlk
theorem Ev.aret {t j : Nat} {nm : String} (hk : mrk M pc .areturn = true) (ht32 : t ≠ 32) (hty : M.2.2.2 = some (.object nm)) (hq : Q (some (mR t j)) w) : Ev l d M pc L [mR t j] w Q := by
  intro E p e s m args below meth c hc hlk hrt H locs ls hH hS hL hO
  rw [cv_refS ht32]
  exact W.aret (v := .ref (mAd E t j)) hc.1 hc.2.1 (hrt.trans hty) (Or.inl ⟨nm, rfl⟩) (Or.inr ⟨_, rfl⟩) (fun t0 ht hW => ⟨⟨some (mR t j), w, (by rw [Option.map_some, cv_ref ht32]), (fun z hz => by cases hz; exact mok_head hO), hq, by rw [ht]; exact hH⟩, hS.F ht⟩) hS.2.2 (of_decide_eq_true hk) hlk
/-- a call, with the contract of the method that is called -/
abbrev Cl (l : Launch) (d : Nat) (M : mM) (as : List mV) (w : mW) (Q : Option mV → mW → Prop) : Prop := Ev l d M 0 (ment M.2.2.1 as) [] w Q
/-- an instruction of three bytes -/
def mdk (M : mM) (pc : Nat) (i : Instr) : Bool := decide (decode M.2.1 pc = .ok (i, 3))
theorem Ev.calS {as : List mV} (hk : mdk M pc (.invokestatic idx) = true) (hl : mlk M.1.cls idx M1 true n = true) (hS : S = as.reverse ++ S0) (hn : as.length = n ∧ (mexp as).length ≤ M1.2.2.1 ∧ mcs S0 ≤ 8) (hd : d1 + 1 ≤ d) (hE : Cl l d1 M1 as w Q1) (k : ∀ r u, Q1 r u → Ev l d M (pc + 3) L (r.toList ++ S0) u Q) : Ev l d M pc L S w Q := by
  subst hS
  have hk := of_decide_eq_true hk
  intro E p e s m args below meth c hc hlk hrt
  exact mcallS_ok hc hk hl hn.1 hn.2.1 hn.2.2 ⟨hd, by show 38 * d1 + 38 ≤ 38 * d; omega⟩ ⟨Nat.zero_le _, Nat.zero_le _⟩ hE (fun r u hq => k r u hq E p e s m args below meth c hc hlk hrt)
theorem Ev.calV {as : List mV} {t j : Nat} (hk : mdk M pc (.invokevirtual idx) = true) (hl : mlk M.1.cls idx M1 false n = true) (hS : S = as.reverse ++ mR t j :: S0) (ht : mrcv t = M1.1.cls) (hC : M1.1.cls ≠ "") (hn : as.length = n ∧ (mexp (mR t j :: as)).length ≤ M1.2.2.1 ∧ mcs S0 ≤ 8) (hd : d1 + 1 ≤ d) (hE : Cl l d1 M1 (mR t j :: as) w Q1) (k : ∀ r u, Q1 r u → Ev l d M (pc + 3) L (r.toList ++ S0) u Q) : Ev l d M pc L S w Q := by
  subst hS
  have hk := of_decide_eq_true hk
  intro E p e s m args below meth c hc hlk hrt
  exact mcallV_ok hc hk hl ht hC hn.1 hn.2.1 hn.2.2 ⟨hd, by show 38 * d1 + 38 ≤ 38 * d; omega⟩ ⟨Nat.zero_le _, Nat.zero_le _⟩ hE (fun r u hq => k r u hq E p e s m args below meth c hc hlk hrt)
theorem Ev.mono {Q2 : Option mV → mW → Prop} (h : Ev l d M pc L S w Q) (hQ : ∀ r u, Q r u → Q2 r u) : Ev l d M pc L S w Q2 := by
  intro E p e s m args below meth c hc hlk hrt H locs ls hH hS hL hO T hT X
  obtain ⟨t, h1, o, b1, b2, b3, b4⟩ := h E p e s m args below meth c hc hlk hrt H locs ls hH hS hL hO T hT X
  obtain ⟨⟨r, u, c1, c2, c3, c4⟩, c5⟩ := b3
  exact ⟨t, h1, o, b1, b2, ⟨⟨r, u, c1, c2, hQ r u c3, c4⟩, c5⟩, b4⟩
/-- the row of a switch -/
def mswo (i : Instr) (x : Int32) : Int := match i with
  | .tableswitch dflt lo hi offs => if x.toInt < lo ∨ hi < x.toInt then dflt else (offs[(x.toInt - lo).toNat]?).getD 0
  | .lookupswitch dflt ps => Op.lookupswitch.offset ps.toList dflt x.toInt
  | _ => 0
def mswk (M : mM) (pc : Nat) (i : Instr) (len : Nat) : Bool := decide (decode M.2.1 pc = .ok (i, len)) && (match i with
  | .tableswitch _ lo hi offs => decide (offs.size = (hi - lo + 1).toNat) && decide (lo ≤ hi)
  | .lookupswitch _ ps => (ps.toList.zip (ps.toList.drop 1)).all (fun (a, next) => a.1 < next.1)
  | _ => false)
theorem Ev.sw {len : Nat} {x : Int32} {off : Int} (hk : mswk M pc i len = true) (hx : mswo i x = off) (ht : (pc : Int) + off = (tgt : Int)) (k : Ev l d M tgt L S w Q) : Ev l d M pc L (.inl x :: S) w Q := by
  intro E p e s m args below meth c hc hlk hrt H locs ls hH hS hL hO
  unfold mswk at hk
  simp only [Bool.and_eq_true, decide_eq_true_eq] at hk
  obtain ⟨hd, hk⟩ := hk
  have h9 := k E p e s m args below meth c hc hlk hrt H locs ls hH hS hL (mok_tail hO)
  split at hk
  · rename_i dflt lo hi offs
    simp only [Bool.and_eq_true, decide_eq_true_eq] at hk
    unfold mswo at hx
    dsimp only at hx
    by_cases hr : x.toInt < lo ∨ hi < x.toInt
    · rw [if_pos hr] at hx
      exact lv_tableOut hc.1 hc.2.1 hd hr (by rw [hx]; exact ht) h9
    · rw [if_neg hr] at hx
      have hlt : (x.toInt - lo).toNat < offs.size := by rw [hk.1]; omega
      have hg : offs[(x.toInt - lo).toNat]? = some off := by
        rw [Array.getElem?_eq_getElem hlt] at hx ⊢
        simpa using hx
      exact lv_tableIn hc.1 hc.2.1 hd (fun z => hr (Or.inl z)) (fun z => hr (Or.inr z)) hg ht h9
  · rename_i dflt ps
    exact lv_lookup hc.1 hc.2.1 hd hk hx ht h9
  · cases hk
/-- Math.max and Math.min, which the machine has of its own -/
def mmk (own : String) (idx : Nat) (y : MethodName) (cc : ByteArray) : Bool := inW (.methodLink own idx y) && (inW (.static y) && (inW (.initialized "java/lang/Math") && inW (.code y cc 2 (some .int))))
def imx (x y : Int32) : Int32 := if x < y then y else x
def imn (x y : Int32) : Int32 := if y < x then y else x
theorem Ev.mmax {x y : Int32} (hk : mdk M pc (.invokestatic idx) = true) (hl : mmk M.1.cls idx Lib.Math.max.name Lib.Math.max.code = true) (hd : 1 ≤ d) (hst : mcs S ≤ 8) (k : Ev l d M (pc + 3) L (mI (imx x y) :: S) w Q) : Ev l d M pc L (mI y :: mI x :: S) w Q := by
  have hk := of_decide_eq_true hk
  unfold mmk at hl
  simp only [Bool.and_eq_true] at hl
  intro E p e s m args below meth c hc hlk hrt H locs ls hH hS hL hO
  exact va_mmax hc.1 hc.2.1 (hc.2.2.1.trans hL.1.1.symm) hc.own (hc.word hl.1) (hc.word hl.2.1) (hc.word hl.2.2.1) (hc.word hl.2.2.2) hd (by rw [mcs_sum hc.F]; show mcs S + 13 ≤ 38 * d; omega) (Nat.zero_le _) (Nat.zero_le _) hk (k E p e s m args below meth c hc hlk hrt H locs ls hH hS hL (mok_cons trivial (mok_tail (mok_tail hO))))
theorem Ev.mmin {x y : Int32} (hk : mdk M pc (.invokestatic idx) = true) (hl : mmk M.1.cls idx Lib.Math.min.name Lib.Math.min.code = true) (hd : 1 ≤ d) (hst : mcs S ≤ 8) (k : Ev l d M (pc + 3) L (mI (imn x y) :: S) w Q) : Ev l d M pc L (mI y :: mI x :: S) w Q := by
  have hk := of_decide_eq_true hk
  unfold mmk at hl
  simp only [Bool.and_eq_true] at hl
  intro E p e s m args below meth c hc hlk hrt H locs ls hH hS hL hO
  exact va_mmin hc.1 hc.2.1 (hc.2.2.1.trans hL.1.1.symm) hc.own (hc.word hl.1) (hc.word hl.2.1) (hc.word hl.2.2.1) (hc.word hl.2.2.2) hd (by rw [mcs_sum hc.F]; show mcs S + 13 ≤ 38 * d; omega) (Nat.zero_le _) (Nat.zero_le _) hk (k E p e s m args below meth c hc hlk hrt H locs ls hH hS hL (mok_cons trivial (mok_tail (mok_tail hO))))
/-- System.arraycopy of ints -/
theorem Ev.acp {sp dp nn : Int32} {ts is0 td id0 : Nat} (hk0 : mdk M pc (.invokestatic idx) = true) (hk : (inW (.methodLink M.1.cls idx arraycopyName) && (inW (.native arraycopyName) && (inW (.static arraycopyName) && inW (.initialized "java/lang/System")))) = true) (h1 : ts < 30 ∧ td < 30 ∧ oC ts = none ∧ oC td = none) (h2 : ¬ sp < 0 ∧ ¬ dp < 0 ∧ ¬ nn < 0 ∧ sp.toNatClampNeg + nn.toNatClampNeg ≤ oA ts ∧ dp.toNatClampNeg + nn.toNatClampNeg ≤ oA td) (hd : 1 ≤ d) (hst : mcs S ≤ 8)
    (k : Ev l d M (pc + 3) L S (mpA w td id0 (va_cpy (mga w ts is0) (mga w td id0) sp.toNatClampNeg dp.toNatClampNeg nn.toNatClampNeg)) Q) : Ev l d M pc L (mI nn :: mI dp :: mR td id0 :: mI sp :: mR ts is0 :: S) w Q := by
  simp only [Bool.and_eq_true] at hk
  have hk0 := of_decide_eq_true hk0
  intro E p e s m args below meth c hc hlk hrt H locs ls hH hS hL hO
  have hok1 : (td, id0) ∈ mRefs := mok_head (mok_tail (mok_tail hO))
  have hok2 : (ts, is0) ∈ mRefs := mok_head (mok_tail (mok_tail (mok_tail (mok_tail hO))))
  have hO0 := mok_tail (mok_tail (mok_tail (mok_tail (mok_tail hO))))
  obtain ⟨p1, hp1⟩ := List.getElem?_of_mem (mRef_cell (td, id0) hok1 h1.2.1)
  obtain ⟨p0, hp0⟩ := List.getElem?_of_mem (mRef_cell (ts, is0) hok2 h1.1)
  have hg1 := mWs_get E w hp1
  rw [mE_arr h1.2.2.2] at hg1
  have hg0 := mWs_get E w hp0
  rw [mE_arr h1.2.2.1] at hg0
  rw [List.map_cons, List.map_cons, cv_refS (by omega), List.map_cons, cv_refS (by omega)]
  refine va_copyi hc.1 hc.2.1 (hc.2.2.1.trans hL.1.1.symm) hc.own (hc.word hk.1) (hc.word hk.2.1) (hc.word hk.2.2.1) (hc.word hk.2.2.2) hc.K hH.1 hH.2 hS p0 p1 0 0 (ty := .int) hg0 hg1 rfl rfl rfl h2.1 h2.2.1 h2.2.2.1 h2.2.2.2.1 h2.2.2.2.2 (fun _ _ => rfl) hd ?_ hk0 (fun H1 locs1 hP hD hS1 => ?_)
  · rw [mcs_sum hc.F]
    show mcs S + (5 + 2 + 11) ≤ 38 * d
    omega
  · have hset : (mWs E w).set p1 (mAd E td id0, .inl (E.2.1, oA td, .inl (va_cpy (mga w ts is0) (mga w td id0) sp.toNatClampNeg dp.toNatClampNeg nn.toNatClampNeg))) = mWs E (mpA w td id0 (va_cpy (mga w ts is0) (mga w td id0) sp.toNatClampNeg dp.toNatClampNeg nn.toNatClampNeg)) := mWs_set hp1 (by rw [mE_arr h1.2.2.2]; simp [mga, mpA]) (fun q' hq' => mE_mpA hq')
    rw [hset] at hP hD
    exact k E p e s m args below meth c hc hlk hrt H1 locs1 ls ⟨hP, hD⟩ hS1 hL hO0
end EV
