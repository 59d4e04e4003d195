/-! THE CLAIM OUT OF ONE WALK OF THE LAW'S BODY. Your part is whole_start (and what it stands on); all else here is the same for every law, but numbers. -/
def R_law : String := "TouchedAndStandsLaw"
def lw_P (b : Addr) (xs : List Int32) (args : Array Value) (s : State) : Prop := args = #[.ref b] ∧ s.IntsAt b xs ∧ xs.length ≤ 2048 ∧ (Jvm.Cond.and given_1 narrow_1).before args s = true
def lw_Q (_ : Array Value) (s : State) (o : Outcome) (t : State) : Prop := o = .returned (some (.int 1)) ∧ Framed s o t [] 43 1280
def lw_Z (below : List Frame) (a : Array Value) (s : State) : State → Prop := fun t => ∃ o, t.status = .running ∧ Ended t below o ∧ lw_Q a s o t
/-- the law's own end, with 1 on the stack, nothing written that was there before, its room as the claim has it -/
theorem lw_ret {p : Program} {l : Launch} {e : Env} {s : State} {m : MethodId} {below : List Frame} {meth : Method} {c : Code} {b : Nat} (hx : p.tables.exec = Jvm.exec) (hb : c.code = code) (hr : meth.sig.returnType = ret) (hlocks : meth.locks = false) {pc : Nat} {H : Heap} {ls : Array Slot} (hdg : decode code pc = .ok (.ireturn, 1)) : W p l e room_1 s m #[Value.ref b] below meth c H [] 43 1280 (lw_Z below #[Value.ref b] s) (F0 m pc ls [.int 1]) := by
  intro T hT X
  obtain ⟨fs, hret, hrun, hended, hW, hframe⟩ := X.leave (v := some (.int 1)) (hlocks := hlocks) (fun h => by rw [hr] at h; cases h)
  have hmeth' : T.vm.method? m = some meth := X.method'
  refine ⟨T.setFrames fs, ?_, .returned (some (.int 1)), hrun, hended, rfl, ⟨_, rfl⟩, hW, hframe⟩
  jvm_step X.here [X.here.top, hx, hb, hdg, hmeth', hr, ret, narrow_b1]
  (try refine ⟨rfl, ?_⟩); (try refine ⟨rfl, ?_⟩)
  first | (intro acts; rw [hret _ acts rfl rfl rfl]) | rw [hret _ _ rfl rfl rfl]
  exact Steps.refl _
/-- what holds at the law's entry: the machine, the code, the tables' words (any of lw_tbl by 'hts w (by decide +kernel)'), the script of L ints xs at the cell b, what the Statement gives of the start (any of its parts by flat_of_before) -/
def lw_At (p : Program) (s : State) (m : MethodId) (meth : Method) (c : Code) (b L : Nat) (xs : Nat → Int32) : Prop :=
  p.tables.exec = Jvm.exec ∧ c.code = code ∧ meth.sig.returnType = ret ∧ c.maxLocals = 4 ∧ s.vm.findClass R_law = some m.cls ∧ (∀ w ∈ lw_tbl, w.before #[Value.ref b] s = true) ∧ va_X b L xs s s.heap ∧ b < s.heap.size ∧ meth.locks = false ∧ (Jvm.Cond.and given_1 narrow_1).before #[Value.ref b] s = true
/-! ===== the law's loop ===== -/
abbrev ML : mM := (x, code, 4, ret)
/-- the two sides stand alike -/
def lw_I (E : mEnv) (s : State) (w : mW) (st : St) (H : Heap) (locs : List Loc) : Prop := (KlsAt w st ∧ MdlAt w st ∧ SI st) ∧ mHold E (fun q : Nat => s.heap.size ≤ q) w H ∧ va_S (fun q : Nat => s.heap.size ≤ q) s.heap H locs
def lwA (pc k : Nat) : Bool := decide (decode code pc = .ok (.aload_n 0, 1)) && (decide (decode code (pc + 1) = .ok (.iload_n 3, 1)) && (decide (decode code (pc + 1 + 1) = .ok (.iconst (k : Int), 1)) && (decide (decode code (pc + 1 + 1 + 1) = .ok (.iadd, 1)) && decide (decode code (pc + 1 + 1 + 1 + 1) = .ok (.iaload, 1)))))
def lwAs : Nat → Nat → Nat → Bool
  | 0, _, _ => true
  | n + 1, k, pc => lwA pc k && lwAs n (k + 1) (pc + 5)
def xa (xs : Nat → Int32) (i : Nat) : Nat → Nat → List Int32
  | 0, _ => []
  | n + 1, k => xs (nI i + Int32.ofInt (k : Int)).toNatClampNeg :: xa xs i n (k + 1)
theorem xa_len {xs : Nat → Int32} {i : Nat} : ∀ {n k : Nat}, (xa xs i n k).length = n
  | 0, _ => rfl
  | n + 1, k => by
    show (xa xs i n (k + 1)).length + 1 = n + 1
    rw [xa_len]
theorem mexp_mI : ∀ (as : List Int32), (mexp (as.map mI)).length = as.length
  | [] => rfl
  | a :: as => by
    show (mexp (as.map mI)).length + 1 = as.length + 1
    rw [mexp_mI as]
theorem cv_ints {E : mEnv} (as : List Int32) : (as.map mI).map (cv E) = as.map Value.int := by
  rw [List.map_map]
  rfl
theorem lg_cmp_self (v : Int64) : lg_cmp v v = 0 := by
  unfold lg_cmp
  simp
section LW
variable {E : mEnv} {p : Program} {l : Launch} {e : Env} {s : State} {m : MethodId} {below : List Frame} {meth : Method} {c : Code} {Z : State → Prop} {b L : Nat} {xs : Nat → Int32} {w : mW} {st : St} {H : Heap} {locs : List Loc} {ls : Array Slot} {rest : List Value} {k0 : Nat}
theorem lw_arg (hc : mCtx E (fun q : Nat => s.heap.size ≤ q) p s m #[Value.ref b] c ML) (hX : va_X b L xs s s.heap) (hbl : b < s.heap.size) (hL : L ≤ 2048) {k pc : Nat} (hk : lwA pc k = true) (hk4 : k < 4) (hi : k0 + 4 ≤ L) (hS : va_S (fun q : Nat => s.heap.size ≤ q) s.heap H locs)
    (h0 : ls[0]? = some (.val (.ref b))) (h3 : ls[3]? = some (.val (.int (nI k0)))) (kk : W p l e room_1 s m #[Value.ref b] below meth c H locs 43 1280 Z (F0 m (pc + 5) ls (.int (xs (nI k0 + Int32.ofInt (k : Int)).toNatClampNeg) :: rest))) : W p l e room_1 s m #[Value.ref b] below meth c H locs 43 1280 Z (F0 m pc ls rest) := by
  unfold lwA at hk
  simp only [Bool.and_eq_true, decide_eq_true_eq] at hk
  obtain ⟨d1, d2, d3, d4, d5⟩ := hk
  refine lv_aload_n hc.1 hc.2.1 d1 rfl h0 ?_
  refine lv_iload_n hc.1 hc.2.1 d2 rfl h3 ?_
  refine lv_iconst hc.1 hc.2.1 d3 rfl ?_
  refine lv_iadd hc.1 hc.2.1 d4 ?_
  have e1 : nI k0 + Int32.ofInt (k : Int) = nI (k0 + k) := by
    rw [← nI_add]
    congr 1
  refine va_sld hc.1 hc.2.1 hX hbl (Nat.not_le.mpr hbl) hS (by rw [e1]; exact vp_in_nI (by omega) (by omega)) d5 ?_
  exact kk
theorem lw_args (hc : mCtx E (fun q : Nat => s.heap.size ≤ q) p s m #[Value.ref b] c ML) (hX : va_X b L xs s s.heap) (hbl : b < s.heap.size) (hL : L ≤ 2048) (hi : k0 + 4 ≤ L) (hS : va_S (fun q : Nat => s.heap.size ≤ q) s.heap H locs)
    (h0 : ls[0]? = some (.val (.ref b))) (h3 : ls[3]? = some (.val (.int (nI k0)))) : ∀ (n k pc : Nat) (rest : List Value), lwAs n k pc = true → k + n ≤ 4 → W p l e room_1 s m #[Value.ref b] below meth c H locs 43 1280 Z (F0 m (pc + 5 * n) ls (((xa xs k0 n k).map Value.int).reverse ++ rest)) → W p l e room_1 s m #[Value.ref b] below meth c H locs 43 1280 Z (F0 m pc ls rest) := by
  intro n
  induction n with
  | zero =>
    intro k pc rest _ _ kk
    have e1 : pc + 5 * 0 = pc := by omega
    have e2 : ((xa xs k0 0 k).map Value.int).reverse ++ rest = rest := rfl
    rw [e1, e2] at kk
    exact kk
  | succ n ih =>
    intro k pc rest hk hk4 kk
    have hk : (lwA pc k && lwAs n (k + 1) (pc + 5)) = true := hk
    rw [Bool.and_eq_true] at hk
    refine lw_arg hc hX hbl hL hk.1 (by omega) hi hS h0 h3 ?_
    refine ih (k + 1) (pc + 5) _ hk.2 (by omega) ?_
    rw [show pc + 5 + 5 * n = pc + 5 * (n + 1) by omega]
    have e1 : ((xa xs k0 n (k + 1)).map Value.int).reverse ++ Value.int (xs (nI k0 + Int32.ofInt (k : Int)).toNatClampNeg) :: rest = ((xa xs k0 (n + 1) k).map Value.int).reverse ++ rest := by
      show _ = ((Value.int (xs (nI k0 + Int32.ofInt (k : Int)).toNatClampNeg)) :: (xa xs k0 n (k + 1)).map Value.int).reverse ++ rest
      rw [List.reverse_cons, List.append_assoc]
      rfl
    rw [e1]
    exact kk
theorem lw_call (hc : mCtx E (fun q : Nat => s.heap.size ≤ q) p s m #[Value.ref b] c ML) {M1 : mM} {pc idx n t i : Nat} {as : List mV} {Q : Option mV → mW → Prop} (hd : decode code pc = .ok (.invokevirtual idx, 3)) (hl : mlk ML.1.cls idx M1 false n = true) (ht : mrcv t = M1.1.cls) (hC : M1.1.cls ≠ "") (hr : (t, i) ∈ mRefs) (hn : as.length = n) (hok : ∀ v ∈ mR t i :: as, mOk v) (hent : (mexp (mR t i :: as)).length ≤ M1.2.2.1) (hst : (rest.map fun v => v.category).sum ≤ 8)
    (hE : Cl l 13 M1 (mR t i :: as) w Q) (hH : mHold E (fun q : Nat => s.heap.size ≤ q) w H) (hS : va_S (fun q : Nat => s.heap.size ≤ q) s.heap H locs) (hls : ls.size = 4)
    (k : ∀ (r : Option mV) (u : mW) (H1 : Heap) (locs1 : List Loc), Q r u → mHold E (fun q : Nat => s.heap.size ≤ q) u H1 → va_S (fun q : Nat => s.heap.size ≤ q) s.heap H1 locs1 → W p l e room_1 s m #[Value.ref b] below meth c H1 locs1 43 1280 Z (F0 m (pc + 3) ls ((r.map (cv E)).toList ++ rest))) :
    W p l e room_1 s m #[Value.ref b] below meth c H locs 43 1280 Z (F0 m pc ls ((as.map (cv E)).reverse ++ Value.ref (mAd E t i) :: rest)) := by
  have hB := mlk_B (R := room_1) (d := 13) hc hl ⟨Nat.le_of_ble_eq_true rfl, Nat.le_of_ble_eq_true rfl⟩
  unfold mlk at hl
  simp only [Bool.and_eq_true, decide_eq_true_eq, Bool.false_eq_true, if_false] at hl
  obtain ⟨g1, g2, g3, g4, g5, g6, g7, g8, g9⟩ := hl
  have hA := mA_sub hH.2
  have hM := hE.met g6 hent hok E
  obtain ⟨ht32, hrc⟩ := mrcv_ok hc hH hS hr ht hC
  refine mcalled (Q := Q) (rest := rest) (va_runV (C := M1.1.cls) (b := mAd E t i) (As := as.map (cv E)) (rest := rest) (cc := code) (Ts := GW) ⟨hc.1, hc.2.1, hc.2.2.1, hc.own, hc.ts⟩ hM ⟨hB, hc.word g8, hc.word g9⟩ ⟨mPc_blind E _ w, hrc, fun U hU hW => ⟨by rw [List.map_cons, cv_ref ht32], va_K.moved hW.alike hc.K, mStr.go hc.2.2.2.2.2.2 hS hA hU hW, by rw [hU]; exact hH.self⟩⟩ rfl (by rw [List.length_map]; exact hn) hls rfl (lv_room hst) hd ⟨Nat.le_of_ble_eq_true rfl, Nat.le_of_ble_eq_true rfl⟩) hS hA (fun r u H1 locs1 hrok hq hh hS1 => ?_)
  exact k r u H1 locs1 hq (hh.to hA) hS1
/-- a case of n arguments -/
def lwB (pc n i1 i2 : Nat) (M1 M2 : mM) : Bool :=
  decide (decode code pc = .ok (.aload_n 1, 1)) && (lwAs n 1 (pc + 1) && (decide (decode code (pc + 1 + 5 * n) = .ok (.invokevirtual i1, 3)) && (decide (decode code (pc + 1 + 5 * n + 3) = .ok (.aload_n 2, 1)) && (lwAs n 1 (pc + 1 + 5 * n + 3 + 1) && (decide (decode code (pc + 1 + 5 * n + 3 + 1 + 5 * n) = .ok (.invokevirtual i2, 3)) && (mlk ML.1.cls i1 M1 false n && (mlk ML.1.cls i2 M2 false n && (decide (M1.1.cls = RX2) && (decide (M2.1.cls = RX3) && (Nat.ble (n + 1) M1.2.2.1 && (Nat.ble (n + 1) M2.2.2.1 && Nat.ble n 3)))))))))))
def lwX (pc : Nat) : Bool := decide (decode code pc = .ok (.if_icmp .eq ((909 : Int) - (pc : Int)), 3))
def lwY (pc : Nat) : Bool := decide (decode code pc = .ok (.lcmp, 1)) && decide (decode code (pc + 1) = .ok (.ifCond .eq ((909 : Int) - ((pc + 1 : Nat) : Int)), 3))
theorem cv_rest {v : Int32} : (([Value.int v] : List Value).map fun v => v.category).sum ≤ 8 := Nat.le_of_ble_eq_true rfl
theorem cv_restJ {v : Int64} : (([Value.long v] : List Value).map fun v => v.category).sum ≤ 8 := Nat.le_of_ble_eq_true rfl
theorem okI {t i : Nat} (h : (t, i) ∈ mRefs) (as : List Int32) : ∀ v ∈ mR t i :: as.map mI, mOk v := by
  refine mok_cons h (fun v hv => ?_)
  obtain ⟨a, -, rfl⟩ := List.mem_map.mp hv
  trivial
theorem lw_case (hc : mCtx E (fun q : Nat => s.heap.size ≤ q) p s m #[Value.ref b] c ML) (hX : va_X b L xs s s.heap) (hbl : b < s.heap.size) (hL : L ≤ 2048) (hi : k0 + 4 ≤ L) (hl : lv_has ls 4 [(0, .ref b), (1, .ref (mAd E 0 0)), (2, .ref (mAd E 11 0)), (3, .int (nI k0))]) (hI : lw_I E s w st H locs)
    (kk : ∀ (w1 : mW) (st1 : St) (H1 : Heap) (locs1 : List Loc), lw_I E s w1 st1 H1 locs1 → W p l e room_1 s m #[Value.ref b] below meth c H1 locs1 43 1280 Z (F0 m 909 ls []))
    {pc n i1 i2 : Nat} {M1 M2 : mM} {Pf : St → List Int32 → Int32 × St} (hk : lwB pc n i1 i2 M1 M2 = true) (hk2 : lwX (pc + 1 + 5 * n + 3 + 1 + 5 * n + 3) = true)
    (h1 : ∀ (w : mW) (st : St) (as : List Int32), as.length = n → KlsAt w st → SI st → Cl l 13 M1 (mR 0 0 :: as.map mI) w (fun r u => CP w (Pf st as) r u))
    (h2 : ∀ (w : mW) (st : St) (as : List Int32), as.length = n → MdlAt w st → SI st → Cl l 13 M2 (mR 11 0 :: as.map mI) w (fun r u => MP w (Pf st as) r u))
    (h3 : ∀ (st : St) (as : List Int32), SI st → SI (Pf st as).2) : W p l e room_1 s m #[Value.ref b] below meth c H locs 43 1280 Z (F0 m pc ls []) := by
  unfold lwB at hk
  simp only [Bool.and_eq_true, decide_eq_true_eq] at hk
  obtain ⟨d1, d2, d3, d4, d5, d6, m1, m2, c1, c2, n1, n2, n3⟩ := hk
  have n1 := Nat.le_of_ble_eq_true n1
  have n2 := Nat.le_of_ble_eq_true n2
  have n3 := Nat.le_of_ble_eq_true n3
  obtain ⟨⟨hK, hM, hS0⟩, hH, hS⟩ := hI
  obtain ⟨as, has⟩ : ∃ as, as = xa xs k0 n 1 := ⟨_, rfl⟩
  have hlen : as.length = n := by rw [has, xa_len]
  have hent : ∀ t i, (mexp (mR t i :: as.map mI)).length = n + 1 := fun t i => by
    show (mexp (as.map mI)).length + 1 = n + 1
    rw [mexp_mI, hlen]
  refine lv_aload_n hc.1 hc.2.1 d1 rfl (lv_at hl 1 rfl) ?_
  refine lw_args hc hX hbl hL hi hS (lv_at hl 0 rfl) (lv_at hl 3 rfl) n 1 _ _ d2 (by omega) ?_
  rw [← has, ← cv_ints (E := E)]
  refine lw_call hc d3 m1 (t := 0) (i := 0) (by rw [c1]; rfl) (by rw [c1]; decide) (by decide) (by rw [List.length_map]; exact hlen) (okI (by decide) as) (by rw [hent]; exact n1) (Nat.zero_le _) (h1 w st as hlen hK hS0) hH hS hl.1 ?_
  rintro _ u1 H1 locs1 ⟨rfl, s1, k1⟩ hH1 hS1
  refine lv_aload_n hc.1 hc.2.1 d4 rfl (lv_at hl 2 rfl) ?_
  refine lw_args hc hX hbl hL hi hS1 (lv_at hl 0 rfl) (lv_at hl 3 rfl) n 1 _ _ d5 (by omega) ?_
  rw [← has, ← cv_ints (E := E)]
  refine lw_call hc d6 m2 (t := 11) (i := 0) (by rw [c2]; rfl) (by rw [c2]; decide) (by decide) (by rw [List.length_map]; exact hlen) (okI (by decide) as) (by rw [hent]; exact n2) cv_rest (h2 u1 st as hlen (hM.sm s1) hS0) hH1 hS1 hl.1 ?_
  rintro _ u2 H2 locs2 ⟨rfl, s2, k2⟩ hH2 hS2
  have fin : W p l e room_1 s m #[Value.ref b] below meth c H2 locs2 43 1280 Z (F0 m 909 ls []) := kk u2 (Pf st as).2 H2 locs2 ⟨⟨k1.keep s2 (fun t i a _ => a), k2, h3 st as hS0⟩, hH2, hS2⟩
  exact lv_icmp_eq (tgt := 909) hc.1 hc.2.1 (of_decide_eq_true hk2) (by omega) (fun _ => fin) (fun z => absurd rfl z)
theorem lw_caseJ (hc : mCtx E (fun q : Nat => s.heap.size ≤ q) p s m #[Value.ref b] c ML) (hX : va_X b L xs s s.heap) (hbl : b < s.heap.size) (hL : L ≤ 2048) (hi : k0 + 4 ≤ L) (hl : lv_has ls 4 [(0, .ref b), (1, .ref (mAd E 0 0)), (2, .ref (mAd E 11 0)), (3, .int (nI k0))]) (hI : lw_I E s w st H locs)
    (kk : ∀ (w1 : mW) (st1 : St) (H1 : Heap) (locs1 : List Loc), lw_I E s w1 st1 H1 locs1 → W p l e room_1 s m #[Value.ref b] below meth c H1 locs1 43 1280 Z (F0 m 909 ls []))
    {pc n i1 i2 : Nat} {M1 M2 : mM} {Pf : St → List Int32 → Int64 × St} (hk : lwB pc n i1 i2 M1 M2 = true) (hk2 : lwY (pc + 1 + 5 * n + 3 + 1 + 5 * n + 3) = true)
    (h1 : ∀ (w : mW) (st : St) (as : List Int32), as.length = n → KlsAt w st → SI st → Cl l 13 M1 (mR 0 0 :: as.map mI) w (fun r u => CPJ w (Pf st as) r u))
    (h2 : ∀ (w : mW) (st : St) (as : List Int32), as.length = n → MdlAt w st → SI st → Cl l 13 M2 (mR 11 0 :: as.map mI) w (fun r u => MPJ w (Pf st as) r u))
    (h3 : ∀ (st : St) (as : List Int32), SI st → SI (Pf st as).2) : W p l e room_1 s m #[Value.ref b] below meth c H locs 43 1280 Z (F0 m pc ls []) := by
  unfold lwB at hk
  simp only [Bool.and_eq_true, decide_eq_true_eq] at hk
  obtain ⟨d1, d2, d3, d4, d5, d6, m1, m2, c1, c2, n1, n2, n3⟩ := hk
  have n1 := Nat.le_of_ble_eq_true n1
  have n2 := Nat.le_of_ble_eq_true n2
  have n3 := Nat.le_of_ble_eq_true n3
  obtain ⟨⟨hK, hM, hS0⟩, hH, hS⟩ := hI
  obtain ⟨as, has⟩ : ∃ as, as = xa xs k0 n 1 := ⟨_, rfl⟩
  have hlen : as.length = n := by rw [has, xa_len]
  have hent : ∀ t i, (mexp (mR t i :: as.map mI)).length = n + 1 := fun t i => by
    show (mexp (as.map mI)).length + 1 = n + 1
    rw [mexp_mI, hlen]
  refine lv_aload_n hc.1 hc.2.1 d1 rfl (lv_at hl 1 rfl) ?_
  refine lw_args hc hX hbl hL hi hS (lv_at hl 0 rfl) (lv_at hl 3 rfl) n 1 _ _ d2 (by omega) ?_
  rw [← has, ← cv_ints (E := E)]
  refine lw_call hc d3 m1 (t := 0) (i := 0) (by rw [c1]; rfl) (by rw [c1]; decide) (by decide) (by rw [List.length_map]; exact hlen) (okI (by decide) as) (by rw [hent]; exact n1) (Nat.zero_le _) (h1 w st as hlen hK hS0) hH hS hl.1 ?_
  rintro _ u1 H1 locs1 ⟨rfl, s1, k1⟩ hH1 hS1
  refine lv_aload_n hc.1 hc.2.1 d4 rfl (lv_at hl 2 rfl) ?_
  refine lw_args hc hX hbl hL hi hS1 (lv_at hl 0 rfl) (lv_at hl 3 rfl) n 1 _ _ d5 (by omega) ?_
  rw [← has, ← cv_ints (E := E)]
  refine lw_call hc d6 m2 (t := 11) (i := 0) (by rw [c2]; rfl) (by rw [c2]; decide) (by decide) (by rw [List.length_map]; exact hlen) (okI (by decide) as) (by rw [hent]; exact n2) cv_restJ (h2 u1 st as hlen (hM.sm s1) hS0) hH1 hS1 hl.1 ?_
  rintro _ u2 H2 locs2 ⟨rfl, s2, k2⟩ hH2 hS2
  have fin : W p l e room_1 s m #[Value.ref b] below meth c H2 locs2 43 1280 Z (F0 m 909 ls []) := kk u2 (Pf st as).2 H2 locs2 ⟨⟨k1.keep s2 (fun t i a _ => a), k2, h3 st as hS0⟩, hH2, hS2⟩
  unfold lwY at hk2
  simp only [Bool.and_eq_true, decide_eq_true_eq] at hk2
  refine W.lcmp hc.1 hc.2.1 hk2.1 ?_
  exact lv_if_eq (tgt := 909) hc.1 hc.2.1 hk2.2 (by omega) (fun _ => fin) (fun z => absurd (lg_cmp_self _) z)
end LW
