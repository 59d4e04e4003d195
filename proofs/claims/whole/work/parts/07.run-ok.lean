/-! ===== a stretch of code ===== -/
section MS
variable {E : mEnv} {A : Nat → Prop} {p : Program} {l : Launch} {e : Env} {R : Room} {s : State} {m : MethodId} {args : Array Value} {below : List Frame} {meth : Method} {c : Code} {cells slots : Nat} {Z : State → Prop} {M : mM} {pc : Nat} {L L1 : List (Option mV)} {S S1 : List mV} {w w1 : mW}
theorem ms_ldstr (hc : mCtx E A p s m args c M) {x j : Nat} (hd : decode M.2.1 pc = .ok (.ldc x, 2)) (h : sTab.any (fun q => decide (q.1 = M.1.cls) && (decide (q.2.1 = x) && decide (q.2.2.2 = j))) = true)
    (k : mG E A p l e R s m args below meth c cells slots Z M (pc + 2) L (mR 30 j :: S) w) : mG E A p l e R s m args below meth c cells slots Z M pc L S w := by
  intro H locs ls hH hS hL hO
  obtain ⟨q, hq, hb⟩ := List.any_eq_true.mp h
  simp only [Bool.and_eq_true, decide_eq_true_eq] at hb
  obtain ⟨h1, h2, h3⟩ := hb
  have hr := hc.2.2.2.2.2.2.2.1 q hq
  rw [h1, h2, h3] at hr
  have hj : ∀ z ∈ sTab, (30, z.2.2.2) ∈ mRefs := by decide
  have hjj := hj q hq
  rw [h3] at hjj
  have h9 := k H locs ls hH hS hL (mok_cons hjj hO)
  rw [cv_refS (by decide)] at h9
  exact va_ldcS hc.1 hc.2.1 hc.own hr hd h9
theorem ms_gets1 (hc : mCtx E A p s m args c M) {x : Nat} (hd : decode M.2.1 pc = .ok (.getstatic x, 3)) (h : inW (.fieldLink M.1.cls x "java/lang/String" "COMPACT_STRINGS" "Z") = true)
    (k : mG E A p l e R s m args below meth c cells slots Z M (pc + 3) L (mI 1 :: S) w) : mG E A p l e R s m args below meth c cells slots Z M pc L S w := by
  intro H locs ls hH hS hL hO
  exact va_gets hc.1 hc.2.1 hc.2.2.2.2.2.2.2.2.1 hS hc.own (hc.word h) (fun _ h => h) hd (k H locs ls hH hS hL (mok_cons trivial hO))
theorem ms_gets2 (hc : mCtx E A p s m args c M) {x : Nat} (hd : decode M.2.1 pc = .ok (.getstatic x, 3)) (h : inW (.fieldLink M.1.cls x "jdk/internal/util/Preconditions" "SIOOBE_FORMATTER" "Ljava/util/function/BiFunction;") = true)
    (k : mG E A p l e R s m args below meth c cells slots Z M (pc + 3) L (mR 32 0 :: S) w) : mG E A p l e R s m args below meth c cells slots Z M pc L S w := by
  intro H locs ls hH hS hL hO
  exact va_gets hc.1 hc.2.1 hc.2.2.2.2.2.2.2.2.2.1 hS hc.own (hc.word h) (fun _ h => h) hd (k H locs ls hH hS hL (mok_cons (by decide : (32, 0) ∈ mRefs) hO))
theorem ms_iinc (hc : mCtx E A p s m args c M) {x : Nat} {n : Int} {v y : Int32} (hd : decode M.2.1 pc = .ok (.iinc x n, 3)) (hv : Int32.ofInt n = v) (hx : L[x]? = some (some (.inl y))) (hm : mset1 L x (mI (y + v)) = some L1)
    (k : mG E A p l e R s m args below meth c cells slots Z M (pc + 3) L1 S w) : mG E A p l e R s m args below meth c cells slots Z M pc L S w := by
  intro H locs ls hH hS hL hO
  have hh := hL.has
  obtain ⟨k0, hk0⟩ := List.getElem?_of_mem (mPairs_mem (E := E) hx)
  have hlt : x < M.2.2.1 := by rw [← hL.1.2]; exact (mset1_spec hm).1.1
  refine lv_iinc (v := y + v) hc.1 hc.2.1 hd hh (k := k0) hk0 (by rw [hv]) hlt rfl (fun ls' hl' => ?_)
  exact k H locs ls' hH hS (mset1_loc hc.F hL hm trivial hl') hO
theorem mstep_ok (hc : mCtx E A p s m args c M) {i : Instr} {pay : mV} {C : Option Prop} (hd : decode M.2.1 pc = .ok (i, ilen i)) (hp : mchkP M i pay = true) (hs : mstep i pay L S w = some (C, L1, S1, w1)) (hC : ∀ z, C = some z → z)
    (k : mG E A p l e R s m args below meth c cells slots Z M (pc + ilen i) L1 S1 w1) : mG E A p l e R s m args below meth c cells slots Z M pc L S w := by
  cases i with
  | iconst n =>
    cases hs
    cases pay with
    | inr z => simp [mchkP] at hp
    | inl v => exact fun H locs ls hH hS hL hO => lv_iconst hc.1 hc.2.1 hd (of_decide_eq_true hp) (k H locs ls hH hS hL (mok_cons trivial hO))
  | bipush n =>
    cases hs
    cases pay with
    | inr z => simp [mchkP] at hp
    | inl v => exact fun H locs ls hH hS hL hO => lv_bipush hc.1 hc.2.1 hd (of_decide_eq_true hp) (k H locs ls hH hS hL (mok_cons trivial hO))
  | sipush n =>
    cases hs
    cases pay with
    | inr z => simp [mchkP] at hp
    | inl v => exact fun H locs ls hH hS hL hO => lv_sipush hc.1 hc.2.1 hd (of_decide_eq_true hp) (k H locs ls hH hS hL (mok_cons trivial hO))
  | lconst n =>
    cases hs
    rcases pay with v | v | v
    · simp [mchkP] at hp
    · exact fun H locs ls hH hS hL hO => lv_lconst hc.1 hc.2.1 hd (of_decide_eq_true hp) (k H locs ls hH hS hL (mok_cons trivial hO))
    · simp [mchkP] at hp
  | ldc x =>
    cases hs
    rcases pay with v | v | ⟨t, j⟩
    · exact fun H locs ls hH hS hL hO => lv_ldc hc.1 hc.2.1 hc.own (hc.word hp) hd (k H locs ls hH hS hL (mok_cons trivial hO))
    · simp [mchkP] at hp
    · have hp2 : decide (t = 30) = true ∧ sTab.any (fun q => decide (q.1 = M.1.cls) && (decide (q.2.1 = x) && decide (q.2.2.2 = j))) = true := by
        have h9 := hp
        unfold mchkP at h9
        exact Bool.and_eq_true_iff.mp h9
      have ht : t = 30 := of_decide_eq_true hp2.1
      subst ht
      exact ms_ldstr hc hd hp2.2 k
  | ldc_w x =>
    cases hs
    rcases pay with v | v | v
    · exact fun H locs ls hH hS hL hO => lv_ldcw hc.1 hc.2.1 hc.own (hc.word hp) hd (k H locs ls hH hS hL (mok_cons trivial hO))
    · simp [mchkP] at hp
    · simp [mchkP] at hp
  | ldc2_w x =>
    cases hs
    rcases pay with v | v | v
    · simp [mchkP] at hp
    · exact fun H locs ls hH hS hL hO => lv_ldc2 hc.1 hc.2.1 hc.own (hc.word hp) hd (k H locs ls hH hS hL (mok_cons trivial hO))
    · simp [mchkP] at hp
  | getstatic x =>
    cases hs
    rcases pay with v | v | ⟨t, j⟩
    · have h9 := hp
      unfold mchkP at h9
      obtain ⟨h1, h2⟩ := Bool.and_eq_true_iff.mp h9
      have hv : v = 1 := of_decide_eq_true h1
      subst hv
      exact ms_gets1 hc hd h2 k
    · simp [mchkP] at hp
    · have h9 := hp
      unfold mchkP at h9
      obtain ⟨h1, h2⟩ := Bool.and_eq_true_iff.mp h9
      obtain ⟨h3, h4⟩ := Bool.and_eq_true_iff.mp h1
      have ht : t = 32 := of_decide_eq_true h3
      have hj : j = 0 := of_decide_eq_true h4
      subst ht
      subst hj
      exact ms_gets2 hc hd h2 k
  | iload_n x =>
    obtain ⟨v, hv, he⟩ := mldI_spec hs
    cases he
    exact fun H locs ls hH hS hL hO => lv_iload_n hc.1 hc.2.1 hd rfl (hL.2.2 _ _ hv).2 (k H locs ls hH hS hL (mok_cons trivial hO))
  | iload x =>
    obtain ⟨v, hv, he⟩ := mldI_spec hs
    cases he
    exact fun H locs ls hH hS hL hO => lv_iload hc.1 hc.2.1 hd (hL.2.2 _ _ hv).2 (k H locs ls hH hS hL (mok_cons trivial hO))
  | lload_n x =>
    obtain ⟨v, hv, he⟩ := mldJ_spec hs
    cases he
    exact fun H locs ls hH hS hL hO => lv_lload_n hc.1 hc.2.1 hd rfl (hL.2.2 _ _ hv).2 (k H locs ls hH hS hL (mok_cons trivial hO))
  | lload x =>
    obtain ⟨v, hv, he⟩ := mldJ_spec hs
    cases he
    exact fun H locs ls hH hS hL hO => lv_lload hc.1 hc.2.1 hd (hL.2.2 _ _ hv).2 (k H locs ls hH hS hL (mok_cons trivial hO))
  | aload_n x =>
    obtain ⟨t, j, ht, hv, he⟩ := mldA_spec hs
    cases he
    intro H locs ls hH hS hL hO
    have h9 := (hL.2.2 _ _ hv).2
    rw [cv_ref ht] at h9
    have h8 := k H locs ls hH hS hL (mok_cons (hL.2.2 _ _ hv).1 hO)
    rw [cv_refS ht] at h8
    exact lv_aload_n hc.1 hc.2.1 hd rfl h9 h8
  | aload x =>
    obtain ⟨t, j, ht, hv, he⟩ := mldA_spec hs
    cases he
    intro H locs ls hH hS hL hO
    have h9 := (hL.2.2 _ _ hv).2
    rw [cv_ref ht] at h9
    have h8 := k H locs ls hH hS hL (mok_cons (hL.2.2 _ _ hv).1 hO)
    rw [cv_refS ht] at h8
    exact lv_aload hc.1 hc.2.1 hd h9 h8
  | istore_n x =>
    obtain ⟨v, S0, L0, rfl, hm, he⟩ := mstI_spec hs
    cases he
    exact fun H locs ls hH hS hL hO => lv_istore_n hc.1 hc.2.1 hd rfl hL.has (by rw [← hL.1.2]; exact (mset1_spec hm).1.1) rfl (fun ls' hl' => k H locs ls' hH hS (mset1_loc hc.F hL hm trivial hl') (mok_tail hO))
  | istore x =>
    obtain ⟨v, S0, L0, rfl, hm, he⟩ := mstI_spec hs
    cases he
    exact fun H locs ls hH hS hL hO => lv_istore hc.1 hc.2.1 hd hL.has (by rw [← hL.1.2]; exact (mset1_spec hm).1.1) rfl (fun ls' hl' => k H locs ls' hH hS (mset1_loc hc.F hL hm trivial hl') (mok_tail hO))
  | lstore_n x =>
    obtain ⟨v, S0, L0, rfl, hm, he⟩ := mstJ_spec hs
    cases he
    exact fun H locs ls hH hS hL hO => lv_lstore_n hc.1 hc.2.1 hd rfl hL.has (by rw [← hL.1.2]; exact (mset2_spec hm).1.1) rfl (fun ls' hl' => k H locs ls' hH hS (mset2_loc hc.F hL hm trivial hl') (mok_tail hO))
  | lstore x =>
    obtain ⟨v, S0, L0, rfl, hm, he⟩ := mstJ_spec hs
    cases he
    exact fun H locs ls hH hS hL hO => lv_lstore hc.1 hc.2.1 hd hL.has (by rw [← hL.1.2]; exact (mset2_spec hm).1.1) rfl (fun ls' hl' => k H locs ls' hH hS (mset2_loc hc.F hL hm trivial hl') (mok_tail hO))
  | astore_n x =>
    obtain ⟨t, j, S0, L0, ht, rfl, hm, he⟩ := mstA_spec hs
    cases he
    intro H locs ls hH hS hL hO
    rw [cv_refS ht]
    refine lv_astore_n hc.1 hc.2.1 hd rfl hL.has (by rw [← hL.1.2]; exact (mset1_spec hm).1.1) rfl (fun ls' hl' => k H locs ls' hH hS (mset1_loc hc.F hL hm (mok_head hO) ?_) (mok_tail hO))
    rw [cv_ref ht]
    exact hl'
  | astore x =>
    obtain ⟨t, j, S0, L0, ht, rfl, hm, he⟩ := mstA_spec hs
    cases he
    intro H locs ls hH hS hL hO
    rw [cv_refS ht]
    refine lv_astore hc.1 hc.2.1 hd hL.has (by rw [← hL.1.2]; exact (mset1_spec hm).1.1) rfl (fun ls' hl' => k H locs ls' hH hS (mset1_loc hc.F hL hm (mok_head hO) ?_) (mok_tail hO))
    rw [cv_ref ht]
    exact hl'
  | iinc x n =>
    simp only [mstep] at hs
    split at hs
    · rename_i v y hx
      split at hs
      · rename_i L0 hm
        cases hs
        exact ms_iinc hc hd (of_decide_eq_true hp) hx hm k
      · cases hs
    · cases hs
  | iadd =>
    simp only [mstep] at hs
    split at hs
    · cases hs
      exact fun H locs ls hH hS hL hO => lv_iadd hc.1 hc.2.1 hd (k H locs ls hH hS hL (mok_cons trivial (mok_tail (mok_tail hO))))
    · cases hs
  | isub =>
    simp only [mstep] at hs
    split at hs
    · cases hs
      exact fun H locs ls hH hS hL hO => lv_isub hc.1 hc.2.1 hd (k H locs ls hH hS hL (mok_cons trivial (mok_tail (mok_tail hO))))
    · cases hs
  | imul =>
    simp only [mstep] at hs
    split at hs
    · cases hs
      exact fun H locs ls hH hS hL hO => lv_imul hc.1 hc.2.1 hd (k H locs ls hH hS hL (mok_cons trivial (mok_tail (mok_tail hO))))
    · cases hs
  | idiv =>
    simp only [mstep] at hs
    split at hs
    · cases hs
      exact fun H locs ls hH hS hL hO => lv_idiv hc.1 hc.2.1 hd (hC _ rfl) (k H locs ls hH hS hL (mok_cons trivial (mok_tail (mok_tail hO))))
    · cases hs
  | irem =>
    simp only [mstep] at hs
    split at hs
    · cases hs
      exact fun H locs ls hH hS hL hO => lv_irem hc.1 hc.2.1 hd (hC _ rfl) (k H locs ls hH hS hL (mok_cons trivial (mok_tail (mok_tail hO))))
    · cases hs
  | iand =>
    simp only [mstep] at hs
    split at hs
    · cases hs
      exact fun H locs ls hH hS hL hO => lv_iand hc.1 hc.2.1 hd (k H locs ls hH hS hL (mok_cons trivial (mok_tail (mok_tail hO))))
    · cases hs
  | ior =>
    simp only [mstep] at hs
    split at hs
    · cases hs
      exact fun H locs ls hH hS hL hO => lv_ior hc.1 hc.2.1 hd (k H locs ls hH hS hL (mok_cons trivial (mok_tail (mok_tail hO))))
    · cases hs
  | ixor =>
    simp only [mstep] at hs
    split at hs
    · cases hs
      exact fun H locs ls hH hS hL hO => lv_ixor hc.1 hc.2.1 hd (k H locs ls hH hS hL (mok_cons trivial (mok_tail (mok_tail hO))))
    · cases hs
  | ishl =>
    simp only [mstep] at hs
    split at hs
    · cases hs
      exact fun H locs ls hH hS hL hO => lv_ishl hc.1 hc.2.1 hd (k H locs ls hH hS hL (mok_cons trivial (mok_tail (mok_tail hO))))
    · cases hs
  | ishr =>
    simp only [mstep] at hs
    split at hs
    · cases hs
      exact fun H locs ls hH hS hL hO => lv_ishr hc.1 hc.2.1 hd (k H locs ls hH hS hL (mok_cons trivial (mok_tail (mok_tail hO))))
    · cases hs
  | iushr =>
    simp only [mstep] at hs
    split at hs
    · cases hs
      exact fun H locs ls hH hS hL hO => lv_iushr hc.1 hc.2.1 hd rfl (k H locs ls hH hS hL (mok_cons trivial (mok_tail (mok_tail hO))))
    · cases hs
  | ineg =>
    simp only [mstep] at hs
    split at hs
    · cases hs
      exact fun H locs ls hH hS hL hO => lv_ineg hc.1 hc.2.1 hd (k H locs ls hH hS hL (mok_cons trivial (mok_tail hO)))
    · cases hs
  | i2l =>
    simp only [mstep] at hs
    split at hs
    · cases hs
      exact fun H locs ls hH hS hL hO => lv_i2l hc.1 hc.2.1 hd rfl (k H locs ls hH hS hL (mok_cons trivial (mok_tail hO)))
    · cases hs
  | i2b =>
    simp only [mstep] at hs
    split at hs
    · cases hs
      exact fun H locs ls hH hS hL hO => lv_i2b hc.1 hc.2.1 hd rfl (k H locs ls hH hS hL (mok_cons trivial (mok_tail hO)))
    · cases hs
  | i2c =>
    simp only [mstep] at hs
    split at hs
    · cases hs
      exact fun H locs ls hH hS hL hO => lv_i2c hc.1 hc.2.1 hd rfl (k H locs ls hH hS hL (mok_cons trivial (mok_tail hO)))
    · cases hs
  | lsub =>
    simp only [mstep] at hs
    split at hs
    · cases hs
      exact fun H locs ls hH hS hL hO => lv_lsub hc.1 hc.2.1 hd (k H locs ls hH hS hL (mok_cons trivial (mok_tail (mok_tail hO))))
    · cases hs
  | ldiv =>
    simp only [mstep] at hs
    split at hs
    · cases hs
      exact fun H locs ls hH hS hL hO => lv_ldiv hc.1 hc.2.1 hd (hC _ rfl) (k H locs ls hH hS hL (mok_cons trivial (mok_tail (mok_tail hO))))
    · cases hs
  | lrem =>
    simp only [mstep] at hs
    split at hs
    · cases hs
      exact fun H locs ls hH hS hL hO => lv_lrem hc.1 hc.2.1 hd (hC _ rfl) (k H locs ls hH hS hL (mok_cons trivial (mok_tail (mok_tail hO))))
    · cases hs
  | lcmp =>
    simp only [mstep] at hs
    split at hs
    · cases hs
      exact fun H locs ls hH hS hL hO => W.lcmp hc.1 hc.2.1 hd (k H locs ls hH hS hL (mok_cons trivial (mok_tail (mok_tail hO))))
    · cases hs
  | dup =>
    simp only [mstep] at hs
    split at hs
    · cases hs
      exact fun H locs ls hH hS hL hO => lv_dup hc.1 hc.2.1 hd rfl (k H locs ls hH hS hL (mok_cons trivial hO))
    · split at hs
      · cases hs
      · rename_i ht
        cases hs
        intro H locs ls hH hS hL hO
        have h8 := k H locs ls hH hS hL (mok_cons (mok_head hO) hO)
        rw [cv_refS ht, cv_refS ht] at h8
        rw [cv_refS ht]
        exact lv_dup hc.1 hc.2.1 hd rfl h8
    · cases hs
  | pop =>
    simp only [mstep] at hs
    split at hs
    · cases hs
      exact fun H locs ls hH hS hL hO => lv_pop hc.1 hc.2.1 hd rfl (k H locs ls hH hS hL (mok_tail hO))
    · cases hs
  | dup2 =>
    simp only [mstep] at hs
    split at hs
    · split at hs
      · cases hs
      · rename_i ht
        cases hs
        intro H locs ls hH hS hL hO
        have h8 := k H locs ls hH hS hL (mok_cons (mok_head hO) (mok_cons (mok_head (mok_tail hO)) hO))
        rw [List.map_cons, cv_refS ht, List.map_cons, cv_refS ht] at h8
        rw [List.map_cons, cv_refS ht]
        exact lv_dup2_11 hc.1 hc.2.1 hd rfl rfl h8
    · cases hs
  | getfield x => exact ms_getf hc hd hp hs k
  | putfield x => exact ms_putf hc hd hp hs hC k
  | iaload =>
    simp only [mstep] at hs
    split at hs
    · split at hs
      · cases hs
      · rename_i ht
        split at hs
        · rename_i ho
          cases hs
          exact ms_iald hc (by omega) ho hd (hC _ rfl) k
        · cases hs
    · cases hs
  | iastore =>
    simp only [mstep] at hs
    split at hs
    · split at hs
      · cases hs
      · rename_i ht
        split at hs
        · rename_i ho
          cases hs
          exact ms_iast hc (by omega) ho hd (hC _ rfl) k
        · cases hs
    · cases hs
  | baload =>
    simp only [mstep] at hs
    split at hs
    · split at hs
      · rename_i ht
        subst ht
        cases hs
        exact ms_bald hc hd (hC _ rfl) k
      · cases hs
    · cases hs
  | arraylength =>
    simp only [mstep] at hs
    split at hs
    · split at hs
      · rename_i ht
        subst ht
        cases hs
        exact ms_blen hc hd k
      · split at hs
        · cases hs
        · rename_i ht
          split at hs
          · rename_i ho
            cases hs
            exact ms_alen hc (by omega) ho hd k
          · cases hs
    · cases hs
  | _ => cases hs
theorem mrun_P {P P1 : Prop} : ∀ {is : List mB} {P : Prop} {L : List (Option mV)} {S : List mV} {w : mW}, mrun is P L S w = some (P1, L1, S1, w1) → P1 → P := by
  intro is
  induction is with
  | nil =>
    intro P L S w h hP
    simp only [mrun, Option.some.injEq, Prod.mk.injEq] at h
    rw [h.1]
    exact hP
  | cons b is ih =>
    intro P L S w h hP
    simp only [mrun] at h
    split at h
    · exact ih h hP
    · exact (ih h hP).1
    · cases h
theorem mrun_ok (hc : mCtx E A p s m args c M) {P1 : Prop} {pc1 : Nat} (hP : P1) (k : mG E A p l e R s m args below meth c cells slots Z M pc1 L1 S1 w1) : ∀ {is : List mB} {pc : Nat} {P : Prop} {L : List (Option mV)} {S : List mV} {w : mW}, mchk M pc is pc1 = true → mrun is P L S w = some (P1, L1, S1, w1) → mG E A p l e R s m args below meth c cells slots Z M pc L S w := by
  intro is
  induction is with
  | nil =>
    intro pc P L S w hk h
    simp only [mrun, Option.some.injEq, Prod.mk.injEq] at h
    obtain ⟨-, rfl, rfl, rfl⟩ := h
    have : pc = pc1 := of_decide_eq_true hk
    rw [this]
    exact k
  | cons b is ih =>
    intro pc P L S w hk h
    simp only [mchk, Bool.and_eq_true, decide_eq_true_eq] at hk
    obtain ⟨hd, hp, hk⟩ := hk
    simp only [mrun] at h
    split at h
    · rename_i hs
      exact mstep_ok hc hd hp hs (fun z hz => by cases hz) (ih hk h)
    · rename_i hs
      exact mstep_ok hc hd hp hs (fun z hz => by cases hz; exact (mrun_P (P := True) h hP).2) (ih hk h)
    · cases h
end MS
