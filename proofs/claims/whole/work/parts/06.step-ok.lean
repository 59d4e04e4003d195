/-! ===== each instruction of the mini machine is the machine's ===== -/
section MS
variable {E : mEnv} {A : Nat → Prop} {p : Program} {l : Launch} {e : Env} {R : Room} {s : State} {m : MethodId} {args : Array Value} {below : List Frame} {meth : Method} {c : Code} {cells slots : Nat} {Z : State → Prop} {M : mM} {pc : Nat} {L L1 : List (Option mV)} {S S1 : List mV} {w w1 : mW}
theorem mldI_spec {i : Nat} {r : Option Prop × List (Option mV) × List mV × mW} (h : mldI L i S w = some r) : ∃ x, L[i]? = some (some (.inl x)) ∧ r = (none, L, mI x :: S, w) := by
  unfold mldI at h
  split at h
  · exact ⟨_, ‹_›, by simpa using h.symm⟩
  · cases h
theorem mldJ_spec {i : Nat} {r : Option Prop × List (Option mV) × List mV × mW} (h : mldJ L i S w = some r) : ∃ x, L[i]? = some (some (.inr (.inl x))) ∧ r = (none, L, mJ x :: S, w) := by
  unfold mldJ at h
  split at h
  · exact ⟨_, ‹_›, by simpa using h.symm⟩
  · cases h
theorem mldA_spec {i : Nat} {r : Option Prop × List (Option mV) × List mV × mW} (h : mldA L i S w = some r) : ∃ t j, t ≠ 32 ∧ L[i]? = some (some (.inr (.inr (t, j)))) ∧ r = (none, L, mR t j :: S, w) := by
  unfold mldA at h
  split at h
  · split at h
    · cases h
    · exact ⟨_, _, ‹_›, ‹_›, by simpa using h.symm⟩
  · cases h
theorem mstI_spec {i : Nat} {r : Option Prop × List (Option mV) × List mV × mW} (h : mstI L i S w = some r) : ∃ x S0 L0, S = .inl x :: S0 ∧ mset1 L i (mI x) = some L0 ∧ r = (none, L0, S0, w) := by
  unfold mstI at h
  split at h
  · split at h
    · exact ⟨_, _, _, rfl, ‹_›, by simpa using h.symm⟩
    · cases h
  · cases h
theorem mstJ_spec {i : Nat} {r : Option Prop × List (Option mV) × List mV × mW} (h : mstJ L i S w = some r) : ∃ x S0 L0, S = .inr (.inl x) :: S0 ∧ mset2 L i (mJ x) = some L0 ∧ r = (none, L0, S0, w) := by
  unfold mstJ at h
  split at h
  · split at h
    · exact ⟨_, _, _, rfl, ‹_›, by simpa using h.symm⟩
    · cases h
  · cases h
theorem mstA_spec {i : Nat} {r : Option Prop × List (Option mV) × List mV × mW} (h : mstA L i S w = some r) : ∃ t j S0 L0, t ≠ 32 ∧ S = .inr (.inr (t, j)) :: S0 ∧ mset1 L i (mR t j) = some L0 ∧ r = (none, L0, S0, w) := by
  unfold mstA at h
  split at h
  · split at h
    · cases h
    · split at h
      · exact ⟨_, _, _, _, ‹_›, rfl, ‹_›, by simpa using h.symm⟩
      · cases h
  · cases h
theorem mCtx.F (hc : mCtx E A p s m args c M) : (E.2.2.2 = .null ∨ ∃ a, E.2.2.2 = .ref a) := hc.2.2.2.2.2.2.2.2.2.2
theorem mCtx.K (hc : mCtx E A p s m args c M) : va_K E.1 vwCl [(E.2.1, .int)] s := hc.2.2.2.2.2.1
theorem mCtx.own (hc : mCtx E A p s m args c M) : s.vm.findClass M.1.cls = some m.cls := hc.2.2.2.1
theorem mCtx.ts (hc : mCtx E A p s m args c M) : ∀ w ∈ GW, w.before args s = true := hc.2.2.2.2.1
theorem mCtx.word (hc : mCtx E A p s m args c M) {w : Cond} (h : inW w = true) : w.before args s = true := hc.2.2.2.2.1 w (inW_ok h)
/-- the field table of a class, and its words -/
theorem oW_in0 : ∀ w ∈ u_ws RX0 TX0 3, inW w = true := by decide +kernel
theorem oW_in1 : ∀ w ∈ u_ws RX1 TX1 11, inW w = true := by decide +kernel
theorem oW_in2 : ∀ w ∈ u_ws RX2 TX2 9, inW w = true := by decide +kernel
theorem oW_in3 : ∀ w ∈ u_ws RX3 TX3 30, inW w = true := by decide +kernel
def oF : Nat → Nat
  | 0 => 3
  | 1 => 11
  | 2 => 9
  | _ => 30
theorem oTab {ci : Nat} (h : ci < 4) : vwCl[ci]? = some (oN ci, oT ci, oF ci) ∧ (∀ w ∈ u_ws (oN ci) (oT ci) (oF ci), w ∈ GW) ∧ (∀ k, k < oF ci → parseFieldDescriptor (oT ci k).2.2.1 = some (oY ci k)) ∧ (∀ a, a < oF ci → ∀ b, b < oF ci → a ≠ b → (oT ci a).2.1 ≠ (oT ci b).2.1) := by
  match ci, h with
  | 0, _ => exact ⟨rfl, fun w hw => inW_ok (oW_in0 w hw), tyX0_ok, nmX0⟩
  | 1, _ => exact ⟨rfl, fun w hw => inW_ok (oW_in1 w hw), tyX1_ok, nmX1⟩
  | 2, _ => exact ⟨rfl, fun w hw => inW_ok (oW_in2 w hw), tyX2_ok, nmX2⟩
  | 3, _ => exact ⟨rfl, fun w hw => inW_ok (oW_in3 w hw), tyX3_ok, nmX3⟩
theorem oC_F {t ci n : Nat} (h : oC t = some (ci, n)) : ci < 4 ∧ n = oF ci := by
  unfold oC at h
  split at h <;> first | (cases h; exact ⟨by decide, rfl⟩) | cases h
theorem ms_getf (hc : mCtx E A p s m args c M) {x : Nat} {pay : mV} {C : Option Prop} (hd : decode M.2.1 pc = .ok (.getfield x, 3)) (hp : mchkP M (.getfield x) pay = true) (hs : mstep (.getfield x) pay L S w = some (C, L1, S1, w1))
    (k : mG E A p l e R s m args below meth c cells slots Z M (pc + 3) L1 S1 w1) : mG E A p l e R s m args below meth c cells slots Z M pc L S w := by
  have hs0 : ∃ ci kk t i S0, pay = .inr (.inr (ci, kk)) ∧ S = .inr (.inr (t, i)) :: S0 ∧ mgetf ci kk t i L S0 w = some (C, L1, S1, w1) := by
    simp only [mstep] at hs
    split at hs
    · exact ⟨_, _, _, _, _, rfl, rfl, hs⟩
    · cases hs
  obtain ⟨ci, kk, t, i, S0, rfl, rfl, hg⟩ := hs0
  intro H locs ls hH hS hL hO
  have hok : (t, i) ∈ mRefs := mok_head hO
  have hO0 := mok_tail hO
  cases ho : oC t with
  | some q =>
    obtain ⟨cj, n⟩ := q
    unfold mgetf at hg
    simp only [ho] at hg
    split at hg
    · rename_i hcj
      subst hcj
      split at hg
      · rename_i hk
        obtain ⟨hc4, rfl⟩ := oC_F ho
        obtain ⟨t1, t2, t3, t4⟩ := oTab hc4
        have hlt : t < 30 := mRef_obj (t, i) hok (by rw [ho]; exact fun z => by cases z)
        have hcell : (t, i) ∈ mCells := mRef_cell (t, i) hok hlt
        obtain ⟨pl, hpl⟩ := List.getElem?_of_mem hcell
        have hk30 : kk < 30 := Nat.lt_of_lt_of_le hk (by match cj, hc4 with | 0, _ => decide | 1, _ => decide | 2, _ => decide | 3, _ => decide)
        have hlink : inW (.fieldLink M.1.cls x (oT cj kk).1 (oT cj kk).2.1 (oT cj kk).2.2.1) = true := by
          have h9 : ¬ cj = 9 := by omega
          simp only [mchkP, h9, if_false, Bool.and_eq_true] at hp
          exact hp.2
        have hget := mWs_get E w hpl
        rw [mE_obj ho] at hget
        rw [cv_refS (by omega)]
        have goal : ∀ v : mV, cv E v = mFd E w (t, i) kk → mOk v → (C, L1, S1, w1) = (none, L, v :: S0, w) → W p l e R s m args below meth c H locs cells slots Z (F0 m pc ls (.ref (mAd E t i) :: S0.map (cv E))) := by
          intro v hv hvo he
          cases he
          refine va_get (D := E.1) (ci := cj) (v := mFd E w (t, i) kk) hc.1 hc.2.1 hc.ts t2 hc.own hc.K hH.1 pl hget t1 kk hk (hc.word hlink) (fun _ h => h) (mFd_get hk) hd ?_
          have h9 := k H locs ls hH hS hL (mok_cons hvo hO0)
          rw [List.map_cons, hv] at h9
          exact h9
        split at hg
        · rename_i t' i' hr
          refine goal (mR t' i') ?_ (mRef_fld hcell hk30 hr).1 (by simpa using hg.symm)
          rw [cv_ref (mRef_fld hcell hk30 hr).2]
          unfold mFd
          rw [hr]
        · rename_i hr
          refine goal (mI (mgf w t i kk)) ?_ trivial (by simpa using hg.symm)
          unfold mFd
          rw [hr]
          rfl
      · cases hg
    · cases hg
  | none =>
    unfold mgetf at hg
    simp only [ho] at hg
    split at hg
    · rename_i ht
      subst ht
      split at hg
      · rename_i hci
        subst hci
        have hi6 : i < 6 := mRef_str (30, i) hok rfl
        have hstr := hc.2.2.2.2.2.2.1.1 i hi6
        rw [cv_refS (by decide)]
        split at hg
        · rename_i hk
          subst hk
          cases hg
          have hlink : inW (.fieldLink M.1.cls x "java/lang/String" "value" "[B") = true := by
            simpa [mchkP] using hp
          obtain ⟨cf, k', fi, f, cell, h1, h2, h3, h4, h5, h6⟩ := hstr.2.2.1.kept hS.2.1
          refine W.getf hc.1 hc.2.1 hc.own (hc.word hlink) h1 h2 h3 h4 h5 rfl rfl hd ?_
          exact k H locs ls hH hS hL (mok_cons (mRef_val (30, i) hok rfl) hO0)
        · rename_i hk
          cases hg
          have hlink : inW (.fieldLink M.1.cls x "java/lang/String" "coder" "B") = true := by
            simpa [mchkP, hk] using hp
          obtain ⟨cf, k', fi, f, cell, h1, h2, h3, h4, h5, h6⟩ := hstr.2.1.kept hS.2.1
          refine W.getf hc.1 hc.2.1 hc.own (hc.word hlink) h1 h2 h3 h4 h5 rfl rfl hd ?_
          exact k H locs ls hH hS hL (mok_cons trivial hO0)
      · cases hg
    · cases hg
theorem ms_putf (hc : mCtx E A p s m args c M) {x : Nat} {pay : mV} {C : Option Prop} (hd : decode M.2.1 pc = .ok (.putfield x, 3)) (hp : mchkP M (.putfield x) pay = true) (hs : mstep (.putfield x) pay L S w = some (C, L1, S1, w1)) (hC : ∀ z, C = some z → z)
    (k : mG E A p l e R s m args below meth c cells slots Z M (pc + 3) L1 S1 w1) : mG E A p l e R s m args below meth c cells slots Z M pc L S w := by
  have hs0 : ∃ ci kk v t i S0, pay = .inr (.inr (ci, kk)) ∧ S = .inl v :: .inr (.inr (t, i)) :: S0 ∧ mputf ci kk v t i L S0 w = some (C, L1, S1, w1) := by
    simp only [mstep] at hs
    split at hs
    · exact ⟨_, _, _, _, _, _, rfl, rfl, hs⟩
    · cases hs
  obtain ⟨ci, kk, v, t, i, S0, rfl, rfl, hg⟩ := hs0
  intro H locs ls hH hS hL hO
  have hok : (t, i) ∈ mRefs := mok_head (mok_tail hO)
  have hO0 := mok_tail (mok_tail hO)
  unfold mputf at hg
  split at hg
  · rename_i cj n ho
    split at hg
    · rename_i hcj
      subst hcj
      split at hg
      · rename_i hk
        obtain ⟨hc4, rfl⟩ := oC_F ho
        obtain ⟨t1, t2, t3, t4⟩ := oTab hc4
        have hlt : t < 30 := mRef_obj (t, i) hok (by rw [ho]; exact fun z => by cases z)
        have hcell : (t, i) ∈ mCells := mRef_cell (t, i) hok hlt
        obtain ⟨pl, hpl⟩ := List.getElem?_of_mem hcell
        simp only [mchkP, Bool.and_eq_true, decide_eq_true_eq] at hp
        split at hg
        · cases hg
        · rename_i hr
          have hget := mWs_get E w hpl
          rw [mE_obj ho] at hget
          have goal : ∀ ty, oY cj kk = ty → narrow ty (.int v) = .int v → fits ty (.int v) = true → (L1, S1, w1) = (L, S0, mpf w t i kk v) → W p l e R s m args below meth c H locs cells slots Z (F0 m pc ls ((.inl v :: .inr (.inr (t, i)) :: S0).map (cv E))) := by
            intro ty hty hn hf he
            cases he
            rw [List.map_cons, cv_refS (by omega)]
            refine va_put (D := E.1) (ci := cj) (v := .int v) (ty := ty) hc.1 hc.2.1 hc.ts t2 (oY cj) t3 t4 hc.own hc.K hH.1 hH.2 hS pl hget t1 kk hk (hc.word hp.2.2) (fun _ h => h) hp.2.1 (by rw [t3 kk hk, hty]) hn hf (by simpa using hk) hd (fun H1 locs1 hP hD hS1 => ?_)
            have hset : (mWs E w).set pl (mAd E t i, .inr (cj, ((List.range (oF cj)).map (mFd E w (t, i))).set kk (.int v))) = mWs E (mpf w t i kk v) := mWs_set hpl (by rw [mE_obj ho, mFd_set hk hr]) (fun q' hq' => mE_mpf hq')
            rw [hset] at hP hD
            exact k H1 locs1 ls ⟨hP, hD⟩ hS1 hL hO0
          split at hg
          · rename_i hty
            cases hg
            exact goal .int hty rfl rfl rfl
          · rename_i hty
            cases hg
            have hv := hC _ rfl
            exact goal .boolean hty (by rcases hv with rfl | rfl <;> rfl) (by rcases hv with rfl | rfl <;> rfl) rfl
          · cases hg
      · cases hg
    · cases hg
  · cases hg
theorem ms_iald (hc : mCtx E A p s m args c M) {j : Int32} {t i : Nat} (ht : t < 30) (ho : oC t = none) (hd : decode M.2.1 pc = .ok (.iaload, 1)) (hin : vp_in j (oA t))
    (k : mG E A p l e R s m args below meth c cells slots Z M (pc + 1) L (mI (mga w t i j.toNatClampNeg) :: S) w) : mG E A p l e R s m args below meth c cells slots Z M pc L (.inl j :: .inr (.inr (t, i)) :: S) w := by
  intro H locs ls hH hS hL hO
  have hok : (t, i) ∈ mRefs := mok_head (mok_tail hO)
  have hO0 := mok_tail (mok_tail hO)
  obtain ⟨pl, hpl⟩ := List.getElem?_of_mem (mRef_cell (t, i) hok ht)
  have hget := mWs_get E w hpl
  rw [mE_arr ho] at hget
  rw [List.map_cons, cv_refS (by omega)]
  exact va_iald hc.1 hc.2.1 hc.K hH.1 pl 0 hget rfl hin hd (k H locs ls hH hS hL (mok_cons trivial hO0))
theorem ms_iast (hc : mCtx E A p s m args c M) {j v : Int32} {t i : Nat} (ht : t < 30) (ho : oC t = none) (hd : decode M.2.1 pc = .ok (.iastore, 1)) (hin : vp_in j (oA t))
    (k : mG E A p l e R s m args below meth c cells slots Z M (pc + 1) L S (mpA w t i (upd (mga w t i) j.toNatClampNeg v))) : mG E A p l e R s m args below meth c cells slots Z M pc L (.inl v :: .inl j :: .inr (.inr (t, i)) :: S) w := by
  intro H locs ls hH hS hL hO
  have hok : (t, i) ∈ mRefs := mok_head (mok_tail (mok_tail hO))
  have hO0 := mok_tail (mok_tail (mok_tail hO))
  obtain ⟨pl, hpl⟩ := List.getElem?_of_mem (mRef_cell (t, i) hok ht)
  have hget := mWs_get E w hpl
  rw [mE_arr ho] at hget
  rw [List.map_cons, List.map_cons, cv_refS (by omega)]
  refine va_iast hc.1 hc.2.1 hc.K hH.1 hH.2 hS pl 0 hget rfl hin hd (fun H1 locs1 hP hD hS1 => ?_)
  have hset : (mWs E w).set pl (mAd E t i, .inl (E.2.1, oA t, .inl (upd (mga w t i) j.toNatClampNeg v))) = mWs E (mpA w t i (upd (mga w t i) j.toNatClampNeg v)) := mWs_set hpl (by rw [mE_arr ho]; simp [mga, mpA]) (fun q' hq' => mE_mpA hq')
  rw [hset] at hP hD
  exact k H1 locs1 ls ⟨hP, hD⟩ hS1 hL hO0
theorem ms_alen (hc : mCtx E A p s m args c M) {t i : Nat} (ht : t < 30) (ho : oC t = none) (hd : decode M.2.1 pc = .ok (.arraylength, 1))
    (k : mG E A p l e R s m args below meth c cells slots Z M (pc + 1) L (mI (nI (oA t)) :: S) w) : mG E A p l e R s m args below meth c cells slots Z M pc L (.inr (.inr (t, i)) :: S) w := by
  intro H locs ls hH hS hL hO
  have hok : (t, i) ∈ mRefs := mok_head hO
  have hO0 := mok_tail hO
  obtain ⟨pl, hpl⟩ := List.getElem?_of_mem (mRef_cell (t, i) hok ht)
  have hget := mWs_get E w hpl
  rw [mE_arr ho] at hget
  rw [cv_refS (by omega)]
  exact va_alen (v := nI (oA t)) hc.1 hc.2.1 hc.K hH.1 pl 0 hget (ty := .int) rfl rfl hd (k H locs ls hH hS hL (mok_cons trivial hO0))
theorem ms_bald (hc : mCtx E A p s m args c M) {j : Int32} {i : Nat} (hd : decode M.2.1 pc = .ok (.baload, 1)) (hin : vp_in j (sLen.getD i 0))
    (k : mG E A p l e R s m args below meth c cells slots Z M (pc + 1) L (mI ((sByt.getD i []).getD j.toNatClampNeg 0) :: S) w) : mG E A p l e R s m args below meth c cells slots Z M pc L (.inl j :: .inr (.inr (31, i)) :: S) w := by
  intro H locs ls hH hS hL hO
  have hok : (31, i) ∈ mRefs := mok_head (mok_tail hO)
  have hO0 := mok_tail (mok_tail hO)
  have hstr := hc.2.2.2.2.2.2.1.1 i (mRef_byt (31, i) hok rfl)
  rw [List.map_cons, cv_refS (by decide)]
  exact va_tb hc.1 hc.2.1 hstr.2.2.2 hS hin rfl hd (k H locs ls hH hS hL (mok_cons trivial hO0))
theorem ms_blen (hc : mCtx E A p s m args c M) {i : Nat} (hd : decode M.2.1 pc = .ok (.arraylength, 1))
    (k : mG E A p l e R s m args below meth c cells slots Z M (pc + 1) L (mI (nI (sLen.getD i 0)) :: S) w) : mG E A p l e R s m args below meth c cells slots Z M pc L (.inr (.inr (31, i)) :: S) w := by
  intro H locs ls hH hS hL hO
  have hok : (31, i) ∈ mRefs := mok_head hO
  have hO0 := mok_tail hO
  have hstr := hc.2.2.2.2.2.2.1.1 i (mRef_byt (31, i) hok rfl)
  rw [cv_refS (by decide)]
  exact va_tlen hc.1 hc.2.1 hstr.2.2.2 hS rfl hd (k H locs ls hH hS hL (mok_cons trivial hO0))
end MS
