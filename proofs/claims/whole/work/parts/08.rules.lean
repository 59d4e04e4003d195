/-! ===== branches, answers, calls ===== -/
def mcnd (i : Instr) (S : List mV) : Option (Prop × List mV) := match i, S with
  | .ifCond .eq _, .inl x :: S => some (x = nI 0, S)
  | .ifCond .ne _, .inl x :: S => some (¬ x = nI 0, S)
  | .ifCond .lt _, .inl x :: S => some (x < nI 0, S)
  | .ifCond .ge _, .inl x :: S => some (nI 0 ≤ x, S)
  | .ifCond .gt _, .inl x :: S => some (nI 0 < x, S)
  | .ifCond .le _, .inl x :: S => some (x ≤ nI 0, S)
  | .if_icmp .eq _, .inl y :: .inl x :: S => some (x = y, S)
  | .if_icmp .ne _, .inl y :: .inl x :: S => some (¬ x = y, S)
  | .if_icmp .lt _, .inl y :: .inl x :: S => some (x < y, S)
  | .if_icmp .ge _, .inl y :: .inl x :: S => some (y ≤ x, S)
  | .if_icmp .gt _, .inl y :: .inl x :: S => some (y < x, S)
  | .if_icmp .le _, .inl y :: .inl x :: S => some (x ≤ y, S)
  | _, _ => none
def moff : Instr → Int
  | .ifCond _ o => o
  | .if_icmp _ o => o
  | .goto o => o
  | _ => 0
/-- a branch, a jump of three bytes, to a place -/
def mbk (M : mM) (pc : Nat) (i : Instr) (tgt : Nat) : Bool := decide (decode M.2.1 pc = .ok (i, 3)) && decide ((pc : Int) + moff i = (tgt : Int))
/-- an instruction of one byte -/
def mrk (M : mM) (pc : Nat) (i : Instr) : Bool := decide (decode M.2.1 pc = .ok (i, 1))
def mexp : List mV → List (Option mV)
  | [] => []
  | .inl x :: vs => some (.inl x) :: mexp vs
  | .inr (.inl x) :: vs => some (.inr (.inl x)) :: none :: mexp vs
  | .inr (.inr r) :: vs => some (.inr (.inr r)) :: mexp vs
def ment (n : Nat) (as : List mV) : List (Option mV) := mexp as ++ List.replicate (n - (mexp as).length) none
def mcs : List mV → Nat
  | [] => 0
  | .inr (.inl _) :: vs => 2 + mcs vs
  | _ :: vs => 1 + mcs vs
/-- what the tables say of a call of M at an entry of a class's pool -/
def mlk (own : String) (idx : Nat) (M : mM) (st : Bool) (n : Nat) : Bool :=
  inW (.methodLink own idx M.1) && (inW (.initialized M.1.cls) && (inW (.code M.1 M.2.1 M.2.2.1 M.2.2.2) && (decide ((parseMethodDescriptor M.1.desc).map (fun d => d.parameters.length) = some n) && (decide (M.1.cls ≠ "java/lang/invoke/MethodHandle" ∧ M.1.cls ≠ "java/lang/invoke/VarHandle") && (plainName M.1.cls && (decide (M.2.2.1 ≤ 19) && (if st then inW (.static M.1) else inW (.instanceMethod M.1) && inW (.selects M.1.cls M.1 M.1))))))))
def mrcv (t : Nat) : String := match oC t with
  | some (ci, _) => oN ci
  | none => if t = 30 then "java/lang/String" else ""
theorem mWs_mA {E : mEnv} {w : mW} {k : Nat} {q : Nat × va_E} (h : (mWs E w)[k]? = some q) : mA E q.1 := by
  unfold mWs at h
  rw [List.getElem?_map] at h
  cases hq : mCells[k]? with
  | none => rw [hq] at h; cases h
  | some z =>
    rw [hq] at h
    cases h
    exact ⟨z, List.mem_of_getElem? hq, rfl⟩
theorem mA_sub {E : mEnv} {A : Nat → Prop} {w : mW} (hD : va_D A (mWs E w)) : ∀ a, mA E a → A a := by
  rintro a ⟨q, hq, rfl⟩
  obtain ⟨k, hk⟩ := List.getElem?_of_mem hq
  exact hD.2 k _ (mWs_get E w hk)
theorem mHold.self {E : mEnv} {A : Nat → Prop} {w : mW} {H : Heap} (h : mHold E A w H) : mHold E (mA E) w H := ⟨h.1, h.2.weaken fun _ _ hk _ => mWs_mA hk⟩
theorem mHold.to {E : mEnv} {A : Nat → Prop} {w : mW} {H : Heap} (hA : ∀ a, mA E a → A a) (h : mHold E (mA E) w H) : mHold E A w H := ⟨h.1, h.2.weaken fun _ _ _ ha => hA _ ha⟩
theorem mStr.go {E : mEnv} {A : Nat → Prop} {s U : State} {H : Heap} {locs : List Loc} (h : mStr E A s) (hS : va_S A s.heap H locs) (hA : ∀ a, mA E a → A a) (hU : U.heap = H) (hW : s.WarmedH U.vm) : mStr E (mA E) U := by
  obtain ⟨h1, h2, h3, h4, h5⟩ := h
  refine ⟨?_, fun q hq => vk_R.warm hW (h2 q hq), ?_, ?_, h5⟩
  · rw [hU]
    exact ((h1.kept hS.2.1).narrow hA).moved hW.alike
  · rw [hU]
    exact ((h3.kept hS.2.1).narrow hA).moved hW.alike
  · rw [hU]
    exact ((h4.kept hS.2.1).narrow hA).moved hW.alike
def mPc (E : mEnv) (as : List mV) (w : mW) : Array Value → State → Prop := va_Pc (as.map (cv E)) (fun U => va_K E.1 vwCl [(E.2.1, .int)] U ∧ mStr E (mA E) U ∧ mHold E (mA E) w U.heap)
theorem mPc_blind (E : mEnv) (as : List mV) (w : mW) : FrameBlind (mPc E as w) := by
  intro a U g mk ⟨q0, qK, qS, qH⟩
  obtain ⟨h1, h2, h3, h4, h5⟩ := qS
  exact ⟨q0, va_K.moved (u := U) (U := U.calling g mk a) (Vm.Alike.refl U.vm) qK, ⟨vk_S.moved (u := U) (U := U.calling g mk a) (Vm.Alike.refl U.vm) h1, fun q hq => vk_R.same (u := U) (U := U.calling g mk a) rfl (h2 q hq), va_Z.moved (u := U) (U := U.calling g mk a) (Vm.Alike.refl U.vm) h3, va_Z.moved (u := U) (U := U.calling g mk a) (Vm.Alike.refl U.vm) h4, h5⟩, qH⟩
theorem mexp_args {E : mEnv} (hF : (E.2.2.2 = .null ∨ ∃ a, E.2.2.2 = .ref a)) : ∀ (as : List mV) (b i : Nat) (v : mV), (mexp as)[i]? = some (some v) → (b + i, cv E v) ∈ lv_args b (as.map (cv E)) ∧ v ∈ as
  | [], b, i, v, h => by simp [mexp] at h
  | .inl x :: as, b, i, v, h => by
    cases i with
    | zero =>
      simp only [mexp, List.getElem?_cons_zero, Option.some.injEq] at h
      subst h
      exact ⟨List.mem_cons_self, List.mem_cons_self⟩
    | succ i =>
      simp only [mexp, List.getElem?_cons_succ] at h
      obtain ⟨h1, h2⟩ := mexp_args hF as (b + 1) i v h
      refine ⟨List.mem_cons_of_mem _ ?_, List.mem_cons_of_mem _ h2⟩
      rw [if_neg (by show ¬ (Value.int x).category = 2; exact fun z => by cases z)]
      rw [show b + (i + 1) = b + 1 + i by omega]
      exact h1
  | .inr (.inl x) :: as, b, i, v, h => by
    match i, h with
    | 0, h =>
      simp only [mexp, List.getElem?_cons_zero, Option.some.injEq] at h
      subst h
      exact ⟨List.mem_cons_self, List.mem_cons_self⟩
    | 1, h => simp [mexp] at h
    | i + 2, h =>
      simp only [mexp, List.getElem?_cons_succ] at h
      obtain ⟨h1, h2⟩ := mexp_args hF as (b + 2) i v h
      refine ⟨List.mem_cons_of_mem _ ?_, List.mem_cons_of_mem _ h2⟩
      rw [if_pos (by show (Value.long x).category = 2; rfl)]
      rw [show b + (i + 2) = b + 2 + i by omega]
      exact h1
  | .inr (.inr r) :: as, b, i, v, h => by
    cases i with
    | zero =>
      simp only [mexp, List.getElem?_cons_zero, Option.some.injEq] at h
      subst h
      exact ⟨List.mem_cons_self, List.mem_cons_self⟩
    | succ i =>
      simp only [mexp, List.getElem?_cons_succ] at h
      obtain ⟨h1, h2⟩ := mexp_args hF as (b + 1) i v h
      refine ⟨List.mem_cons_of_mem _ ?_, List.mem_cons_of_mem _ h2⟩
      rw [if_neg (by rw [cv_cat hF]; exact fun z => by cases z)]
      rw [show b + (i + 1) = b + 1 + i by omega]
      exact h1
theorem mexp_len {E : mEnv} (hF : (E.2.2.2 = .null ∨ ∃ a, E.2.2.2 = .ref a)) : ∀ (as : List mV), (lg_sl (as.map (cv E))).length = (mexp as).length
  | [] => rfl
  | .inl x :: as => by
    have h := mexp_len hF as
    unfold lg_sl at h ⊢
    rw [List.map_cons, List.flatMap_cons, List.length_append, h, if_neg (by rw [cv_cat hF]; exact fun z => by cases z)]
    simp [mexp]; omega
  | .inr (.inl x) :: as => by
    have h := mexp_len hF as
    unfold lg_sl at h ⊢
    rw [List.map_cons, List.flatMap_cons, List.length_append, h, if_pos (by rw [cv_cat hF])]
    simp [mexp]; omega
  | .inr (.inr r) :: as => by
    have h := mexp_len hF as
    unfold lg_sl at h ⊢
    rw [List.map_cons, List.flatMap_cons, List.length_append, h, if_neg (by rw [cv_cat hF]; exact fun z => by cases z)]
    simp [mexp]; omega
theorem ment_loc {E : mEnv} (hF : (E.2.2.2 = .null ∨ ∃ a, E.2.2.2 = .ref a)) {as : List mV} {n : Nat} (hn : (mexp as).length ≤ n) (hok : ∀ v ∈ as, mOk v) : mLoc E ((lg_sl (as.map (cv E)) ++ List.replicate (n - (lg_sl (as.map (cv E))).length) Slot.unset).toArray) n (ment n as) := by
  have hl := lv_entry (as.map (cv E)) (n := n) (by rw [mexp_len hF]; exact hn)
  refine ⟨⟨hl.1, by unfold ment; simp; omega⟩, hl.2.1, fun i v hi => ?_⟩
  have hi2 : (mexp as)[i]? = some (some v) := by
    unfold ment at hi
    by_cases h : i < (mexp as).length
    · rw [List.getElem?_append_left h] at hi
      exact hi
    · rw [List.getElem?_append_right (by omega)] at hi
      have := List.mem_of_getElem? hi
      have := List.eq_of_mem_replicate this
      cases this
  obtain ⟨h1, h2⟩ := mexp_args (E := E) hF as 0 i v hi2
  rw [Nat.zero_add] at h1
  exact ⟨hok v h2, hl.2.2 _ h1⟩
theorem GW_good : ∀ w ∈ GW, w ∈ GW ∧ ((w.onTables && w.keeps) = true ∨ ∃ ty, w = .arrayClass ty) := fun w h => ⟨h, good_of_word (List.mem_filter.mp h).2⟩
theorem Ev.met {l : Launch} {d : Nat} {M : mM} {as : List mV} {w : mW} {Q : Option mV → mW → Prop} (h : Ev l d M 0 (ment M.2.2.1 as) [] w Q) (hy : plainName M.1.cls = true) (hn : (mexp as).length ≤ M.2.2.1) (hok : ∀ v ∈ as, mOk v) (E : mEnv) :
    Met l M.1 (.code M.1 M.2.1 M.2.2.1 M.2.2.2 :: GW) (mRm d) (mPc E as w) (mQc E Q) 0 0 (mA E) := by
  refine Met.ofW (cc := M.2.1) (maxL := M.2.2.1) (ret := M.2.2.2) hy rfl ?_
  intro p e s m args below meth c s₁ B hml hv
  obtain ⟨rfl, hK, hStr, hH⟩ := hv
  have hts := atoms_spec (ws := .code M.1 M.2.1 M.2.2.1 M.2.2.2 :: GW) B.pre
  have hown : s.vm.findClass M.1.cls = some m.cls := findClass_of_methodNamed B.named
  rw [lg_entry_eq]
  exact h E p e s m _ below meth c ⟨B.exec, B.bytes, hml, hown, fun w hw => hts w (List.mem_cons_of_mem _ hw), hK, hStr⟩ B.notSynchronized B.returns s.heap [] _ hH va_S.rf (ment_loc hStr.2.2.2.2 hn hok) (fun v hv => by cases hv)
section MC
variable {E : mEnv} {A : Nat → Prop} {p : Program} {l : Launch} {e : Env} {R : Room} {s : State} {m : MethodId} {args : Array Value} {below : List Frame} {meth : Method} {c : Code} {cells slots : Nat} {Z : State → Prop} {M : mM} {pc : Nat} {L : List (Option mV)} {S : List mV} {w : mW}
theorem mbr_ok (hc : mCtx E A p s m args c M) {i : Instr} {tgt : Nat} {C : Prop} {S0 : List mV} (hk : mbk M pc i tgt = true) (hb : mcnd i S = some (C, S0))
    (kt : C → mG E A p l e R s m args below meth c cells slots Z M tgt L S0 w) (kf : ¬ C → mG E A p l e R s m args below meth c cells slots Z M (pc + 3) L S0 w) : mG E A p l e R s m args below meth c cells slots Z M pc L S w := by
  unfold mbk at hk
  simp only [Bool.and_eq_true, decide_eq_true_eq] at hk
  obtain ⟨hd, ht⟩ := hk
  intro H locs ls hH hS hL hO
  unfold mcnd at hb
  split at hb
  all_goals first
    | (cases hb; exact lv_if_eq hc.1 hc.2.1 hd ht (fun h => kt h H locs ls hH hS hL (mok_tail hO)) (fun h => kf h H locs ls hH hS hL (mok_tail hO)))
    | (cases hb; exact lv_if_ne hc.1 hc.2.1 hd ht (fun h => kt h H locs ls hH hS hL (mok_tail hO)) (fun h => kf (fun z => z h) H locs ls hH hS hL (mok_tail hO)))
    | (cases hb; exact lv_if_lt hc.1 hc.2.1 hd ht (fun h => kt h H locs ls hH hS hL (mok_tail hO)) (fun h => kf h H locs ls hH hS hL (mok_tail hO)))
    | (cases hb; exact lv_if_ge hc.1 hc.2.1 hd ht (fun h => kt h H locs ls hH hS hL (mok_tail hO)) (fun h => kf h H locs ls hH hS hL (mok_tail hO)))
    | (cases hb; exact lv_if_gt hc.1 hc.2.1 hd ht (fun h => kt h H locs ls hH hS hL (mok_tail hO)) (fun h => kf h H locs ls hH hS hL (mok_tail hO)))
    | (cases hb; exact lv_if_le hc.1 hc.2.1 hd ht (fun h => kt h H locs ls hH hS hL (mok_tail hO)) (fun h => kf h H locs ls hH hS hL (mok_tail hO)))
    | (cases hb; exact lv_icmp_eq hc.1 hc.2.1 hd ht (fun h => kt h H locs ls hH hS hL (mok_tail (mok_tail hO))) (fun h => kf h H locs ls hH hS hL (mok_tail (mok_tail hO))))
    | (cases hb; exact lv_icmp_ne hc.1 hc.2.1 hd ht (fun h => kt h H locs ls hH hS hL (mok_tail (mok_tail hO))) (fun h => kf (fun z => z h) H locs ls hH hS hL (mok_tail (mok_tail hO))))
    | (cases hb; exact lv_icmp_lt hc.1 hc.2.1 hd ht (fun h => kt h H locs ls hH hS hL (mok_tail (mok_tail hO))) (fun h => kf h H locs ls hH hS hL (mok_tail (mok_tail hO))))
    | (cases hb; exact lv_icmp_ge hc.1 hc.2.1 hd ht (fun h => kt h H locs ls hH hS hL (mok_tail (mok_tail hO))) (fun h => kf h H locs ls hH hS hL (mok_tail (mok_tail hO))))
    | (cases hb; exact lv_icmp_gt hc.1 hc.2.1 hd ht (fun h => kt h H locs ls hH hS hL (mok_tail (mok_tail hO))) (fun h => kf h H locs ls hH hS hL (mok_tail (mok_tail hO))))
    | (cases hb; exact lv_icmp_le hc.1 hc.2.1 hd ht (fun h => kt h H locs ls hH hS hL (mok_tail (mok_tail hO))) (fun h => kf h H locs ls hH hS hL (mok_tail (mok_tail hO))))
    | cases hb
theorem mjmp_ok (hc : mCtx E A p s m args c M) {o : Int} {tgt : Nat} (hk : mbk M pc (.goto o) tgt = true) (k : mG E A p l e R s m args below meth c cells slots Z M tgt L S w) : mG E A p l e R s m args below meth c cells slots Z M pc L S w := by
  unfold mbk at hk
  simp only [Bool.and_eq_true, decide_eq_true_eq] at hk
  exact fun H locs ls hH hS hL hO => lv_goto hc.1 hc.2.1 hk.1 hk.2 (k H locs ls hH hS hL hO)
theorem mcs_sum (hF : (E.2.2.2 = .null ∨ ∃ a, E.2.2.2 = .ref a)) : ∀ (S : List mV), ((S.map (cv E)).map fun v => v.category).sum = mcs S
  | [] => rfl
  | .inl x :: S => by rw [List.map_cons, List.map_cons, List.sum_cons, mcs_sum hF S, cv_cat hF]; rfl
  | .inr (.inl x) :: S => by rw [List.map_cons, List.map_cons, List.sum_cons, mcs_sum hF S, cv_cat hF]; rfl
  | .inr (.inr r) :: S => by rw [List.map_cons, List.map_cons, List.sum_cons, mcs_sum hF S, cv_cat hF]; rfl
/-- behind a call -/
theorem mcalled {H : Heap} {locs : List Loc} {ls : Array Slot} {st0 rest : List Value} {Q : Option mV → mW → Prop} {a : Array Value} (hr : va_Run p l e R s m args below meth c H locs cells slots 0 0 (F0 m pc ls st0) rest (mQc E Q a) (mA E)) (hS : va_S A s.heap H locs) (hA : ∀ a, mA E a → A a)
    (kk : ∀ (r : Option mV) (u : mW) (H1 : Heap) (locs1 : List Loc), (∀ v, r = some v → mOk v) → Q r u → mHold E (mA E) u H1 → va_S A s.heap H1 locs1 → W p l e R s m args below meth c H1 locs1 cells slots Z (F0 m (pc + 3) ls ((r.map (cv E)).toList ++ rest))) : W p l e R s m args below meth c H locs cells slots Z (F0 m pc ls st0) := by
  intro T hT X
  obtain ⟨v, st₀, t, T', L9, h0, X', hL, e1, e2, ⟨⟨r, u, hv, hok, hq, hh⟩, hz, hk⟩, st⟩ := hr T hT X
  cases hv
  rw [h0] at hz hk
  obtain ⟨t2, a1, b1⟩ := kk r u T'.heap (locs ++ L9) hok hq (by rw [e1]; exact hh)
    ⟨Nat.le_trans hS.1 (by rw [e1]; exact hz), fun q h1 h2 => by rw [e1, hk q (Nat.lt_of_lt_of_le h1 hS.1) (fun z => h2 (hA q z))]; exact hS.2.1 q h1 h2, fun q hq => by
      rcases List.mem_append.mp hq with h | h
      · exact hS.2.2 q h
      · exact hA _ (hL q h)⟩ T' rfl X'
  exact ⟨t2, st t2 a1, b1⟩
theorem mlk_B (hc : mCtx E A p s m args c M) {M1 : mM} {idx n d : Nat} {st : Bool} (h : mlk M.1.cls idx M1 st n = true) (hR : d + 1 ≤ R.frames ∧ 38 * d + 38 ≤ R.locals) : CallB R s args M.1.cls idx M1.1 M1.2.1 M1.2.2.1 M1.2.2.2 (.code M1.1 M1.2.1 M1.2.2.1 M1.2.2.2 :: GW) (mRm d) 0 0 n := by
  unfold mlk at h
  simp only [Bool.and_eq_true, decide_eq_true_eq] at h
  obtain ⟨h1, h2, h3, h4, h5, h6, h7, h8⟩ := h
  have hg : GoodIn GW (.code M1.1 M1.2.1 M1.2.2.1 M1.2.2.2 :: GW) := by
    intro w hw
    rcases List.mem_cons.mp hw with rfl | hw
    · exact GW_good _ (inW_ok h3)
    · exact GW_good w hw
  exact callB_of n hc.ts hg rfl rfl rfl (hc.word h2) (hc.word h1) ⟨h5.1, h5.2, h4⟩ ⟨hR.1, by show 8 + (M1.2.2.1 + 11) + 38 * d ≤ R.locals; omega⟩
theorem mr_list (r : Option mV) (S : List mV) : (r.map (cv E)).toList ++ S.map (cv E) = (r.toList ++ S).map (cv E) := by cases r <;> rfl
theorem mcallS_ok (hc : mCtx E A p s m args c M) {M1 : mM} {idx n d : Nat} {as : List mV} {Q : Option mV → mW → Prop} (hd : decode M.2.1 pc = .ok (.invokestatic idx, 3)) (hl : mlk M.1.cls idx M1 true n = true) (hn : as.length = n) (hent : (mexp as).length ≤ M1.2.2.1) (hst : mcs S ≤ 8) (hR : d + 1 ≤ R.frames ∧ 38 * d + 38 ≤ R.locals) (hcs : cells ≤ R.cells ∧ slots ≤ R.slots)
    (hE : Ev l d M1 0 (ment M1.2.2.1 as) [] w Q) (k : ∀ r u, Q r u → mG E A p l e R s m args below meth c cells slots Z M (pc + 3) L (r.toList ++ S) u) : mG E A p l e R s m args below meth c cells slots Z M pc L (as.reverse ++ S) w := by
  intro H locs ls hH hS hL hO
  have hB := mlk_B (R := R) hc hl hR
  unfold mlk at hl
  simp only [Bool.and_eq_true, decide_eq_true_eq, if_true] at hl
  obtain ⟨h1, h2, h3, h4, h5, h6, h7, h8⟩ := hl
  have hA := mA_sub hH.2
  have hok : ∀ v ∈ as, mOk v := fun v hv => hO v (List.mem_append_left _ (List.mem_reverse.mpr hv))
  have hO0 : ∀ v ∈ S, mOk v := fun v hv => hO v (List.mem_append_right _ hv)
  have hM := hE.met h6 hent hok E
  refine mcalled (Q := Q) (rest := S.map (cv E)) (va_runS (As := as.map (cv E)) (rest := S.map (cv E)) (cc := M.2.1) (Ts := GW) ⟨hc.1, hc.2.1, hc.2.2.1, hc.own, hc.ts⟩ hM ⟨hB, hc.word h8⟩ ⟨mPc_blind E as w, fun U hU hW => ⟨rfl, va_K.moved hW.alike hc.K, mStr.go hc.2.2.2.2.2.2 hS hA hU hW, by rw [hU]; exact hH.self⟩⟩ rfl (by rw [List.length_map]; exact hn) hL.1.1 (by show (as.reverse ++ S).map (cv E) = _; rw [List.map_append, List.map_reverse]) (lv_room (by rw [mcs_sum hc.F]; exact hst)) hd ⟨hcs.1, hcs.2⟩) hS hA (fun r u H1 locs1 hrok hq hh hS1 => ?_)
  rw [mr_list]
  exact k r u hq H1 locs1 ls (hh.to hA) hS1 hL (fun v hv => by
    rcases List.mem_append.mp hv with h | h
    · cases r with
      | none => cases h
      | some z =>
        have : v = z := by simpa using h
        exact this ▸ hrok z rfl
    · exact hO0 v h)
theorem mrcv_ok (hc : mCtx E A p s m args c M) {H : Heap} {locs : List Loc} {t i : Nat} {C : String} (hH : mHold E A w H) (hS : va_S A s.heap H locs) (ho : (t, i) ∈ mRefs) (ht : mrcv t = C) (hC : C ≠ "") : t ≠ 32 ∧ ∃ cell : Cell, H[mAd E t i]? = some cell ∧ cell.vm.isStatics = false ∧ s.vm.findClass C = some cell.cls := by
  unfold mrcv at ht
  cases hoc : oC t with
  | some q =>
    obtain ⟨ci, n⟩ := q
    rw [hoc] at ht
    subst ht
    obtain ⟨hc4, rfl⟩ := oC_F hoc
    have hlt : t < 30 := mRef_obj (t, i) ho (by rw [hoc]; exact fun z => by cases z)
    obtain ⟨pl, hpl⟩ := List.getElem?_of_mem (mRef_cell (t, i) ho hlt)
    have hget := mWs_get E w hpl
    rw [mE_obj hoc] at hget
    exact ⟨by omega, va_recv hc.K hH.1 (oTab hc4).1 hget⟩
  | none =>
    rw [hoc] at ht
    by_cases h30 : t = 30
    · subst h30
      simp only [if_true] at ht
      subst ht
      exact ⟨by decide, va_Orecv (hc.2.2.2.2.2.2.1.1 i (mRef_str (30, i) ho rfl)).1 hS⟩
    · simp only [h30, if_false] at ht
      exact absurd ht.symm hC
theorem mcallV_ok (hc : mCtx E A p s m args c M) {M1 : mM} {idx n d t i : Nat} {as : List mV} {Q : Option mV → mW → Prop} (hd : decode M.2.1 pc = .ok (.invokevirtual idx, 3)) (hl : mlk M.1.cls idx M1 false n = true) (ht : mrcv t = M1.1.cls) (hC : M1.1.cls ≠ "") (hn : as.length = n) (hent : (mexp (mR t i :: as)).length ≤ M1.2.2.1) (hst : mcs S ≤ 8) (hR : d + 1 ≤ R.frames ∧ 38 * d + 38 ≤ R.locals) (hcs : cells ≤ R.cells ∧ slots ≤ R.slots)
    (hE : Ev l d M1 0 (ment M1.2.2.1 (mR t i :: as)) [] w Q) (k : ∀ r u, Q r u → mG E A p l e R s m args below meth c cells slots Z M (pc + 3) L (r.toList ++ S) u) : mG E A p l e R s m args below meth c cells slots Z M pc L (as.reverse ++ mR t i :: S) w := by
  intro H locs ls hH hS hL hO
  have hB := mlk_B (R := R) hc hl hR
  unfold mlk at hl
  simp only [Bool.and_eq_true, decide_eq_true_eq, Bool.false_eq_true, if_false] at hl
  obtain ⟨h1, h2, h3, h4, h5, h6, h7, h8, h9⟩ := hl
  have hA := mA_sub hH.2
  have hO1 : ∀ v ∈ mR t i :: S, mOk v := fun v hv => hO v (List.mem_append_right _ hv)
  have hok : ∀ v ∈ mR t i :: as, mOk v := mok_cons (mok_head hO1) (fun v hv => hO v (List.mem_append_left _ (List.mem_reverse.mpr hv)))
  have hO0 : ∀ v ∈ S, mOk v := mok_tail hO1
  have hM := hE.met h6 hent hok E
  obtain ⟨ht32, hrc⟩ := mrcv_ok hc hH hS (mok_head hO1) ht hC
  refine mcalled (Q := Q) (rest := S.map (cv E)) (va_runV (C := M1.1.cls) (b := mAd E t i) (As := as.map (cv E)) (rest := S.map (cv E)) (cc := M.2.1) (Ts := GW) ⟨hc.1, hc.2.1, hc.2.2.1, hc.own, hc.ts⟩ hM ⟨hB, hc.word h8, hc.word h9⟩ ⟨mPc_blind E _ w, hrc, fun U hU hW => ⟨by rw [List.map_cons, cv_ref ht32], va_K.moved hW.alike hc.K, mStr.go hc.2.2.2.2.2.2 hS hA hU hW, by rw [hU]; exact hH.self⟩⟩ rfl (by rw [List.length_map]; exact hn) hL.1.1 (by show (as.reverse ++ mR t i :: S).map (cv E) = _; rw [List.map_append, List.map_reverse, cv_refS ht32]) (lv_room (by rw [mcs_sum hc.F]; exact hst)) hd ⟨hcs.1, hcs.2⟩) hS hA (fun r u H1 locs1 hrok hq hh hS1 => ?_)
  rw [mr_list]
  exact k r u hq H1 locs1 ls (hh.to hA) hS1 hL (fun v hv => by
    rcases List.mem_append.mp hv with h | h
    · cases r with
      | none => cases h
      | some z =>
        have : v = z := by simpa using h
        exact this ▸ hrok z rfl
    · exact hO0 v h)
end MC
