/-! ===== the mini machine's instructions are the machine's: worlds and locals ===== -/
theorem mCells_inj : ∀ (i j : Nat) (q : Nat × Nat), mCells[i]? = some q → mCells[j]? = some q → i = j := by
  have hn : mCells.Nodup := by decide
  intro i j q h1 h2
  have hi : i < mCells.length := (List.getElem?_eq_some_iff.mp h1).1
  exact (List.getElem?_inj hi hn).mp (h1.trans h2.symm)
theorem mWs_get (E : mEnv) (w : mW) {pl : Nat} {q : Nat × Nat} (h : mCells[pl]? = some q) : (mWs E w)[pl]? = some (mAd E q.1 q.2, mE E w q) := by
  unfold mWs
  rw [List.getElem?_map, h]
  rfl
theorem mWs_set {E : mEnv} {w w1 : mW} {pl : Nat} {q : Nat × Nat} {x : va_E} (h : mCells[pl]? = some q) (hx : x = mE E w1 q) (ho : ∀ q', q' ≠ q → mE E w1 q' = mE E w q') : (mWs E w).set pl (mAd E q.1 q.2, x) = mWs E w1 := by
  subst hx
  have hl : pl < mCells.length := (List.getElem?_eq_some_iff.mp h).1
  apply List.ext_getElem?
  intro j
  by_cases hj : j = pl
  · subst hj
    rw [List.getElem?_set_self (by unfold mWs; rw [List.length_map]; exact hl), mWs_get E w1 h]
  · rw [List.getElem?_set_ne (Ne.symm hj)]
    unfold mWs
    rw [List.getElem?_map, List.getElem?_map]
    cases hq : mCells[j]? with
    | none => rfl
    | some q' =>
      have hne : q' ≠ q := fun e => hj (mCells_inj j pl q (by rw [hq, e]) h)
      show some (_, _) = some (_, _)
      rw [ho q' hne]
theorem mE_mpf {E : mEnv} {w : mW} {t i k : Nat} {v : Int32} {q : Nat × Nat} (h : q ≠ (t, i)) : mE E (mpf w t i k v) q = mE E w q := by
  have hf : mFd E (mpf w t i k v) q = mFd E w q := by
    funext k'
    unfold mFd mgf mpf
    have : ¬ (q.1 = t ∧ q.2 = i ∧ k' = k) := fun ⟨a, b, _⟩ => h (Prod.ext a b)
    simp only [this, if_false]
  unfold mE
  rw [hf]
  rfl
theorem mE_mpA {E : mEnv} {w : mW} {t i : Nat} {f : Nat → Int32} {q : Nat × Nat} (h : q ≠ (t, i)) : mE E (mpA w t i f) q = mE E w q := by
  have hf : mga (mpA w t i f) q.1 q.2 = mga w q.1 q.2 := by
    unfold mga mpA
    have : ¬ (q.1 = t ∧ q.2 = i) := fun ⟨a, b⟩ => h (Prod.ext a b)
    simp only [this, if_false]
  unfold mE
  rw [hf]
  rfl
theorem mE_obj {E : mEnv} {w : mW} {t i ci n : Nat} (h : oC t = some (ci, n)) : mE E w (t, i) = .inr (ci, (List.range n).map (mFd E w (t, i))) := by
  unfold mE
  simp only [h]
theorem mE_arr {E : mEnv} {w : mW} {t i : Nat} (h : oC t = none) : mE E w (t, i) = .inl (E.2.1, oA t, .inl (mga w t i)) := by
  unfold mE
  simp only [h]
theorem mFd_get {E : mEnv} {w : mW} {q : Nat × Nat} {n k : Nat} (h : k < n) : ((List.range n).map (mFd E w q))[k]? = some (mFd E w q k) := by
  rw [List.getElem?_map, List.getElem?_range h]
  rfl
theorem mFd_set {E : mEnv} {w : mW} {t i n k : Nat} {v : Int32} (h : k < n) (hr : oR t i k = none) : ((List.range n).map (mFd E w (t, i))).set k (.int v) = (List.range n).map (mFd E (mpf w t i k v) (t, i)) := by
  apply List.ext_getElem?
  intro j
  by_cases hj : j = k
  · subst hj
    rw [List.getElem?_set_self (by simpa using h), mFd_get h]
    unfold mFd mgf mpf
    simp [hr]
  · rw [List.getElem?_set_ne (Ne.symm hj), List.getElem?_map, List.getElem?_map]
    cases hq : (List.range n)[j]? with
    | none => rfl
    | some j' =>
      have : j' = j := by
        have := (List.getElem?_eq_some_iff.mp hq).2
        simpa using this.symm
      subst this
      show some _ = some _
      unfold mFd mgf mpf
      simp [hj]
theorem mRef_cell : ∀ q ∈ mRefs, q.1 < 30 → q ∈ mCells := by decide
theorem mRef_obj : ∀ q ∈ mRefs, oC q.1 ≠ none → q.1 < 30 := by decide
theorem mRef_32 : ∀ q ∈ mRefs, q.1 = 32 → q = (32, 0) := by decide
theorem mRef_str : ∀ q ∈ mRefs, q.1 = 30 → q.2 < 6 := by decide
theorem mRef_byt : ∀ q ∈ mRefs, q.1 = 31 → q.2 < 6 := by decide
theorem mRef_val : ∀ q ∈ mRefs, q.1 = 30 → (31, q.2) ∈ mRefs := by decide
theorem mRef_fldB : ∀ q ∈ mCells, ∀ k, k < 30 → (oR q.1 q.2 k).all (fun r => decide (r ∈ mRefs) && decide (r.1 ≠ 32)) = true := by decide +kernel
theorem mRef_fld {q r : Nat × Nat} {k : Nat} (hq : q ∈ mCells) (hk : k < 30) (h : oR q.1 q.2 k = some r) : r ∈ mRefs ∧ r.1 ≠ 32 := by
  have h1 := mRef_fldB q hq k hk
  rw [h] at h1
  simpa using h1
theorem oC_ltB : ∀ q ∈ mCells, (oC q.1).all (fun r => decide (r.1 < 4) && (decide (r.2 ≤ 30) && decide (vwCl[r.1]?.map (fun z => (z.1, z.2.2)) = some (oN r.1, r.2)))) = true := by decide +kernel
theorem mok_cons {x : mV} {S : List mV} (hx : mOk x) (h : ∀ v ∈ S, mOk v) : ∀ v ∈ x :: S, mOk v := fun v hv => (List.mem_cons.mp hv).elim (fun e => e ▸ hx) (h v)
theorem mok_head {x : mV} {S : List mV} (h : ∀ v ∈ x :: S, mOk v) : mOk x := h x List.mem_cons_self
theorem mok_tail {x : mV} {S : List mV} (h : ∀ v ∈ x :: S, mOk v) : ∀ v ∈ S, mOk v := fun v hv => h v (List.mem_cons_of_mem _ hv)
theorem cv_ref {E : mEnv} {t i : Nat} (h : t ≠ 32) : cv E (mR t i) = .ref (mAd E t i) := by
  show (if t = 32 then _ else _) = _
  rw [if_neg h]
theorem cv_refS {E : mEnv} {t i : Nat} {S : List mV} (h : t ≠ 32) : (mR t i :: S).map (cv E) = .ref (mAd E t i) :: S.map (cv E) := by
  rw [List.map_cons, cv_ref h]
theorem mset1_spec {v : mV} : ∀ {L L1 : List (Option mV)} {i : Nat}, mset1 L i v = some L1 → (i < L.length ∧ L1.length = L.length ∧ L1[i]? = some (some v)) ∧ (∀ j, j ≠ i → L1[j]? = L[j]?) ∧ ∀ j x, j + 1 = i → L[j]? ≠ some (some (.inr (.inl x)))
  | [], _, _, h => by simp [mset1] at h
  | a :: l, L1, 0, h => by
    simp only [mset1, Option.some.injEq] at h
    subst h
    refine ⟨⟨by simp, by simp, by simp⟩, fun j hj => ?_, fun j x hj => by omega⟩
    cases j with
    | zero => exact absurd rfl hj
    | succ j => simp
  | a :: l, L1, i + 1, h => by
    have hk : (∀ x, i = 0 → a ≠ some (.inr (.inl x))) ∧ ∃ l', mset1 l i v = some l' ∧ L1 = a :: l' := by
      unfold mset1 at h
      split at h
      · cases h
      · rename_i hne
        split at h
        · rename_i l' e1
          refine ⟨fun x hi ha => hne x ha hi, l', e1, by simpa using h.symm⟩
        · cases h
    obtain ⟨h1, l', h2, rfl⟩ := hk
    obtain ⟨⟨g1, g2, g3⟩, g4, g5⟩ := mset1_spec h2
    refine ⟨⟨by simpa using g1, by simpa using g2, by simpa using g3⟩, fun j hj => ?_, fun j x hj => ?_⟩
    · cases j with
      | zero => simp
      | succ j => simpa using g4 j (by omega)
    · cases j with
      | zero => simpa using h1 x (by omega)
      | succ j => simpa using g5 j x (by omega)
theorem mset2_spec {v : mV} : ∀ {L L1 : List (Option mV)} {i : Nat}, mset2 L i v = some L1 → (i + 1 < L.length ∧ L1.length = L.length ∧ L1[i]? = some (some v) ∧ L1[i + 1]? = some none) ∧ (∀ j, j ≠ i → j ≠ i + 1 → L1[j]? = L[j]?) ∧ ∀ j x, j + 1 = i → L[j]? ≠ some (some (.inr (.inl x)))
  | [], _, _, h => by simp [mset2] at h
  | [_], _, _, h => by simp [mset2] at h
  | a :: b :: l, L1, 0, h => by
    simp only [mset2, Option.some.injEq] at h
    subst h
    refine ⟨⟨by simp, by simp, by simp, by simp⟩, fun j hj hj2 => ?_, fun j x hj => by omega⟩
    match j with
    | 0 => exact absurd rfl hj
    | 1 => exact absurd rfl hj2
    | j + 2 => simp
  | a :: b :: l, L1, i + 1, h => by
    have hk : (∀ x, i = 0 → a ≠ some (.inr (.inl x))) ∧ ∃ l', mset2 (b :: l) i v = some l' ∧ L1 = a :: l' := by
      unfold mset2 at h
      split at h
      · cases h
      · rename_i hne
        split at h
        · rename_i l' e1
          refine ⟨fun x hi ha => hne x ha hi, l', e1, by simpa using h.symm⟩
        · cases h
    obtain ⟨h1, l', h2, rfl⟩ := hk
    obtain ⟨⟨g1, g2, g3, g6⟩, g4, g5⟩ := mset2_spec h2
    refine ⟨⟨by simpa using g1, by simpa using g2, by simpa using g3, by simpa using g6⟩, fun j hj hj2 => ?_, fun j x hj => ?_⟩
    · cases j with
      | zero => simp
      | succ j => simpa using g4 j (by omega) (by omega)
    · cases j with
      | zero => simpa using h1 x (by omega)
      | succ j => simpa using g5 j x (by omega)
def mPairs (E : mEnv) (L : List (Option mV)) : List (Nat × Value) := (List.range L.length).filterMap (fun i => match L[i]? with
  | some (some v) => some (i, cv E v)
  | _ => none)
theorem mPairs_mem {E : mEnv} {L : List (Option mV)} {i : Nat} {v : mV} (h : L[i]? = some (some v)) : (i, cv E v) ∈ mPairs E L := by
  refine List.mem_filterMap.mpr ⟨i, List.mem_range.mpr (List.getElem?_eq_some_iff.mp h).1, ?_⟩
  simp only [h]
theorem mLoc.has {E : mEnv} {ls : Array Slot} {nL : Nat} {L : List (Option mV)} (h : mLoc E ls nL L) : lv_has ls nL (mPairs E L) := by
  refine ⟨h.1.1, h.2.1, fun q hq => ?_⟩
  obtain ⟨i, -, hi⟩ := List.mem_filterMap.mp hq
  split at hi
  · rename_i v hv
    cases hi
    exact (h.2.2 i v hv).2
  · cases hi
theorem cv_cat {E : mEnv} {v : mV} (h : (E.2.2.2 = .null ∨ ∃ a, E.2.2.2 = .ref a)) : (cv E v).category = (match v with | .inr (.inl _) => 2 | _ => 1) := by
  rcases v with x | x | r
  · rfl
  · rfl
  · show (if r.1 = 32 then E.2.2.2 else .ref (mAd E r.1 r.2)).category = 1
    split
    · rcases h with h | ⟨a, h⟩ <;> rw [h] <;> rfl
    · rfl
theorem mset1_loc {E : mEnv} {ls ls' : Array Slot} {nL i : Nat} {L L1 : List (Option mV)} {v : mV} (hF : (E.2.2.2 = .null ∨ ∃ a, E.2.2.2 = .ref a)) (h : mLoc E ls nL L) (hs : mset1 L i v = some L1) (hv : mOk v) (hl : lv_has ls' nL ((i, cv E v) :: (mPairs E L).filter (fun q => !(q.1 == i) && !(q.1 + 1 == i && q.2.category == 2)))) : mLoc E ls' nL L1 := by
  obtain ⟨⟨g1, g2, g3⟩, g4, g5⟩ := mset1_spec hs
  refine ⟨⟨hl.1, by rw [g2]; exact h.1.2⟩, hl.2.1, fun j u hj => ?_⟩
  by_cases hji : j = i
  · subst hji
    rw [g3] at hj
    cases hj
    exact ⟨hv, hl.2.2 _ List.mem_cons_self⟩
  · rw [g4 j hji] at hj
    refine ⟨(h.2.2 j u hj).1, hl.2.2 (j, cv E u) (List.mem_cons_of_mem _ (List.mem_filter.mpr ⟨mPairs_mem hj, ?_⟩))⟩
    simp only [Bool.and_eq_true, Bool.not_eq_true', beq_eq_false_iff_ne, ne_eq, Bool.and_eq_false_iff]
    refine ⟨hji, ?_⟩
    by_cases hk : j + 1 = i
    · right
      rw [cv_cat hF]
      rcases u with x | x | r
      · simp
      · exact absurd hj (g5 j x hk)
      · simp
    · exact Or.inl hk
theorem mset2_loc {E : mEnv} {ls ls' : Array Slot} {nL i : Nat} {L L1 : List (Option mV)} {v : mV} (hF : (E.2.2.2 = .null ∨ ∃ a, E.2.2.2 = .ref a)) (h : mLoc E ls nL L) (hs : mset2 L i v = some L1) (hv : mOk v) (hl : lv_has ls' nL ((i, cv E v) :: (mPairs E L).filter (fun q => !(q.1 == i) && (!(q.1 == i + 1) && !(q.1 + 1 == i && q.2.category == 2))))) : mLoc E ls' nL L1 := by
  obtain ⟨⟨g1, g2, g3, g6⟩, g4, g5⟩ := mset2_spec hs
  refine ⟨⟨hl.1, by rw [g2]; exact h.1.2⟩, hl.2.1, fun j u hj => ?_⟩
  by_cases hji : j = i
  · subst hji
    rw [g3] at hj
    cases hj
    exact ⟨hv, hl.2.2 _ List.mem_cons_self⟩
  · by_cases hji2 : j = i + 1
    · subst hji2
      rw [g6] at hj
      cases hj
    · rw [g4 j hji hji2] at hj
      refine ⟨(h.2.2 j u hj).1, hl.2.2 (j, cv E u) (List.mem_cons_of_mem _ (List.mem_filter.mpr ⟨mPairs_mem hj, ?_⟩))⟩
      simp only [Bool.and_eq_true, Bool.not_eq_true', beq_eq_false_iff_ne, ne_eq, Bool.and_eq_false_iff]
      refine ⟨hji, hji2, ?_⟩
      by_cases hk : j + 1 = i
      · right
        rw [cv_cat hF]
        rcases u with x | x | r
        · simp
        · exact absurd hj (g5 j x hk)
        · simp
      · exact Or.inl hk
