/-! ===== the reference: its yard in the world, its small methods ===== -/
/-- the reference's word for who is set aside -/
def enM (a : Nat) : Int32 := if a < 8 then nI a else -9
def MYd (w : mW) (D : Yd) : Prop :=
  ((∀ j, j < dn D → mga w 13 0 j = nI (dk D j)) ∧ (∀ j, j < dn D → mga w 14 0 j = nI (dc D j)) ∧ (∀ j, j < dn D → mga w 15 0 j = nI (df D j)) ∧ (∀ j, j < 8 → mga w 16 0 j = bI (ds D j)) ∧ (∀ j, j < 8 → mga w 17 0 j = nI (dt D j)) ∧ (∀ j, j < 64 → mga w 18 0 j = nI (dr D j))) ∧
  mgf w 11 0 7 = nI (dn D) ∧ mgf w 11 0 8 = nI (dl D) ∧ mgf w 11 0 9 = nI (de D) ∧ mgf w 11 0 22 = nI (dg D) ∧ mgf w 11 0 21 = enM (da D)
/-- of the reference's object the fields of F may have changed, of all rows those of A -/
def Om (F A : Nat → Prop) (w u : mW) : Prop := (∀ t i k, ¬ (t = 11 ∧ F k) → mgf u t i k = mgf w t i k) ∧ ∀ t i, ¬ A t → mga u t i = mga w t i
section MO
variable {F A F' A' : Nat → Prop} {w u v : mW} {D : Yd}
theorem Om.rf : Om F A w w := ⟨fun _ _ _ _ => rfl, fun _ _ _ => rfl⟩
theorem Om.tr (h : Om F A w u) (k : Om F A u v) : Om F A w v := ⟨fun t i j hn => (k.1 t i j hn).trans (h.1 t i j hn), fun t i hn => (k.2 t i hn).trans (h.2 t i hn)⟩
theorem Om.sub (h : Om F A w u) (hF : ∀ k, F k → F' k) (hA : ∀ t, A t → A' t) : Om F' A' w u := ⟨fun t i k hn => h.1 t i k (fun ⟨a, b⟩ => hn ⟨a, hF k b⟩), fun t i hn => h.2 t i (fun a => hn (hA t a))⟩
theorem Om.pf {k : Nat} {x : Int32} (hk : F k) : Om F A w (mpf w 11 0 k x) := ⟨fun t i k' hn => mgf_pfn (fun ⟨a, _, b⟩ => hn ⟨a, by rw [b]; exact hk⟩), fun _ _ _ => rfl⟩
theorem Om.pA {t i : Nat} {f : Nat → Int32} (ht : A t) : Om F A w (mpA w t i f) := ⟨fun _ _ _ _ => rfl, fun t' i' hn => mga_pAn (fun ⟨a, _⟩ => hn (by rw [a]; exact ht))⟩
/-- what a second may change -/
abbrev OffM (w u : mW) : Prop := Om (fun k => (7 ≤ k ∧ k ≤ 9) ∨ k = 22) (fun t => 13 ≤ t ∧ t ≤ 18) w u
theorem MYd.k (h : MYd w D) {j : Nat} (hj : j < dn D) : mga w 13 0 j = nI (dk D j) := h.1.1 j hj
theorem MYd.c (h : MYd w D) {j : Nat} (hj : j < dn D) : mga w 14 0 j = nI (dc D j) := h.1.2.1 j hj
theorem MYd.f (h : MYd w D) {j : Nat} (hj : j < dn D) : mga w 15 0 j = nI (df D j) := h.1.2.2.1 j hj
theorem MYd.s (h : MYd w D) {j : Nat} (hj : j < 8) : mga w 16 0 j = bI (ds D j) := h.1.2.2.2.1 j hj
theorem MYd.t (h : MYd w D) {j : Nat} (hj : j < 8) : mga w 17 0 j = nI (dt D j) := h.1.2.2.2.2.1 j hj
theorem MYd.r (h : MYd w D) {j : Nat} (hj : j < 64) : mga w 18 0 j = nI (dr D j) := h.1.2.2.2.2.2 j hj
theorem MYd.n (h : MYd w D) : mgf w 11 0 7 = nI (dn D) := h.2.1
theorem MYd.l (h : MYd w D) : mgf w 11 0 8 = nI (dl D) := h.2.2.1
theorem MYd.e (h : MYd w D) : mgf w 11 0 9 = nI (de D) := h.2.2.2.1
theorem MYd.g (h : MYd w D) : mgf w 11 0 22 = nI (dg D) := h.2.2.2.2.1
theorem MYd.a (h : MYd w D) : mgf w 11 0 21 = enM (da D) := h.2.2.2.2.2
/-- what is read of the reference's yard -/
theorem MYd.of (h : MYd w D) (h1 : ∀ t, 13 ≤ t → t ≤ 18 → mga u t 0 = mga w t 0) (h2 : ∀ k, (7 ≤ k ∧ k ≤ 9) ∨ k = 21 ∨ k = 22 → mgf u 11 0 k = mgf w 11 0 k) : MYd u D := by
  refine ⟨⟨?_, ?_, ?_, ?_, ?_, ?_⟩, ?_, ?_, ?_, ?_, ?_⟩
  · rw [h1 13 (by decide) (by decide)]; exact h.1.1
  · rw [h1 14 (by decide) (by decide)]; exact h.1.2.1
  · rw [h1 15 (by decide) (by decide)]; exact h.1.2.2.1
  · rw [h1 16 (by decide) (by decide)]; exact h.1.2.2.2.1
  · rw [h1 17 (by decide) (by decide)]; exact h.1.2.2.2.2.1
  · rw [h1 18 (by decide) (by decide)]; exact h.1.2.2.2.2.2
  · rw [h2 7 (by decide)]; exact h.n
  · rw [h2 8 (by decide)]; exact h.l
  · rw [h2 9 (by decide)]; exact h.e
  · rw [h2 22 (by decide)]; exact h.g
  · rw [h2 21 (by decide)]; exact h.a
theorem updM {f : Nat → Int32} {g : Nat → Nat} {i x N : Nat} (h : ∀ j, j < N → f j = nI (g j)) : ∀ j, j < N → upd f i (nI x) j = nI (va_up g i x j) := upd_nI h
theorem updB {f : Nat → Int32} {g : Nat → Bool} {i N : Nat} {b : Bool} {x : Int32} (hx : x = bI b) (h : ∀ j, j < N → f j = bI (g j)) : ∀ j, j < N → upd f i x j = bI (va_up g i b j) := by
  intro j hj
  unfold upd va_up
  by_cases e : j = i
  · rw [if_pos e, if_pos e]; exact hx
  · rw [if_neg e, if_neg e]; exact h j hj
theorem MYd.pc (h : MYd w D) {i x : Nat} : MYd (mpA w 14 0 (upd (mga w 14 0) i (nI x))) (uc D (va_up (dc D) i x)) := ⟨⟨by rw [mga_pAn (by decide)]; exact h.1.1, by rw [mga_pA]; exact upd_nI h.1.2.1, by rw [mga_pAn (by decide)]; exact h.1.2.2.1, by rw [mga_pAn (by decide)]; exact h.1.2.2.2.1, by rw [mga_pAn (by decide)]; exact h.1.2.2.2.2.1, by rw [mga_pAn (by decide)]; exact h.1.2.2.2.2.2⟩, h.2⟩
theorem MYd.pk (h : MYd w D) {i x : Nat} : MYd (mpA w 13 0 (upd (mga w 13 0) i (nI x))) (uk D (va_up (dk D) i x)) := ⟨⟨by rw [mga_pA]; exact upd_nI h.1.1, by rw [mga_pAn (by decide)]; exact h.1.2.1, by rw [mga_pAn (by decide)]; exact h.1.2.2.1, by rw [mga_pAn (by decide)]; exact h.1.2.2.2.1, by rw [mga_pAn (by decide)]; exact h.1.2.2.2.2.1, by rw [mga_pAn (by decide)]; exact h.1.2.2.2.2.2⟩, h.2⟩
theorem MYd.ps (h : MYd w D) {i : Nat} {b : Bool} {x : Int32} (hx : x = bI b) : MYd (mpA w 16 0 (upd (mga w 16 0) i x)) (us D (va_up (ds D) i b)) := ⟨⟨by rw [mga_pAn (by decide)]; exact h.1.1, by rw [mga_pAn (by decide)]; exact h.1.2.1, by rw [mga_pAn (by decide)]; exact h.1.2.2.1, by rw [mga_pA]; exact updB hx h.1.2.2.2.1, by rw [mga_pAn (by decide)]; exact h.1.2.2.2.2.1, by rw [mga_pAn (by decide)]; exact h.1.2.2.2.2.2⟩, h.2⟩
theorem MYd.pt (h : MYd w D) {i x : Nat} : MYd (mpA w 17 0 (upd (mga w 17 0) i (nI x))) (ut D (va_up (dt D) i x)) := ⟨⟨by rw [mga_pAn (by decide)]; exact h.1.1, by rw [mga_pAn (by decide)]; exact h.1.2.1, by rw [mga_pAn (by decide)]; exact h.1.2.2.1, by rw [mga_pAn (by decide)]; exact h.1.2.2.2.1, by rw [mga_pA]; exact upd_nI h.1.2.2.2.2.1, by rw [mga_pAn (by decide)]; exact h.1.2.2.2.2.2⟩, h.2⟩
theorem MYd.pr (h : MYd w D) {i x : Nat} : MYd (mpA w 18 0 (upd (mga w 18 0) i (nI x))) (ur D (va_up (dr D) i x)) := ⟨⟨by rw [mga_pAn (by decide)]; exact h.1.1, by rw [mga_pAn (by decide)]; exact h.1.2.1, by rw [mga_pAn (by decide)]; exact h.1.2.2.1, by rw [mga_pAn (by decide)]; exact h.1.2.2.2.1, by rw [mga_pAn (by decide)]; exact h.1.2.2.2.2.1, by rw [mga_pA]; exact upd_nI h.1.2.2.2.2.2⟩, h.2⟩
theorem MYd.pL (h : MYd w D) {x : Nat} : MYd (mpf w 11 0 8 (nI x)) (ul D x) := ⟨h.1, by rw [mgf_pfn (by decide)]; exact h.n, mgf_pf, by rw [mgf_pfn (by decide)]; exact h.e, by rw [mgf_pfn (by decide)]; exact h.g, by rw [mgf_pfn (by decide)]; exact h.a⟩
theorem MYd.pE (h : MYd w D) {x : Nat} : MYd (mpf w 11 0 9 (nI x)) (ue D x) := ⟨h.1, by rw [mgf_pfn (by decide)]; exact h.n, by rw [mgf_pfn (by decide)]; exact h.l, mgf_pf, by rw [mgf_pfn (by decide)]; exact h.g, by rw [mgf_pfn (by decide)]; exact h.a⟩
theorem MYd.pG (h : MYd w D) {x : Nat} : MYd (mpf w 11 0 22 (nI x)) (ug D x) := ⟨h.1, by rw [mgf_pfn (by decide)]; exact h.n, by rw [mgf_pfn (by decide)]; exact h.l, by rw [mgf_pfn (by decide)]; exact h.e, mgf_pf, by rw [mgf_pfn (by decide)]; exact h.a⟩
theorem MYd.pa (h : MYd w D) {x : Nat} {y : Int32} (hy : y = enM x) : MYd (mpf w 11 0 21 y) (ua D x) := ⟨h.1, by rw [mgf_pfn (by decide)]; exact h.n, by rw [mgf_pfn (by decide)]; exact h.l, by rw [mgf_pfn (by decide)]; exact h.e, by rw [mgf_pfn (by decide)]; exact h.g, by rw [mgf_pf]; exact hy⟩
end MO
theorem tb_shr31 : ∀ m, m < 256 → ∀ k, k < 31 → mshr (nI m) (nI k) &&& nI 1 = nI (if m.testBit k then 1 else 0) := by decide +kernel
theorem nI_if (a : Nat) (p : Prop) [Decidable p] : nI a + nI (if p then 1 else 0) = nI (a + if p then 1 else 0) := nI_add _ _
section M1
variable {l : Launch} {d : Nat} {w : mW} {D : Yd}
theorem em_isIn (v a b : Int32) : Cl l d MX3_isIn [mI v, mI a, mI b] w (fun r u => u = w ∧ r = some (mI (bI (decide (a ≤ v ∧ v ≤ b))))) := by
  show Ev l d MX3_isIn 0 [some (mI v), some (mI a), some (mI b)] [] w _
  refine Ev.blk kX3_isIn_0 rfl trivial ?_
  refine Ev.br tX3_isIn_2 rfl (fun c2 => ?_) (fun c2 => ?_)
  · refine Ev.blk kX3_isIn_14 rfl trivial ?_
    refine Ev.iret tX3_isIn_15 rfl rfl ?_
    refine ⟨rfl, ?_⟩
    simp only [Int32.le_iff_toInt_le, Int32.lt_iff_toInt_lt] at *
    first | exact bI_f (by omega) | exact bI_t (by omega)
  · refine Ev.blk kX3_isIn_5 rfl trivial ?_
    refine Ev.br tX3_isIn_7 rfl (fun c7 => ?_) (fun c7 => ?_)
    · refine Ev.blk kX3_isIn_14 rfl trivial ?_
      refine Ev.iret tX3_isIn_15 rfl rfl ?_
      refine ⟨rfl, ?_⟩
      simp only [Int32.le_iff_toInt_le, Int32.lt_iff_toInt_lt] at *
      first | exact bI_f (by omega) | exact bI_t (by omega)
    · refine Ev.blk kX3_isIn_10 rfl trivial ?_
      refine Ev.jmp tX3_isIn_11 ?_
      refine Ev.iret tX3_isIn_15 rfl rfl ?_
      refine ⟨rfl, ?_⟩
      simp only [Int32.le_iff_toInt_le, Int32.lt_iff_toInt_lt] at *
      first | exact bI_f (by omega) | exact bI_t (by omega)
theorem em_bound (n a b : Int32) : Cl l d MX3_bound [mI n, mI a, mI b] w (fun r u => u = w ∧ r = some (mI (outs n a b))) := by
  show Ev l d MX3_bound 0 [some (mI n), some (mI a), some (mI b)] [] w _
  refine Ev.blk kX3_bound_0 rfl trivial ?_
  refine Ev.br tX3_bound_2 rfl (fun c2 => ?_) (fun c2 => ?_)
  · refine Ev.blk kX3_bound_10 rfl trivial ?_
    refine Ev.br tX3_bound_12 rfl (fun c12 => ?_) (fun c12 => ?_)
    · refine Ev.blk kX3_bound_20 rfl trivial ?_
      refine Ev.iret tX3_bound_21 rfl rfl ?_
      refine ⟨rfl, ?_⟩
      unfold outs
      first
        | (rw [if_pos (Int32.not_le.mp c2)])
        | (rw [if_neg (Int32.not_lt.mpr c2), if_neg (Int32.not_lt.mpr c12)])
        | (rw [if_neg (Int32.not_lt.mpr c2), if_pos (Int32.not_le.mp c12)])
    · refine Ev.blk kX3_bound_15 rfl trivial ?_
      refine Ev.jmp tX3_bound_17 ?_
      refine Ev.iret tX3_bound_21 rfl rfl ?_
      refine ⟨rfl, ?_⟩
      unfold outs
      first
        | (rw [if_pos (Int32.not_le.mp c2)])
        | (rw [if_neg (Int32.not_lt.mpr c2), if_neg (Int32.not_lt.mpr c12)])
        | (rw [if_neg (Int32.not_lt.mpr c2), if_pos (Int32.not_le.mp c12)])
  · refine Ev.blk kX3_bound_5 rfl trivial ?_
    refine Ev.jmp tX3_bound_7 ?_
    refine Ev.iret tX3_bound_21 rfl rfl ?_
    refine ⟨rfl, ?_⟩
    unfold outs
    first
      | (rw [if_pos (Int32.not_le.mp c2)])
      | (rw [if_neg (Int32.not_lt.mpr c2), if_neg (Int32.not_lt.mpr c12)])
      | (rw [if_neg (Int32.not_lt.mpr c2), if_pos (Int32.not_le.mp c12)])
theorem em_bits (q : Nat → Bool) : Cl l d MX3_bits [mI (nI (bts q 8))] w (fun r u => u = w ∧ r = some (mI (nI (cnt q 8)))) := by
  show Ev l d MX3_bits 0 [some (mI (nI (bts q 8))), none, none] [] w _
  refine Ev.blk kX3_bits_0 rfl trivial ?_
  refine Ev.for (fun j L u => u = w ∧ L = [some (mI (nI (bts q 8))), some (mI (nI (cnt (fun j => (bts q 8).testBit j) j))), some (mI (nI j))]) 31 ?_ ?_ 0 (Nat.zero_le _) ⟨rfl, rfl⟩
  · rintro L u ⟨rfl, rfl⟩
    have e : cnt (fun j => (bts q 8).testBit j) 31 = cnt q 8 := by
      rw [cnt_cut (n := 8) (fun j hj => by
        have h := bts_bit q 8 j
        rw [hj] at h
        simp at h
        exact h.1) (by decide)]
      exact cnt_congr (fun j hj => by rw [bts_bit]; simp [hj])
    rw [e]
    refine Ev.blk kX3_bits_4 rfl trivial ?_
    refine Ev.br tX3_bits_7 rfl (fun c7 => ?_) (fun c7 => ?_)
    · refine Ev.blk kX3_bits_24 rfl trivial ?_
      refine Ev.iret tX3_bits_25 rfl rfl ?_
      exact ⟨rfl, rfl⟩
    · exact absurd (nI_le (Nat.le_refl _) (by decide)) c7
  · rintro j L u hj ⟨rfl, rfl⟩ k
    refine Ev.blk kX3_bits_4 rfl trivial ?_
    refine Ev.br tX3_bits_7 rfl (fun c7 => ?_) (fun c7 => ?_)
    · exact absurd c7 (nI_ge hj (by decide))
    · refine Ev.blk kX3_bits_10 rfl trivial ?_
      rw [tb_shr31 _ (b256 q) j hj, nI_add, nI_add]
      refine Ev.jmp tX3_bits_21 ?_
      exact k _ _ ⟨rfl, rfl⟩
theorem em_apart {a b : Nat} (ha : a < 1000) (hb : b < 1000) : Cl l d MX3_apart [mI (nI a), mI (nI b)] w (fun r u => u = w ∧ r = some (mI (nI (nd a b)))) := by
  show Ev l d MX3_apart 0 [some (mI (nI a)), some (mI (nI b))] [] w _
  refine Ev.blk kX3_apart_0 rfl trivial ?_
  refine Ev.br tX3_apart_2 rfl (fun c2 => ?_) (fun c2 => ?_)
  · try simp (disch := omega) only [nI_eq, nI_leI, nI_ltI, Classical.not_not] at c2
    refine Ev.blk kX3_apart_11 rfl trivial ?_
    refine Ev.iret tX3_apart_14 rfl rfl ?_
    refine ⟨rfl, ?_⟩
    rw [pk_sub (by omega)]
    unfold nd
    exact congrArg (fun z => some (mI (nI z))) (by omega)
  · try simp (disch := omega) only [nI_eq, nI_leI, nI_ltI, Classical.not_not] at c2
    refine Ev.blk kX3_apart_5 rfl trivial ?_
    refine Ev.jmp tX3_apart_8 ?_
    refine Ev.iret tX3_apart_14 rfl rfl ?_
    refine ⟨rfl, ?_⟩
    rw [pk_sub (by omega)]
    unfold nd
    exact congrArg (fun z => some (mI (nI z))) (by omega)
theorem em_isCell (c : Int32) : Cl l d MX3_isCell [mI c] w (fun r u => u = w ∧ r = some (mI (bI (cellI c)))) := by
  show Ev l d MX3_isCell 0 [some (mI c)] [] w _
  unfold cellI
  refine Ev.blk kX3_isCell_0 rfl trivial ?_
  refine Ev.br tX3_isCell_1 rfl (fun c1 => ?_) (fun c1 => ?_)
  · refine Ev.blk kX3_isCell_14 rfl trivial ?_
    refine Ev.iret tX3_isCell_15 rfl rfl ?_
    refine ⟨rfl, ?_⟩
    simp only [Int32.le_iff_toInt_le, Int32.lt_iff_toInt_lt] at *
    first | exact bI_f (by omega) | exact bI_t (by omega)
  · refine Ev.blk kX3_isCell_4 rfl trivial ?_
    refine Ev.br tX3_isCell_7 rfl (fun c7 => ?_) (fun c7 => ?_)
    · refine Ev.blk kX3_isCell_14 rfl trivial ?_
      refine Ev.iret tX3_isCell_15 rfl rfl ?_
      refine ⟨rfl, ?_⟩
      simp only [Int32.le_iff_toInt_le, Int32.lt_iff_toInt_lt] at *
      first | exact bI_f (by omega) | exact bI_t (by omega)
    · refine Ev.blk kX3_isCell_10 rfl trivial ?_
      refine Ev.jmp tX3_isCell_11 ?_
      refine Ev.iret tX3_isCell_15 rfl rfl ?_
      refine ⟨rfl, ?_⟩
      simp only [Int32.le_iff_toInt_le, Int32.lt_iff_toInt_lt] at *
      first | exact bI_f (by omega) | exact bI_t (by omega)
theorem em_isCellB {c : Int32} {b : Bool} (h : cellI c = b) : Cl l d MX3_isCell [mI c] w (fun r u => u = w ∧ r = some (mI (bI b))) := by
  rw [← h]
  exact em_isCell c
theorem em_farOf (hd : 1 ≤ d) {a b : Nat} (ha : a < 24) (hb : b < 24) : Cl l d MX3_farOf [mI (nI a), mI (nI b)] w (fun r u => u = w ∧ r = some (mI (nI (far a b)))) := by
  show Ev l d MX3_farOf 0 [some (mI (nI a)), some (mI (nI b))] [] w _
  have e1 : nI a / nI 6 = nI (a / 6) := pk_div (by omega) (by omega) (by omega)
  have e2 : mrem (nI a) (nI 6) = nI (a % 6) := mrem_n (by omega) (by omega) (by omega)
  have e3 : nI b / nI 6 = nI (b / 6) := pk_div (by omega) (by omega) (by omega)
  have e4 : mrem (nI b) (nI 6) = nI (b % 6) := mrem_n (by omega) (by omega) (by omega)
  refine Ev.blk kX3_farOf_0 rfl ⟨⟨trivial, (by decide)⟩, (by decide)⟩ ?_
  rw [e1, e3]
  refine Ev.cS (d1 := d - 1) (em_apart (a := a / 6) (b := b / 6) (by omega) (by omega)) tX3_farOf_8 qX3_56 rfl ⟨rfl, rfl, rfl⟩ (by omega) ?_
  rintro _ _ ⟨rfl, rfl⟩
  refine Ev.blk kX3_farOf_11 rfl ⟨⟨trivial, (by decide)⟩, (by decide)⟩ ?_
  rw [e2, e4]
  refine Ev.cS (d1 := d - 1) (em_apart (a := a % 6) (b := b % 6) (by omega) (by omega)) tX3_farOf_19 qX3_56 rfl ⟨rfl, rfl, rfl⟩ (by omega) ?_
  rintro _ _ ⟨rfl, rfl⟩
  refine Ev.blk kX3_farOf_22 rfl trivial ?_
  rw [nI_add]
  refine Ev.iret tX3_farOf_23 rfl rfl ?_
  exact ⟨rfl, rfl⟩
theorem em_isEdge {c : Nat} (hc : c < 24) : Cl l d MX3_isEdge [mI (nI c)] w (fun r u => u = w ∧ r = some (mI (bI (edg c)))) := by
  show Ev l d MX3_isEdge 0 [some (mI (nI c))] [] w _
  have e1 : nI c / nI 6 = nI (c / 6) := pk_div (by omega) (by omega) (by omega)
  have e2 : mrem (nI c) (nI 6) = nI (c % 6) := mrem_n (by omega) (by omega) (by omega)
  refine Ev.blk kX3_isEdge_0 rfl ⟨trivial, (by decide)⟩ ?_
  try simp only [e1, e2]
  refine Ev.br tX3_isEdge_4 rfl (fun c4 => ?_) (fun c4 => ?_)
  · try simp (disch := omega) only [nI_eq, nI_leI, nI_ltI, Classical.not_not] at c4
    refine Ev.blk kX3_isEdge_30 rfl trivial ?_
    try simp only [e1, e2]
    refine Ev.jmp tX3_isEdge_31 ?_
    refine Ev.iret tX3_isEdge_35 rfl rfl ?_
    refine ⟨rfl, ?_⟩
    first
      | (rw [show edg c = true by unfold edg; simp; omega]; rfl)
      | (rw [show edg c = false by unfold edg; simp; omega]; rfl)
  · try simp (disch := omega) only [nI_eq, nI_leI, nI_ltI, Classical.not_not] at c4
    refine Ev.blk kX3_isEdge_7 rfl ⟨trivial, (by decide)⟩ ?_
    try simp only [e1, e2]
    refine Ev.br tX3_isEdge_12 rfl (fun c12 => ?_) (fun c12 => ?_)
    · try simp (disch := omega) only [nI_eq, nI_leI, nI_ltI, Classical.not_not] at c12
      refine Ev.blk kX3_isEdge_30 rfl trivial ?_
      try simp only [e1, e2]
      refine Ev.jmp tX3_isEdge_31 ?_
      refine Ev.iret tX3_isEdge_35 rfl rfl ?_
      refine ⟨rfl, ?_⟩
      first
        | (rw [show edg c = true by unfold edg; simp; omega]; rfl)
        | (rw [show edg c = false by unfold edg; simp; omega]; rfl)
    · try simp (disch := omega) only [nI_eq, nI_leI, nI_ltI, Classical.not_not] at c12
      refine Ev.blk kX3_isEdge_15 rfl ⟨trivial, (by decide)⟩ ?_
      try simp only [e1, e2]
      refine Ev.br tX3_isEdge_19 rfl (fun c19 => ?_) (fun c19 => ?_)
      · try simp (disch := omega) only [nI_eq, nI_leI, nI_ltI, Classical.not_not] at c19
        refine Ev.blk kX3_isEdge_30 rfl trivial ?_
        try simp only [e1, e2]
        refine Ev.jmp tX3_isEdge_31 ?_
        refine Ev.iret tX3_isEdge_35 rfl rfl ?_
        refine ⟨rfl, ?_⟩
        first
          | (rw [show edg c = true by unfold edg; simp; omega]; rfl)
          | (rw [show edg c = false by unfold edg; simp; omega]; rfl)
      · try simp (disch := omega) only [nI_eq, nI_leI, nI_ltI, Classical.not_not] at c19
        refine Ev.blk kX3_isEdge_22 rfl ⟨trivial, (by decide)⟩ ?_
        try simp only [e1, e2]
        refine Ev.br tX3_isEdge_27 rfl (fun c27 => ?_) (fun c27 => ?_)
        · try simp (disch := omega) only [nI_eq, nI_leI, nI_ltI, Classical.not_not] at c27
          refine Ev.blk kX3_isEdge_34 rfl trivial ?_
          try simp only [e1, e2]
          refine Ev.iret tX3_isEdge_35 rfl rfl ?_
          refine ⟨rfl, ?_⟩
          first
            | (rw [show edg c = true by unfold edg; simp; omega]; rfl)
            | (rw [show edg c = false by unfold edg; simp; omega]; rfl)
        · try simp (disch := omega) only [nI_eq, nI_leI, nI_ltI, Classical.not_not] at c27
          refine Ev.blk kX3_isEdge_30 rfl trivial ?_
          try simp only [e1, e2]
          refine Ev.jmp tX3_isEdge_31 ?_
          refine Ev.iret tX3_isEdge_35 rfl rfl ?_
          refine ⟨rfl, ?_⟩
          first
            | (rw [show edg c = true by unfold edg; simp; omega]; rfl)
            | (rw [show edg c = false by unfold edg; simp; omega]; rfl)
theorem em_isChild (hM : MYd w D) (c : Int32) : Cl l d MX3_isChild [mR 11 0, mI c] w (fun r u => u = w ∧ r = some (mI (bI (hasI D c)))) := by
  show Ev l d MX3_isChild 0 [some (mR 11 0), some (mI c)] [] w _
  have hn := hM.n
  refine Ev.blk kX3_isChild_0 rfl trivial ?_
  try simp only [hn]
  refine Ev.br tX3_isChild_1 rfl (fun c1 => ?_) (fun c1 => ?_)
  · refine Ev.blk kX3_isChild_16 rfl trivial ?_
    try simp only [hn]
    refine Ev.iret tX3_isChild_17 rfl rfl ?_
    refine ⟨rfl, ?_⟩
    unfold hasI
    clear hM hn
    simp only [Int32.le_iff_toInt_le, Int32.lt_iff_toInt_lt] at *
    first | exact bI_f (by omega) | exact bI_t (by omega)
  · refine Ev.blk kX3_isChild_4 rfl trivial ?_
    try simp only [hn]
    refine Ev.br tX3_isChild_9 rfl (fun c9 => ?_) (fun c9 => ?_)
    · refine Ev.blk kX3_isChild_16 rfl trivial ?_
      try simp only [hn]
      refine Ev.iret tX3_isChild_17 rfl rfl ?_
      refine ⟨rfl, ?_⟩
      unfold hasI
      clear hM hn
      simp only [Int32.le_iff_toInt_le, Int32.lt_iff_toInt_lt] at *
      first | exact bI_f (by omega) | exact bI_t (by omega)
    · refine Ev.blk kX3_isChild_12 rfl trivial ?_
      try simp only [hn]
      refine Ev.jmp tX3_isChild_13 ?_
      refine Ev.iret tX3_isChild_17 rfl rfl ?_
      refine ⟨rfl, ?_⟩
      unfold hasI
      clear hM hn
      simp only [Int32.le_iff_toInt_le, Int32.lt_iff_toInt_lt] at *
      first | exact bI_f (by omega) | exact bI_t (by omega)
theorem em_isChildB (hM : MYd w D) {c : Int32} {b : Bool} (h : hasI D c = b) : Cl l d MX3_isChild [mR 11 0, mI c] w (fun r u => u = w ∧ r = some (mI (bI b))) := by
  rw [← h]
  exact em_isChild hM c
theorem em_isCatcher (hM : MYd w D) (hI : YI D) {i : Nat} (hi : i < dn D) : Cl l d MX3_isCatcher [mR 11 0, mI (nI i)] w (fun r u => u = w ∧ r = some (mI (bI (isC D i)))) := by
  show Ev l d MX3_isCatcher 0 [some (mR 11 0), some (mI (nI i))] [] w _
  have h8 := hI.1
  have hi8 : i < 8 := by omega
  have hk8 := hI.kd hi
  refine Ev.blk kX3_isCatcher_0 rfl ⟨trivial, vinN hi8 (by decide)⟩ ?_
  simp only [ix8 hi8, hM.k hi]
  refine Ev.br tX3_isCatcher_7 rfl (fun c7 => ?_) (fun c7 => ?_)
  · try simp (disch := omega) only [nI_eq, nI_leI, nI_ltI, Classical.not_not] at c7
    refine Ev.blk kX3_isCatcher_14 rfl trivial ?_
    refine Ev.iret tX3_isCatcher_15 rfl rfl ?_
    refine ⟨rfl, ?_⟩
    unfold isC
    first | exact bI_f (by omega) | exact bI_t (by omega)
  · try simp (disch := omega) only [nI_eq, nI_leI, nI_ltI, Classical.not_not] at c7
    refine Ev.blk kX3_isCatcher_10 rfl trivial ?_
    refine Ev.jmp tX3_isCatcher_11 ?_
    refine Ev.iret tX3_isCatcher_15 rfl rfl ?_
    refine ⟨rfl, ?_⟩
    unfold isC
    first | exact bI_f (by omega) | exact bI_t (by omega)
theorem em_isCatcherB (hM : MYd w D) (hI : YI D) {i : Nat} (hi : i < dn D) {b : Bool} (h : isC D i = b) : Cl l d MX3_isCatcher [mR 11 0, mI (nI i)] w (fun r u => u = w ∧ r = some (mI (bI b))) := by
  rw [← h]
  exact em_isCatcher hM hI hi
theorem em_standBits (hM : MYd w D) (hI : YI D) : Cl l d MX3_standBits [mR 11 0] w (fun r u => u = w ∧ r = some (mI (nI (bts (ds D) 8)))) := by
  show Ev l d MX3_standBits 0 [some (mR 11 0), none, none] [] w _
  have h8 := hI.1
  have hn := hM.n
  refine Ev.blk kX3_standBits_0 rfl trivial ?_
  have hz : ∀ j, j < 8 → mshl (nI 0) (nI j) = nI 0 := by decide
  have hor : ∀ x, nI x ||| nI 0 = nI x := fun x => by rw [nI_or, show x ||| 0 = x by simp]
  refine Ev.for (fun j L u => u = w ∧ L = [some (mR 11 0), some (mI (nI (bts (ds D) j))), some (mI (nI j))]) (dn D) ?_ ?_ 0 (Nat.zero_le _) ⟨rfl, rfl⟩
  · rintro L u ⟨rfl, rfl⟩
    rw [bts_cut (q := ds D) (n := dn D) (fun j hj => (hI.st hj).1) h8]
    refine Ev.blk kX3_standBits_4 rfl trivial ?_
    simp only [hn]
    refine Ev.br tX3_standBits_9 rfl (fun c9 => ?_) (fun c9 => ?_)
    · refine Ev.blk kX3_standBits_29 rfl trivial ?_
      refine Ev.iret tX3_standBits_30 rfl rfl ?_
      exact ⟨rfl, rfl⟩
    · exact absurd (nI_le (Nat.le_refl _) (by omega)) c9
  · rintro j L u hj ⟨rfl, rfl⟩ k
    have hj8 : j < 8 := by omega
    have hs : nI (bts (ds D) j) ||| mshl (bI (ds D j)) (nI j) = nI (bts (ds D) (j + 1)) := by
      show _ = nI (bts (ds D) j + (if ds D j = true then 2 ^ j else 0))
      cases h : ds D j with
      | true => rw [if_pos rfl]; exact bts_s _ _ (by omega)
      | false => rw [if_neg (by decide)]; show nI (bts (ds D) j) ||| mshl (nI 0) (nI j) = _; rw [hz j hj8, hor]; rfl
    refine Ev.blk kX3_standBits_4 rfl trivial ?_
    simp only [hn]
    refine Ev.br tX3_standBits_9 rfl (fun c9 => ?_) (fun c9 => ?_)
    · exact absurd c9 (nI_ge hj (by omega))
    · refine Ev.blk kX3_standBits_12 rfl ⟨trivial, vinN hj8 (by decide)⟩ ?_
      simp only [ix8 hj8, hM.s hj8, hs, nI_add]
      refine Ev.jmp tX3_standBits_26 ?_
      exact k _ _ ⟨rfl, rfl⟩
theorem em_runnersMany (hM : MYd w D) (hI : YI D) (hd : 1 ≤ d) : Cl l d MX3_runnersMany [mR 11 0] w (fun r u => u = w ∧ r = some (mI (nI (plN D)))) := by
  show Ev l d MX3_runnersMany 0 [some (mR 11 0), none, none] [] w _
  have h8 := hI.1
  have hn := hM.n
  refine Ev.blk kX3_runnersMany_0 rfl trivial ?_
  refine Ev.for (fun j L u => u = w ∧ L = [some (mR 11 0), some (mI (nI (cnt (fun j => !isC D j) j))), some (mI (nI j))]) (dn D) ?_ ?_ 0 (Nat.zero_le _) ⟨rfl, rfl⟩
  · rintro L u ⟨rfl, rfl⟩
    refine Ev.blk kX3_runnersMany_4 rfl trivial ?_
    simp only [hn]
    refine Ev.br tX3_runnersMany_9 rfl (fun c9 => ?_) (fun c9 => ?_)
    · refine Ev.blk kX3_runnersMany_34 rfl trivial ?_
      refine Ev.iret tX3_runnersMany_35 rfl rfl ?_
      exact ⟨rfl, rfl⟩
    · exact absurd (nI_le (Nat.le_refl _) (by omega)) c9
  · rintro j L u hj ⟨rfl, rfl⟩ k
    cases hc : isC D j with
    | true =>
      have e : cnt (fun j => !isC D j) (j + 1) = cnt (fun j => !isC D j) j + 0 := by
        show cnt (fun j => !isC D j) j + (if (!isC D j) = true then 1 else 0) = _
        rw [hc]
        rfl
      refine Ev.blk kX3_runnersMany_4 rfl trivial ?_
      simp only [hn]
      refine Ev.br tX3_runnersMany_9 rfl (fun c9 => ?_) (fun c9 => ?_)
      · exact absurd c9 (nI_ge hj (by omega))
      · refine Ev.blk kX3_runnersMany_12 rfl trivial ?_
        refine Ev.cV (d1 := d - 1) (em_isCatcherB hM hI hj hc) tX3_runnersMany_15 qX3_109 rfl rfl (by decide) ⟨rfl, rfl, rfl⟩ (by omega) ?_
        rintro _ _ ⟨rfl, rfl⟩
        refine Ev.br tX3_runnersMany_18 rfl (fun c18 => ?_) (fun c18 => ?_)
        · exact absurd c18 (by decide)
        · refine Ev.blk kX3_runnersMany_21 rfl trivial ?_
          refine Ev.jmp tX3_runnersMany_22 ?_
          refine Ev.blk kX3_runnersMany_26 rfl trivial ?_
          refine Ev.jmp tX3_runnersMany_31 ?_
          exact k _ _ ⟨rfl, by rw [e, nI_add, nI_add]⟩
    | false =>
      have e : cnt (fun j => !isC D j) (j + 1) = cnt (fun j => !isC D j) j + 1 := by
        show cnt (fun j => !isC D j) j + (if (!isC D j) = true then 1 else 0) = _
        rw [hc]
        rfl
      refine Ev.blk kX3_runnersMany_4 rfl trivial ?_
      simp only [hn]
      refine Ev.br tX3_runnersMany_9 rfl (fun c9 => ?_) (fun c9 => ?_)
      · exact absurd c9 (nI_ge hj (by omega))
      · refine Ev.blk kX3_runnersMany_12 rfl trivial ?_
        refine Ev.cV (d1 := d - 1) (em_isCatcherB hM hI hj hc) tX3_runnersMany_15 qX3_109 rfl rfl (by decide) ⟨rfl, rfl, rfl⟩ (by omega) ?_
        rintro _ _ ⟨rfl, rfl⟩
        refine Ev.br tX3_runnersMany_18 rfl (fun c18 => ?_) (fun c18 => ?_)
        · refine Ev.blk kX3_runnersMany_25 rfl trivial ?_
          refine Ev.blk kX3_runnersMany_26 rfl trivial ?_
          refine Ev.jmp tX3_runnersMany_31 ?_
          exact k _ _ ⟨rfl, by rw [e, nI_add, nI_add]⟩
        · exact absurd rfl c18
theorem em_stepOf {c way : Nat} (hc : c < 24) (hw : way < 5) : Cl l d MX3_stepOf [mI (nI c), mI (nI way)] w (fun r u => u = w ∧ r = some (mI (oM9 (stp c way)))) := by
  show Ev l d MX3_stepOf 0 [some (mI (nI c)), some (mI (nI way))] [] w _
  have e2 : mrem (nI c) (nI 6) = nI (c % 6) := mrem_n (by omega) (by omega) (by omega)
  refine Ev.blk kX3_stepOf_0 rfl trivial ?_
  match way, hw with
  | 0, _ =>
    refine Ev.sw (tgt := 32) tX3_stepOf_1 (off := 31) (by decide) (by decide) ?_
    refine Ev.blk kX3_stepOf_32 rfl trivial ?_
    refine Ev.iret tX3_stepOf_33 rfl rfl ?_
    exact ⟨rfl, rfl⟩
  | 1, _ =>
    refine Ev.sw (tgt := 34) tX3_stepOf_1 (off := 33) (by decide) (by decide) ?_
    refine Ev.blk kX3_stepOf_34 rfl trivial ?_
    refine Ev.br tX3_stepOf_37 rfl (fun c37 => ?_) (fun c37 => ?_)
    · try simp (disch := omega) only [nI_eq, nI_leI, nI_ltI, Classical.not_not] at c37
      refine Ev.blk kX3_stepOf_47 rfl trivial ?_
      refine Ev.iret tX3_stepOf_49 rfl rfl ?_
      refine ⟨rfl, ?_⟩
      simp only [stp]
      first
        | (rw [if_neg (by omega)]; rfl)
        | (rw [if_pos (by omega), pk_sub (by omega)]; rfl)
    · try simp (disch := omega) only [nI_eq, nI_leI, nI_ltI, Classical.not_not] at c37
      refine Ev.blk kX3_stepOf_40 rfl trivial ?_
      refine Ev.jmp tX3_stepOf_44 ?_
      refine Ev.iret tX3_stepOf_49 rfl rfl ?_
      refine ⟨rfl, ?_⟩
      simp only [stp]
      first
        | (rw [if_neg (by omega)]; rfl)
        | (rw [if_pos (by omega), pk_sub (by omega)]; rfl)
  | 2, _ =>
    refine Ev.sw (tgt := 50) tX3_stepOf_1 (off := 49) (by decide) (by decide) ?_
    refine Ev.blk kX3_stepOf_50 rfl trivial ?_
    rw [nI_add]
    refine Ev.br tX3_stepOf_56 rfl (fun c56 => ?_) (fun c56 => ?_)
    · try simp (disch := omega) only [nI_eq, nI_leI, nI_ltI, Classical.not_not] at c56
      refine Ev.blk kX3_stepOf_66 rfl trivial ?_
      refine Ev.iret tX3_stepOf_68 rfl rfl ?_
      refine ⟨rfl, ?_⟩
      simp only [stp]
      first
        | (rw [if_neg (by omega)]; rfl)
        | (rw [if_pos (by omega), nI_add]; rfl)
    · try simp (disch := omega) only [nI_eq, nI_leI, nI_ltI, Classical.not_not] at c56
      refine Ev.blk kX3_stepOf_59 rfl trivial ?_
      refine Ev.jmp tX3_stepOf_63 ?_
      refine Ev.iret tX3_stepOf_68 rfl rfl ?_
      refine ⟨rfl, ?_⟩
      simp only [stp]
      first
        | (rw [if_neg (by omega)]; rfl)
        | (rw [if_pos (by omega), nI_add]; rfl)
  | 3, _ =>
    refine Ev.sw (tgt := 69) tX3_stepOf_1 (off := 68) (by decide) (by decide) ?_
    refine Ev.blk kX3_stepOf_69 rfl ⟨trivial, by decide⟩ ?_
    rw [e2]
    refine Ev.br tX3_stepOf_73 rfl (fun c73 => ?_) (fun c73 => ?_)
    · try simp (disch := omega) only [nI_eq, nI_leI, nI_ltI, Classical.not_not] at c73
      refine Ev.blk kX3_stepOf_82 rfl trivial ?_
      refine Ev.iret tX3_stepOf_84 rfl rfl ?_
      refine ⟨rfl, ?_⟩
      simp only [stp]
      first
        | (rw [if_neg (by omega)]; rfl)
        | (rw [if_pos (by omega), pk_sub (by omega)]; rfl)
    · try simp (disch := omega) only [nI_eq, nI_leI, nI_ltI, Classical.not_not] at c73
      refine Ev.blk kX3_stepOf_76 rfl trivial ?_
      refine Ev.jmp tX3_stepOf_79 ?_
      refine Ev.iret tX3_stepOf_84 rfl rfl ?_
      refine ⟨rfl, ?_⟩
      simp only [stp]
      first
        | (rw [if_neg (by omega)]; rfl)
        | (rw [if_pos (by omega), pk_sub (by omega)]; rfl)
  | 4, _ =>
    refine Ev.sw (tgt := 85) tX3_stepOf_1 (off := 84) (by decide) (by decide) ?_
    refine Ev.blk kX3_stepOf_85 rfl ⟨trivial, by decide⟩ ?_
    rw [e2]
    refine Ev.br tX3_stepOf_90 rfl (fun c90 => ?_) (fun c90 => ?_)
    · try simp (disch := omega) only [nI_eq, nI_leI, nI_ltI, Classical.not_not] at c90
      refine Ev.blk kX3_stepOf_99 rfl trivial ?_
      refine Ev.iret tX3_stepOf_101 rfl rfl ?_
      refine ⟨rfl, ?_⟩
      simp only [stp]
      first
        | (rw [if_neg (by omega)]; rfl)
        | (rw [if_pos (by omega), nI_add]; rfl)
    · try simp (disch := omega) only [nI_eq, nI_leI, nI_ltI, Classical.not_not] at c90
      refine Ev.blk kX3_stepOf_93 rfl trivial ?_
      refine Ev.jmp tX3_stepOf_96 ?_
      refine Ev.iret tX3_stepOf_101 rfl rfl ?_
      refine ⟨rfl, ?_⟩
      simp only [stp]
      first
        | (rw [if_neg (by omega)]; rfl)
        | (rw [if_pos (by omega), nI_add]; rfl)
theorem em_far (hM : MYd w D) (hI : YI D) (hd : 2 ≤ d) {c : Nat} (hc : c < 24) : Cl l d MX3_farFromCatchers [mR 11 0, mI (nI c)] w (fun r u => u = w ∧ r = some (mI (nI (cap D c)))) := by
  show Ev l d MX3_farFromCatchers 0 [some (mR 11 0), some (mI (nI c)), none, none] [] w _
  have h8 := hI.1
  have hn := hM.n
  refine Ev.blk kX3_farFromCatchers_0 rfl trivial ?_
  refine Ev.for (fun j L u => u = w ∧ L = [some (mR 11 0), some (mI (nI c)), some (mI (nI (capL D c j))), some (mI (nI j))]) (dn D) ?_ ?_ 0 (Nat.zero_le _) ⟨rfl, rfl⟩
  · rintro L u ⟨rfl, rfl⟩
    refine Ev.blk kX3_farFromCatchers_5 rfl trivial ?_
    simp only [hn]
    refine Ev.br tX3_farFromCatchers_10 rfl (fun c10 => ?_) (fun c10 => ?_)
    · refine Ev.blk kX3_farFromCatchers_52 rfl trivial ?_
      refine Ev.iret tX3_farFromCatchers_53 rfl rfl ?_
      exact ⟨rfl, rfl⟩
    · exact absurd (nI_le (Nat.le_refl _) (by omega)) c10
  · rintro j L u hj ⟨rfl, rfl⟩ k
    have hj8 : j < 8 := by omega
    have hcj := hI.cl hj
    have hfr := far_le c hc (dc D j) hcj
    have hcl := capL_le D c j
    cases hcj2 : isC D j with
    | true =>
      have e : capL D c (j + 1) = if far c (dc D j) < capL D c j then far c (dc D j) else capL D c j := if_pos hcj2
      refine Ev.blk kX3_farFromCatchers_5 rfl trivial ?_
      simp only [hn]
      refine Ev.br tX3_farFromCatchers_10 rfl (fun c10 => ?_) (fun c10 => ?_)
      · exact absurd c10 (nI_ge hj (by omega))
      · refine Ev.blk kX3_farFromCatchers_13 rfl trivial ?_
        refine Ev.cV (d1 := d - 1) (em_isCatcherB hM hI hj hcj2) tX3_farFromCatchers_15 qX3_109 rfl rfl (by decide) ⟨rfl, rfl, rfl⟩ (by omega) ?_
        rintro _ _ ⟨rfl, rfl⟩
        refine Ev.br tX3_farFromCatchers_18 rfl (fun c18 => ?_) (fun c18 => ?_)
        · exact absurd c18 (by decide)
        · refine Ev.blk kX3_farFromCatchers_21 rfl ⟨trivial, vinN hj8 (by decide)⟩ ?_
          simp only [ix8 hj8, hM.c hj]
          refine Ev.cS (d1 := d - 1) (em_farOf (by omega) hc hcj) tX3_farFromCatchers_28 qX3_146 rfl ⟨rfl, rfl, rfl⟩ (by omega) ?_
          rintro _ _ ⟨rfl, rfl⟩
          refine Ev.blk kX3_farFromCatchers_31 rfl trivial ?_
          refine Ev.br tX3_farFromCatchers_32 rfl (fun c32 => ?_) (fun c32 => ?_)
          · rw [nI_leI (by omega) (by omega)] at c32
            refine Ev.blk kX3_farFromCatchers_46 rfl trivial ?_
            refine Ev.jmp tX3_farFromCatchers_49 ?_
            refine k _ _ ⟨rfl, ?_⟩
            rw [e, nI_add]
            first
              | (rw [if_neg (by omega)])
              | (rw [if_pos (by omega)])
          · rw [nI_leI (by omega) (by omega)] at c32
            refine Ev.blk kX3_farFromCatchers_35 rfl ⟨trivial, vinN hj8 (by decide)⟩ ?_
            simp only [ix8 hj8, hM.c hj]
            refine Ev.cS (d1 := d - 1) (em_farOf (by omega) hc hcj) tX3_farFromCatchers_42 qX3_146 rfl ⟨rfl, rfl, rfl⟩ (by omega) ?_
            rintro _ _ ⟨rfl, rfl⟩
            refine Ev.blk kX3_farFromCatchers_45 rfl trivial ?_
            refine Ev.blk kX3_farFromCatchers_46 rfl trivial ?_
            refine Ev.jmp tX3_farFromCatchers_49 ?_
            refine k _ _ ⟨rfl, ?_⟩
            rw [e, nI_add]
            first
              | (rw [if_neg (by omega)])
              | (rw [if_pos (by omega)])
    | false =>
      have e : capL D c (j + 1) = capL D c j := if_neg (by rw [hcj2]; decide)
      refine Ev.blk kX3_farFromCatchers_5 rfl trivial ?_
      simp only [hn]
      refine Ev.br tX3_farFromCatchers_10 rfl (fun c10 => ?_) (fun c10 => ?_)
      · exact absurd c10 (nI_ge hj (by omega))
      · refine Ev.blk kX3_farFromCatchers_13 rfl trivial ?_
        refine Ev.cV (d1 := d - 1) (em_isCatcherB hM hI hj hcj2) tX3_farFromCatchers_15 qX3_109 rfl rfl (by decide) ⟨rfl, rfl, rfl⟩ (by omega) ?_
        rintro _ _ ⟨rfl, rfl⟩
        refine Ev.br tX3_farFromCatchers_18 rfl (fun c18 => ?_) (fun c18 => ?_)
        · refine Ev.blk kX3_farFromCatchers_46 rfl trivial ?_
          refine Ev.jmp tX3_farFromCatchers_49 ?_
          exact k _ _ ⟨rfl, by rw [e, nI_add]⟩
        · exact absurd rfl c18
def aw1 (D : Yd) (c : Nat) : Nat → Nat
  | 0 => c
  | k + 1 => awS D c (aw1 D c k) (k + 1)
theorem aw1_lt {D : Yd} {c : Nat} (hc : c < 24) : ∀ k, k ≤ 4 → aw1 D c k < 24
  | 0, _ => hc
  | k + 1, h => awS_lt hc (aw1_lt hc k (by omega)) (by omega)
theorem em_away (hM : MYd w D) (hI : YI D) (hd : 3 ≤ d) {c : Nat} (hc : c < 24) : Cl l d MX3_away [mR 11 0, mI (nI c)] w (fun r u => u = w ∧ r = some (mI (nI (awy D c)))) := by
  show Ev l d MX3_away 0 [some (mR 11 0), some (mI (nI c)), none, none, none] [] w _
  refine Ev.blk kX3_away_0 rfl trivial ?_
  refine Ev.for (fun j L u => u = w ∧ ∃ z, L = [some (mR 11 0), some (mI (nI c)), some (mI (nI (aw1 D c j))), some (mI (nI (j + 1))), z]) 4 ?_ ?_ 0 (Nat.zero_le _) ⟨rfl, none, rfl⟩
  · rintro L u ⟨rfl, z, rfl⟩
    refine Ev.blk kX3_away_4 rfl trivial ?_
    refine Ev.br tX3_away_6 rfl (fun c6 => ?_) (fun c6 => ?_)
    · refine Ev.blk kX3_away_44 rfl trivial ?_
      refine Ev.iret tX3_away_45 rfl rfl ?_
      exact ⟨rfl, rfl⟩
    · exact absurd (nI_le (Nat.le_refl _) (by decide)) c6
  · rintro j L u hj ⟨rfl, z, rfl⟩ k
    have hb := aw1_lt (D := D) hc j (by omega)
    cases hs : stp c (j + 1) with
    | none =>
      have e : aw1 D c (j + 1) = aw1 D c j := by
        show awS D c (aw1 D c j) (j + 1) = _
        unfold awS
        rw [hs]
      refine Ev.blk kX3_away_4 rfl trivial ?_
      refine Ev.br tX3_away_6 rfl (fun c6 => ?_) (fun c6 => ?_)
      · exact absurd c6 (nI_ge (by omega) (by decide))
      · refine Ev.blk kX3_away_9 rfl trivial ?_
        refine Ev.cS (d1 := d - 1) (em_stepOf hc (show j + 1 < 5 by omega)) tX3_away_11 qX3_149 rfl ⟨rfl, rfl, rfl⟩ (by omega) ?_
        rintro _ _ ⟨rfl, rfl⟩
        rw [hs]
        refine Ev.blk kX3_away_14 rfl trivial ?_
        refine Ev.br tX3_away_18 rfl (fun c18 => ?_) (fun c18 => ?_)
        · refine Ev.blk kX3_away_38 rfl trivial ?_
          refine Ev.jmp tX3_away_41 ?_
          exact k _ _ ⟨rfl, some (mI (oM9 none)), by rw [e, nI_add]⟩
        · exact absurd (show oM9 none < nI 0 by decide) c18
    | some t =>
      have ht := stp_in hc (show j + 1 < 5 by omega) hs
      have e : aw1 D c (j + 1) = if cap D (aw1 D c j) < cap D t then t else aw1 D c j := by
        show awS D c (aw1 D c j) (j + 1) = _
        unfold awS
        rw [hs]
      have h1 := cap_le D t
      have h2 := cap_le D (aw1 D c j)
      refine Ev.blk kX3_away_4 rfl trivial ?_
      refine Ev.br tX3_away_6 rfl (fun c6 => ?_) (fun c6 => ?_)
      · exact absurd c6 (nI_ge (by omega) (by decide))
      · refine Ev.blk kX3_away_9 rfl trivial ?_
        refine Ev.cS (d1 := d - 1) (em_stepOf hc (show j + 1 < 5 by omega)) tX3_away_11 qX3_149 rfl ⟨rfl, rfl, rfl⟩ (by omega) ?_
        rintro _ _ ⟨rfl, rfl⟩
        rw [hs]
        refine Ev.blk kX3_away_14 rfl trivial ?_
        refine Ev.br tX3_away_18 rfl (fun c18 => ?_) (fun c18 => ?_)
        · exact absurd c18 (nI_nlt (Nat.zero_le _) (by omega))
        · refine Ev.blk kX3_away_21 rfl trivial ?_
          refine Ev.cV (d1 := d - 1) (em_far hM hI (by omega) ht) tX3_away_24 qX3_152 rfl rfl (by decide) ⟨rfl, rfl, rfl⟩ (by omega) ?_
          rintro _ _ ⟨rfl, rfl⟩
          refine Ev.blk kX3_away_27 rfl trivial ?_
          refine Ev.cV (d1 := d - 1) (em_far hM hI (by omega) hb) tX3_away_29 qX3_152 rfl rfl (by decide) ⟨rfl, rfl, rfl⟩ (by omega) ?_
          rintro _ _ ⟨rfl, rfl⟩
          refine Ev.br tX3_away_32 rfl (fun c32 => ?_) (fun c32 => ?_)
          · rw [nI_leI (by omega) (by omega)] at c32
            refine Ev.blk kX3_away_38 rfl trivial ?_
            refine Ev.jmp tX3_away_41 ?_
            refine k _ _ ⟨rfl, some (mI (oM9 (some t))), ?_⟩
            rw [e, nI_add]
            first
              | (rw [if_neg (by omega)])
              | (rw [if_pos (by omega)]; rfl)
          · rw [nI_leI (by omega) (by omega)] at c32
            refine Ev.blk kX3_away_35 rfl trivial ?_
            refine Ev.blk kX3_away_38 rfl trivial ?_
            refine Ev.jmp tX3_away_41 ?_
            refine k _ _ ⟨rfl, some (mI (oM9 (some t))), ?_⟩
            rw [e, nI_add]
            first
              | (rw [if_neg (by omega)])
              | (rw [if_pos (by omega)]; rfl)
def tw1 (c a : Nat) : Nat → Nat
  | 0 => c
  | k + 1 => twS c a (tw1 c a k) (k + 1)
theorem tw1_lt {c a : Nat} (hc : c < 24) : ∀ k, k ≤ 4 → tw1 c a k < 24
  | 0, _ => hc
  | k + 1, h => twS_lt hc (tw1_lt hc k (by omega)) (by omega)
theorem em_toward (hd : 2 ≤ d) {c a : Nat} (hc : c < 24) (ha : a < 24) : Cl l d MX3_toward [mI (nI c), mI (nI a)] w (fun r u => u = w ∧ r = some (mI (nI (twd c a)))) := by
  show Ev l d MX3_toward 0 [some (mI (nI c)), some (mI (nI a)), none, none, none] [] w _
  refine Ev.blk kX3_toward_0 rfl trivial ?_
  refine Ev.for (fun j L u => u = w ∧ ∃ z, L = [some (mI (nI c)), some (mI (nI a)), some (mI (nI (tw1 c a j))), some (mI (nI (j + 1))), z]) 4 ?_ ?_ 0 (Nat.zero_le _) ⟨rfl, none, rfl⟩
  · rintro L u ⟨rfl, z, rfl⟩
    refine Ev.blk kX3_toward_4 rfl trivial ?_
    refine Ev.br tX3_toward_6 rfl (fun c6 => ?_) (fun c6 => ?_)
    · refine Ev.blk kX3_toward_44 rfl trivial ?_
      refine Ev.iret tX3_toward_45 rfl rfl ?_
      exact ⟨rfl, rfl⟩
    · exact absurd (nI_le (Nat.le_refl _) (by decide)) c6
  · rintro j L u hj ⟨rfl, z, rfl⟩ k
    have hb := tw1_lt (a := a) hc j (by omega)
    cases hs : stp c (j + 1) with
    | none =>
      have e : tw1 c a (j + 1) = tw1 c a j := by
        show twS c a (tw1 c a j) (j + 1) = _
        unfold twS
        rw [hs]
      refine Ev.blk kX3_toward_4 rfl trivial ?_
      refine Ev.br tX3_toward_6 rfl (fun c6 => ?_) (fun c6 => ?_)
      · exact absurd c6 (nI_ge (by omega) (by decide))
      · refine Ev.blk kX3_toward_9 rfl trivial ?_
        refine Ev.cS (d1 := d - 1) (em_stepOf hc (show j + 1 < 5 by omega)) tX3_toward_11 qX3_149 rfl ⟨rfl, rfl, rfl⟩ (by omega) ?_
        rintro _ _ ⟨rfl, rfl⟩
        rw [hs]
        refine Ev.blk kX3_toward_14 rfl trivial ?_
        refine Ev.br tX3_toward_18 rfl (fun c18 => ?_) (fun c18 => ?_)
        · refine Ev.blk kX3_toward_38 rfl trivial ?_
          refine Ev.jmp tX3_toward_41 ?_
          exact k _ _ ⟨rfl, some (mI (oM9 none)), by rw [e, nI_add]⟩
        · exact absurd (show oM9 none < nI 0 by decide) c18
    | some t =>
      have ht := stp_in hc (show j + 1 < 5 by omega) hs
      have e : tw1 c a (j + 1) = if far t a < far (tw1 c a j) a then t else tw1 c a j := by
        show twS c a (tw1 c a j) (j + 1) = _
        unfold twS
        rw [hs]
      have h1 := far_le t ht a ha
      have h2 := far_le (tw1 c a j) hb a ha
      refine Ev.blk kX3_toward_4 rfl trivial ?_
      refine Ev.br tX3_toward_6 rfl (fun c6 => ?_) (fun c6 => ?_)
      · exact absurd c6 (nI_ge (by omega) (by decide))
      · refine Ev.blk kX3_toward_9 rfl trivial ?_
        refine Ev.cS (d1 := d - 1) (em_stepOf hc (show j + 1 < 5 by omega)) tX3_toward_11 qX3_149 rfl ⟨rfl, rfl, rfl⟩ (by omega) ?_
        rintro _ _ ⟨rfl, rfl⟩
        rw [hs]
        refine Ev.blk kX3_toward_14 rfl trivial ?_
        refine Ev.br tX3_toward_18 rfl (fun c18 => ?_) (fun c18 => ?_)
        · exact absurd c18 (nI_nlt (Nat.zero_le _) (by omega))
        · refine Ev.blk kX3_toward_21 rfl trivial ?_
          refine Ev.cS (d1 := d - 1) (em_farOf (by omega) ht ha) tX3_toward_24 qX3_146 rfl ⟨rfl, rfl, rfl⟩ (by omega) ?_
          rintro _ _ ⟨rfl, rfl⟩
          refine Ev.blk kX3_toward_27 rfl trivial ?_
          refine Ev.cS (d1 := d - 1) (em_farOf (by omega) hb ha) tX3_toward_29 qX3_146 rfl ⟨rfl, rfl, rfl⟩ (by omega) ?_
          rintro _ _ ⟨rfl, rfl⟩
          refine Ev.br tX3_toward_32 rfl (fun c32 => ?_) (fun c32 => ?_)
          · rw [nI_leI (by omega) (by omega)] at c32
            refine Ev.blk kX3_toward_38 rfl trivial ?_
            refine Ev.jmp tX3_toward_41 ?_
            refine k _ _ ⟨rfl, some (mI (oM9 (some t))), ?_⟩
            rw [e, nI_add]
            first
              | (rw [if_neg (by omega)])
              | (rw [if_pos (by omega)]; rfl)
          · rw [nI_leI (by omega) (by omega)] at c32
            refine Ev.blk kX3_toward_35 rfl trivial ?_
            refine Ev.blk kX3_toward_38 rfl trivial ?_
            refine Ev.jmp tX3_toward_41 ?_
            refine k _ _ ⟨rfl, some (mI (oM9 (some t))), ?_⟩
            rw [e, nI_add]
            first
              | (rw [if_neg (by omega)])
              | (rw [if_pos (by omega)]; rfl)
end M1
