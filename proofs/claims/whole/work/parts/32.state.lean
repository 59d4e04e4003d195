/-! ===== the whole state: what the class holds, and what both answer ===== -/
/-- now; is there an image, the image; letters, how many; the row, how many; refusals -/
abbrev St : Type := Yd × Bool × Yd × (Nat → Nat) × Nat × (Nat → Nat) × Nat × (Nat → Nat)
def sN (st : St) : Yd := st.1
def sB (st : St) : Bool := st.2.1
def sK (st : St) : Yd := st.2.2.1
def sT (st : St) : Nat → Nat := st.2.2.2.1
def sL (st : St) : Nat := st.2.2.2.2.1
def sR (st : St) : Nat → Nat := st.2.2.2.2.2.1
def sM (st : St) : Nat := st.2.2.2.2.2.2.1
def sF (st : St) : Nat → Nat := st.2.2.2.2.2.2.2
def vN (st : St) (D : Yd) : St := (D, sB st, sK st, sT st, sL st, sR st, sM st, sF st)
def vK (st : St) (D : Yd) : St := (sN st, true, D, sT st, sL st, sR st, sM st, sF st)
def vL (st : St) (t : Nat → Nat) (n : Nat) : St := (sN st, sB st, sK st, t, n, sR st, sM st, sF st)
def vR (st : St) (f : Nat → Nat) (m : Nat) : St := (sN st, sB st, sK st, sT st, sL st, f, m, sF st)
def vF (st : St) (f : Nat → Nat) : St := (sN st, sB st, sK st, sT st, sL st, sR st, sM st, f)
/-- a refusal is counted -/
def rfs (st : St) (k : Nat) : St := vF st (va_up (sF st) k (sF st k + 1))
/-- a yard as it stands between calls: nobody is set aside, no freeings are counted -/
def YC (D : Yd) : Prop := YI D ∧ de D ≤ 999 ∧ dg D = 0 ∧ da D = 99
def SI (st : St) : Prop := YC (sN st) ∧ (sB st = true → YC (sK st)) ∧ sL st ≤ 96 ∧ sM st ≤ 20 ∧ ∀ j, j < sM st → sR st j ≤ 8
def KlsAt (w : mW) (st : St) : Prop :=
  (∃ g, YardAt w 0 (ug (sN st) g)) ∧ mgf w 0 0 4 = bI (sB st) ∧ (sB st = true → YardAt w 3 (sK st)) ∧ LetAt w (sT st) (sL st) ∧ mgf w 0 0 7 = nI (sM st) ∧ (∀ j, j < sM st → mga w 9 0 j = nI (sR st j)) ∧ ∀ j, j < 7 → mga w 10 0 j = nI (sF st j)
/-- an answer, and the state behind it; the reference's cells are as they were -/
def CP (w : mW) (p : Int32 × St) (r : Option mV) (u : mW) : Prop := r = some (mI p.1) ∧ Sm (fun t _ => 11 ≤ t) w u ∧ KlsAt u p.2
theorem YC.can {D : Yd} (h : YC D) (g : Nat) : ua (ug (ug D g) 0) 99 = D := Yd_ext rfl rfl rfl rfl rfl rfl rfl rfl rfl h.2.2.1.symm h.2.2.2.symm
theorem YC.ug {D : Yd} (h : YC D) (g : Nat) : YI (ug D g) := h.1
section CA
variable {w u : mW} {st : St}
theorem KlsAt.keep {P : Nat → Nat → Prop} (h : KlsAt w st) (hs : Sm P w u) (hP : ∀ t i, t ≤ 10 → ¬ ((1 ≤ t ∧ t ≤ 6) ∧ (i = 1 ∨ i = 2)) → P t i) : KlsAt u st := by
  obtain ⟨⟨g, h1⟩, h2, h3, h4, h5, h6, h7⟩ := h
  refine ⟨⟨g, h1.sm hs (fun t a b => hP t 0 (by omega) (by omega))⟩, by rw [hs.1 0 0 4 (hP 0 0 (by omega) (by omega))]; exact h2, fun hb => (h3 hb).sm hs (fun t a b => hP t 3 (by omega) (by omega)), h4.sm hs (hP 7 0 (by omega) (by omega)) (hP 8 0 (by omega) (by omega)), by rw [hs.1 0 0 7 (hP 0 0 (by omega) (by omega))]; exact h5, ?_, ?_⟩
  · rw [hs.2 9 0 (hP 9 0 (by omega) (by omega))]; exact h6
  · rw [hs.2 10 0 (hP 10 0 (by omega) (by omega))]; exact h7
theorem KlsAt.mind {y : Nat} (h : KlsAt w st) (ho : Off y w u) (hy : y = 1 ∨ y = 2) : KlsAt u st := h.keep ho.sm (fun t i a b => by omega)
theorem KlsAt.now (h : KlsAt w st) (ho : Off 0 w u) {D : Yd} {g : Nat} (hY : YardAt u 0 (ug D g)) : KlsAt u (vN st D) := by
  obtain ⟨h1, h2, h3, h4, h5, h6, h7⟩ := h
  have hs := ho.sm
  refine ⟨⟨g, hY⟩, by rw [hs.1 0 0 4 (by omega)]; exact h2, fun hb => (h3 hb).sm hs (fun t a b => by omega), h4.sm hs (by omega) (by omega), by rw [hs.1 0 0 7 (by omega)]; exact h5, ?_, ?_⟩
  · rw [hs.2 9 0 (by omega)]; exact h6
  · rw [hs.2 10 0 (by omega)]; exact h7
theorem KlsAt.ltr (h : KlsAt w st) (ho : OffL w u) {t : Nat → Nat} {n : Nat} (hL : LetAt u t n) : KlsAt u (vL st t n) := by
  obtain ⟨⟨g, h1⟩, h2, h3, h4, h5, h6, h7⟩ := h
  have hs := ho.sm
  refine ⟨⟨g, h1.sm hs (fun t a b => ⟨by omega, by omega⟩)⟩, by rw [hs.1 0 0 4 ⟨by omega, by omega⟩]; exact h2, fun hb => (h3 hb).sm hs (fun t a b => ⟨by omega, by omega⟩), hL, by rw [hs.1 0 0 7 ⟨by omega, by omega⟩]; exact h5, ?_, ?_⟩
  · rw [hs.2 9 0 ⟨by omega, by omega⟩]; exact h6
  · rw [hs.2 10 0 ⟨by omega, by omega⟩]; exact h7
theorem Off.up {y : Nat} (h : Off y w u) : Sm (fun t _ => 11 ≤ t) w u := h.sm.sub (fun t i a b => by omega)
theorem OffL.up (h : OffL w u) : Sm (fun t _ => 11 ≤ t) w u := h.sm.sub (fun t i a => ⟨by omega, by omega⟩)
end CA
def outs (n a b : Int32) : Int32 := if n < a then -4 else if b < n then -6 else nI 0
section C1
variable {l : Launch} {d : Nat} {w : mW} {st : St}
theorem ev_outside (n a b : Int32) : Cl l d MX2_outside [mI n, mI a, mI b] w (fun r u => u = w ∧ r = some (mI (outs n a b))) := by
  show Ev l d MX2_outside 0 [some (mI n), some (mI a), some (mI b)] [] w _
  refine Ev.blk kX2_outside_0 rfl trivial ?_
  refine Ev.br tX2_outside_2 rfl (fun c2 => ?_) (fun c2 => ?_)
  · refine Ev.blk kX2_outside_8 rfl trivial ?_
    refine Ev.br tX2_outside_10 rfl (fun c10 => ?_) (fun c10 => ?_)
    · refine Ev.blk kX2_outside_18 rfl trivial ?_
      refine Ev.iret tX2_outside_19 rfl rfl ?_
      refine ⟨rfl, ?_⟩
      unfold outs
      first
        | (rw [if_pos (Int32.not_le.mp c2)])
        | (rw [if_neg (Int32.not_lt.mpr c2), if_neg (Int32.not_lt.mpr c10)])
        | (rw [if_neg (Int32.not_lt.mpr c2), if_pos (Int32.not_le.mp c10)])
    · refine Ev.blk kX2_outside_13 rfl trivial ?_
      refine Ev.jmp tX2_outside_15 ?_
      refine Ev.iret tX2_outside_19 rfl rfl ?_
      refine ⟨rfl, ?_⟩
      unfold outs
      first
        | (rw [if_pos (Int32.not_le.mp c2)])
        | (rw [if_neg (Int32.not_lt.mpr c2), if_neg (Int32.not_lt.mpr c10)])
        | (rw [if_neg (Int32.not_lt.mpr c2), if_pos (Int32.not_le.mp c10)])
  · refine Ev.blk kX2_outside_5 rfl trivial ?_
    refine Ev.iret tX2_outside_7 rfl rfl ?_
    refine ⟨rfl, ?_⟩
    unfold outs
    first
      | (rw [if_pos (Int32.not_le.mp c2)])
      | (rw [if_neg (Int32.not_lt.mpr c2), if_neg (Int32.not_lt.mpr c10)])
      | (rw [if_neg (Int32.not_lt.mpr c2), if_pos (Int32.not_le.mp c10)])
theorem ev_refuse (hC : KlsAt w st) {why : Int32} {k : Nat} (hk : 0 < k ∧ k < 7) (hw : -why = nI k) : Cl l d MX2_refuse [mR 0 0, mI why] w (fun r u => CP w (why, rfs st k) r u) := by
  show Ev l d MX2_refuse 0 [some (mR 0 0), some (mI why), none] [] w _
  have h7 := hC.2.2.2.2.2.2
  refine Ev.blk kX2_refuse_0 rfl trivial ?_
  rw [hw]
  refine Ev.br tX2_refuse_4 rfl (fun c4 => ?_) (fun c4 => ?_)
  · exact absurd c4 (by rw [nI_leI (by omega) (by omega)]; omega)
  · refine Ev.blk kX2_refuse_7 rfl trivial ?_
    refine Ev.br tX2_refuse_13 rfl (fun c13 => ?_) (fun c13 => ?_)
    · exact absurd c13 (by show ¬ nI 7 ≤ nI k; rw [nI_leI (by omega) (by omega)]; omega)
    · refine Ev.blk kX2_refuse_16 rfl ⟨⟨trivial, vinN (show k < 7 by omega) (by decide)⟩, vinN (show k < 7 by omega) (by decide)⟩ ?_
      rw [ixN (by omega), h7 k (by omega), nI_add]
      refine Ev.blk kX2_refuse_26 rfl trivial ?_
      refine Ev.iret tX2_refuse_27 rfl rfl ?_
      refine ⟨rfl, ⟨fun _ _ _ _ => rfl, fun t i h => mga_pAn (by omega)⟩, ?_⟩
      obtain ⟨⟨g, h1⟩, h2, h3, h4, h5, h6, h7⟩ := hC
      have hs : Sm (fun t _ => t ≠ 10) w (mpA w 10 0 (upd (mga w 10 0) k (nI (sF st k + 1)))) := ⟨fun _ _ _ _ => rfl, fun t i h => mga_pAn (by omega)⟩
      refine ⟨⟨g, h1.sm hs (fun t a b => by omega)⟩, h2, fun hb => (h3 hb).sm hs (fun t a b => by omega), h4.sm hs (by omega) (by omega), h5, ?_, ?_⟩
      · rw [hs.2 9 0 (by omega)]; exact h6
      · rw [mga_pA]; exact upd_nI h7
def P_letter (st : St) (c : Int32) : Int32 × St := if c < nI 0 then (-4, rfs st 4) else if nI 255 < c ∨ sL st = 96 then (-6, rfs st 6) else (nI (sL st + 1), vL st (va_up (sT st) (sL st) c.toNatClampNeg) (sL st + 1))
theorem ev_letter (hC : KlsAt w st) (hd : 2 ≤ d) (c : Int32) : Cl l d MX2_letter [mR 0 0, mI c] w (fun r u => CP w (P_letter st c) r u) := by
  show Ev l d MX2_letter 0 [some (mR 0 0), some (mI c)] [] w _
  have hL := hC.2.2.2.1
  have h96 := hL.2.2.1
  unfold P_letter
  refine Ev.blk kX2_letter_0 rfl trivial ?_
  refine Ev.br tX2_letter_1 rfl (fun c1 => ?_) (fun c1 => ?_)
  · refine Ev.blk kX2_letter_11 rfl trivial ?_
    refine Ev.br tX2_letter_15 rfl (fun c15 => ?_) (fun c15 => ?_)
    · refine Ev.blk kX2_letter_28 rfl trivial ?_
      refine Ev.cV (d1 := d - 1) (ev_refuse hC (k := 6) (by decide) (by decide)) tX2_letter_31 qX2_39 rfl rfl (by decide) ⟨rfl, rfl, rfl⟩ (by omega) ?_
      rintro _ _ ⟨rfl, hS, hC2⟩
      refine Ev.iret tX2_letter_34 rfl rfl ?_
      rw [if_neg (Int32.not_lt.mpr c1)]
      first
        | (rw [if_pos (Or.inl c15)]; exact ⟨rfl, hS, hC2⟩)
        | (rw [if_pos (Or.inr hr)]; exact ⟨rfl, hS, hC2⟩)
    · refine Ev.blk kX2_letter_18 rfl trivial ?_
      refine Ev.cV (d1 := d - 1) (ev_hasRoom hL) tX2_letter_22 qX2_43 rfl rfl (by decide) ⟨rfl, rfl, rfl⟩ (by omega) ?_
      rintro _ _ ⟨rfl, rfl⟩
      refine Ev.br tX2_letter_25 rfl (fun c25 => ?_) (fun c25 => ?_)
      · rw [bI_0] at c25
        have hr : sL st < 96 := by simpa using c25
        obtain ⟨j, hj, rfl⟩ : ∃ j, j < 256 ∧ c = nI j := by
          rcases pk_ix c (n := 256) (by decide) with g | g | ⟨j, g1, g2⟩
          · exact absurd g (Int32.not_lt.mpr c1)
          · exact absurd (Int32.lt_of_lt_of_le (by decide) g) c15
          · exact ⟨j, g1, g2⟩
        refine Ev.blk kX2_letter_35 rfl trivial ?_
        refine Ev.cV (d1 := d - 1) (ev_hear hL (by omega) hr hj) tX2_letter_40 qX2_47 rfl rfl (by decide) ⟨rfl, rfl, rfl⟩ (by omega) ?_
        rintro _ _ ⟨rfl, ho, hL2⟩
        rw [if_neg (Int32.not_lt.mpr c1), if_neg (by intro z; rcases z with z | z; exact c15 z; omega), ixN (by omega)]
        exact Ev.iret tX2_letter_43 rfl rfl ⟨rfl, ho.up, hC.ltr ho hL2⟩
      · rw [bI_0] at c25
        have hr : sL st = 96 := by have := Decidable.not_not.mp c25; simp at this; omega
        refine Ev.blk kX2_letter_28 rfl trivial ?_
        refine Ev.cV (d1 := d - 1) (ev_refuse hC (k := 6) (by decide) (by decide)) tX2_letter_31 qX2_39 rfl rfl (by decide) ⟨rfl, rfl, rfl⟩ (by omega) ?_
        rintro _ _ ⟨rfl, hS, hC2⟩
        refine Ev.iret tX2_letter_34 rfl rfl ?_
        rw [if_neg (Int32.not_lt.mpr c1)]
        first
          | (rw [if_pos (Or.inl c15)]; exact ⟨rfl, hS, hC2⟩)
          | (rw [if_pos (Or.inr hr)]; exact ⟨rfl, hS, hC2⟩)
  · refine Ev.blk kX2_letter_4 rfl trivial ?_
    refine Ev.cV (d1 := d - 1) (ev_refuse hC (k := 4) (by decide) (by decide)) tX2_letter_7 qX2_39 rfl rfl (by decide) ⟨rfl, rfl, rfl⟩ (by omega) ?_
    rintro _ _ ⟨rfl, hS, hC2⟩
    refine Ev.iret tX2_letter_10 rfl rfl ?_
    rw [if_pos (Int32.not_le.mp c1)]
    exact ⟨rfl, hS, hC2⟩
end C1
