/-! ===== the reference: who may free, who is nearest, freeing ===== -/
section NR
variable {q : Nat → Bool} {f : Nat → Nat} {n b : Nat}
theorem nrst_e : nrst q f (n + 1) = (match nrst q f n with
    | some b => if (q n && decide (f n < f b)) = true then some n else some b
    | none => if q n = true then some n else none) := rfl
theorem nrst_f (h : q n = false) : nrst q f (n + 1) = nrst q f n := by
  rw [nrst_e, h]
  cases nrst q f n <;> rfl
theorem nrst_n (h0 : nrst q f n = none) (h : q n = true) : nrst q f (n + 1) = some n := by
  rw [nrst_e, h0, h]
  rfl
theorem nrst_l (h0 : nrst q f n = some b) (h : q n = true) (hd : f n < f b) : nrst q f (n + 1) = some n := by
  rw [nrst_e, h0, h]
  dsimp only
  rw [decide_eq_true hd]
  rfl
theorem nrst_g (h0 : nrst q f n = some b) (hd : ¬ f n < f b) : nrst q f (n + 1) = some b := by
  rw [nrst_e, h0]
  dsimp only
  rw [decide_eq_false hd, Bool.and_false]
  rfl
theorem fst1_f (h0 : fst1 q n = none) (h : q n = false) : fst1 q (n + 1) = none := by
  unfold fst1
  rw [h0]
  simp only [h]
  rfl
end NR
theorem enM_i {i a : Nat} (hi : i < 8) : (nI i = enM a) = (i = a) := by
  unfold enM
  apply propext
  by_cases h : a < 8
  · rw [if_pos h, nI_eq (by omega) (by omega)]
  · rw [if_neg h, nI_m9 (by omega)]
    exact ⟨fun z => z.elim, fun z => absurd hi (by omega)⟩
theorem oM9_some {o : Option Nat} {b : Nat} (h : o = some b) : oM9 o = nI b := by rw [h]; rfl
theorem oM9_none {o : Option Nat} (h : o = none) : oM9 o = -9 := by rw [h]; rfl
/-- one is freed by another -/
def fre (D : Yd) (i j : Nat) : Yd := ug (ur (us D (va_up (ds D) j false)) (va_up (dr D) (8 * i + j) (if dr D (8 * i + j) < 99 then dr D (8 * i + j) + 1 else 99))) (dg D + 1)
theorem fre_one {D : Yd} (hI : YI D) {i j : Nat} {q q' : Nat → Bool} (hj : j < dn D) (hj8 : j < 8) (h0 : q j = false) (h1 : q' j = true) (h : ∀ o, o ≠ j → q' o = q o) (hd : ds D j = true) : fre (frd D i q) i j = frd D i q' := by
  rw [← frd_one (D := D) (i := i) hj hj8 h0 h1 h hd]
  have e : dr (frd D i q) (8 * i + j) = dr D (8 * i + j) := by
    show (if (8 * i + j) / 8 = i ∧ q ((8 * i + j) % 8) = true then _ else dr D (8 * i + j)) = _
    rw [show (8 * i + j) % 8 = j by omega, h0, if_neg (by simp)]
  have h9 := hI.rd (8 * i + j)
  unfold fre
  rw [e]
  have e2 : (if dr D (8 * i + j) < 99 then dr D (8 * i + j) + 1 else 99) = (if dr D (8 * i + j) + 1 < 99 then dr D (8 * i + j) + 1 else 99) := by
    split <;> split <;> omega
  rw [e2]
  rfl
theorem frd_0 {D : Yd} {i : Nat} : frd D i (fun _ => false) = D := by
  have hc0 : ∀ n, cnt (fun _ => false) n = 0 := fun n => by
    induction n with
    | zero => rfl
    | succ n ih => unfold cnt; rw [ih]; rfl
  refine Yd_ext rfl rfl rfl rfl ?_ ?_ rfl rfl rfl ?_ rfl
  · funext o; show (ds D o && !false) = ds D o; simp
  · funext x; show (if x / 8 = i ∧ false = true then _ else dr D x) = dr D x; simp
  · show dg D + cnt (fun _ => false) (dn D) = dg D; rw [hc0]; rfl
section M2
variable {l : Launch} {d : Nat} {w : mW} {D : Yd}
theorem em_doesMay (hM : MYd w D) (hI : YI D) {i o : Nat} (hi : i < dn D) (ho : o < dn D) (hs : ds D i = false) : Cl l d MX3_doesMay [mR 11 0, mI (nI i), mI (nI o)] w (fun r u => u = w ∧ r = some (mI (bI (wnt D i o)))) := by
  show Ev l d MX3_doesMay 0 [some (mR 11 0), some (mI (nI i)), some (mI (nI o))] [] w _
  have h8 := hI.1
  have hi8 : i < 8 := by omega
  have ho8 : o < 8 := by omega
  have hk := hI.kd hi
  have hf := hI.fr hi
  refine Ev.blk kX3_doesMay_0 rfl trivial ?_
  refine Ev.br tX3_doesMay_2 rfl (fun c2 => ?_) (fun c2 => ?_)
  · rw [nI_eq (by omega) (by omega)] at c2
    have hv : wnt D i o = false := by unfold wnt; rw [c2, hs]; rfl
    refine Ev.blk kX3_doesMay_49 rfl trivial ?_
    refine Ev.iret tX3_doesMay_50 rfl rfl ?_
    exact ⟨rfl, by rw [hv]; rfl⟩
  · try simp (disch := omega) only [nI_eq, nI_leI, nI_ltI, Classical.not_not] at c2
    refine Ev.blk kX3_doesMay_5 rfl ⟨trivial, vinN ho8 (by decide)⟩ ?_
    simp only [ix8 ho8, hM.s ho8]
    refine Ev.br tX3_doesMay_12 rfl (fun c12 => ?_) (fun c12 => ?_)
    · rw [bI_1] at c12
      have hv : wnt D i o = false := by unfold wnt; rw [bl_f c12]; rfl
      refine Ev.blk kX3_doesMay_49 rfl trivial ?_
      refine Ev.iret tX3_doesMay_50 rfl rfl ?_
      exact ⟨rfl, by rw [hv]; rfl⟩
    · rw [bI_1, Classical.not_not] at c12
      refine Ev.blk kX3_doesMay_15 rfl ⟨trivial, vinN hi8 (by decide)⟩ ?_
      simp only [ix8 hi8, hM.k hi]
      refine Ev.br tX3_doesMay_22 rfl (fun c22 => ?_) (fun c22 => ?_)
      · rw [nI_eq (by omega) (by omega)] at c22
        have hv : wnt D i o = true := by unfold wnt mayK; rw [c12, c22]; rfl
        refine Ev.blk kX3_doesMay_45 rfl trivial ?_
        refine Ev.jmp tX3_doesMay_46 ?_
        refine Ev.iret tX3_doesMay_50 rfl rfl ?_
        exact ⟨rfl, by rw [hv]; rfl⟩
      · try simp (disch := omega) only [nI_eq, nI_leI, nI_ltI, Classical.not_not] at c22
        refine Ev.blk kX3_doesMay_25 rfl ⟨trivial, vinN hi8 (by decide)⟩ ?_
        simp only [ix8 hi8, hM.k hi]
        refine Ev.br tX3_doesMay_32 rfl (fun c32 => ?_) (fun c32 => ?_)
        · rw [nI_eq (by omega) (by omega)] at c32
          have hv : wnt D i o = false := by unfold wnt mayK; rw [beq_false_of_ne c22, beq_false_of_ne c32]; simp
          refine Ev.blk kX3_doesMay_49 rfl trivial ?_
          refine Ev.iret tX3_doesMay_50 rfl rfl ?_
          exact ⟨rfl, by rw [hv]; rfl⟩
        · rw [nI_eq (by omega) (by omega), Classical.not_not] at c32
          refine Ev.blk kX3_doesMay_35 rfl ⟨trivial, vinN hi8 (by decide)⟩ ?_
          simp only [ix8 hi8, hM.f hi]
          refine Ev.br tX3_doesMay_42 rfl (fun c42 => ?_) (fun c42 => ?_)
          · rw [nI_eq (by omega) (by omega)] at c42
            have hv : wnt D i o = false := by unfold wnt mayK; rw [beq_false_of_ne c22, beq_false_of_ne c42]; simp
            refine Ev.blk kX3_doesMay_49 rfl trivial ?_
            refine Ev.iret tX3_doesMay_50 rfl rfl ?_
            exact ⟨rfl, by rw [hv]; rfl⟩
          · rw [nI_eq (by omega) (by omega), Classical.not_not] at c42
            have hv : wnt D i o = true := by unfold wnt mayK; rw [c12, c32, c42]; simp
            refine Ev.blk kX3_doesMay_45 rfl trivial ?_
            refine Ev.jmp tX3_doesMay_46 ?_
            refine Ev.iret tX3_doesMay_50 rfl rfl ?_
            exact ⟨rfl, by rw [hv]; rfl⟩
theorem em_doesMayB (hM : MYd w D) (hI : YI D) {i o : Nat} (hi : i < dn D) (ho : o < dn D) (hs : ds D i = false) {b : Bool} (hb : wnt D i o = b) : Cl l d MX3_doesMay [mR 11 0, mI (nI i), mI (nI o)] w (fun r u => u = w ∧ r = some (mI (bI b))) := by
  rw [← hb]
  exact em_doesMay hM hI hi ho hs
theorem em_nearMay (hM : MYd w D) (hI : YI D) (hd : 2 ≤ d) {i : Nat} (hi : i < dn D) (hs : ds D i = false) : Cl l d MX3_nearMay [mR 11 0, mI (nI i)] w (fun r u => u = w ∧ r = some (mI (oM9 (nearMay D i)))) := by
  show Ev l d MX3_nearMay 0 [some (mR 11 0), some (mI (nI i)), none] [] w _
  have h8 := hI.1
  have hn := hM.n
  have hi8 : i < 8 := by omega
  have hci := hI.cl hi
  refine Ev.blk kX3_nearMay_0 rfl trivial ?_
  unfold nearMay
  refine Ev.for (fun j L u => u = w ∧ fst1 (fun o => wnt D i o && decide (far (dc D i) (dc D o) ≤ 1)) j = none ∧ L = [some (mR 11 0), some (mI (nI i)), some (mI (nI j))]) (dn D) ?_ ?_ 0 (Nat.zero_le _) ⟨rfl, rfl, rfl⟩
  · rintro L u ⟨rfl, h0, rfl⟩
    refine Ev.blk kX3_nearMay_2 rfl trivial ?_
    simp only [hn]
    refine Ev.br tX3_nearMay_7 rfl (fun c7 => ?_) (fun c7 => ?_)
    · refine Ev.blk kX3_nearMay_46 rfl trivial ?_
      refine Ev.iret tX3_nearMay_48 rfl rfl ?_
      exact ⟨rfl, by rw [h0]; rfl⟩
    · exact absurd (nI_le (Nat.le_refl _) (by omega)) c7
  · rintro j L u hj ⟨rfl, h0, rfl⟩ k
    have hj8 : j < 8 := by omega
    have hcj := hI.cl hj
    have hfl := far_le _ hci _ hcj
    cases hw : wnt D i j with
    | false =>
      refine Ev.blk kX3_nearMay_2 rfl trivial ?_
      simp only [hn]
      refine Ev.br tX3_nearMay_7 rfl (fun c7 => ?_) (fun c7 => ?_)
      · exact absurd c7 (nI_ge hj (by omega))
      · refine Ev.blk kX3_nearMay_10 rfl trivial ?_
        refine Ev.cV (d1 := d - 1) (em_doesMayB hM hI hi hj hs hw) tX3_nearMay_13 qX3_155 rfl rfl (by decide) ⟨rfl, rfl, rfl⟩ (by omega) ?_
        rintro _ _ ⟨rfl, rfl⟩
        refine Ev.br tX3_nearMay_16 rfl (fun c16 => ?_) (fun c16 => ?_)
        · refine Ev.blk kX3_nearMay_40 rfl trivial ?_
          refine Ev.jmp tX3_nearMay_43 ?_
          exact k _ _ ⟨rfl, fst1_f h0 (by rw [hw]; rfl), by rw [nI_add]⟩
        · exact absurd rfl c16
    | true =>
      refine Ev.blk kX3_nearMay_2 rfl trivial ?_
      simp only [hn]
      refine Ev.br tX3_nearMay_7 rfl (fun c7 => ?_) (fun c7 => ?_)
      · exact absurd c7 (nI_ge hj (by omega))
      · refine Ev.blk kX3_nearMay_10 rfl trivial ?_
        refine Ev.cV (d1 := d - 1) (em_doesMayB hM hI hi hj hs hw) tX3_nearMay_13 qX3_155 rfl rfl (by decide) ⟨rfl, rfl, rfl⟩ (by omega) ?_
        rintro _ _ ⟨rfl, rfl⟩
        refine Ev.br tX3_nearMay_16 rfl (fun c16 => ?_) (fun c16 => ?_)
        · exact absurd c16 (by decide)
        · refine Ev.blk kX3_nearMay_19 rfl ⟨⟨trivial, vinN hi8 (by decide)⟩, vinN hj8 (by decide)⟩ ?_
          simp only [ix8 hi8, ix8 hj8, hM.c hi, hM.c hj]
          refine Ev.cS (d1 := d - 1) (em_farOf (by omega) hci hcj) tX3_nearMay_31 qX3_146 rfl ⟨rfl, rfl, rfl⟩ (by omega) ?_
          rintro _ _ ⟨rfl, rfl⟩
          refine Ev.blk kX3_nearMay_34 rfl trivial ?_
          refine Ev.br tX3_nearMay_35 rfl (fun c35 => ?_) (fun c35 => ?_)
          · rw [nI_leI (by omega) (by omega)] at c35
            refine Ev.blk kX3_nearMay_40 rfl trivial ?_
            refine Ev.jmp tX3_nearMay_43 ?_
            exact k _ _ ⟨rfl, fst1_f h0 (by rw [hw, decide_eq_false (show ¬ far (dc D i) (dc D j) ≤ 1 by omega)]; rfl), by rw [nI_add]⟩
          · rw [nI_leI (by omega) (by omega)] at c35
            refine Ev.blk kX3_nearMay_38 rfl trivial ?_
            refine Ev.iret tX3_nearMay_39 rfl rfl ?_
            refine ⟨rfl, ?_⟩
            rw [fst1_some h0 (by rw [hw, decide_eq_true (show far (dc D i) (dc D j) ≤ 1 by omega)]; rfl) hj]
            rfl
theorem em_nearestMay (hM : MYd w D) (hI : YI D) (hd : 2 ≤ d) {i : Nat} (hi : i < dn D) (hs : ds D i = false) : Cl l d MX3_nearestMay [mR 11 0, mI (nI i)] w (fun r u => u = w ∧ r = some (mI (oM9 (aimMay D i)))) := by
  show Ev l d MX3_nearestMay 0 [some (mR 11 0), some (mI (nI i)), none, none] [] w _
  have h8 := hI.1
  have hn := hM.n
  have hi8 : i < 8 := by omega
  have hci := hI.cl hi
  refine Ev.blk kX3_nearestMay_0 rfl trivial ?_
  unfold aimMay
  refine Ev.for (fun j L u => u = w ∧ L = [some (mR 11 0), some (mI (nI i)), some (mI (oM9 (nrst (wnt D i) (fun o => far (dc D i) (dc D o)) j))), some (mI (nI j))]) (dn D) ?_ ?_ 0 (Nat.zero_le _) ⟨rfl, rfl⟩
  · rintro L u ⟨rfl, rfl⟩
    refine Ev.blk kX3_nearestMay_5 rfl trivial ?_
    simp only [hn]
    refine Ev.br tX3_nearestMay_10 rfl (fun c10 => ?_) (fun c10 => ?_)
    · refine Ev.blk kX3_nearestMay_67 rfl trivial ?_
      refine Ev.iret tX3_nearestMay_68 rfl rfl ?_
      exact ⟨rfl, rfl⟩
    · exact absurd (nI_le (Nat.le_refl _) (by omega)) c10
  · rintro j L u hj ⟨rfl, rfl⟩ k
    have hj8 : j < 8 := by omega
    have hcj := hI.cl hj
    have hfl := far_le _ hci _ hcj
    cases hw : wnt D i j with
    | false =>
      refine Ev.blk kX3_nearestMay_5 rfl trivial ?_
      simp only [hn]
      refine Ev.br tX3_nearestMay_10 rfl (fun c10 => ?_) (fun c10 => ?_)
      · exact absurd c10 (nI_ge hj (by omega))
      · refine Ev.blk kX3_nearestMay_13 rfl trivial ?_
        refine Ev.cV (d1 := d - 1) (em_doesMayB hM hI hi hj hs hw) tX3_nearestMay_16 qX3_155 rfl rfl (by decide) ⟨rfl, rfl, rfl⟩ (by omega) ?_
        rintro _ _ ⟨rfl, rfl⟩
        refine Ev.br tX3_nearestMay_19 rfl (fun c19 => ?_) (fun c19 => ?_)
        · refine Ev.blk kX3_nearestMay_61 rfl trivial ?_
          refine Ev.jmp tX3_nearestMay_64 ?_
          exact k _ _ ⟨rfl, by rw [nrst_f hw, nI_add]⟩
        · exact absurd rfl c19
    | true =>
      cases hr : nrst (wnt D i) (fun o => far (dc D i) (dc D o)) j with
      | none =>
        refine Ev.blk kX3_nearestMay_5 rfl trivial ?_
        simp only [hn]
        refine Ev.br tX3_nearestMay_10 rfl (fun c10 => ?_) (fun c10 => ?_)
        · exact absurd c10 (nI_ge hj (by omega))
        · refine Ev.blk kX3_nearestMay_13 rfl trivial ?_
          refine Ev.cV (d1 := d - 1) (em_doesMayB hM hI hi hj hs hw) tX3_nearestMay_16 qX3_155 rfl rfl (by decide) ⟨rfl, rfl, rfl⟩ (by omega) ?_
          rintro _ _ ⟨rfl, rfl⟩
          refine Ev.br tX3_nearestMay_19 rfl (fun c19 => ?_) (fun c19 => ?_)
          · exact absurd c19 (by decide)
          · refine Ev.blk kX3_nearestMay_22 rfl trivial ?_
            refine Ev.br tX3_nearestMay_23 rfl (fun c23 => ?_) (fun c23 => ?_)
            · refine Ev.blk kX3_nearestMay_59 rfl trivial ?_
              refine Ev.blk kX3_nearestMay_61 rfl trivial ?_
              refine Ev.jmp tX3_nearestMay_64 ?_
              exact k _ _ ⟨rfl, by rw [nrst_n hr hw, nI_add]; rfl⟩
            · exact absurd (show oM9 none < nI 0 by decide) c23
      | some b =>
        have hbn := (nrst_spec hr).1
        have hb8 : b < 8 := by omega
        have hcb := hI.cl (show b < dn D by omega)
        have hfb := far_le _ hci _ hcb
        refine Ev.blk kX3_nearestMay_5 rfl trivial ?_
        simp only [hn]
        refine Ev.br tX3_nearestMay_10 rfl (fun c10 => ?_) (fun c10 => ?_)
        · exact absurd c10 (nI_ge hj (by omega))
        · refine Ev.blk kX3_nearestMay_13 rfl trivial ?_
          refine Ev.cV (d1 := d - 1) (em_doesMayB hM hI hi hj hs hw) tX3_nearestMay_16 qX3_155 rfl rfl (by decide) ⟨rfl, rfl, rfl⟩ (by omega) ?_
          rintro _ _ ⟨rfl, rfl⟩
          refine Ev.br tX3_nearestMay_19 rfl (fun c19 => ?_) (fun c19 => ?_)
          · exact absurd c19 (by decide)
          · refine Ev.blk kX3_nearestMay_22 rfl trivial ?_
            refine Ev.br tX3_nearestMay_23 rfl (fun c23 => ?_) (fun c23 => ?_)
            · exact absurd c23 (nI_nlt (Nat.zero_le _) (by omega))
            · refine Ev.blk kX3_nearestMay_26 rfl ⟨⟨trivial, vinN hi8 (by decide)⟩, vinN hj8 (by decide)⟩ ?_
              simp only [ix8 hi8, ix8 hj8, hM.c hi, hM.c hj]
              refine Ev.cS (d1 := d - 1) (em_farOf (by omega) hci hcj) tX3_nearestMay_38 qX3_146 rfl ⟨rfl, rfl, rfl⟩ (by omega) ?_
              rintro _ _ ⟨rfl, rfl⟩
              refine Ev.blk kX3_nearestMay_41 rfl ⟨⟨trivial, vinN hi8 (by decide)⟩, vinN hb8 (by decide)⟩ ?_
              rw [show oM9 (some b) = nI b from rfl]
              simp only [ix8 hi8, ix8 hb8, hM.c hi, hM.c (show b < dn D by omega)]
              refine Ev.cS (d1 := d - 1) (em_farOf (by omega) hci hcb) tX3_nearestMay_53 qX3_146 rfl ⟨rfl, rfl, rfl⟩ (by omega) ?_
              rintro _ _ ⟨rfl, rfl⟩
              refine Ev.br tX3_nearestMay_56 rfl (fun c56 => ?_) (fun c56 => ?_)
              · rw [nI_leI (by omega) (by omega)] at c56
                refine Ev.blk kX3_nearestMay_61 rfl trivial ?_
                refine Ev.jmp tX3_nearestMay_64 ?_
                refine k _ _ ⟨rfl, ?_⟩
                first
                  | (rw [nrst_g hr (show ¬ far (dc D i) (dc D j) < far (dc D i) (dc D b) by omega), nI_add]; rfl)
                  | (rw [nrst_l hr hw (show far (dc D i) (dc D j) < far (dc D i) (dc D b) by omega), nI_add]; rfl)
              · rw [nI_leI (by omega) (by omega)] at c56
                refine Ev.blk kX3_nearestMay_59 rfl trivial ?_
                refine Ev.blk kX3_nearestMay_61 rfl trivial ?_
                refine Ev.jmp tX3_nearestMay_64 ?_
                refine k _ _ ⟨rfl, ?_⟩
                first
                  | (rw [nrst_g hr (show ¬ far (dc D i) (dc D j) < far (dc D i) (dc D b) by omega), nI_add]; rfl)
                  | (rw [nrst_l hr hw (show far (dc D i) (dc D j) < far (dc D i) (dc D b) by omega), nI_add]; rfl)
theorem em_free (hM : MYd w D) (hI : YI D) {i j : Nat} (hi : i < 8) (hj : j < 8) : Cl l d MX3_free [mR 11 0, mI (nI i), mI (nI j)] w (fun r u => r = none ∧ OffM w u ∧ MYd u (fre D i j)) := by
  show Ev l d MX3_free 0 [some (mR 11 0), some (mI (nI i)), some (mI (nI j)), none] [] w _
  have h99 := hI.rd (8 * i + j)
  have e64 : 8 * i + j < 64 := by omega
  have h1 := hM.ps (i := j) (b := false) (x := nI 0) rfl
  have h2 := h1.pr (i := 8 * i + j) (x := if dr D (8 * i + j) < 99 then dr D (8 * i + j) + 1 else 99)
  have hg : mgf w 11 0 22 = nI (dg D) := hM.g
  have hr : mga w 18 0 (8 * i + j) = nI (dr D (8 * i + j)) := hM.r e64
  have ha : ∀ f : Nat → Int32, mga (mpA w 16 0 f) 18 0 = mga w 18 0 := fun f => mga_pAn (by decide)
  refine Ev.blk kX3_free_0 rfl ⟨⟨trivial, vinN hj (by decide)⟩, by rw [pk_mul, nI_add]; exact vinN e64 (by decide)⟩ ?_
  simp only [ix8 hj, pk_mul, nI_add, ha]
  rw [ixN (by omega), hr]
  refine Ev.br tX3_free_27 rfl (fun c27 => ?_) (fun c27 => ?_)
  · rw [nI_leI (by omega) (by omega)] at c27
    rw [if_neg (show ¬ dr D (8 * i + j) < 99 by omega)] at h2
    refine Ev.blk kX3_free_41 rfl trivial ?_
    refine Ev.blk kX3_free_43 rfl ⟨trivial, vinN e64 (by decide)⟩ ?_
    rw [ixN (by omega)]
    simp only [mgf_pA]
    rw [hg, nI_add]
    refine Ev.vret tX3_free_54 rfl ?_
    refine ⟨rfl, (Om.pA (by decide)).tr ((Om.pA (by decide)).tr (Om.pf (by decide))), ?_⟩
    have h3 := h2.pG (x := dg D + 1)
    unfold fre
    first
      | (rw [if_neg (show ¬ dr D (8 * i + j) < 99 by omega)]; exact h3)
      | (rw [if_pos (show dr D (8 * i + j) < 99 by omega)]; exact h3)
  · rw [nI_leI (by omega) (by omega)] at c27
    rw [if_pos (show dr D (8 * i + j) < 99 by omega)] at h2
    refine Ev.blk kX3_free_30 rfl ⟨trivial, vinN e64 (by decide)⟩ ?_
    rw [ixN (by omega), ha, hr, nI_add]
    refine Ev.jmp tX3_free_38 ?_
    refine Ev.blk kX3_free_43 rfl ⟨trivial, vinN e64 (by decide)⟩ ?_
    rw [ixN (by omega)]
    simp only [mgf_pA]
    rw [hg, nI_add]
    refine Ev.vret tX3_free_54 rfl ?_
    refine ⟨rfl, (Om.pA (by decide)).tr ((Om.pA (by decide)).tr (Om.pf (by decide))), ?_⟩
    have h3 := h2.pG (x := dg D + 1)
    unfold fre
    first
      | (rw [if_neg (show ¬ dr D (8 * i + j) < 99 by omega)]; exact h3)
      | (rw [if_pos (show dr D (8 * i + j) < 99 by omega)]; exact h3)
theorem frd_in {D : Yd} {i : Nat} {q : Nat → Bool} : dc (frd D i q) = dc D ∧ dn (frd D i q) = dn D ∧ dl (frd D i q) = dl D ∧ dk (frd D i q) = dk D := ⟨rfl, rfl, rfl, rfl⟩
theorem em_freesAll (hM : MYd w D) (hI : YI D) (hd : 2 ≤ d) {i b : Nat} (hi : i < dn D) (hb : b < dn D) (hs : ds D i = false) (hq : frS D i b b = true) : Cl l d MX3_freesAll [mR 11 0, mI (nI i), mI (nI b)] w (fun r u => r = none ∧ OffM w u ∧ MYd u (frd D i (frS D i b))) := by
  show Ev l d MX3_freesAll 0 [some (mR 11 0), some (mI (nI i)), some (mI (nI b)), none] [] w _
  have h8 := hI.1
  have hi8 : i < 8 := by omega
  have hb8 : b < 8 := by omega
  have hci := hI.cl hi
  have hl4 := hI.lw
  have hsb := frS_ds hq
  have hq1 : fre D i b = frd D i (fun o => frS D i b o && (decide (o < 0) || o == b)) := by
    have h := fre_one (D := D) hI (i := i) (j := b) (q := fun _ => false) (q' := fun o => frS D i b o && (decide (o < 0) || o == b)) hb hb8 rfl (by rw [hq]; simp) (fun o ho => by simp [ho]) hsb
    rw [frd_0] at h
    exact h
  have sub : ∀ j o, (frS D i b o && (decide (o < j) || o == b)) = true → ds D o = true := fun j o h => by
    simp only [Bool.and_eq_true] at h
    exact frS_ds h.1
  refine Ev.blk kX3_freesAll_0 rfl trivial ?_
  refine Ev.cV (d1 := d - 1) (em_free hM hI hi8 hb8) tX3_freesAll_3 qX3_161 rfl rfl (by decide) ⟨rfl, rfl, rfl⟩ (by omega) ?_
  rintro _ v ⟨rfl, ho0, hM0⟩
  rw [hq1] at hM0
  refine Ev.blk kX3_freesAll_6 rfl trivial ?_
  by_cases h2 : dl D = 2
  · refine Ev.for (fun j L u => OffM w u ∧ MYd u (frd D i (fun o => frS D i b o && (decide (o < j) || o == b))) ∧ L = [some (mR 11 0), some (mI (nI i)), some (mI (nI b)), some (mI (nI j))]) (dn D) ?_ ?_ 0 (Nat.zero_le _) ⟨ho0, hM0, rfl⟩
    · rintro L u ⟨ho, hE, rfl⟩
      have hn : mgf u 11 0 7 = nI (dn D) := hE.n
      have hqn : frd D i (fun o => frS D i b o && (decide (o < dn D) || o == b)) = frd D i (frS D i b) := by
        congr 1
        funext o
        cases hz : ds D o
        · simp [frS, hz]
        · have := (hI.st hz).1
          simp [this]
      rw [hqn] at hE
      refine Ev.blk kX3_freesAll_8 rfl trivial ?_
      simp only [hn]
      refine Ev.br tX3_freesAll_13 rfl (fun c13 => ?_) (fun c13 => ?_)
      · refine Ev.vret tX3_freesAll_70 rfl ?_
        exact ⟨rfl, ho, hE⟩
      · exact absurd (nI_le (Nat.le_refl _) (by omega)) c13
    · rintro j L u hj ⟨ho, hE, rfl⟩ k
      have hj8 : j < 8 := by omega
      have hcj := hI.cl hj
      have hfl := far_le _ hci _ hcj
      have hn : mgf u 11 0 7 = nI (dn D) := hE.n
      have hl : mgf u 11 0 8 = nI (dl D) := hE.l
      have hc1 : mga u 14 0 i = nI (dc D i) := hE.c (j := i) hi
      have hc2 : mga u 14 0 j = nI (dc D j) := hE.c (j := j) hj
      have hss : mga u 16 0 j = bI (ds D j && !(frS D i b j && (decide (j < j) || j == b))) := hE.s (j := j) hj8
      have hEI : YI (frd D i (fun o => frS D i b o && (decide (o < j) || o == b))) := hI.frd hi (fun o h => sub j o h)
      have fS : frS D i b j = (ds D j && decide (far (dc D i) (dc D j) ≤ 1)) := by unfold frS; rw [if_pos h2]
      have nx : (frS D i b j && (decide (j < j + 1) || j == b)) = (frS D i b j && (decide (j < j) || j == b)) → Ev l d MX3_freesAll 8 [some (mR 11 0), some (mI (nI i)), some (mI (nI b)), some (mI (nI (j + 1)))] [] u (fun r u => r = none ∧ OffM w u ∧ MYd u (frd D i (frS D i b))) := by
        intro h
        refine k _ _ ⟨ho, ?_, rfl⟩
        have e : (fun o => frS D i b o && (decide (o < j + 1) || o == b)) = fun o => frS D i b o && (decide (o < j) || o == b) := by
          funext o
          by_cases eo : o = j
          · subst eo; exact h
          · have : decide (o < j + 1) = decide (o < j) := by simp; omega
            rw [this]
        rw [e]
        exact hE
      refine Ev.blk kX3_freesAll_8 rfl trivial ?_
      simp only [hn]
      refine Ev.br tX3_freesAll_13 rfl (fun c13 => ?_) (fun c13 => ?_)
      · exact absurd c13 (nI_ge hj (by omega))
      · refine Ev.blk kX3_freesAll_16 rfl trivial ?_
        rw [hl, h2]
        refine Ev.br tX3_freesAll_21 rfl (fun c21 => ?_) (fun c21 => ?_)
        · exact absurd rfl c21
        · refine Ev.blk kX3_freesAll_24 rfl trivial ?_
          refine Ev.br tX3_freesAll_26 rfl (fun c26 => ?_) (fun c26 => ?_)
          · rw [nI_eq (by omega) (by omega)] at c26
            have hno : (frS D i b j && (decide (j < j + 1) || j == b)) = (frS D i b j && (decide (j < j) || j == b)) := by rw [fS, c26, hs]; rfl
            refine Ev.blk kX3_freesAll_64 rfl trivial ?_
            refine Ev.jmp tX3_freesAll_67 ?_
            first
            | exact k _ _ ⟨ho.tr ho2, hE2, by rw [nI_add]⟩
            | (rw [nI_add]; exact nx hno)
          · rw [nI_eq (by omega) (by omega)] at c26
            refine Ev.blk kX3_freesAll_29 rfl ⟨trivial, vinN hj8 (by decide)⟩ ?_
            rw [ix8 hj8, hss]
            refine Ev.br tX3_freesAll_36 rfl (fun c36 => ?_) (fun c36 => ?_)
            · rw [bI_1] at c36
              have hno : (frS D i b j && (decide (j < j + 1) || j == b)) = (frS D i b j && (decide (j < j) || j == b)) := by
                have z := bl_f c36
                cases hz : ds D j
                · rw [fS, hz]; rfl
                · rw [hz] at z
                  have z2 : (frS D i b j && (decide (j < j) || j == b)) = true := by simpa using z
                  rw [z2]
                  simp only [Bool.and_eq_true] at z2
                  rw [z2.1]
                  simp
              refine Ev.blk kX3_freesAll_64 rfl trivial ?_
              refine Ev.jmp tX3_freesAll_67 ?_
              first
              | exact k _ _ ⟨ho.tr ho2, hE2, by rw [nI_add]⟩
              | (rw [nI_add]; exact nx hno)
            · rw [bI_1, Classical.not_not, Bool.and_eq_true] at c36
              refine Ev.blk kX3_freesAll_39 rfl ⟨⟨trivial, vinN hi8 (by decide)⟩, vinN hj8 (by decide)⟩ ?_
              simp only [ix8 hi8, ix8 hj8, hc1, hc2]
              refine Ev.cS (d1 := d - 1) (em_farOf (by omega) hci hcj) tX3_freesAll_51 qX3_146 rfl ⟨rfl, rfl, rfl⟩ (by omega) ?_
              rintro _ _ ⟨rfl, rfl⟩
              refine Ev.blk kX3_freesAll_54 rfl trivial ?_
              refine Ev.br tX3_freesAll_55 rfl (fun c55 => ?_) (fun c55 => ?_)
              · rw [nI_leI (by omega) (by omega)] at c55
                have hno : (frS D i b j && (decide (j < j + 1) || j == b)) = (frS D i b j && (decide (j < j) || j == b)) := by rw [fS, decide_eq_false (show ¬ far (dc D i) (dc D j) ≤ 1 by omega), Bool.and_false]; rfl
                refine Ev.blk kX3_freesAll_64 rfl trivial ?_
                refine Ev.jmp tX3_freesAll_67 ?_
                first
                | exact k _ _ ⟨ho.tr ho2, hE2, by rw [nI_add]⟩
                | (rw [nI_add]; exact nx hno)
              · rw [nI_leI (by omega) (by omega)] at c55
                have hfs : frS D i b j = true := by rw [fS, c36.1, decide_eq_true (show far (dc D i) (dc D j) ≤ 1 by omega)]; rfl
                have hqj : (frS D i b j && (decide (j < j) || j == b)) = false := by
                  have z := c36.2
                  rw [Bool.not_eq_true'] at z
                  exact z
                have hone := fre_one (D := D) hI (i := i) (j := j) (q := fun o => frS D i b o && (decide (o < j) || o == b)) (q' := fun o => frS D i b o && (decide (o < j + 1) || o == b)) hj hj8 hqj (by rw [hfs]; simp) (fun o ho => by
                  have : decide (o < j + 1) = decide (o < j) := by simp; omega
                  rw [this]) c36.1
                refine Ev.blk kX3_freesAll_58 rfl trivial ?_
                refine Ev.cV (d1 := d - 1) (em_free hE hEI hi8 hj8) tX3_freesAll_61 qX3_161 rfl rfl (by decide) ⟨rfl, rfl, rfl⟩ (by omega) ?_
                rintro _ _ ⟨rfl, ho2, hE2⟩
                rw [hone] at hE2
                refine Ev.blk kX3_freesAll_64 rfl trivial ?_
                refine Ev.jmp tX3_freesAll_67 ?_
                first
                | exact k _ _ ⟨ho.tr ho2, hE2, by rw [nI_add]⟩
                | (rw [nI_add]; exact nx hno)
  · have hq2 : frd D i (fun o => frS D i b o && (decide (o < 0) || o == b)) = frd D i (frS D i b) := by
      congr 1
      funext o
      have : frS D i b o = (ds D o && (o == b)) := by unfold frS; rw [if_neg h2]
      rw [this]
      cases o == b <;> simp
    rw [hq2] at hM0
    have hn : mgf v 11 0 7 = nI (dn D) := hM0.n
    have hl : mgf v 11 0 8 = nI (dl D) := hM0.l
    refine Ev.blk kX3_freesAll_8 rfl trivial ?_
    simp only [hn]
    refine Ev.br tX3_freesAll_13 rfl (fun c13 => ?_) (fun c13 => ?_)
    · refine Ev.vret tX3_freesAll_70 rfl ?_
      exact ⟨rfl, ho0, hM0⟩
    · refine Ev.blk kX3_freesAll_16 rfl trivial ?_
      rw [hl]
      refine Ev.br tX3_freesAll_21 rfl (fun c21 => ?_) (fun c21 => ?_)
      · refine Ev.vret tX3_freesAll_70 rfl ?_
        exact ⟨rfl, ho0, hM0⟩
      · exact absurd (by rw [nI_eq (by omega) (by omega)]; exact h2) c21
theorem em_isRunner (hM : MYd w D) (hI : YI D) (hd : 1 ≤ d) {i : Nat} (hi : i < dn D) : Cl l d MX3_isRunner [mR 11 0, mI (nI i)] w (fun r u => u = w ∧ r = some (mI (bI (rnr D i)))) := by
  show Ev l d MX3_isRunner 0 [some (mR 11 0), some (mI (nI i))] [] w _
  have h8 := hI.1
  have hi8 : i < 8 := by omega
  unfold rnr
  refine Ev.blk kX3_isRunner_0 rfl trivial ?_
  refine Ev.cV (d1 := d - 1) (em_isCatcher hM hI hi) tX3_isRunner_2 qX3_109 rfl rfl (by decide) ⟨rfl, rfl, rfl⟩ (by omega) ?_
  rintro _ _ ⟨rfl, rfl⟩
  refine Ev.br tX3_isRunner_5 rfl (fun c5 => ?_) (fun c5 => ?_)
  · rw [bI_0] at c5
    rw [bl_t c5]
    refine Ev.blk kX3_isRunner_21 rfl trivial ?_
    refine Ev.iret tX3_isRunner_22 rfl rfl ?_
    exact ⟨rfl, rfl⟩
  · rw [bI_0, Classical.not_not] at c5
    rw [c5]
    refine Ev.blk kX3_isRunner_8 rfl ⟨trivial, vinN hi8 (by decide)⟩ ?_
    rw [ix8 hi8, hM.s hi8]
    refine Ev.br tX3_isRunner_14 rfl (fun c14 => ?_) (fun c14 => ?_)
    · rw [bI_0] at c14
      rw [bl_t c14]
      refine Ev.blk kX3_isRunner_21 rfl trivial ?_
      refine Ev.iret tX3_isRunner_22 rfl rfl ?_
      exact ⟨rfl, rfl⟩
    · rw [bI_0, Classical.not_not] at c14
      rw [c14]
      refine Ev.blk kX3_isRunner_17 rfl trivial ?_
      refine Ev.jmp tX3_isRunner_18 ?_
      refine Ev.iret tX3_isRunner_22 rfl rfl ?_
      exact ⟨rfl, rfl⟩
theorem em_isRunnerB (hM : MYd w D) (hI : YI D) (hd : 1 ≤ d) {i : Nat} (hi : i < dn D) {b : Bool} (h : rnr D i = b) : Cl l d MX3_isRunner [mR 11 0, mI (nI i)] w (fun r u => u = w ∧ r = some (mI (bI b))) := by
  rw [← h]
  exact em_isRunner hM hI hd hi
def tcD (D : Yd) (i : Nat) : Yd := match fst1 (tch D i) (dn D) with
  | some o => us D (va_up (ds D) o true)
  | none => D
theorem em_touches (hM : MYd w D) (hI : YI D) (hd : 2 ≤ d) {i : Nat} (hi : i < dn D) : Cl l d MX3_touches [mR 11 0, mI (nI i)] w (fun r u => r = some (mI (bI (fst1 (tch D i) (dn D)).isSome)) ∧ OffM w u ∧ MYd u (tcD D i)) := by
  show Ev l d MX3_touches 0 [some (mR 11 0), some (mI (nI i)), none] [] w _
  have h8 := hI.1
  have hn := hM.n
  have hi8 : i < 8 := by omega
  have hci := hI.cl hi
  have hl4 := hI.lw
  unfold tcD
  refine Ev.blk kX3_touches_0 rfl trivial ?_
  refine Ev.for (fun j L u => u = w ∧ fst1 (tch D i) j = none ∧ L = [some (mR 11 0), some (mI (nI i)), some (mI (nI j))]) (dn D) ?_ ?_ 0 (Nat.zero_le _) ⟨rfl, rfl, rfl⟩
  · rintro L u ⟨rfl, h0, rfl⟩
    rw [h0]
    refine Ev.blk kX3_touches_2 rfl trivial ?_
    simp only [hn]
    refine Ev.br tX3_touches_7 rfl (fun c7 => ?_) (fun c7 => ?_)
    · refine Ev.blk kX3_touches_83 rfl trivial ?_
      refine Ev.iret tX3_touches_84 rfl rfl ?_
      exact ⟨rfl, Om.rf, hM⟩
    · exact absurd (nI_le (Nat.le_refl _) (by omega)) c7
  · rintro j L u hj ⟨rfl, h0, rfl⟩ k
    have hj8 : j < 8 := by omega
    have hcj := hI.cl hj
    have hfl := far_le _ hci _ hcj
    have ha := hM.a
    cases hr : rnr D j with
    | false =>
      refine Ev.blk kX3_touches_2 rfl trivial ?_
      simp only [hn]
      refine Ev.br tX3_touches_7 rfl (fun c7 => ?_) (fun c7 => ?_)
      · exact absurd c7 (nI_ge hj (by omega))
      · refine Ev.blk kX3_touches_10 rfl trivial ?_
        refine Ev.cV (d1 := d - 1) (em_isRunnerB hM hI (by omega) hj hr) tX3_touches_12 qX3_183 rfl rfl (by decide) ⟨rfl, rfl, rfl⟩ (by omega) ?_
        rintro _ _ ⟨rfl, rfl⟩
        refine Ev.br tX3_touches_15 rfl (fun c15 => ?_) (fun c15 => ?_)
        · refine Ev.blk kX3_touches_77 rfl trivial ?_
          refine Ev.jmp tX3_touches_80 ?_
          exact k _ _ ⟨rfl, fst1_f h0 (by unfold tch; rw [hr]; rfl), by rw [nI_add]⟩
        · exact absurd rfl c15
    | true =>
      refine Ev.blk kX3_touches_2 rfl trivial ?_
      simp only [hn]
      refine Ev.br tX3_touches_7 rfl (fun c7 => ?_) (fun c7 => ?_)
      · exact absurd c7 (nI_ge hj (by omega))
      · refine Ev.blk kX3_touches_10 rfl trivial ?_
        refine Ev.cV (d1 := d - 1) (em_isRunnerB hM hI (by omega) hj hr) tX3_touches_12 qX3_183 rfl rfl (by decide) ⟨rfl, rfl, rfl⟩ (by omega) ?_
        rintro _ _ ⟨rfl, rfl⟩
        refine Ev.br tX3_touches_15 rfl (fun c15 => ?_) (fun c15 => ?_)
        · exact absurd c15 (by decide)
        · refine Ev.blk kX3_touches_18 rfl trivial ?_
          rw [ha]
          refine Ev.br tX3_touches_23 rfl (fun c23 => ?_) (fun c23 => ?_)
          · rw [enM_i hj8] at c23
            have hv : tch D i j = false := by unfold tch; rw [c23]; simp
            refine Ev.blk kX3_touches_77 rfl trivial ?_
            refine Ev.jmp tX3_touches_80 ?_
            exact k _ _ ⟨rfl, fst1_f h0 hv, by rw [nI_add]⟩
          · rw [enM_i hj8] at c23
            refine Ev.blk kX3_touches_26 rfl ⟨⟨trivial, vinN hi8 (by decide)⟩, vinN hj8 (by decide)⟩ ?_
            simp only [ix8 hi8, ix8 hj8, hM.c hi, hM.c hj]
            refine Ev.cS (d1 := d - 1) (em_farOf (by omega) hci hcj) tX3_touches_38 qX3_146 rfl ⟨rfl, rfl, rfl⟩ (by omega) ?_
            rintro _ _ ⟨rfl, rfl⟩
            refine Ev.blk kX3_touches_41 rfl trivial ?_
            refine Ev.br tX3_touches_42 rfl (fun c42 => ?_) (fun c42 => ?_)
            · rw [nI_ltI (by omega) (by omega)] at c42
              have hv : tch D i j = false := by unfold tch; rw [decide_eq_false (show ¬ far (dc D i) (dc D j) ≤ 1 by omega)]; simp
              refine Ev.blk kX3_touches_77 rfl trivial ?_
              refine Ev.jmp tX3_touches_80 ?_
              exact k _ _ ⟨rfl, fst1_f h0 hv, by rw [nI_add]⟩
            · rw [nI_ltI (by omega) (by omega)] at c42
              refine Ev.blk kX3_touches_45 rfl trivial ?_
              rw [hM.l]
              refine Ev.br tX3_touches_50 rfl (fun c50 => ?_) (fun c50 => ?_)
              · rw [nI_eq (by omega) (by omega)] at c50
                have hv : tch D i j = true := by unfold tch; rw [hr, beq_false_of_ne c23, beq_false_of_ne c50, decide_eq_true (show far (dc D i) (dc D j) ≤ 1 by omega)]; rfl
                refine Ev.blk kX3_touches_68 rfl ⟨trivial, vinN hj8 (by decide)⟩ ?_
                rw [ix8 hj8]
                refine Ev.iret tX3_touches_76 rfl rfl ?_
                rw [fst1_some h0 hv hj]
                exact ⟨rfl, Om.pA (by decide), hM.ps (b := true) rfl⟩
              · rw [nI_eq (by omega) (by omega), Classical.not_not] at c50
                refine Ev.blk kX3_touches_53 rfl ⟨trivial, vinN hj8 (by decide)⟩ ?_
                simp only [ix8 hj8, hM.c hj]
                refine Ev.cS (d1 := d - 1) (em_isEdge hcj) tX3_touches_59 qX3_165 rfl ⟨rfl, rfl, rfl⟩ (by omega) ?_
                rintro _ _ ⟨rfl, rfl⟩
                refine Ev.br tX3_touches_62 rfl (fun c62 => ?_) (fun c62 => ?_)
                · rw [bI_0] at c62
                  have hv : tch D i j = true := by unfold tch; rw [hr, beq_false_of_ne c23, c62, decide_eq_true (show far (dc D i) (dc D j) ≤ 1 by omega)]; simp
                  refine Ev.blk kX3_touches_68 rfl ⟨trivial, vinN hj8 (by decide)⟩ ?_
                  rw [ix8 hj8]
                  refine Ev.iret tX3_touches_76 rfl rfl ?_
                  rw [fst1_some h0 hv hj]
                  exact ⟨rfl, Om.pA (by decide), hM.ps (b := true) rfl⟩
                · rw [bI_0] at c62
                  have hv : tch D i j = false := by unfold tch; rw [bl_t c62, c50]; simp
                  refine Ev.jmp tX3_touches_65 ?_
                  refine Ev.blk kX3_touches_77 rfl trivial ?_
                  refine Ev.jmp tX3_touches_80 ?_
                  exact k _ _ ⟨rfl, fst1_f h0 hv, by rw [nI_add]⟩
def nsq (D : Yd) (b : Bool) (o : Nat) : Bool := !isC D o && (ds D o == b)
theorem em_nearest (hM : MYd w D) (hI : YI D) (hd : 2 ≤ d) {i : Nat} (hi : i < dn D) (b : Bool) {x : Int32} (hx : x = bI b) : Cl l d MX3_nearest [mR 11 0, mI (nI i), mI x] w (fun r u => u = w ∧ r = some (mI (oM9 (nrst (nsq D b) (fun o => far (dc D i) (dc D o)) (dn D))))) := by
  subst hx
  show Ev l d MX3_nearest 0 [some (mR 11 0), some (mI (nI i)), some (mI (bI b)), none, none] [] w _
  have h8 := hI.1
  have hn := hM.n
  have hi8 : i < 8 := by omega
  have hci := hI.cl hi
  have hbb : ∀ a c : Bool, (bI a = bI c) = (a = c) := by decide
  refine Ev.blk kX3_nearest_0 rfl trivial ?_
  refine Ev.for (fun j L u => u = w ∧ L = [some (mR 11 0), some (mI (nI i)), some (mI (bI b)), some (mI (oM9 (nrst (nsq D b) (fun o => far (dc D i) (dc D o)) j))), some (mI (nI j))]) (dn D) ?_ ?_ 0 (Nat.zero_le _) ⟨rfl, rfl⟩
  · rintro L u ⟨rfl, rfl⟩
    refine Ev.blk kX3_nearest_6 rfl trivial ?_
    simp only [hn]
    refine Ev.br tX3_nearest_12 rfl (fun c12 => ?_) (fun c12 => ?_)
    · refine Ev.blk kX3_nearest_85 rfl trivial ?_
      refine Ev.iret tX3_nearest_86 rfl rfl ?_
      exact ⟨rfl, rfl⟩
    · exact absurd (nI_le (Nat.le_refl _) (by omega)) c12
  · rintro j L u hj ⟨rfl, rfl⟩ k
    have hj8 : j < 8 := by omega
    have hcj := hI.cl hj
    have hfl := far_le _ hci _ hcj
    cases hc : isC D j with
    | true =>
      refine Ev.blk kX3_nearest_6 rfl trivial ?_
      simp only [hn]
      refine Ev.br tX3_nearest_12 rfl (fun c12 => ?_) (fun c12 => ?_)
      · exact absurd c12 (nI_ge hj (by omega))
      · refine Ev.blk kX3_nearest_15 rfl trivial ?_
        refine Ev.cV (d1 := d - 1) (em_isCatcherB hM hI hj hc) tX3_nearest_18 qX3_109 rfl rfl (by decide) ⟨rfl, rfl, rfl⟩ (by omega) ?_
        rintro _ _ ⟨rfl, rfl⟩
        refine Ev.br tX3_nearest_21 rfl (fun c21 => ?_) (fun c21 => ?_)
        · refine Ev.blk kX3_nearest_79 rfl trivial ?_
          refine Ev.jmp tX3_nearest_82 ?_
          exact k _ _ ⟨rfl, by rw [nrst_f (show nsq D b j = false by unfold nsq; rw [hc]; rfl), nI_add]⟩
        · exact absurd (show ¬ bI true = nI 0 by decide) c21
    | false =>
      cases hr : nrst (nsq D b) (fun o => far (dc D i) (dc D o)) j with
      | none =>
        refine Ev.blk kX3_nearest_6 rfl trivial ?_
        simp only [hn]
        refine Ev.br tX3_nearest_12 rfl (fun c12 => ?_) (fun c12 => ?_)
        · exact absurd c12 (nI_ge hj (by omega))
        · refine Ev.blk kX3_nearest_15 rfl trivial ?_
          refine Ev.cV (d1 := d - 1) (em_isCatcherB hM hI hj hc) tX3_nearest_18 qX3_109 rfl rfl (by decide) ⟨rfl, rfl, rfl⟩ (by omega) ?_
          rintro _ _ ⟨rfl, rfl⟩
          refine Ev.br tX3_nearest_21 rfl (fun c21 => ?_) (fun c21 => ?_)
          · exact absurd rfl c21
          · refine Ev.blk kX3_nearest_24 rfl ⟨trivial, vinN hj8 (by decide)⟩ ?_
            rw [ix8 hj8, hM.s hj8]
            refine Ev.br tX3_nearest_32 rfl (fun c32 => ?_) (fun c32 => ?_)
            · rw [hbb] at c32
              refine Ev.blk kX3_nearest_38 rfl trivial ?_
              refine Ev.br tX3_nearest_39 rfl (fun c39 => ?_) (fun c39 => ?_)
              · refine Ev.blk kX3_nearest_76 rfl trivial ?_
                refine Ev.blk kX3_nearest_79 rfl trivial ?_
                refine Ev.jmp tX3_nearest_82 ?_
                refine k _ _ ⟨rfl, ?_⟩
                first
                  | (rw [nrst_n hr (show nsq D b j = true by unfold nsq; rw [hc, c32]; simp), nI_add]; rfl)
                  | (rw [nrst_f (show nsq D b j = false by unfold nsq; rw [beq_false_of_ne c32]; simp), hr, nI_add])
              · exact absurd (show oM9 none < nI 0 by decide) c39
            · rw [hbb] at c32
              refine Ev.jmp tX3_nearest_35 ?_
              refine Ev.blk kX3_nearest_79 rfl trivial ?_
              refine Ev.jmp tX3_nearest_82 ?_
              refine k _ _ ⟨rfl, ?_⟩
              first
                | (rw [nrst_n hr (show nsq D b j = true by unfold nsq; rw [hc, c32]; simp), nI_add]; rfl)
                | (rw [nrst_f (show nsq D b j = false by unfold nsq; rw [beq_false_of_ne c32]; simp), hr, nI_add])
      | some z =>
        have hzn := (nrst_spec hr).1
        have hz8 : z < 8 := by omega
        have hcz := hI.cl (show z < dn D by omega)
        have hfz := far_le _ hci _ hcz
        refine Ev.blk kX3_nearest_6 rfl trivial ?_
        simp only [hn]
        refine Ev.br tX3_nearest_12 rfl (fun c12 => ?_) (fun c12 => ?_)
        · exact absurd c12 (nI_ge hj (by omega))
        · refine Ev.blk kX3_nearest_15 rfl trivial ?_
          refine Ev.cV (d1 := d - 1) (em_isCatcherB hM hI hj hc) tX3_nearest_18 qX3_109 rfl rfl (by decide) ⟨rfl, rfl, rfl⟩ (by omega) ?_
          rintro _ _ ⟨rfl, rfl⟩
          refine Ev.br tX3_nearest_21 rfl (fun c21 => ?_) (fun c21 => ?_)
          · exact absurd rfl c21
          · refine Ev.blk kX3_nearest_24 rfl ⟨trivial, vinN hj8 (by decide)⟩ ?_
            rw [ix8 hj8, hM.s hj8]
            refine Ev.br tX3_nearest_32 rfl (fun c32 => ?_) (fun c32 => ?_)
            · rw [hbb] at c32
              refine Ev.blk kX3_nearest_38 rfl trivial ?_
              refine Ev.br tX3_nearest_39 rfl (fun c39 => ?_) (fun c39 => ?_)
              · exact absurd c39 (nI_nlt (Nat.zero_le _) (by omega))
              · refine Ev.blk kX3_nearest_42 rfl ⟨⟨trivial, vinN hi8 (by decide)⟩, vinN hj8 (by decide)⟩ ?_
                simp only [ix8 hi8, ix8 hj8, hM.c hi, hM.c hj]
                refine Ev.cS (d1 := d - 1) (em_farOf (by omega) hci hcj) tX3_nearest_55 qX3_146 rfl ⟨rfl, rfl, rfl⟩ (by omega) ?_
                rintro _ _ ⟨rfl, rfl⟩
                refine Ev.blk kX3_nearest_58 rfl ⟨⟨trivial, vinN hi8 (by decide)⟩, vinN hz8 (by decide)⟩ ?_
                rw [show oM9 (some z) = nI z from rfl]
                simp only [ix8 hi8, ix8 hz8, hM.c hi, hM.c (show z < dn D by omega)]
                refine Ev.cS (d1 := d - 1) (em_farOf (by omega) hci hcz) tX3_nearest_70 qX3_146 rfl ⟨rfl, rfl, rfl⟩ (by omega) ?_
                rintro _ _ ⟨rfl, rfl⟩
                refine Ev.br tX3_nearest_73 rfl (fun c73 => ?_) (fun c73 => ?_)
                · rw [nI_leI (by omega) (by omega)] at c73
                  refine Ev.blk kX3_nearest_79 rfl trivial ?_
                  refine Ev.jmp tX3_nearest_82 ?_
                  refine k _ _ ⟨rfl, ?_⟩
                  first
                    | (rw [nrst_f (show nsq D b j = false by unfold nsq; rw [beq_false_of_ne c32]; simp), hr, nI_add])
                    | (rw [nrst_g hr (show ¬ far (dc D i) (dc D j) < far (dc D i) (dc D z) by omega), nI_add]; rfl)
                    | (rw [nrst_l hr (show nsq D b j = true by unfold nsq; rw [hc, c32]; simp) (show far (dc D i) (dc D j) < far (dc D i) (dc D z) by omega), nI_add]; rfl)
                · rw [nI_leI (by omega) (by omega)] at c73
                  refine Ev.blk kX3_nearest_76 rfl trivial ?_
                  refine Ev.blk kX3_nearest_79 rfl trivial ?_
                  refine Ev.jmp tX3_nearest_82 ?_
                  refine k _ _ ⟨rfl, ?_⟩
                  first
                    | (rw [nrst_f (show nsq D b j = false by unfold nsq; rw [beq_false_of_ne c32]; simp), hr, nI_add])
                    | (rw [nrst_g hr (show ¬ far (dc D i) (dc D j) < far (dc D i) (dc D z) by omega), nI_add]; rfl)
                    | (rw [nrst_l hr (show nsq D b j = true by unfold nsq; rw [hc, c32]; simp) (show far (dc D i) (dc D j) < far (dc D i) (dc D z) by omega), nI_add]; rfl)
            · rw [hbb] at c32
              refine Ev.jmp tX3_nearest_35 ?_
              refine Ev.blk kX3_nearest_79 rfl trivial ?_
              refine Ev.jmp tX3_nearest_82 ?_
              refine k _ _ ⟨rfl, ?_⟩
              first
                | (rw [nrst_f (show nsq D b j = false by unfold nsq; rw [beq_false_of_ne c32]; simp), hr, nI_add])
                | (rw [nrst_g hr (show ¬ far (dc D i) (dc D j) < far (dc D i) (dc D z) by omega), nI_add]; rfl)
                | (rw [nrst_l hr (show nsq D b j = true by unfold nsq; rw [hc, c32]; simp) (show far (dc D i) (dc D j) < far (dc D i) (dc D z) by omega), nI_add]; rfl)
end M2
