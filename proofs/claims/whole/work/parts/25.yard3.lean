/-! ===== the class's yard: loops over children, steps ===== -/
theorem fst1_none {q : Nat → Bool} : ∀ {n : Nat}, (∀ j, j < n → q j = false) → fst1 q n = none
  | 0, _ => rfl
  | n + 1, h => by
    unfold fst1
    rw [fst1_none (fun j hj => h j (by omega))]
    simp [h n (by omega)]
theorem fst1_some {q : Nat → Bool} {i : Nat} (h0 : fst1 q i = none) (hi : q i = true) : ∀ {n : Nat}, i < n → fst1 q n = some i
  | 0, h => by omega
  | n + 1, h => by
    unfold fst1
    by_cases e : i = n
    · subst e
      rw [h0]
      simp [hi]
    · rw [fst1_some h0 hi (show i < n by omega)]
theorem fst1_spec {q : Nat → Bool} : ∀ {n b : Nat}, fst1 q n = some b → b < n ∧ q b = true
  | 0, _, h => by simp [fst1] at h
  | n + 1, b, h => by
    unfold fst1 at h
    split at h
    · rename_i e
      cases h
      have := fst1_spec e
      exact ⟨by omega, this.2⟩
    · split at h
      · cases h
        exact ⟨by omega, by assumption⟩
      · cases h
theorem fst1_no {q : Nat → Bool} : ∀ {n : Nat}, fst1 q n = none → ∀ j, j < n → q j = false
  | 0, _, j, hj => by omega
  | n + 1, h, j, hj => by
    unfold fst1 at h
    split at h
    · cases h
    · rename_i e
      split at h
      · cases h
      · rename_i hn
        by_cases ej : j = n
        · subst ej; simpa using hn
        · exact fst1_no e j (by omega)
theorem fst1_congr {q q' : Nat → Bool} : ∀ {n : Nat}, (∀ j, j < n → q j = q' j) → fst1 q n = fst1 q' n
  | 0, _ => rfl
  | n + 1, h => by
    unfold fst1
    rw [fst1_congr (fun j hj => h j (by omega)), h n (by omega)]
theorem nrst_spec {q : Nat → Bool} {f : Nat → Nat} : ∀ {n b : Nat}, nrst q f n = some b → b < n ∧ q b = true
  | 0, _, h => by simp [nrst] at h
  | n + 1, b, h => by
    unfold nrst at h
    split at h
    · rename_i b0 e
      have h0 := nrst_spec e
      split at h
      · rename_i hq
        cases h
        simp only [Bool.and_eq_true] at hq
        exact ⟨by omega, hq.1⟩
      · cases h
        exact ⟨by omega, h0.2⟩
    · split at h
      · cases h
        exact ⟨by omega, by assumption⟩
      · cases h
theorem nrst_no {q : Nat → Bool} {f : Nat → Nat} : ∀ {n : Nat}, nrst q f n = none → ∀ j, j < n → q j = false
  | 0, _, j, hj => by omega
  | n + 1, h, j, hj => by
    unfold nrst at h
    split at h
    · split at h <;> cases h
    · rename_i e
      split at h
      · cases h
      · rename_i hn
        by_cases ej : j = n
        · subst ej; simpa using hn
        · exact nrst_no e j (by omega)
theorem nrst_congr {q q' : Nat → Bool} {f f' : Nat → Nat} : ∀ {n : Nat}, (∀ j, j < n → q j = q' j) → (∀ j, j < n → f j = f' j) → nrst q f n = nrst q' f' n
  | 0, _, _ => rfl
  | n + 1, h, hf => by
    unfold nrst
    rw [nrst_congr (fun j hj => h j (by omega)) (fun j hj => hf j (by omega)), h n (by omega)]
    cases e : nrst q' f' n with
    | none => rfl
    | some b =>
      have := (nrst_spec e).1
      simp only
      rw [hf n (by omega), hf b (by omega)]
section Y3
variable {l : Launch} {d : Nat} {w : mW} {y : Nat} {D : Yd}
theorem ev_leastBeside (hY : YardAt w y D) (hI : YI D) (hd : 1 ≤ d) {i : Nat} (hi : i < dn D) (q : Nat → Bool) : Cl l d MX1_leastBeside [mR 1 y, mI (nI i), mI (nI (bts q 8))] w (fun r u => u = w ∧ r = some (mI (oM1 (fst1 (fun o => q o && decide (far (dc D i) (dc D o) ≤ 1)) (dn D))))) := by
  show Ev l d MX1_leastBeside 0 [some (mR 1 y), some (mI (nI i)), some (mI (nI (bts q 8))), none] [] w _
  refine Ev.blk kX1_leastBeside_0 rfl trivial ?_
  have hn := hY.n
  have h8 := hI.1
  have hi8 : i < 8 := by omega
  have hci := (hI.2.1 i hi).2.1
  refine Ev.for (fun j L u => u = w ∧ L = [some (mR 1 y), some (mI (nI i)), some (mI (nI (bts q 8))), some (mI (nI j))] ∧ fst1 (fun o => q o && decide (far (dc D i) (dc D o) ≤ 1)) j = none) (dn D) ?_ ?_ 0 (Nat.zero_le _) ⟨rfl, rfl, rfl⟩
  · rintro L u ⟨rfl, rfl, h0⟩
    refine Ev.blk kX1_leastBeside_2 rfl trivial ?_
    simp only [hn]
    refine Ev.br tX1_leastBeside_7 rfl (fun c7 => ?_) (fun c7 => ?_)
    · refine Ev.blk kX1_leastBeside_46 rfl trivial ?_
      refine Ev.iret tX1_leastBeside_47 rfl rfl ?_
      exact ⟨rfl, by rw [h0]; rfl⟩
    · exact absurd (nI_le (Nat.le_refl _) (by omega)) c7
  · rintro j L u hj ⟨rfl, rfl, h0⟩ k
    have hj8 : j < 8 := by omega
    have hcj := (hI.2.1 j hj).2.1
    have hfr := far_le (dc D i) hci (dc D j) hcj
    refine Ev.blk kX1_leastBeside_2 rfl trivial ?_
    simp only [hn]
    refine Ev.br tX1_leastBeside_7 rfl (fun c7 => ?_) (fun c7 => ?_)
    · exact absurd c7 (nI_ge hj (by omega))
    · try simp (disch := omega) only [nI_eq, nI_leI, nI_ltI] at c7
      refine Ev.blk kX1_leastBeside_10 rfl trivial ?_
      simp only [b_at hj8]
      refine Ev.br tX1_leastBeside_16 rfl (fun c16 => ?_) (fun c16 => ?_)
      · try simp (disch := omega) only [nI_eq, nI_leI, nI_ltI] at c16
        refine Ev.blk kX1_leastBeside_40 rfl trivial ?_
        refine Ev.jmp tX1_leastBeside_43 ?_
        refine k _ _ ⟨rfl, by rw [nI_add], ?_⟩
        unfold fst1
        rw [h0]
        cases hq : q j
        · simp
        · rw [hq] at c16
          first
            | exact absurd c16 (by decide)
            | (simp; omega)
      · try simp (disch := omega) only [nI_eq, nI_leI, nI_ltI] at c16
        refine Ev.blk kX1_leastBeside_19 rfl ⟨⟨trivial, vinN hi8 (by decide)⟩, vinN hj8 (by decide)⟩ ?_
        simp only [ix8 hi8, ix8 hj8, hY.c hi8, hY.c hj8]
        refine Ev.cS (d1 := d - 1) (ev_apart hci hcj) tX1_leastBeside_31 qX1_100 rfl ⟨rfl, rfl, rfl⟩ (by omega) ?_
        rintro _ _ ⟨rfl, rfl⟩
        refine Ev.blk kX1_leastBeside_34 rfl trivial ?_
        refine Ev.br tX1_leastBeside_35 rfl (fun c35 => ?_) (fun c35 => ?_)
        · try simp (disch := omega) only [nI_eq, nI_leI, nI_ltI] at c35
          refine Ev.blk kX1_leastBeside_40 rfl trivial ?_
          refine Ev.jmp tX1_leastBeside_43 ?_
          refine k _ _ ⟨rfl, by rw [nI_add], ?_⟩
          unfold fst1
          rw [h0]
          cases hq : q j
          · simp
          · rw [hq] at c16
            first
              | exact absurd c16 (by decide)
              | (simp; omega)
        · try simp (disch := omega) only [nI_eq, nI_leI, nI_ltI] at c35
          refine Ev.blk kX1_leastBeside_38 rfl trivial ?_
          refine Ev.iret tX1_leastBeside_39 rfl rfl ?_
          refine ⟨rfl, ?_⟩
          have hq : q j = true := by
            cases hq : q j
            · rw [hq] at c16; exact absurd c16 (by decide)
            · rfl
          rw [fst1_some h0 (by simp [hq]; omega) hj]
          rfl
theorem ev_nearest (hY : YardAt w y D) (hI : YI D) (hd : 1 ≤ d) {i : Nat} (hi : i < dn D) (q : Nat → Bool) : Cl l d MX1_nearest [mR 1 y, mI (nI i), mI (nI (bts q 8))] w (fun r u => u = w ∧ r = some (mI (oM1 (nrst q (fun o => far (dc D i) (dc D o)) (dn D))))) := by
  show Ev l d MX1_nearest 0 [some (mR 1 y), some (mI (nI i)), some (mI (nI (bts q 8))), none, none, none, none] [] w _
  refine Ev.blk kX1_nearest_0 rfl trivial ?_
  have hn := hY.n
  have h8 := hI.1
  have hi8 : i < 8 := by omega
  have hci := (hI.2.1 i hi).2.1
  refine Ev.for (fun j L u => u = w ∧ ∃ x, L = [some (mR 1 y), some (mI (nI i)), some (mI (nI (bts q 8))), some (mI (oM1 (nrst q (fun o => far (dc D i) (dc D o)) j))), some (mI (nI (match nrst q (fun o => far (dc D i) (dc D o)) j with | some b => far (dc D i) (dc D b) | none => 99))), some (mI (nI j)), x]) (dn D) ?_ ?_ 0 (Nat.zero_le _) ⟨rfl, none, rfl⟩
  · rintro L u ⟨rfl, x, rfl⟩
    refine Ev.blk kX1_nearest_9 rfl trivial ?_
    simp only [hn]
    refine Ev.br tX1_nearest_15 rfl (fun c15 => ?_) (fun c15 => ?_)
    · refine Ev.blk kX1_nearest_66 rfl trivial ?_
      refine Ev.iret tX1_nearest_67 rfl rfl ?_
      exact ⟨rfl, rfl⟩
    · exact absurd (nI_le (Nat.le_refl _) (by omega)) c15
  · rintro j L u hj ⟨rfl, x, rfl⟩ k
    have hj8 : j < 8 := by omega
    have hcj := (hI.2.1 j hj).2.1
    have hfr := far_le (dc D i) hci (dc D j) hcj
    have hq1 : ∀ {P : Prop}, ¬ nI (if q j = true then 1 else 0) = nI 1 → (q j = false → P) → P := fun h k => by
      cases hq : q j
      · exact k hq
      · rw [hq] at h; exact absurd rfl h
    have hq2 : ∀ {P : Prop}, ¬ ¬ nI (if q j = true then 1 else 0) = nI 1 → (q j = true → P) → P := fun h k => by
      cases hq : q j
      · rw [hq] at h; exact absurd (by decide) h
      · exact k hq
    have e : nrst q (fun o => far (dc D i) (dc D o)) (j + 1) = (match nrst q (fun o => far (dc D i) (dc D o)) j with
      | some b => if q j && decide (far (dc D i) (dc D j) < far (dc D i) (dc D b)) then some j else some b
      | none => if q j then some j else none) := rfl
    rw [e] at k
    cases hb : nrst q (fun o => far (dc D i) (dc D o)) j with
    | none =>
      rw [hb] at k
      dsimp only at k ⊢
      refine Ev.blk kX1_nearest_9 rfl trivial ?_
      simp only [hn]
      refine Ev.br tX1_nearest_15 rfl (fun c15 => ?_) (fun c15 => ?_)
      · exact absurd c15 (nI_ge hj (by omega))
      · try simp (disch := omega) only [nI_eq, nI_leI, nI_ltI] at c15
        refine Ev.blk kX1_nearest_18 rfl ⟨⟨trivial, vinN hi8 (by decide)⟩, vinN hj8 (by decide)⟩ ?_
        simp only [ix8 hi8, ix8 hj8, hY.c hi8, hY.c hj8]
        refine Ev.cS (d1 := d - 1) (ev_apart hci hcj) tX1_nearest_31 qX1_100 rfl ⟨rfl, rfl, rfl⟩ (by omega) ?_
        rintro _ _ ⟨rfl, rfl⟩
        refine Ev.blk kX1_nearest_34 rfl trivial ?_
        simp only [b_at hj8]
        refine Ev.br tX1_nearest_43 rfl (fun c43 => ?_) (fun c43 => ?_)
        · try simp (disch := omega) only [nI_eq, nI_leI, nI_ltI] at c43
          refine Ev.blk kX1_nearest_60 rfl trivial ?_
          refine Ev.jmp tX1_nearest_63 ?_
          refine k _ _ ⟨rfl, some (mI (nI (far (dc D i) (dc D j)))), ?_⟩
          rw [nI_add]
          first
            | exact hq1 c43 (fun hq => by rw [if_neg (by rw [hq]; simp)] <;> rfl)
            | exact hq2 c43 (fun hq => by rw [if_pos hq] <;> rfl)
        · try simp (disch := omega) only [nI_eq, nI_leI, nI_ltI] at c43
          refine Ev.blk kX1_nearest_46 rfl trivial ?_
          refine Ev.br tX1_nearest_50 rfl (fun c50 => ?_) (fun c50 => ?_)
          · exact absurd c50 (nI_ge (by omega) (by omega))
          · try simp (disch := omega) only [nI_eq, nI_leI, nI_ltI] at c50
            refine Ev.blk kX1_nearest_53 rfl trivial ?_
            refine Ev.blk kX1_nearest_60 rfl trivial ?_
            refine Ev.jmp tX1_nearest_63 ?_
            refine k _ _ ⟨rfl, some (mI (nI (far (dc D i) (dc D j)))), ?_⟩
            rw [nI_add]
            first
              | exact hq1 c43 (fun hq => by rw [if_neg (by rw [hq]; simp)] <;> rfl)
              | exact hq2 c43 (fun hq => by rw [if_pos hq] <;> rfl)
    | some b =>
      rw [hb] at k
      dsimp only at k ⊢
      have hfb := far_le (dc D i) hci (dc D b) (hI.2.1 b (by have := (nrst_spec hb).1; omega)).2.1
      refine Ev.blk kX1_nearest_9 rfl trivial ?_
      simp only [hn]
      refine Ev.br tX1_nearest_15 rfl (fun c15 => ?_) (fun c15 => ?_)
      · exact absurd c15 (nI_ge hj (by omega))
      · try simp (disch := omega) only [nI_eq, nI_leI, nI_ltI] at c15
        refine Ev.blk kX1_nearest_18 rfl ⟨⟨trivial, vinN hi8 (by decide)⟩, vinN hj8 (by decide)⟩ ?_
        simp only [ix8 hi8, ix8 hj8, hY.c hi8, hY.c hj8]
        refine Ev.cS (d1 := d - 1) (ev_apart hci hcj) tX1_nearest_31 qX1_100 rfl ⟨rfl, rfl, rfl⟩ (by omega) ?_
        rintro _ _ ⟨rfl, rfl⟩
        refine Ev.blk kX1_nearest_34 rfl trivial ?_
        simp only [b_at hj8]
        refine Ev.br tX1_nearest_43 rfl (fun c43 => ?_) (fun c43 => ?_)
        · try simp (disch := omega) only [nI_eq, nI_leI, nI_ltI] at c43
          refine Ev.blk kX1_nearest_60 rfl trivial ?_
          refine Ev.jmp tX1_nearest_63 ?_
          refine k _ _ ⟨rfl, some (mI (nI (far (dc D i) (dc D j)))), ?_⟩
          rw [nI_add]
          first
            | exact hq1 c43 (fun hq => by rw [if_neg (by rw [hq]; simp)] <;> rfl)
            | exact hq2 c43 (fun hq => by rw [if_neg (by rw [hq]; simp; omega)] <;> rfl)
            | exact hq2 c43 (fun hq => by rw [if_pos (by rw [hq]; simp; omega)] <;> rfl)
        · try simp (disch := omega) only [nI_eq, nI_leI, nI_ltI] at c43
          refine Ev.blk kX1_nearest_46 rfl trivial ?_
          refine Ev.br tX1_nearest_50 rfl (fun c50 => ?_) (fun c50 => ?_)
          · try simp (disch := omega) only [nI_eq, nI_leI, nI_ltI] at c50
            refine Ev.blk kX1_nearest_60 rfl trivial ?_
            refine Ev.jmp tX1_nearest_63 ?_
            refine k _ _ ⟨rfl, some (mI (nI (far (dc D i) (dc D j)))), ?_⟩
            rw [nI_add]
            first
              | exact hq1 c43 (fun hq => by rw [if_neg (by rw [hq]; simp)] <;> rfl)
              | exact hq2 c43 (fun hq => by rw [if_neg (by rw [hq]; simp; omega)] <;> rfl)
              | exact hq2 c43 (fun hq => by rw [if_pos (by rw [hq]; simp; omega)] <;> rfl)
          · try simp (disch := omega) only [nI_eq, nI_leI, nI_ltI] at c50
            refine Ev.blk kX1_nearest_53 rfl trivial ?_
            refine Ev.blk kX1_nearest_60 rfl trivial ?_
            refine Ev.jmp tX1_nearest_63 ?_
            refine k _ _ ⟨rfl, some (mI (nI (far (dc D i) (dc D j)))), ?_⟩
            rw [nI_add]
            first
              | exact hq1 c43 (fun hq => by rw [if_neg (by rw [hq]; simp)] <;> rfl)
              | exact hq2 c43 (fun hq => by rw [if_neg (by rw [hq]; simp; omega)] <;> rfl)
              | exact hq2 c43 (fun hq => by rw [if_pos (by rw [hq]; simp; omega)] <;> rfl)
end Y3
