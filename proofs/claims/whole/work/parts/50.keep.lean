/-! ===== every call leaves a state of the kind that it found ===== -/
section KP
variable {st : St}
theorem RF_SI (h : SI st) (o : Int32) : SI (RF st o).2 := h
theorem GO_SI (h : SI st) {why : Int32} {p : Int32 × St} (hp : why = nI 0 → SI p.2) : SI (GO st why p).2 := by
  unfold GO
  split
  · rename_i e
    exact hp e
  · exact h
theorem GH_SI (h : SI st) {why : Int32} {p : Int32 × St} (hp : SI p.2) : SI (GH st why p).2 := by
  unfold GH
  split
  · exact hp
  · exact h
theorem S_letter (h : SI st) (c : Int32) : SI (P_letter st c).2 := by
  unfold P_letter
  split
  · exact h
  · split
    · exact h
    · rename_i h1 h2
      have h3 : sL st ≠ 96 := fun z => h2 (Or.inr z)
      have h4 := h.2.2.1
      exact ⟨h.1, h.2.1, show sL st + 1 ≤ 96 by omega, h.2.2.2⟩
theorem S_yard (h : SI st) : SI (P_yard st).2 := by
  unfold P_yard
  split
  · exact ⟨h.1, h.2.1, Nat.zero_le _, h.2.2.2⟩
  · split
    · exact ⟨h.1, h.2.1, Nat.zero_le _, h.2.2.2⟩
    · rename_i E m he
      obtain ⟨a, b, c, d⟩ := telN_keep h.1.1 he
      exact ⟨⟨a, by show de E ≤ 999; rw [d]; exact h.1.2.1, by show dg E = 0; rw [c]; exact h.1.2.2.1, by show da E = 99; rw [b]; exact h.1.2.2.2⟩, h.2.1, Nat.zero_le _, h.2.2.2⟩
theorem S_child (h : SI st) (c x : Int32) : SI (P_child st c x).2 := by
  unfold P_child
  repeat' split
  all_goals exact h
theorem S_go (h : SI st) (c x : Int32) : SI (P_go st c x).2 := by
  unfold P_go
  split
  · rename_i e
    obtain ⟨k, hk, rfl⟩ := cellI_ok e.2
    exact ⟨⟨h.1.1.uc (by rw [ixC (by omega)]; exact hk), h.1.2⟩, h.2⟩
  · exact h
theorem S_touch (h : SI st) (c : Int32) : SI (P_touch st c).2 := by
  unfold P_touch
  split
  · rename_i e
    split
    · exact h
    · rename_i h1
      obtain ⟨i, hi, rfl⟩ : ∃ i, i < dn (sN st) ∧ c = nI i := hasI_of e h.1.1.1
      rw [ixC (by have := h.1.1.1; omega)] at h1 ⊢
      refine ⟨⟨h.1.1.us (fun j hj => ?_), h.1.2⟩, h.2⟩
      unfold va_up at hj
      split at hj
      · rename_i ej
        subst ej
        refine ⟨hi, ?_⟩
        unfold isC at h1
        simp only [decide_eq_true_eq] at h1
        have := h.1.1.kd hi
        omega
      · exact h.1.1.st hj
  · exact h
theorem S_law (h : SI st) (v : Int32) : SI (P_law st v).2 := by
  unfold P_law
  split
  · rename_i e
    have e1 : ix v < 4 := by
      rcases pk_ix v (n := 4) (by decide) with g | g | ⟨j, g1, g2⟩
      · exact absurd g (Int32.not_lt.mpr e.1)
      · exact absurd e.2 (Int32.not_lt.mpr g)
      · rw [g2, ixC (by omega)]; exact g1
    exact ⟨⟨h.1.1.ul e1, h.1.2⟩, h.2⟩
  · exact h
theorem S_far (h : SI st) (a b : Int32) : SI (P_far st a b).2 := by
  unfold P_far
  split <;> exact h
theorem S_seconds (h : SI st) (n : Int32) : SI (P_seconds st n).2 := by
  unfold P_seconds
  refine GO_SI h (fun e => ?_)
  unfold wSec at e
  split at e
  · exact absurd e (by decide)
  · rename_i h1
    obtain ⟨k, k1, k2, rfl⟩ := outs_ok (by decide) (by decide) e
    have h2 : ¬ nI 999 < nI (de (sN st)) + nI k := fun z => h1 ⟨e, z⟩
    have h3 := h.1.2.1
    rw [nI_add, nI_ltI (by omega) (by omega)] at h2
    rw [ixC (by omega)]
    have hn := passN_n (D := sN st) k
    refine ⟨⟨h.1.pass (n := k) (by omega), ?_, rfl, ?_⟩, h.2⟩
    · show de (passN (sN st) k) ≤ 999
      rw [hn.2.2.2.2.2]; omega
    · show da (passN (sN st) k) = 99
      rw [hn.2.2.2.2.1]; exact h.1.2.2.2
theorem S_stand (h : SI st) (n : Int32) : SI (P_stand st n).2 := GO_SI h (fun _ => h)
theorem S_where (h : SI st) (c n : Int32) : SI (P_where st c n).2 := GO_SI h (fun _ => h)
theorem S_over (h : SI st) : SI (P_over st).2 := by
  unfold P_over
  split <;> exact h
theorem S_mean (h : SI st) (n x : Int32) : SI (P_mean st n x).2 := by
  unfold P_mean
  split <;> exact h
theorem S_frees (h : SI st) (n : Int32) : SI (P_frees st n).2 := GO_SI h (fun _ => h)
theorem S_never (h : SI st) (n : Int32) : SI (P_never st n).2 := GO_SI h (fun _ => h)
theorem S_mayFree (h : SI st) (c : Int32) : SI (P_mayFree st c).2 := by
  unfold P_mayFree
  split <;> exact h
theorem S_worth (h : SI st) (c : Int32) : SI (P_worth st c).2 := GH_SI h h
theorem S_hunt (h : SI st) (c n x : Int32) : SI (P_hunt st c n x).2 := GO_SI h (fun _ => h)
theorem S_enough (h : SI st) : SI (P_enough st).2 := by
  unfold P_enough
  split <;> exact h
theorem S_change (h : SI st) (a b x : Int32) : SI (P_change st a b x).2 := GO_SI h (fun _ => h)
theorem S_longest (h : SI st) : SI (P_longest st).2 := by
  unfold P_longest
  split <;> exact h
theorem S_owes (h : SI st) (c x : Int32) : SI (P_owes st c x).2 := by
  unfold P_owes
  split <;> exact h
theorem S_debt (h : SI st) (c : Int32) : SI (P_debt st c).2 := GH_SI h h
theorem S_why (h : SI st) (c n : Int32) : SI (P_why st c n).2 := GO_SI h (fun _ => h)
theorem S_row (h : SI st) (v : Int32) : SI (P_row st v).2 := by
  unfold P_row
  refine GO_SI h (fun e => ?_)
  unfold wRow at e
  split at e
  · exact absurd e (by decide)
  · rename_i h1
    obtain ⟨k, k1, k2, rfl⟩ := outs_ok (by decide) (by decide) e
    have h2 : sM st ≠ 20 := fun z => h1 ⟨e, z⟩
    have h3 := h.2.2.2.1
    refine ⟨h.1, h.2.1, h.2.2.1, show sM st + 1 ≤ 20 by omega, fun j hj => ?_⟩
    have hj : j < sM st + 1 := hj
    show va_up (sR st) (sM st) (ix (nI k)) j ≤ 8
    rw [ixC (by omega)]
    unfold va_up
    split
    · exact k2
    · exact h.2.2.2.2 j (by omega)
theorem S_fits (h : SI st) (c : Int32) : SI (P_fits st c).2 := by
  unfold P_fits
  split <;> exact h
theorem S_judge (h : SI st) : SI (P_judge st).2 := ⟨h.1, h.2.1, h.2.2.1, Nat.zero_le _, fun j hj => absurd hj (Nat.not_lt_zero j)⟩
theorem S_lots (h : SI st) (n z : Int32) : SI (P_lots st n z).2 := GO_SI h (fun _ => h)
theorem S_image (h : SI st) : SI (P_image st).2 := ⟨h.1, fun _ => h.1, h.2.2⟩
theorem S_on (h : SI st) : SI (P_on st).2 := by
  unfold P_on
  split
  · rename_i e
    exact ⟨h.2.1 e, h.2⟩
  · exact h
theorem S_count (h : SI st) (x : Int32) : SI (P_count st x).2 := h
end KP
