/-! ===== the reference: its rows are put away and back ===== -/
def KeptAt (w : mW) (b : Nat) (D : Yd) : Prop :=
  (∀ j, j < dn D → mga w 23 0 (b + j) = nI (dk D j)) ∧ (∀ j, j < dn D → mga w 23 0 (b + 8 + j) = nI (dc D j)) ∧ (∀ j, j < dn D → mga w 23 0 (b + 16 + j) = nI (df D j)) ∧ (∀ j, j < 8 → mga w 23 0 (b + 24 + j) = bI (ds D j)) ∧ (∀ j, j < 8 → mga w 23 0 (b + 32 + j) = nI (dt D j)) ∧ (∀ j, j < 64 → mga w 23 0 (b + 40 + j) = nI (dr D j)) ∧ mga w 23 0 (b + 104) = nI (dn D) ∧ mga w 23 0 (b + 105) = nI (dl D) ∧ mga w 23 0 (b + 106) = nI (de D)
/-- a row lies in the row of what is kept -/
def ptK (w u : mW) (t c N : Nat) : Prop := ∀ j, mga u 23 0 j = if c ≤ j ∧ j < c + N then mga w t 0 (j - c) else mga w 23 0 j
abbrev OmK (w u : mW) : Prop := Om (fun k => k = 20) (fun t => t = 23) w u
abbrev OmR (t : Nat) (w u : mW) : Prop := Om (fun k => k = 20) (fun t' => t' = t) w u
section M4
variable {l : Launch} {d : Nat} {w : mW}
theorem em_pK13 {c : Nat} (hc : mgf w 11 0 20 = nI c) (hk : mgf w 11 0 19 = nI 1) (hb : c + 8 ≤ 220) : Cl l d MX3_passes [mR 11 0, mR 13 0] w (fun r u => r = none ∧ OmK w u ∧ mgf u 11 0 20 = nI (c + 8) ∧ ptK w u 13 c 8) := by
  show Ev l d MX3_passes 0 [some (mR 11 0), some (mR 13 0), none] [] w _
  refine Ev.blk kX3_passes_0 rfl trivial ?_
  refine Ev.for (fun j L u => OmK w u ∧ mgf u 11 0 20 = nI (c + j) ∧ ptK w u 13 c j ∧ L = [some (mR 11 0), some (mR 13 0), some (mI (nI j))]) 8 ?_ ?_ 0 (Nat.zero_le _) ⟨Om.rf, hc, fun j => by rw [if_neg (by omega)], rfl⟩
  · rintro L u ⟨ho, hcu, hp, rfl⟩
    refine Ev.blk kX3_passes_2 rfl trivial ?_
    refine Ev.br tX3_passes_5 rfl (fun c5 => ?_) (fun c5 => ?_)
    · refine Ev.vret tX3_passes_58 rfl ?_
      exact ⟨rfl, ho, hcu, hp⟩
    · exact absurd (nI_le (Nat.le_refl _) (by decide)) c5
  · rintro j L u hj ⟨ho, hcu, hp, rfl⟩ k
    have hku : mgf u 11 0 19 = nI 1 := (ho.1 11 0 19 (by decide)).trans hk
    have hau : mga u 13 0 j = mga w 13 0 j := by rw [ho.2 13 0 (by decide)]
    refine Ev.blk kX3_passes_2 rfl trivial ?_
    refine Ev.br tX3_passes_5 rfl (fun c5 => ?_) (fun c5 => ?_)
    · exact absurd c5 (nI_ge hj (by decide))
    · refine Ev.blk kX3_passes_8 rfl trivial ?_
      rw [hku]
      refine Ev.br tX3_passes_12 rfl (fun c12 => ?_) (fun c12 => ?_)
      · exact absurd c12 (by decide)
      · refine Ev.blk kX3_passes_15 rfl ⟨⟨trivial, vinN hj (by decide)⟩, by rw [hcu]; exact vinN (show c + j < 220 by omega) (by decide)⟩ ?_
        simp only [hcu]
        rw [ixN (show c + j < 1000 by omega), ixN (show j < 1000 by omega), hau]
        refine Ev.jmp tX3_passes_27 ?_
        refine Ev.blk kX3_passes_42 rfl trivial ?_
        simp only [mgf_pA, hcu, nI_add]
        refine Ev.jmp tX3_passes_55 ?_
        refine k _ _ ⟨ho.tr ((Om.pA (by decide)).tr (Om.pf (by decide))), mgf_pf, ?_, rfl⟩
        intro i
        rw [mga_pf, mga_pA]
        unfold upd
        by_cases e : i = c + j
        · rw [if_pos e, if_pos (by omega), show i - c = j by omega]
        · rw [if_neg e, hp i]
          by_cases e2 : c ≤ i ∧ i < c + j
          · rw [if_pos e2, if_pos (by omega)]
          · rw [if_neg e2, if_neg (by omega)]
theorem em_pR13 {c : Nat} (hc : mgf w 11 0 20 = nI c) (hk : mgf w 11 0 19 = nI 0) (hb : c + 8 ≤ 220) : Cl l d MX3_passes [mR 11 0, mR 13 0] w (fun r u => r = none ∧ OmR 13 w u ∧ mgf u 11 0 20 = nI (c + 8) ∧ ∀ j, j < 8 → mga u 13 0 j = mga w 23 0 (c + j)) := by
  show Ev l d MX3_passes 0 [some (mR 11 0), some (mR 13 0), none] [] w _
  refine Ev.blk kX3_passes_0 rfl trivial ?_
  refine Ev.for (fun j L u => OmR 13 w u ∧ mgf u 11 0 20 = nI (c + j) ∧ (∀ i, i < j → mga u 13 0 i = mga w 23 0 (c + i)) ∧ L = [some (mR 11 0), some (mR 13 0), some (mI (nI j))]) 8 ?_ ?_ 0 (Nat.zero_le _) ⟨Om.rf, hc, fun j hj => by omega, rfl⟩
  · rintro L u ⟨ho, hcu, hp, rfl⟩
    refine Ev.blk kX3_passes_2 rfl trivial ?_
    refine Ev.br tX3_passes_5 rfl (fun c5 => ?_) (fun c5 => ?_)
    · refine Ev.vret tX3_passes_58 rfl ?_
      exact ⟨rfl, ho, hcu, hp⟩
    · exact absurd (nI_le (Nat.le_refl _) (by decide)) c5
  · rintro j L u hj ⟨ho, hcu, hp, rfl⟩ k
    have hku : mgf u 11 0 19 = nI 0 := (ho.1 11 0 19 (by decide)).trans hk
    have hau : mga u 23 0 (c + j) = mga w 23 0 (c + j) := by rw [ho.2 23 0 (by decide)]
    refine Ev.blk kX3_passes_2 rfl trivial ?_
    refine Ev.br tX3_passes_5 rfl (fun c5 => ?_) (fun c5 => ?_)
    · exact absurd c5 (nI_ge hj (by decide))
    · refine Ev.blk kX3_passes_8 rfl trivial ?_
      rw [hku]
      refine Ev.br tX3_passes_12 rfl (fun c12 => ?_) (fun c12 => ?_)
      · refine Ev.blk kX3_passes_30 rfl ⟨⟨trivial, by rw [hcu]; exact vinN (show c + j < 220 by omega) (by decide)⟩, vinN hj (by decide)⟩ ?_
        simp only [hcu]
        rw [ixN (show c + j < 1000 by omega), ixN (show j < 1000 by omega), hau]
        refine Ev.blk kX3_passes_42 rfl trivial ?_
        simp only [mgf_pA, hcu, nI_add]
        refine Ev.jmp tX3_passes_55 ?_
        refine k _ _ ⟨ho.tr ((Om.pA (by decide)).tr (Om.pf (by decide))), mgf_pf, ?_, rfl⟩
        intro i hi
        rw [mga_pf, mga_pA]
        unfold upd
        by_cases e : i = j
        · rw [if_pos e, e]
        · rw [if_neg e]
          exact hp i (by omega)
      · exact absurd rfl c12
theorem em_pK14 {c : Nat} (hc : mgf w 11 0 20 = nI c) (hk : mgf w 11 0 19 = nI 1) (hb : c + 8 ≤ 220) : Cl l d MX3_passes [mR 11 0, mR 14 0] w (fun r u => r = none ∧ OmK w u ∧ mgf u 11 0 20 = nI (c + 8) ∧ ptK w u 14 c 8) := by
  show Ev l d MX3_passes 0 [some (mR 11 0), some (mR 14 0), none] [] w _
  refine Ev.blk kX3_passes_0 rfl trivial ?_
  refine Ev.for (fun j L u => OmK w u ∧ mgf u 11 0 20 = nI (c + j) ∧ ptK w u 14 c j ∧ L = [some (mR 11 0), some (mR 14 0), some (mI (nI j))]) 8 ?_ ?_ 0 (Nat.zero_le _) ⟨Om.rf, hc, fun j => by rw [if_neg (by omega)], rfl⟩
  · rintro L u ⟨ho, hcu, hp, rfl⟩
    refine Ev.blk kX3_passes_2 rfl trivial ?_
    refine Ev.br tX3_passes_5 rfl (fun c5 => ?_) (fun c5 => ?_)
    · refine Ev.vret tX3_passes_58 rfl ?_
      exact ⟨rfl, ho, hcu, hp⟩
    · exact absurd (nI_le (Nat.le_refl _) (by decide)) c5
  · rintro j L u hj ⟨ho, hcu, hp, rfl⟩ k
    have hku : mgf u 11 0 19 = nI 1 := (ho.1 11 0 19 (by decide)).trans hk
    have hau : mga u 14 0 j = mga w 14 0 j := by rw [ho.2 14 0 (by decide)]
    refine Ev.blk kX3_passes_2 rfl trivial ?_
    refine Ev.br tX3_passes_5 rfl (fun c5 => ?_) (fun c5 => ?_)
    · exact absurd c5 (nI_ge hj (by decide))
    · refine Ev.blk kX3_passes_8 rfl trivial ?_
      rw [hku]
      refine Ev.br tX3_passes_12 rfl (fun c12 => ?_) (fun c12 => ?_)
      · exact absurd c12 (by decide)
      · refine Ev.blk kX3_passes_15 rfl ⟨⟨trivial, vinN hj (by decide)⟩, by rw [hcu]; exact vinN (show c + j < 220 by omega) (by decide)⟩ ?_
        simp only [hcu]
        rw [ixN (show c + j < 1000 by omega), ixN (show j < 1000 by omega), hau]
        refine Ev.jmp tX3_passes_27 ?_
        refine Ev.blk kX3_passes_42 rfl trivial ?_
        simp only [mgf_pA, hcu, nI_add]
        refine Ev.jmp tX3_passes_55 ?_
        refine k _ _ ⟨ho.tr ((Om.pA (by decide)).tr (Om.pf (by decide))), mgf_pf, ?_, rfl⟩
        intro i
        rw [mga_pf, mga_pA]
        unfold upd
        by_cases e : i = c + j
        · rw [if_pos e, if_pos (by omega), show i - c = j by omega]
        · rw [if_neg e, hp i]
          by_cases e2 : c ≤ i ∧ i < c + j
          · rw [if_pos e2, if_pos (by omega)]
          · rw [if_neg e2, if_neg (by omega)]
theorem em_pR14 {c : Nat} (hc : mgf w 11 0 20 = nI c) (hk : mgf w 11 0 19 = nI 0) (hb : c + 8 ≤ 220) : Cl l d MX3_passes [mR 11 0, mR 14 0] w (fun r u => r = none ∧ OmR 14 w u ∧ mgf u 11 0 20 = nI (c + 8) ∧ ∀ j, j < 8 → mga u 14 0 j = mga w 23 0 (c + j)) := by
  show Ev l d MX3_passes 0 [some (mR 11 0), some (mR 14 0), none] [] w _
  refine Ev.blk kX3_passes_0 rfl trivial ?_
  refine Ev.for (fun j L u => OmR 14 w u ∧ mgf u 11 0 20 = nI (c + j) ∧ (∀ i, i < j → mga u 14 0 i = mga w 23 0 (c + i)) ∧ L = [some (mR 11 0), some (mR 14 0), some (mI (nI j))]) 8 ?_ ?_ 0 (Nat.zero_le _) ⟨Om.rf, hc, fun j hj => by omega, rfl⟩
  · rintro L u ⟨ho, hcu, hp, rfl⟩
    refine Ev.blk kX3_passes_2 rfl trivial ?_
    refine Ev.br tX3_passes_5 rfl (fun c5 => ?_) (fun c5 => ?_)
    · refine Ev.vret tX3_passes_58 rfl ?_
      exact ⟨rfl, ho, hcu, hp⟩
    · exact absurd (nI_le (Nat.le_refl _) (by decide)) c5
  · rintro j L u hj ⟨ho, hcu, hp, rfl⟩ k
    have hku : mgf u 11 0 19 = nI 0 := (ho.1 11 0 19 (by decide)).trans hk
    have hau : mga u 23 0 (c + j) = mga w 23 0 (c + j) := by rw [ho.2 23 0 (by decide)]
    refine Ev.blk kX3_passes_2 rfl trivial ?_
    refine Ev.br tX3_passes_5 rfl (fun c5 => ?_) (fun c5 => ?_)
    · exact absurd c5 (nI_ge hj (by decide))
    · refine Ev.blk kX3_passes_8 rfl trivial ?_
      rw [hku]
      refine Ev.br tX3_passes_12 rfl (fun c12 => ?_) (fun c12 => ?_)
      · refine Ev.blk kX3_passes_30 rfl ⟨⟨trivial, by rw [hcu]; exact vinN (show c + j < 220 by omega) (by decide)⟩, vinN hj (by decide)⟩ ?_
        simp only [hcu]
        rw [ixN (show c + j < 1000 by omega), ixN (show j < 1000 by omega), hau]
        refine Ev.blk kX3_passes_42 rfl trivial ?_
        simp only [mgf_pA, hcu, nI_add]
        refine Ev.jmp tX3_passes_55 ?_
        refine k _ _ ⟨ho.tr ((Om.pA (by decide)).tr (Om.pf (by decide))), mgf_pf, ?_, rfl⟩
        intro i hi
        rw [mga_pf, mga_pA]
        unfold upd
        by_cases e : i = j
        · rw [if_pos e, e]
        · rw [if_neg e]
          exact hp i (by omega)
      · exact absurd rfl c12
theorem em_pK15 {c : Nat} (hc : mgf w 11 0 20 = nI c) (hk : mgf w 11 0 19 = nI 1) (hb : c + 8 ≤ 220) : Cl l d MX3_passes [mR 11 0, mR 15 0] w (fun r u => r = none ∧ OmK w u ∧ mgf u 11 0 20 = nI (c + 8) ∧ ptK w u 15 c 8) := by
  show Ev l d MX3_passes 0 [some (mR 11 0), some (mR 15 0), none] [] w _
  refine Ev.blk kX3_passes_0 rfl trivial ?_
  refine Ev.for (fun j L u => OmK w u ∧ mgf u 11 0 20 = nI (c + j) ∧ ptK w u 15 c j ∧ L = [some (mR 11 0), some (mR 15 0), some (mI (nI j))]) 8 ?_ ?_ 0 (Nat.zero_le _) ⟨Om.rf, hc, fun j => by rw [if_neg (by omega)], rfl⟩
  · rintro L u ⟨ho, hcu, hp, rfl⟩
    refine Ev.blk kX3_passes_2 rfl trivial ?_
    refine Ev.br tX3_passes_5 rfl (fun c5 => ?_) (fun c5 => ?_)
    · refine Ev.vret tX3_passes_58 rfl ?_
      exact ⟨rfl, ho, hcu, hp⟩
    · exact absurd (nI_le (Nat.le_refl _) (by decide)) c5
  · rintro j L u hj ⟨ho, hcu, hp, rfl⟩ k
    have hku : mgf u 11 0 19 = nI 1 := (ho.1 11 0 19 (by decide)).trans hk
    have hau : mga u 15 0 j = mga w 15 0 j := by rw [ho.2 15 0 (by decide)]
    refine Ev.blk kX3_passes_2 rfl trivial ?_
    refine Ev.br tX3_passes_5 rfl (fun c5 => ?_) (fun c5 => ?_)
    · exact absurd c5 (nI_ge hj (by decide))
    · refine Ev.blk kX3_passes_8 rfl trivial ?_
      rw [hku]
      refine Ev.br tX3_passes_12 rfl (fun c12 => ?_) (fun c12 => ?_)
      · exact absurd c12 (by decide)
      · refine Ev.blk kX3_passes_15 rfl ⟨⟨trivial, vinN hj (by decide)⟩, by rw [hcu]; exact vinN (show c + j < 220 by omega) (by decide)⟩ ?_
        simp only [hcu]
        rw [ixN (show c + j < 1000 by omega), ixN (show j < 1000 by omega), hau]
        refine Ev.jmp tX3_passes_27 ?_
        refine Ev.blk kX3_passes_42 rfl trivial ?_
        simp only [mgf_pA, hcu, nI_add]
        refine Ev.jmp tX3_passes_55 ?_
        refine k _ _ ⟨ho.tr ((Om.pA (by decide)).tr (Om.pf (by decide))), mgf_pf, ?_, rfl⟩
        intro i
        rw [mga_pf, mga_pA]
        unfold upd
        by_cases e : i = c + j
        · rw [if_pos e, if_pos (by omega), show i - c = j by omega]
        · rw [if_neg e, hp i]
          by_cases e2 : c ≤ i ∧ i < c + j
          · rw [if_pos e2, if_pos (by omega)]
          · rw [if_neg e2, if_neg (by omega)]
theorem em_pR15 {c : Nat} (hc : mgf w 11 0 20 = nI c) (hk : mgf w 11 0 19 = nI 0) (hb : c + 8 ≤ 220) : Cl l d MX3_passes [mR 11 0, mR 15 0] w (fun r u => r = none ∧ OmR 15 w u ∧ mgf u 11 0 20 = nI (c + 8) ∧ ∀ j, j < 8 → mga u 15 0 j = mga w 23 0 (c + j)) := by
  show Ev l d MX3_passes 0 [some (mR 11 0), some (mR 15 0), none] [] w _
  refine Ev.blk kX3_passes_0 rfl trivial ?_
  refine Ev.for (fun j L u => OmR 15 w u ∧ mgf u 11 0 20 = nI (c + j) ∧ (∀ i, i < j → mga u 15 0 i = mga w 23 0 (c + i)) ∧ L = [some (mR 11 0), some (mR 15 0), some (mI (nI j))]) 8 ?_ ?_ 0 (Nat.zero_le _) ⟨Om.rf, hc, fun j hj => by omega, rfl⟩
  · rintro L u ⟨ho, hcu, hp, rfl⟩
    refine Ev.blk kX3_passes_2 rfl trivial ?_
    refine Ev.br tX3_passes_5 rfl (fun c5 => ?_) (fun c5 => ?_)
    · refine Ev.vret tX3_passes_58 rfl ?_
      exact ⟨rfl, ho, hcu, hp⟩
    · exact absurd (nI_le (Nat.le_refl _) (by decide)) c5
  · rintro j L u hj ⟨ho, hcu, hp, rfl⟩ k
    have hku : mgf u 11 0 19 = nI 0 := (ho.1 11 0 19 (by decide)).trans hk
    have hau : mga u 23 0 (c + j) = mga w 23 0 (c + j) := by rw [ho.2 23 0 (by decide)]
    refine Ev.blk kX3_passes_2 rfl trivial ?_
    refine Ev.br tX3_passes_5 rfl (fun c5 => ?_) (fun c5 => ?_)
    · exact absurd c5 (nI_ge hj (by decide))
    · refine Ev.blk kX3_passes_8 rfl trivial ?_
      rw [hku]
      refine Ev.br tX3_passes_12 rfl (fun c12 => ?_) (fun c12 => ?_)
      · refine Ev.blk kX3_passes_30 rfl ⟨⟨trivial, by rw [hcu]; exact vinN (show c + j < 220 by omega) (by decide)⟩, vinN hj (by decide)⟩ ?_
        simp only [hcu]
        rw [ixN (show c + j < 1000 by omega), ixN (show j < 1000 by omega), hau]
        refine Ev.blk kX3_passes_42 rfl trivial ?_
        simp only [mgf_pA, hcu, nI_add]
        refine Ev.jmp tX3_passes_55 ?_
        refine k _ _ ⟨ho.tr ((Om.pA (by decide)).tr (Om.pf (by decide))), mgf_pf, ?_, rfl⟩
        intro i hi
        rw [mga_pf, mga_pA]
        unfold upd
        by_cases e : i = j
        · rw [if_pos e, e]
        · rw [if_neg e]
          exact hp i (by omega)
      · exact absurd rfl c12
theorem em_pK16 {c : Nat} (hc : mgf w 11 0 20 = nI c) (hk : mgf w 11 0 19 = nI 1) (hb : c + 8 ≤ 220) : Cl l d MX3_passes [mR 11 0, mR 16 0] w (fun r u => r = none ∧ OmK w u ∧ mgf u 11 0 20 = nI (c + 8) ∧ ptK w u 16 c 8) := by
  show Ev l d MX3_passes 0 [some (mR 11 0), some (mR 16 0), none] [] w _
  refine Ev.blk kX3_passes_0 rfl trivial ?_
  refine Ev.for (fun j L u => OmK w u ∧ mgf u 11 0 20 = nI (c + j) ∧ ptK w u 16 c j ∧ L = [some (mR 11 0), some (mR 16 0), some (mI (nI j))]) 8 ?_ ?_ 0 (Nat.zero_le _) ⟨Om.rf, hc, fun j => by rw [if_neg (by omega)], rfl⟩
  · rintro L u ⟨ho, hcu, hp, rfl⟩
    refine Ev.blk kX3_passes_2 rfl trivial ?_
    refine Ev.br tX3_passes_5 rfl (fun c5 => ?_) (fun c5 => ?_)
    · refine Ev.vret tX3_passes_58 rfl ?_
      exact ⟨rfl, ho, hcu, hp⟩
    · exact absurd (nI_le (Nat.le_refl _) (by decide)) c5
  · rintro j L u hj ⟨ho, hcu, hp, rfl⟩ k
    have hku : mgf u 11 0 19 = nI 1 := (ho.1 11 0 19 (by decide)).trans hk
    have hau : mga u 16 0 j = mga w 16 0 j := by rw [ho.2 16 0 (by decide)]
    refine Ev.blk kX3_passes_2 rfl trivial ?_
    refine Ev.br tX3_passes_5 rfl (fun c5 => ?_) (fun c5 => ?_)
    · exact absurd c5 (nI_ge hj (by decide))
    · refine Ev.blk kX3_passes_8 rfl trivial ?_
      rw [hku]
      refine Ev.br tX3_passes_12 rfl (fun c12 => ?_) (fun c12 => ?_)
      · exact absurd c12 (by decide)
      · refine Ev.blk kX3_passes_15 rfl ⟨⟨trivial, vinN hj (by decide)⟩, by rw [hcu]; exact vinN (show c + j < 220 by omega) (by decide)⟩ ?_
        simp only [hcu]
        rw [ixN (show c + j < 1000 by omega), ixN (show j < 1000 by omega), hau]
        refine Ev.jmp tX3_passes_27 ?_
        refine Ev.blk kX3_passes_42 rfl trivial ?_
        simp only [mgf_pA, hcu, nI_add]
        refine Ev.jmp tX3_passes_55 ?_
        refine k _ _ ⟨ho.tr ((Om.pA (by decide)).tr (Om.pf (by decide))), mgf_pf, ?_, rfl⟩
        intro i
        rw [mga_pf, mga_pA]
        unfold upd
        by_cases e : i = c + j
        · rw [if_pos e, if_pos (by omega), show i - c = j by omega]
        · rw [if_neg e, hp i]
          by_cases e2 : c ≤ i ∧ i < c + j
          · rw [if_pos e2, if_pos (by omega)]
          · rw [if_neg e2, if_neg (by omega)]
theorem em_pR16 {c : Nat} (hc : mgf w 11 0 20 = nI c) (hk : mgf w 11 0 19 = nI 0) (hb : c + 8 ≤ 220) : Cl l d MX3_passes [mR 11 0, mR 16 0] w (fun r u => r = none ∧ OmR 16 w u ∧ mgf u 11 0 20 = nI (c + 8) ∧ ∀ j, j < 8 → mga u 16 0 j = mga w 23 0 (c + j)) := by
  show Ev l d MX3_passes 0 [some (mR 11 0), some (mR 16 0), none] [] w _
  refine Ev.blk kX3_passes_0 rfl trivial ?_
  refine Ev.for (fun j L u => OmR 16 w u ∧ mgf u 11 0 20 = nI (c + j) ∧ (∀ i, i < j → mga u 16 0 i = mga w 23 0 (c + i)) ∧ L = [some (mR 11 0), some (mR 16 0), some (mI (nI j))]) 8 ?_ ?_ 0 (Nat.zero_le _) ⟨Om.rf, hc, fun j hj => by omega, rfl⟩
  · rintro L u ⟨ho, hcu, hp, rfl⟩
    refine Ev.blk kX3_passes_2 rfl trivial ?_
    refine Ev.br tX3_passes_5 rfl (fun c5 => ?_) (fun c5 => ?_)
    · refine Ev.vret tX3_passes_58 rfl ?_
      exact ⟨rfl, ho, hcu, hp⟩
    · exact absurd (nI_le (Nat.le_refl _) (by decide)) c5
  · rintro j L u hj ⟨ho, hcu, hp, rfl⟩ k
    have hku : mgf u 11 0 19 = nI 0 := (ho.1 11 0 19 (by decide)).trans hk
    have hau : mga u 23 0 (c + j) = mga w 23 0 (c + j) := by rw [ho.2 23 0 (by decide)]
    refine Ev.blk kX3_passes_2 rfl trivial ?_
    refine Ev.br tX3_passes_5 rfl (fun c5 => ?_) (fun c5 => ?_)
    · exact absurd c5 (nI_ge hj (by decide))
    · refine Ev.blk kX3_passes_8 rfl trivial ?_
      rw [hku]
      refine Ev.br tX3_passes_12 rfl (fun c12 => ?_) (fun c12 => ?_)
      · refine Ev.blk kX3_passes_30 rfl ⟨⟨trivial, by rw [hcu]; exact vinN (show c + j < 220 by omega) (by decide)⟩, vinN hj (by decide)⟩ ?_
        simp only [hcu]
        rw [ixN (show c + j < 1000 by omega), ixN (show j < 1000 by omega), hau]
        refine Ev.blk kX3_passes_42 rfl trivial ?_
        simp only [mgf_pA, hcu, nI_add]
        refine Ev.jmp tX3_passes_55 ?_
        refine k _ _ ⟨ho.tr ((Om.pA (by decide)).tr (Om.pf (by decide))), mgf_pf, ?_, rfl⟩
        intro i hi
        rw [mga_pf, mga_pA]
        unfold upd
        by_cases e : i = j
        · rw [if_pos e, e]
        · rw [if_neg e]
          exact hp i (by omega)
      · exact absurd rfl c12
theorem em_pK17 {c : Nat} (hc : mgf w 11 0 20 = nI c) (hk : mgf w 11 0 19 = nI 1) (hb : c + 8 ≤ 220) : Cl l d MX3_passes [mR 11 0, mR 17 0] w (fun r u => r = none ∧ OmK w u ∧ mgf u 11 0 20 = nI (c + 8) ∧ ptK w u 17 c 8) := by
  show Ev l d MX3_passes 0 [some (mR 11 0), some (mR 17 0), none] [] w _
  refine Ev.blk kX3_passes_0 rfl trivial ?_
  refine Ev.for (fun j L u => OmK w u ∧ mgf u 11 0 20 = nI (c + j) ∧ ptK w u 17 c j ∧ L = [some (mR 11 0), some (mR 17 0), some (mI (nI j))]) 8 ?_ ?_ 0 (Nat.zero_le _) ⟨Om.rf, hc, fun j => by rw [if_neg (by omega)], rfl⟩
  · rintro L u ⟨ho, hcu, hp, rfl⟩
    refine Ev.blk kX3_passes_2 rfl trivial ?_
    refine Ev.br tX3_passes_5 rfl (fun c5 => ?_) (fun c5 => ?_)
    · refine Ev.vret tX3_passes_58 rfl ?_
      exact ⟨rfl, ho, hcu, hp⟩
    · exact absurd (nI_le (Nat.le_refl _) (by decide)) c5
  · rintro j L u hj ⟨ho, hcu, hp, rfl⟩ k
    have hku : mgf u 11 0 19 = nI 1 := (ho.1 11 0 19 (by decide)).trans hk
    have hau : mga u 17 0 j = mga w 17 0 j := by rw [ho.2 17 0 (by decide)]
    refine Ev.blk kX3_passes_2 rfl trivial ?_
    refine Ev.br tX3_passes_5 rfl (fun c5 => ?_) (fun c5 => ?_)
    · exact absurd c5 (nI_ge hj (by decide))
    · refine Ev.blk kX3_passes_8 rfl trivial ?_
      rw [hku]
      refine Ev.br tX3_passes_12 rfl (fun c12 => ?_) (fun c12 => ?_)
      · exact absurd c12 (by decide)
      · refine Ev.blk kX3_passes_15 rfl ⟨⟨trivial, vinN hj (by decide)⟩, by rw [hcu]; exact vinN (show c + j < 220 by omega) (by decide)⟩ ?_
        simp only [hcu]
        rw [ixN (show c + j < 1000 by omega), ixN (show j < 1000 by omega), hau]
        refine Ev.jmp tX3_passes_27 ?_
        refine Ev.blk kX3_passes_42 rfl trivial ?_
        simp only [mgf_pA, hcu, nI_add]
        refine Ev.jmp tX3_passes_55 ?_
        refine k _ _ ⟨ho.tr ((Om.pA (by decide)).tr (Om.pf (by decide))), mgf_pf, ?_, rfl⟩
        intro i
        rw [mga_pf, mga_pA]
        unfold upd
        by_cases e : i = c + j
        · rw [if_pos e, if_pos (by omega), show i - c = j by omega]
        · rw [if_neg e, hp i]
          by_cases e2 : c ≤ i ∧ i < c + j
          · rw [if_pos e2, if_pos (by omega)]
          · rw [if_neg e2, if_neg (by omega)]
theorem em_pR17 {c : Nat} (hc : mgf w 11 0 20 = nI c) (hk : mgf w 11 0 19 = nI 0) (hb : c + 8 ≤ 220) : Cl l d MX3_passes [mR 11 0, mR 17 0] w (fun r u => r = none ∧ OmR 17 w u ∧ mgf u 11 0 20 = nI (c + 8) ∧ ∀ j, j < 8 → mga u 17 0 j = mga w 23 0 (c + j)) := by
  show Ev l d MX3_passes 0 [some (mR 11 0), some (mR 17 0), none] [] w _
  refine Ev.blk kX3_passes_0 rfl trivial ?_
  refine Ev.for (fun j L u => OmR 17 w u ∧ mgf u 11 0 20 = nI (c + j) ∧ (∀ i, i < j → mga u 17 0 i = mga w 23 0 (c + i)) ∧ L = [some (mR 11 0), some (mR 17 0), some (mI (nI j))]) 8 ?_ ?_ 0 (Nat.zero_le _) ⟨Om.rf, hc, fun j hj => by omega, rfl⟩
  · rintro L u ⟨ho, hcu, hp, rfl⟩
    refine Ev.blk kX3_passes_2 rfl trivial ?_
    refine Ev.br tX3_passes_5 rfl (fun c5 => ?_) (fun c5 => ?_)
    · refine Ev.vret tX3_passes_58 rfl ?_
      exact ⟨rfl, ho, hcu, hp⟩
    · exact absurd (nI_le (Nat.le_refl _) (by decide)) c5
  · rintro j L u hj ⟨ho, hcu, hp, rfl⟩ k
    have hku : mgf u 11 0 19 = nI 0 := (ho.1 11 0 19 (by decide)).trans hk
    have hau : mga u 23 0 (c + j) = mga w 23 0 (c + j) := by rw [ho.2 23 0 (by decide)]
    refine Ev.blk kX3_passes_2 rfl trivial ?_
    refine Ev.br tX3_passes_5 rfl (fun c5 => ?_) (fun c5 => ?_)
    · exact absurd c5 (nI_ge hj (by decide))
    · refine Ev.blk kX3_passes_8 rfl trivial ?_
      rw [hku]
      refine Ev.br tX3_passes_12 rfl (fun c12 => ?_) (fun c12 => ?_)
      · refine Ev.blk kX3_passes_30 rfl ⟨⟨trivial, by rw [hcu]; exact vinN (show c + j < 220 by omega) (by decide)⟩, vinN hj (by decide)⟩ ?_
        simp only [hcu]
        rw [ixN (show c + j < 1000 by omega), ixN (show j < 1000 by omega), hau]
        refine Ev.blk kX3_passes_42 rfl trivial ?_
        simp only [mgf_pA, hcu, nI_add]
        refine Ev.jmp tX3_passes_55 ?_
        refine k _ _ ⟨ho.tr ((Om.pA (by decide)).tr (Om.pf (by decide))), mgf_pf, ?_, rfl⟩
        intro i hi
        rw [mga_pf, mga_pA]
        unfold upd
        by_cases e : i = j
        · rw [if_pos e, e]
        · rw [if_neg e]
          exact hp i (by omega)
      · exact absurd rfl c12
theorem em_pK18 {c : Nat} (hc : mgf w 11 0 20 = nI c) (hk : mgf w 11 0 19 = nI 1) (hb : c + 64 ≤ 220) : Cl l d MX3_passes [mR 11 0, mR 18 0] w (fun r u => r = none ∧ OmK w u ∧ mgf u 11 0 20 = nI (c + 64) ∧ ptK w u 18 c 64) := by
  show Ev l d MX3_passes 0 [some (mR 11 0), some (mR 18 0), none] [] w _
  refine Ev.blk kX3_passes_0 rfl trivial ?_
  refine Ev.for (fun j L u => OmK w u ∧ mgf u 11 0 20 = nI (c + j) ∧ ptK w u 18 c j ∧ L = [some (mR 11 0), some (mR 18 0), some (mI (nI j))]) 64 ?_ ?_ 0 (Nat.zero_le _) ⟨Om.rf, hc, fun j => by rw [if_neg (by omega)], rfl⟩
  · rintro L u ⟨ho, hcu, hp, rfl⟩
    refine Ev.blk kX3_passes_2 rfl trivial ?_
    refine Ev.br tX3_passes_5 rfl (fun c5 => ?_) (fun c5 => ?_)
    · refine Ev.vret tX3_passes_58 rfl ?_
      exact ⟨rfl, ho, hcu, hp⟩
    · exact absurd (nI_le (Nat.le_refl _) (by decide)) c5
  · rintro j L u hj ⟨ho, hcu, hp, rfl⟩ k
    have hku : mgf u 11 0 19 = nI 1 := (ho.1 11 0 19 (by decide)).trans hk
    have hau : mga u 18 0 j = mga w 18 0 j := by rw [ho.2 18 0 (by decide)]
    refine Ev.blk kX3_passes_2 rfl trivial ?_
    refine Ev.br tX3_passes_5 rfl (fun c5 => ?_) (fun c5 => ?_)
    · exact absurd c5 (nI_ge hj (by decide))
    · refine Ev.blk kX3_passes_8 rfl trivial ?_
      rw [hku]
      refine Ev.br tX3_passes_12 rfl (fun c12 => ?_) (fun c12 => ?_)
      · exact absurd c12 (by decide)
      · refine Ev.blk kX3_passes_15 rfl ⟨⟨trivial, vinN hj (by decide)⟩, by rw [hcu]; exact vinN (show c + j < 220 by omega) (by decide)⟩ ?_
        simp only [hcu]
        rw [ixN (show c + j < 1000 by omega), ixN (show j < 1000 by omega), hau]
        refine Ev.jmp tX3_passes_27 ?_
        refine Ev.blk kX3_passes_42 rfl trivial ?_
        simp only [mgf_pA, hcu, nI_add]
        refine Ev.jmp tX3_passes_55 ?_
        refine k _ _ ⟨ho.tr ((Om.pA (by decide)).tr (Om.pf (by decide))), mgf_pf, ?_, rfl⟩
        intro i
        rw [mga_pf, mga_pA]
        unfold upd
        by_cases e : i = c + j
        · rw [if_pos e, if_pos (by omega), show i - c = j by omega]
        · rw [if_neg e, hp i]
          by_cases e2 : c ≤ i ∧ i < c + j
          · rw [if_pos e2, if_pos (by omega)]
          · rw [if_neg e2, if_neg (by omega)]
theorem em_pR18 {c : Nat} (hc : mgf w 11 0 20 = nI c) (hk : mgf w 11 0 19 = nI 0) (hb : c + 64 ≤ 220) : Cl l d MX3_passes [mR 11 0, mR 18 0] w (fun r u => r = none ∧ OmR 18 w u ∧ mgf u 11 0 20 = nI (c + 64) ∧ ∀ j, j < 64 → mga u 18 0 j = mga w 23 0 (c + j)) := by
  show Ev l d MX3_passes 0 [some (mR 11 0), some (mR 18 0), none] [] w _
  refine Ev.blk kX3_passes_0 rfl trivial ?_
  refine Ev.for (fun j L u => OmR 18 w u ∧ mgf u 11 0 20 = nI (c + j) ∧ (∀ i, i < j → mga u 18 0 i = mga w 23 0 (c + i)) ∧ L = [some (mR 11 0), some (mR 18 0), some (mI (nI j))]) 64 ?_ ?_ 0 (Nat.zero_le _) ⟨Om.rf, hc, fun j hj => by omega, rfl⟩
  · rintro L u ⟨ho, hcu, hp, rfl⟩
    refine Ev.blk kX3_passes_2 rfl trivial ?_
    refine Ev.br tX3_passes_5 rfl (fun c5 => ?_) (fun c5 => ?_)
    · refine Ev.vret tX3_passes_58 rfl ?_
      exact ⟨rfl, ho, hcu, hp⟩
    · exact absurd (nI_le (Nat.le_refl _) (by decide)) c5
  · rintro j L u hj ⟨ho, hcu, hp, rfl⟩ k
    have hku : mgf u 11 0 19 = nI 0 := (ho.1 11 0 19 (by decide)).trans hk
    have hau : mga u 23 0 (c + j) = mga w 23 0 (c + j) := by rw [ho.2 23 0 (by decide)]
    refine Ev.blk kX3_passes_2 rfl trivial ?_
    refine Ev.br tX3_passes_5 rfl (fun c5 => ?_) (fun c5 => ?_)
    · exact absurd c5 (nI_ge hj (by decide))
    · refine Ev.blk kX3_passes_8 rfl trivial ?_
      rw [hku]
      refine Ev.br tX3_passes_12 rfl (fun c12 => ?_) (fun c12 => ?_)
      · refine Ev.blk kX3_passes_30 rfl ⟨⟨trivial, by rw [hcu]; exact vinN (show c + j < 220 by omega) (by decide)⟩, vinN hj (by decide)⟩ ?_
        simp only [hcu]
        rw [ixN (show c + j < 1000 by omega), ixN (show j < 1000 by omega), hau]
        refine Ev.blk kX3_passes_42 rfl trivial ?_
        simp only [mgf_pA, hcu, nI_add]
        refine Ev.jmp tX3_passes_55 ?_
        refine k _ _ ⟨ho.tr ((Om.pA (by decide)).tr (Om.pf (by decide))), mgf_pf, ?_, rfl⟩
        intro i hi
        rw [mga_pf, mga_pA]
        unfold upd
        by_cases e : i = j
        · rw [if_pos e, e]
        · rw [if_neg e]
          exact hp i (by omega)
      · exact absurd rfl c12
theorem em_p1K {c : Nat} {v : Int32} (hc : mgf w 11 0 20 = nI c) (hk : mgf w 11 0 19 = nI 1) (hb : c < 220) : Cl l d MX3_passOne [mR 11 0, mI v] w (fun r u => r = some (mI v) ∧ OmK w u ∧ mgf u 11 0 20 = nI (c + 1) ∧ ∀ j, mga u 23 0 j = if j = c then v else mga w 23 0 j) := by
  show Ev l d MX3_passOne 0 [some (mR 11 0), some (mI v), none] [] w _
  refine Ev.blk kX3_passOne_0 rfl trivial ?_
  rw [hk]
  refine Ev.br tX3_passOne_4 rfl (fun c4 => ?_) (fun c4 => ?_)
  · exact absurd c4 (by decide)
  · refine Ev.blk kX3_passOne_7 rfl trivial ?_
    refine Ev.jmp tX3_passOne_8 ?_
    refine Ev.blk kX3_passOne_20 rfl trivial ?_
    rw [hk]
    refine Ev.br tX3_passOne_25 rfl (fun c25 => ?_) (fun c25 => ?_)
    · exact absurd c25 (by decide)
    · refine Ev.blk kX3_passOne_28 rfl ⟨trivial, by rw [hc]; exact vinN hb (by decide)⟩ ?_
      simp only [hc]
      rw [ixN (show c < 1000 by omega)]
      refine Ev.blk kX3_passOne_38 rfl trivial ?_
      simp only [mgf_pA, hc, nI_add]
      refine Ev.iret tX3_passOne_49 rfl rfl ?_
      refine ⟨rfl, (Om.pA (by decide)).tr (Om.pf (by decide)), mgf_pf, fun j => ?_⟩
      rw [mga_pf, mga_pA]
      rfl
theorem em_p1R {c : Nat} {v : Int32} (hc : mgf w 11 0 20 = nI c) (hk : mgf w 11 0 19 = nI 0) (hb : c < 220) : Cl l d MX3_passOne [mR 11 0, mI v] w (fun r u => r = some (mI (mga w 23 0 c)) ∧ Om (fun k => k = 20) (fun _ => False) w u ∧ mgf u 11 0 20 = nI (c + 1)) := by
  show Ev l d MX3_passOne 0 [some (mR 11 0), some (mI v), none] [] w _
  refine Ev.blk kX3_passOne_0 rfl trivial ?_
  rw [hk]
  refine Ev.br tX3_passOne_4 rfl (fun c4 => ?_) (fun c4 => ?_)
  · refine Ev.blk kX3_passOne_11 rfl ⟨trivial, by rw [hc]; exact vinN hb (by decide)⟩ ?_
    simp only [hc]
    rw [ixN (show c < 1000 by omega)]
    refine Ev.blk kX3_passOne_20 rfl trivial ?_
    rw [hk]
    refine Ev.br tX3_passOne_25 rfl (fun c25 => ?_) (fun c25 => ?_)
    · refine Ev.blk kX3_passOne_38 rfl trivial ?_
      simp only [hc, nI_add]
      refine Ev.iret tX3_passOne_49 rfl rfl ?_
      exact ⟨rfl, Om.pf (by decide), mgf_pf⟩
    · exact absurd rfl c25
  · exact absurd rfl c4
abbrev OmW (w u : mW) : Prop := Om (fun k => k = 19 ∨ k = 20) (fun t => t = 23) w u
abbrev OmV (w u : mW) : Prop := Om (fun k => k = 19 ∨ k = 20 ∨ (7 ≤ k ∧ k ≤ 9)) (fun t => t = 23) w u
abbrev OmB (w u : mW) : Prop := Om (fun k => k = 19 ∨ k = 20 ∨ (7 ≤ k ∧ k ≤ 9)) (fun t => 13 ≤ t ∧ t ≤ 18) w u
theorem em_keep {D : Yd} (hM : MYd w D) (hI : YI D) (hd : 1 ≤ d) {b : Nat} (hb : b < 2) : Cl l d MX3_passesAll [mR 11 0, mI (nI b), mI (nI 1)] w (fun r u => r = none ∧ OmV w u ∧ MYd u D ∧ KeptAt u (110 * b) D ∧ ∀ j, ¬ (110 * b ≤ j ∧ j < 110 * b + 107) → mga u 23 0 j = mga w 23 0 j) := by
  show Ev l d MX3_passesAll 0 [some (mR 11 0), some (mI (nI b)), some (mI (nI 1))] [] w _
  have h8 := hI.1
  have e0 : nI 110 * nI b = nI (110 * b) := pk_mul 110 b
  have k1 : ∀ {u v : mW}, OmK u v → mgf u 11 0 19 = nI 1 → mgf v 11 0 19 = nI 1 := fun h z => (h.1 11 0 19 (by decide)).trans z
  have s1 : ∀ {u v : mW}, OmK u v → OmW u v := fun h => h.sub (fun k z => Or.inr z) (fun t z => z)
  have s2 : ∀ {u v : mW}, OmK u v → OmV u v := fun h => h.sub (fun k z => Or.inr (Or.inl z)) (fun t z => z)
  have s3 : ∀ {u v : mW}, OmW u v → OmV u v := fun h => h.sub (fun k z => z.elim Or.inl (fun y => Or.inr (Or.inl y))) (fun t z => z)
  have a0 : OmW w (mpf (mpf w 11 0 20 (nI (110 * b))) 11 0 19 (nI 1)) := (Om.pf (by decide)).tr (Om.pf (by decide))
  refine Ev.blk kX3_passesAll_0 rfl ⟨trivial, Or.inr rfl⟩ ?_
  rw [e0]
  refine Ev.cV (d1 := d - 1) (em_pK13 (c := 110 * b) ((mgf_pfn (by decide)).trans mgf_pf) mgf_pf (by omega)) tX3_passesAll_18 qX3_133 rfl rfl (by decide) ⟨rfl, rfl, rfl⟩ (by omega) ?_
  rintro _ _ ⟨rfl, o1, hc1, p1⟩
  have hk1 := k1 o1 mgf_pf
  have a1 := a0.tr (s1 o1)
  refine Ev.blk kX3_passesAll_21 rfl trivial ?_
  refine Ev.cV (d1 := d - 1) (em_pK14 (c := 110 * b + 8) hc1 hk1 (by omega)) tX3_passesAll_26 qX3_133 rfl rfl (by decide) ⟨rfl, rfl, rfl⟩ (by omega) ?_
  rintro _ _ ⟨rfl, o2, hc2, p2⟩
  have hk2 := k1 o2 hk1
  have a2 := a1.tr (s1 o2)
  refine Ev.blk kX3_passesAll_29 rfl trivial ?_
  refine Ev.cV (d1 := d - 1) (em_pK15 (c := 110 * b + 16) hc2 hk2 (by omega)) tX3_passesAll_34 qX3_133 rfl rfl (by decide) ⟨rfl, rfl, rfl⟩ (by omega) ?_
  rintro _ _ ⟨rfl, o3, hc3, p3⟩
  have hk3 := k1 o3 hk2
  have a3 := a2.tr (s1 o3)
  refine Ev.blk kX3_passesAll_37 rfl trivial ?_
  refine Ev.cV (d1 := d - 1) (em_pK16 (c := 110 * b + 24) hc3 hk3 (by omega)) tX3_passesAll_42 qX3_133 rfl rfl (by decide) ⟨rfl, rfl, rfl⟩ (by omega) ?_
  rintro _ _ ⟨rfl, o4, hc4, p4⟩
  have hk4 := k1 o4 hk3
  have a4 := a3.tr (s1 o4)
  refine Ev.blk kX3_passesAll_45 rfl trivial ?_
  refine Ev.cV (d1 := d - 1) (em_pK17 (c := 110 * b + 32) hc4 hk4 (by omega)) tX3_passesAll_50 qX3_133 rfl rfl (by decide) ⟨rfl, rfl, rfl⟩ (by omega) ?_
  rintro _ _ ⟨rfl, o5, hc5, p5⟩
  have hk5 := k1 o5 hk4
  have a5 := a4.tr (s1 o5)
  refine Ev.blk kX3_passesAll_53 rfl trivial ?_
  refine Ev.cV (d1 := d - 1) (em_pK18 (c := 110 * b + 40) hc5 hk5 (by omega)) tX3_passesAll_58 qX3_133 rfl rfl (by decide) ⟨rfl, rfl, rfl⟩ (by omega) ?_
  rintro _ _ ⟨rfl, o6, hc6, p6⟩
  have hk6 := k1 o6 hk5
  have a6 := a5.tr (s1 o6)
  have x7 := (a6.1 11 0 7 (by decide)).trans hM.n
  refine Ev.blk kX3_passesAll_61 rfl trivial ?_
  rw [x7]
  refine Ev.cV (d1 := d - 1) (em_p1K (c := 110 * b + 104) hc6 hk6 (by omega)) tX3_passesAll_67 qX3_137 rfl rfl (by decide) ⟨rfl, rfl, rfl⟩ (by omega) ?_
  rintro _ _ ⟨rfl, o7, hc7, p7⟩
  have hk7 := k1 o7 hk6
  have a7 := a6.tr (s1 o7)
  have y8 := (a7.1 11 0 8 (by decide)).trans hM.l
  refine Ev.blk kX3_passesAll_70 rfl trivial ?_
  rw [mgf_pfn (by decide), y8]
  refine Ev.cV (d1 := d - 1) (em_p1K (c := 110 * b + 105) ((mgf_pfn (by decide)).trans hc7) ((mgf_pfn (by decide)).trans hk7) (by omega)) tX3_passesAll_79 qX3_137 rfl rfl (by decide) ⟨rfl, rfl, rfl⟩ (by omega) ?_
  rintro _ _ ⟨rfl, o8, hc8, p8⟩
  have hk8 := k1 o8 ((mgf_pfn (by decide)).trans hk7)
  have y9 := (o8.1 11 0 9 (by decide)).trans ((mgf_pfn (by decide)).trans ((a7.1 11 0 9 (by decide)).trans hM.e))
  refine Ev.blk kX3_passesAll_82 rfl trivial ?_
  rw [mgf_pfn (by decide), y9]
  refine Ev.cV (d1 := d - 1) (em_p1K (c := 110 * b + 106) ((mgf_pfn (by decide)).trans hc8) ((mgf_pfn (by decide)).trans hk8) (by omega)) tX3_passesAll_91 qX3_137 rfl rfl (by decide) ⟨rfl, rfl, rfl⟩ (by omega) ?_
  rintro _ _ ⟨rfl, o9, hc9, p9⟩
  refine Ev.blk kX3_passesAll_94 rfl trivial ?_
  refine Ev.vret tX3_passesAll_97 rfl ?_
  have aU := (((((s3 a7).tr (Om.pf (k := 7) (x := nI (dn D)) (by decide))).tr (s2 o8)).tr (Om.pf (k := 8) (x := nI (dl D)) (by decide))).tr (s2 o9)).tr (Om.pf (k := 9) (x := nI (de D)) (by decide))
  refine ⟨rfl, aU, ⟨⟨?_, ?_, ?_, ?_, ?_, ?_⟩, ?_, ?_, ?_, ?_, ?_⟩, ⟨fun j hj => ?_, fun j hj => ?_, fun j hj => ?_, fun j hj => ?_, fun j hj => ?_, fun j hj => ?_, ?_, ?_, ?_⟩, fun j hj => ?_⟩
  · rw [aU.2 13 0 (by decide)]; exact hM.1.1
  · rw [aU.2 14 0 (by decide)]; exact hM.1.2.1
  · rw [aU.2 15 0 (by decide)]; exact hM.1.2.2.1
  · rw [aU.2 16 0 (by decide)]; exact hM.1.2.2.2.1
  · rw [aU.2 17 0 (by decide)]; exact hM.1.2.2.2.2.1
  · rw [aU.2 18 0 (by decide)]; exact hM.1.2.2.2.2.2
  · exact (mgf_pfn (by decide)).trans ((o9.1 11 0 7 (by decide)).trans ((mgf_pfn (by decide)).trans ((o8.1 11 0 7 (by decide)).trans mgf_pf)))
  · exact (mgf_pfn (by decide)).trans ((o9.1 11 0 8 (by decide)).trans mgf_pf)
  · exact mgf_pf
  · exact (aU.1 11 0 22 (by decide)).trans hM.g
  · exact (aU.1 11 0 21 (by decide)).trans hM.a
  · refine (p9 _).trans ?_
    rw [if_neg (by omega)]
    refine (p8 _).trans ?_
    rw [if_neg (by omega)]
    refine (p7 _).trans ?_
    rw [if_neg (by omega)]
    refine (p6 _).trans ?_
    rw [if_neg (by omega)]
    refine (p5 _).trans ?_
    rw [if_neg (by omega)]
    refine (p4 _).trans ?_
    rw [if_neg (by omega)]
    refine (p3 _).trans ?_
    rw [if_neg (by omega)]
    refine (p2 _).trans ?_
    rw [if_neg (by omega)]
    refine (p1 _).trans ?_
    rw [if_pos (by omega)]
    rw [show 110 * b + j - 110 * b = j by omega]
    exact (congrFun (a0.2 13 0 (by decide)) j).trans (hM.k hj)
  · refine (p9 _).trans ?_
    rw [if_neg (by omega)]
    refine (p8 _).trans ?_
    rw [if_neg (by omega)]
    refine (p7 _).trans ?_
    rw [if_neg (by omega)]
    refine (p6 _).trans ?_
    rw [if_neg (by omega)]
    refine (p5 _).trans ?_
    rw [if_neg (by omega)]
    refine (p4 _).trans ?_
    rw [if_neg (by omega)]
    refine (p3 _).trans ?_
    rw [if_neg (by omega)]
    refine (p2 _).trans ?_
    rw [if_pos (by omega)]
    rw [show 110 * b + 8 + j - (110 * b + 8) = j by omega]
    exact (congrFun (a1.2 14 0 (by decide)) j).trans (hM.c hj)
  · refine (p9 _).trans ?_
    rw [if_neg (by omega)]
    refine (p8 _).trans ?_
    rw [if_neg (by omega)]
    refine (p7 _).trans ?_
    rw [if_neg (by omega)]
    refine (p6 _).trans ?_
    rw [if_neg (by omega)]
    refine (p5 _).trans ?_
    rw [if_neg (by omega)]
    refine (p4 _).trans ?_
    rw [if_neg (by omega)]
    refine (p3 _).trans ?_
    rw [if_pos (by omega)]
    rw [show 110 * b + 16 + j - (110 * b + 16) = j by omega]
    exact (congrFun (a2.2 15 0 (by decide)) j).trans (hM.f hj)
  · refine (p9 _).trans ?_
    rw [if_neg (by omega)]
    refine (p8 _).trans ?_
    rw [if_neg (by omega)]
    refine (p7 _).trans ?_
    rw [if_neg (by omega)]
    refine (p6 _).trans ?_
    rw [if_neg (by omega)]
    refine (p5 _).trans ?_
    rw [if_neg (by omega)]
    refine (p4 _).trans ?_
    rw [if_pos (by omega)]
    rw [show 110 * b + 24 + j - (110 * b + 24) = j by omega]
    exact (congrFun (a3.2 16 0 (by decide)) j).trans (hM.s hj)
  · refine (p9 _).trans ?_
    rw [if_neg (by omega)]
    refine (p8 _).trans ?_
    rw [if_neg (by omega)]
    refine (p7 _).trans ?_
    rw [if_neg (by omega)]
    refine (p6 _).trans ?_
    rw [if_neg (by omega)]
    refine (p5 _).trans ?_
    rw [if_pos (by omega)]
    rw [show 110 * b + 32 + j - (110 * b + 32) = j by omega]
    exact (congrFun (a4.2 17 0 (by decide)) j).trans (hM.t hj)
  · refine (p9 _).trans ?_
    rw [if_neg (by omega)]
    refine (p8 _).trans ?_
    rw [if_neg (by omega)]
    refine (p7 _).trans ?_
    rw [if_neg (by omega)]
    refine (p6 _).trans ?_
    rw [if_pos (by omega)]
    rw [show 110 * b + 40 + j - (110 * b + 40) = j by omega]
    exact (congrFun (a5.2 18 0 (by decide)) j).trans (hM.r hj)
  · refine (p9 _).trans ?_
    rw [if_neg (by omega)]
    refine (p8 _).trans ?_
    rw [if_neg (by omega)]
    refine (p7 _).trans ?_
    rw [if_pos rfl]
  · refine (p9 _).trans ?_
    rw [if_neg (by omega)]
    refine (p8 _).trans ?_
    rw [if_pos rfl]
  · refine (p9 _).trans ?_
    rw [if_pos rfl]
  · refine (p9 _).trans ?_
    rw [if_neg (by omega)]
    refine (p8 _).trans ?_
    rw [if_neg (by omega)]
    refine (p7 _).trans ?_
    rw [if_neg (by omega)]
    refine (p6 _).trans ?_
    rw [if_neg (by omega)]
    refine (p5 _).trans ?_
    rw [if_neg (by omega)]
    refine (p4 _).trans ?_
    rw [if_neg (by omega)]
    refine (p3 _).trans ?_
    rw [if_neg (by omega)]
    refine (p2 _).trans ?_
    rw [if_neg (by omega)]
    refine (p1 _).trans ?_
    rw [if_neg (by omega)]
    rfl
theorem em_back {E : Yd} {b g a : Nat} (hK : KeptAt w (110 * b) E) (hI : YI E) (hd : 1 ≤ d) (hb : b < 2) (hg : mgf w 11 0 22 = nI g) (ha : mgf w 11 0 21 = enM a) : Cl l d MX3_passesAll [mR 11 0, mI (nI b), mI (nI 0)] w (fun r u => r = none ∧ OmB w u ∧ MYd u (ua (ug E g) a)) := by
  show Ev l d MX3_passesAll 0 [some (mR 11 0), some (mI (nI b)), some (mI (nI 0))] [] w _
  have h8 := hI.1
  have e0 : nI 110 * nI b = nI (110 * b) := pk_mul 110 b
  have a0 : OmB w (mpf (mpf w 11 0 20 (nI (110 * b))) 11 0 19 (nI 0)) := (Om.pf (by decide)).tr (Om.pf (by decide))
  have s0 : ∀ {u v : mW}, Om (fun k => k = 20) (fun _ => False) u v → OmB u v := fun h => h.sub (fun k z => Or.inr (Or.inl z)) (fun t z => z.elim)
  refine Ev.blk kX3_passesAll_0 rfl ⟨trivial, Or.inl rfl⟩ ?_
  rw [e0]
  refine Ev.cV (d1 := d - 1) (em_pR13 (c := 110 * b) ((mgf_pfn (by decide)).trans mgf_pf) mgf_pf (by omega)) tX3_passesAll_18 qX3_133 rfl rfl (by decide) ⟨rfl, rfl, rfl⟩ (by omega) ?_
  rintro _ _ ⟨rfl, o1, hc1, p1⟩
  have hk1 := (o1.1 11 0 19 (by decide)).trans mgf_pf
  have a1 := a0.tr (Om.sub o1 (F' := fun k => k = 19 ∨ k = 20 ∨ (7 ≤ k ∧ k ≤ 9)) (A' := fun t => 13 ≤ t ∧ t ≤ 18) (fun k z => Or.inr (Or.inl z)) (fun t z => by omega))
  refine Ev.blk kX3_passesAll_21 rfl trivial ?_
  refine Ev.cV (d1 := d - 1) (em_pR14 (c := 110 * b + 8) hc1 hk1 (by omega)) tX3_passesAll_26 qX3_133 rfl rfl (by decide) ⟨rfl, rfl, rfl⟩ (by omega) ?_
  rintro _ _ ⟨rfl, o2, hc2, p2⟩
  have hk2 := (o2.1 11 0 19 (by decide)).trans hk1
  have a2 := a1.tr (Om.sub o2 (F' := fun k => k = 19 ∨ k = 20 ∨ (7 ≤ k ∧ k ≤ 9)) (A' := fun t => 13 ≤ t ∧ t ≤ 18) (fun k z => Or.inr (Or.inl z)) (fun t z => by omega))
  refine Ev.blk kX3_passesAll_29 rfl trivial ?_
  refine Ev.cV (d1 := d - 1) (em_pR15 (c := 110 * b + 16) hc2 hk2 (by omega)) tX3_passesAll_34 qX3_133 rfl rfl (by decide) ⟨rfl, rfl, rfl⟩ (by omega) ?_
  rintro _ _ ⟨rfl, o3, hc3, p3⟩
  have hk3 := (o3.1 11 0 19 (by decide)).trans hk2
  have a3 := a2.tr (Om.sub o3 (F' := fun k => k = 19 ∨ k = 20 ∨ (7 ≤ k ∧ k ≤ 9)) (A' := fun t => 13 ≤ t ∧ t ≤ 18) (fun k z => Or.inr (Or.inl z)) (fun t z => by omega))
  refine Ev.blk kX3_passesAll_37 rfl trivial ?_
  refine Ev.cV (d1 := d - 1) (em_pR16 (c := 110 * b + 24) hc3 hk3 (by omega)) tX3_passesAll_42 qX3_133 rfl rfl (by decide) ⟨rfl, rfl, rfl⟩ (by omega) ?_
  rintro _ _ ⟨rfl, o4, hc4, p4⟩
  have hk4 := (o4.1 11 0 19 (by decide)).trans hk3
  have a4 := a3.tr (Om.sub o4 (F' := fun k => k = 19 ∨ k = 20 ∨ (7 ≤ k ∧ k ≤ 9)) (A' := fun t => 13 ≤ t ∧ t ≤ 18) (fun k z => Or.inr (Or.inl z)) (fun t z => by omega))
  refine Ev.blk kX3_passesAll_45 rfl trivial ?_
  refine Ev.cV (d1 := d - 1) (em_pR17 (c := 110 * b + 32) hc4 hk4 (by omega)) tX3_passesAll_50 qX3_133 rfl rfl (by decide) ⟨rfl, rfl, rfl⟩ (by omega) ?_
  rintro _ _ ⟨rfl, o5, hc5, p5⟩
  have hk5 := (o5.1 11 0 19 (by decide)).trans hk4
  have a5 := a4.tr (Om.sub o5 (F' := fun k => k = 19 ∨ k = 20 ∨ (7 ≤ k ∧ k ≤ 9)) (A' := fun t => 13 ≤ t ∧ t ≤ 18) (fun k z => Or.inr (Or.inl z)) (fun t z => by omega))
  refine Ev.blk kX3_passesAll_53 rfl trivial ?_
  refine Ev.cV (d1 := d - 1) (em_pR18 (c := 110 * b + 40) hc5 hk5 (by omega)) tX3_passesAll_58 qX3_133 rfl rfl (by decide) ⟨rfl, rfl, rfl⟩ (by omega) ?_
  rintro _ _ ⟨rfl, o6, hc6, p6⟩
  have hk6 := (o6.1 11 0 19 (by decide)).trans hk5
  have a6 := a5.tr (Om.sub o6 (F' := fun k => k = 19 ∨ k = 20 ∨ (7 ≤ k ∧ k ≤ 9)) (A' := fun t => 13 ≤ t ∧ t ≤ 18) (fun k z => Or.inr (Or.inl z)) (fun t z => by omega))
  refine Ev.blk kX3_passesAll_61 rfl trivial ?_
  refine Ev.cV (d1 := d - 1) (em_p1R (c := 110 * b + 104) hc6 hk6 (by omega)) tX3_passesAll_67 qX3_137 rfl rfl (by decide) ⟨rfl, rfl, rfl⟩ (by omega) ?_
  rintro _ _ ⟨rfl, o7, hc7⟩
  have hk7 := (o7.1 11 0 19 (by decide)).trans hk6
  have a7 := a6.tr (s0 o7)
  have x7 := (congrFun (a6.2 23 0 (by decide)) (110 * b + 104)).trans hK.2.2.2.2.2.2.1
  have x8 := (congrFun (a7.2 23 0 (by decide)) (110 * b + 105)).trans hK.2.2.2.2.2.2.2.1
  rw [x7]
  refine Ev.blk kX3_passesAll_70 rfl trivial ?_
  refine Ev.cV (d1 := d - 1) (em_p1R (c := 110 * b + 105) ((mgf_pfn (by decide)).trans hc7) ((mgf_pfn (by decide)).trans hk7) (by omega)) tX3_passesAll_79 qX3_137 rfl rfl (by decide) ⟨rfl, rfl, rfl⟩ (by omega) ?_
  rintro _ _ ⟨rfl, o8, hc8⟩
  have hk8 := (o8.1 11 0 19 (by decide)).trans ((mgf_pfn (by decide)).trans hk7)
  have a8 := (a7.tr (Om.pf (k := 7) (x := nI (dn E)) (by decide))).tr (s0 o8)
  have x9 := (congrFun (a8.2 23 0 (by decide)) (110 * b + 106)).trans hK.2.2.2.2.2.2.2.2
  rw [mga_pf, x8]
  refine Ev.blk kX3_passesAll_82 rfl trivial ?_
  refine Ev.cV (d1 := d - 1) (em_p1R (c := 110 * b + 106) ((mgf_pfn (by decide)).trans hc8) ((mgf_pfn (by decide)).trans hk8) (by omega)) tX3_passesAll_91 qX3_137 rfl rfl (by decide) ⟨rfl, rfl, rfl⟩ (by omega) ?_
  rintro _ _ ⟨rfl, o9, hc9⟩
  rw [mga_pf, x9]
  refine Ev.blk kX3_passesAll_94 rfl trivial ?_
  refine Ev.vret tX3_passesAll_97 rfl ?_
  have aU := ((a8.tr (Om.pf (k := 8) (x := nI (dl E)) (by decide))).tr (s0 o9)).tr (Om.pf (k := 9) (x := nI (de E)) (by decide))
  refine ⟨rfl, aU, ⟨⟨fun j hj => ?_, fun j hj => ?_, fun j hj => ?_, fun j hj => ?_, fun j hj => ?_, fun j hj => ?_⟩, ?_, ?_, ?_, ?_, ?_⟩⟩
  · refine (congrFun (o9.2 13 0 (by decide)) j).trans ?_
    refine (congrFun (o8.2 13 0 (by decide)) j).trans ?_
    refine (congrFun (o7.2 13 0 (by decide)) j).trans ?_
    refine (congrFun (o6.2 13 0 (by decide)) j).trans ?_
    refine (congrFun (o5.2 13 0 (by decide)) j).trans ?_
    refine (congrFun (o4.2 13 0 (by decide)) j).trans ?_
    refine (congrFun (o3.2 13 0 (by decide)) j).trans ?_
    refine (congrFun (o2.2 13 0 (by decide)) j).trans ?_
    refine (p1 j (by have hj : j < dn E := hj; omega)).trans ?_
    exact (congrFun (a0.2 23 0 (by decide)) (110 * b + j)).trans (hK.1 j hj)
  · refine (congrFun (o9.2 14 0 (by decide)) j).trans ?_
    refine (congrFun (o8.2 14 0 (by decide)) j).trans ?_
    refine (congrFun (o7.2 14 0 (by decide)) j).trans ?_
    refine (congrFun (o6.2 14 0 (by decide)) j).trans ?_
    refine (congrFun (o5.2 14 0 (by decide)) j).trans ?_
    refine (congrFun (o4.2 14 0 (by decide)) j).trans ?_
    refine (congrFun (o3.2 14 0 (by decide)) j).trans ?_
    refine (p2 j (by have hj : j < dn E := hj; omega)).trans ?_
    exact (congrFun (a1.2 23 0 (by decide)) (110 * b + 8 + j)).trans (hK.2.1 j hj)
  · refine (congrFun (o9.2 15 0 (by decide)) j).trans ?_
    refine (congrFun (o8.2 15 0 (by decide)) j).trans ?_
    refine (congrFun (o7.2 15 0 (by decide)) j).trans ?_
    refine (congrFun (o6.2 15 0 (by decide)) j).trans ?_
    refine (congrFun (o5.2 15 0 (by decide)) j).trans ?_
    refine (congrFun (o4.2 15 0 (by decide)) j).trans ?_
    refine (p3 j (by have hj : j < dn E := hj; omega)).trans ?_
    exact (congrFun (a2.2 23 0 (by decide)) (110 * b + 16 + j)).trans (hK.2.2.1 j hj)
  · refine (congrFun (o9.2 16 0 (by decide)) j).trans ?_
    refine (congrFun (o8.2 16 0 (by decide)) j).trans ?_
    refine (congrFun (o7.2 16 0 (by decide)) j).trans ?_
    refine (congrFun (o6.2 16 0 (by decide)) j).trans ?_
    refine (congrFun (o5.2 16 0 (by decide)) j).trans ?_
    refine (p4 j hj).trans ?_
    exact (congrFun (a3.2 23 0 (by decide)) (110 * b + 24 + j)).trans (hK.2.2.2.1 j hj)
  · refine (congrFun (o9.2 17 0 (by decide)) j).trans ?_
    refine (congrFun (o8.2 17 0 (by decide)) j).trans ?_
    refine (congrFun (o7.2 17 0 (by decide)) j).trans ?_
    refine (congrFun (o6.2 17 0 (by decide)) j).trans ?_
    refine (p5 j hj).trans ?_
    exact (congrFun (a4.2 23 0 (by decide)) (110 * b + 32 + j)).trans (hK.2.2.2.2.1 j hj)
  · refine (congrFun (o9.2 18 0 (by decide)) j).trans ?_
    refine (congrFun (o8.2 18 0 (by decide)) j).trans ?_
    refine (congrFun (o7.2 18 0 (by decide)) j).trans ?_
    refine (p6 j hj).trans ?_
    exact (congrFun (a5.2 23 0 (by decide)) (110 * b + 40 + j)).trans (hK.2.2.2.2.2.1 j hj)
  · exact (mgf_pfn (by decide)).trans ((o9.1 11 0 7 (by decide)).trans ((mgf_pfn (by decide)).trans ((o8.1 11 0 7 (by decide)).trans mgf_pf)))
  · exact (mgf_pfn (by decide)).trans ((o9.1 11 0 8 (by decide)).trans mgf_pf)
  · exact mgf_pf
  · exact (aU.1 11 0 22 (by decide)).trans hg
  · exact (aU.1 11 0 21 (by decide)).trans ha
end M4
