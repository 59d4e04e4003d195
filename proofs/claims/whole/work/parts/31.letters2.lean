/-! ===== letters: the first misfit; telling ===== -/
theorem fbad_none {t : Nat → Nat} {n : Nat} : ∀ {cs : List Nat} {q : Nat}, fbad t n q cs = none → ∀ i, (h : i < cs.length) → q + i < n ∧ fitC cs[i] (t (q + i)) = true
  | [], _, _, i, h => by simp at h
  | c :: cs, q, hb, i, h => by
    unfold fbad at hb
    split at hb
    · rename_i hc
      cases i with
      | zero => exact hc
      | succ i =>
        have := fbad_none hb i (by simpa using h)
        rw [show q + (i + 1) = q + 1 + i by omega]
        simpa using this
    · cases hb
theorem stE_lt {t : Nat → Nat} {n p : Nat} (h : stE t n p = none) : p < n ∧ fbad t n p (shp (t p)) = none ∧ 3 ≤ sln (t p) := by
  unfold stE at h
  split at h
  · rename_i hp
    split at h
    · cases h
    · rename_i c cs e
      refine ⟨hp, by rw [e]; exact h, ?_⟩
      unfold sln
      unfold shp at e ⊢
      repeat' split at e
      all_goals first | (cases e; done) | skip
      all_goals (repeat' split) <;> first | decide | omega
  · cases h
theorem stE_fb {t : Nat → Nat} {n p : Nat} (hp : p < n) (h0 : sln (t p) ≠ 0) : stE t n p = fbad t n p (shp (t p)) := by
  unfold stE
  rw [if_pos hp]
  unfold sln at h0
  cases e : shp (t p) with
  | nil => rw [e] at h0; exact absurd rfl h0
  | cons c cs => rfl
theorem stE_0 {t : Nat → Nat} {n p : Nat} (hp : p < n) (h0 : sln (t p) = 0) : stE t n p = some p := by
  unfold stE
  rw [if_pos hp]
  unfold sln at h0
  cases e : shp (t p) with
  | nil => rfl
  | cons c cs => rw [e] at h0; cases h0
theorem sln_S (c : Nat) : sln c = sLen.getD (shS c) 0 := (shp_S c).1
theorem sln8 : ∀ k, k < 6 → sLen.getD k 0 ≤ 8 := by decide
theorem drop_S {c i : Nat} (h : i < sLen.getD (shS c) 0) : (shp c).drop i = shc (shS c) i :: (shp c).drop (i + 1) := by
  have h1 : i < (shp c).length := by rw [(shp_S c).1]; exact h
  have h2 := (shp_S c).2 i h1
  rw [List.drop_eq_getElem_cons h1]
  congr 1
  rw [List.getElem?_eq_getElem h1] at h2
  exact Option.some.inj h2
/-- at a place within a statement, or before one -/
def fmQ (t : Nat → Nat) (n : Nat) (i k part : Nat) : Prop := ∃ p F, p < n ∧ i = p + part ∧ k = shS (t p) ∧ prs t n (n + 1) 0 = prs t n (F + 1) p ∧ n ≤ F + p ∧ fbad t n p (shp (t p)) = fbad t n i ((shp (t p)).drop part)
def fmI (t : Nat → Nat) (n : Nat) (i k part : Nat) : Prop :=
  (part = sLen.getD k 0 ∧ (i < n → ∃ F, n ≤ F + i ∧ prs t n (n + 1) 0 = prs t n (F + 1) i) ∧ (n ≤ i → prs t n (n + 1) 0 = if n = 0 then some 0 else none)) ∨ (part < sLen.getD k 0 ∧ fmQ t n i k part)
section L2
variable {l : Launch} {d : Nat} {w : mW} {t : Nat → Nat} {n : Nat}
theorem ev_firstMisfit (hL : LetAt w t n) (hd : 5 ≤ d) : Cl l d MX0_firstMisfit [mR 7 0] w (fun r u => u = w ∧ r = some (mI (oM9 (prs t n (n + 1) 0)))) := by
  show Ev l d MX0_firstMisfit 0 [some (mR 7 0), none, none, none] [] w _
  have hn96 := hL.2.2.1
  refine Ev.blk kX0_firstMisfit_0 rfl trivial ?_
  refine Ev.for (fun i L u => u = w ∧ ∃ k part, k < 6 ∧ part ≤ 8 ∧ fmI t n i k part ∧ L = [some (mR 7 0), some (mR 30 k), some (mI (nI part)), some (mI (nI i))]) n ?_ ?_ 0 (Nat.zero_le _) ⟨rfl, 0, 0, by decide, by decide, Or.inl ⟨rfl, fun h => ⟨n, by omega, rfl⟩, fun h => by
      have h0 : n = 0 := by omega
      subst h0
      rfl⟩, rfl⟩
  · rintro L u ⟨rfl, k, part, hk, hp8, hI, rfl⟩
    have hk8 := sln8 k hk
    refine Ev.blk kX0_firstMisfit_7 rfl trivial ?_
    simp only [hL.1]
    refine Ev.br tX0_firstMisfit_12 rfl (fun c12 => ?_) (fun c12 => ?_)
    · try simp (disch := omega) only [nI_eq, nI_leI, nI_ltI, Classical.not_not] at c12
      refine Ev.blk kX0_firstMisfit_67 rfl trivial ?_
      simp only [hL.1]
      refine Ev.br tX0_firstMisfit_71 rfl (fun c71 => ?_) (fun c71 => ?_)
      · try simp (disch := omega) only [nI_eq, nI_leI, nI_ltI, Classical.not_not] at c71
        refine Ev.blk kX0_firstMisfit_87 rfl trivial ?_
        simp only [hL.1]
        refine Ev.iret tX0_firstMisfit_91 rfl rfl ?_
        refine ⟨rfl, ?_⟩
        rcases hI with ⟨h1, h2, h3⟩ | ⟨h1, p, F, q1, q2, q3, q4, q5, q6⟩
        · have h3 := h3 (Nat.le_refl _)
          rw [h3]
          first
            | (rw [if_pos (by omega)]; have e : n = 0 := by omega
               rw [e]; rfl)
            | (rw [if_neg (by omega)]; first | rfl | omega)
        · have hs : sln (t p) ≠ 0 := by rw [sln_S, ← q3]; omega
          have e1 : stE t n p = some n := by
            rw [stE_fb q1 hs, q6, drop_S (by rw [← q3]; exact h1)]
            unfold fbad
            rw [if_neg (by omega)]
          have e2 : prs t n (F + 1) p = some n := by unfold prs; rw [e1]
          rw [q4, e2]
          first | rfl | omega
      · try simp (disch := omega) only [nI_eq, nI_leI, nI_ltI, Classical.not_not] at c71
        refine Ev.blk kX0_firstMisfit_74 rfl trivial ?_
        refine Ev.cV (d1 := d - 1) (ev_strlen (by omega) hk) tX0_firstMisfit_76 qX0_28 rfl rfl (by decide) ⟨rfl, rfl, rfl⟩ (by omega) ?_
        rintro _ _ ⟨rfl, rfl⟩
        refine Ev.br tX0_firstMisfit_79 rfl (fun c79 => ?_) (fun c79 => ?_)
        · try simp (disch := omega) only [nI_eq, nI_leI, nI_ltI, Classical.not_not] at c79
          refine Ev.blk kX0_firstMisfit_87 rfl trivial ?_
          simp only [hL.1]
          refine Ev.iret tX0_firstMisfit_91 rfl rfl ?_
          refine ⟨rfl, ?_⟩
          rcases hI with ⟨h1, h2, h3⟩ | ⟨h1, p, F, q1, q2, q3, q4, q5, q6⟩
          · have h3 := h3 (Nat.le_refl _)
            rw [h3]
            first
              | (rw [if_pos (by omega)]; have e : n = 0 := by omega
                 rw [e]; rfl)
              | (rw [if_neg (by omega)]; first | rfl | omega)
          · have hs : sln (t p) ≠ 0 := by rw [sln_S, ← q3]; omega
            have e1 : stE t n p = some n := by
              rw [stE_fb q1 hs, q6, drop_S (by rw [← q3]; exact h1)]
              unfold fbad
              rw [if_neg (by omega)]
            have e2 : prs t n (F + 1) p = some n := by unfold prs; rw [e1]
            rw [q4, e2]
            first | rfl | omega
        · try simp (disch := omega) only [nI_eq, nI_leI, nI_ltI, Classical.not_not] at c79
          refine Ev.blk kX0_firstMisfit_82 rfl trivial ?_
          refine Ev.jmp tX0_firstMisfit_84 ?_
          refine Ev.iret tX0_firstMisfit_91 rfl rfl ?_
          refine ⟨rfl, ?_⟩
          rcases hI with ⟨h1, h2, h3⟩ | ⟨h1, p, F, q1, q2, q3, q4, q5, q6⟩
          · have h3 := h3 (Nat.le_refl _)
            rw [h3]
            first
              | (rw [if_pos (by omega)]; have e : n = 0 := by omega
                 rw [e]; rfl)
              | (rw [if_neg (by omega)]; first | rfl | omega)
          · have hs : sln (t p) ≠ 0 := by rw [sln_S, ← q3]; omega
            have e1 : stE t n p = some n := by
              rw [stE_fb q1 hs, q6, drop_S (by rw [← q3]; exact h1)]
              unfold fbad
              rw [if_neg (by omega)]
            have e2 : prs t n (F + 1) p = some n := by unfold prs; rw [e1]
            rw [q4, e2]
            first | rfl | omega
    · exact absurd (nI_le (Nat.le_refl _) (by omega)) c12
  · rintro i L u hi ⟨rfl, k, part, hk, hp8, hI, rfl⟩ kk
    have hk8 := sln8 k hk
    have hii := hL.2.1 i hi
    have h256 := hL.2.2.2 i hi
    have key : ∀ k part, k < 6 → part ≤ 8 → fmQ t n i k part → (part < sLen.getD k 0 ∨ (part = 0 ∧ sLen.getD k 0 = 0)) → Ev l d MX0_firstMisfit 31 [some (mR 7 0), some (mR 30 k), some (mI (nI part)), some (mI (nI i))] [] u (fun r v => v = u ∧ r = some (mI (oM9 (prs t n (n + 1) 0)))) := by
      intro k part hk hp8 hQ hlt
      have hk8 := sln8 k hk
      obtain ⟨p, F, q1, q2, q3, q4, q5, q6⟩ := hQ
      by_cases h0 : sLen.getD k 0 = 0
      · have hpt : part = 0 := by omega
        have hpi : p = i := by omega
        have e1 : stE t n i = some i := stE_0 hi (by rw [sln_S, ← hpi, ← q3]; exact h0)
        have e2 : prs t n (F + 1) p = some i := by rw [hpi]; unfold prs; rw [e1]
        rw [q4, e2]
        refine Ev.blk kX0_firstMisfit_31 rfl trivial ?_
        refine Ev.cV (d1 := d - 1) (ev_strlen (by omega) hk) tX0_firstMisfit_33 qX0_28 rfl rfl (by decide) ⟨rfl, rfl, rfl⟩ (by omega) ?_
        rintro _ _ ⟨rfl, rfl⟩
        refine Ev.br tX0_firstMisfit_36 rfl (fun c36 => ?_) (fun c36 => ?_)
        · refine Ev.blk kX0_firstMisfit_56 rfl trivial ?_
          refine Ev.iret tX0_firstMisfit_57 rfl rfl ?_
          exact ⟨rfl, rfl⟩
        · exact absurd (nI_le (by omega) (by omega)) c36
      · have hlt : part < sLen.getD k 0 := by omega
        have hs : sln (t p) ≠ 0 := by rw [sln_S, ← q3]; exact h0
        have hch := (shc_ok k hk part (by omega) hlt).2
        have e3 : stE t n p = (if i < n ∧ fitC (shc k part) (t i) = true then fbad t n (i + 1) ((shp (t p)).drop (part + 1)) else some i) := by
          rw [stE_fb q1 hs, q6, drop_S (by rw [← q3]; exact hlt), ← q3]
          rfl
        refine Ev.blk kX0_firstMisfit_31 rfl trivial ?_
        refine Ev.cV (d1 := d - 1) (ev_strlen (by omega) hk) tX0_firstMisfit_33 qX0_28 rfl rfl (by decide) ⟨rfl, rfl, rfl⟩ (by omega) ?_
        rintro _ _ ⟨rfl, rfl⟩
        refine Ev.br tX0_firstMisfit_36 rfl (fun c36 => ?_) (fun c36 => ?_)
        · exact absurd c36 (nI_ge (by omega) (by omega))
        · refine Ev.blk kX0_firstMisfit_39 rfl ⟨trivial, vinN (show i < 96 by omega) (by decide)⟩ ?_
          rw [ixN (by omega), hii]
          refine Ev.cV (d1 := d - 1) (ev_charAt (by omega) hk hlt) tX0_firstMisfit_47 qX0_38 rfl rfl (by decide) ⟨rfl, rfl, rfl⟩ (by omega) ?_
          rintro _ _ ⟨rfl, rfl⟩
          refine Ev.cS (d1 := d - 1) (ev_fitsShape (by omega) h256 hch) tX0_firstMisfit_50 qX0_42 rfl ⟨rfl, rfl, rfl⟩ (by omega) ?_
          rintro _ _ ⟨rfl, rfl⟩
          refine Ev.br tX0_firstMisfit_53 rfl (fun c53 => ?_) (fun c53 => ?_)
          · rw [bI_0] at c53
            have hf : fitC (shc k part) (t i) = true := by cases hz : fitC (shc k part) (t i); exact absurd hz c53; rfl
            refine Ev.blk kX0_firstMisfit_58 rfl trivial ?_
            refine Ev.jmp tX0_firstMisfit_64 ?_
            rw [nI_add, nI_add]
            refine kk _ _ ⟨rfl, k, part + 1, hk, by omega, ?_, rfl⟩
            rw [if_pos ⟨hi, hf⟩] at e3
            by_cases hl : part + 1 = sLen.getD k 0
            · left
              have hdr : (shp (t p)).drop (part + 1) = [] := List.drop_eq_nil_of_le (by rw [(shp_S (t p)).1, ← q3]; omega)
              rw [hdr] at e3
              have e4 : stE t n p = none := e3
              have hpl : p + sln (t p) = i + 1 := by rw [sln_S, ← q3]; omega
              have e5 : prs t n (F + 1) p = if i + 1 < n then prs t n F (i + 1) else none := by
                show (match stE t n p with | some q => some q | none => if p + sln (t p) < n then prs t n F (p + sln (t p)) else none) = _
                rw [e4, hpl]
              have h3 := (stE_lt e4).2.2
              refine ⟨hl, fun hlt2 => ?_, fun hge => ?_⟩
              · obtain ⟨G, rfl⟩ : ∃ G, F = G + 1 := ⟨F - 1, by omega⟩
                refine ⟨G, by omega, ?_⟩
                rw [q4, e5, if_pos hlt2]
              · rw [q4, e5, if_neg (by omega), if_neg (by omega)]
            · right
              refine ⟨by omega, p, F, q1, by omega, q3, q4, q5, ?_⟩
              rw [← stE_fb q1 hs]
              exact e3
          · rw [bI_0] at c53
            have hf : fitC (shc k part) (t i) = false := Decidable.not_not.mp c53
            refine Ev.blk kX0_firstMisfit_56 rfl trivial ?_
            refine Ev.iret tX0_firstMisfit_57 rfl rfl ?_
            refine ⟨rfl, ?_⟩
            have e4 : stE t n p = some i := by rw [e3, if_neg (by rw [hf]; simp)]
            have e5 : prs t n (F + 1) p = some i := by unfold prs; rw [e4]
            rw [q4, e5]
            rfl
    rcases hI with ⟨h1, h2, h3⟩ | ⟨h1, hQ⟩
    · obtain ⟨F, g1, g2⟩ := h2 hi
      refine Ev.blk kX0_firstMisfit_7 rfl trivial ?_
      simp only [hL.1]
      refine Ev.br tX0_firstMisfit_12 rfl (fun c12 => ?_) (fun c12 => ?_)
      · exact absurd c12 (nI_ge hi (by omega))
      · refine Ev.blk kX0_firstMisfit_15 rfl trivial ?_
        refine Ev.cV (d1 := d - 1) (ev_strlen (by omega) hk) tX0_firstMisfit_17 qX0_28 rfl rfl (by decide) ⟨rfl, rfl, rfl⟩ (by omega) ?_
        rintro _ _ ⟨rfl, rfl⟩
        refine Ev.br tX0_firstMisfit_20 rfl (fun c20 => ?_) (fun c20 => ?_)
        · exact absurd (by rw [h1]) c20
        · refine Ev.blk kX0_firstMisfit_23 rfl trivial ?_
          refine Ev.cV (d1 := d - 1) (ev_shapeAt hL (by omega) hi) tX0_firstMisfit_25 qX0_34 rfl rfl (by decide) ⟨rfl, rfl, rfl⟩ (by omega) ?_
          rintro _ _ ⟨rfl, rfl⟩
          refine Ev.blk kX0_firstMisfit_28 rfl trivial ?_
          refine key _ _ (shS_lt _) (Nat.zero_le _) ⟨i, F, hi, rfl, rfl, g2, g1, rfl⟩ ?_
          rcases Nat.eq_zero_or_pos (sLen.getD (shS (t i)) 0) with z | z
          · exact Or.inr ⟨rfl, z⟩
          · exact Or.inl z
    · skip
      refine Ev.blk kX0_firstMisfit_7 rfl trivial ?_
      simp only [hL.1]
      refine Ev.br tX0_firstMisfit_12 rfl (fun c12 => ?_) (fun c12 => ?_)
      · exact absurd c12 (nI_ge hi (by omega))
      · try simp (disch := omega) only [nI_eq, nI_leI, nI_ltI, Classical.not_not] at c12
        refine Ev.blk kX0_firstMisfit_15 rfl trivial ?_
        refine Ev.cV (d1 := d - 1) (ev_strlen (by omega) hk) tX0_firstMisfit_17 qX0_28 rfl rfl (by decide) ⟨rfl, rfl, rfl⟩ (by omega) ?_
        rintro _ _ ⟨rfl, rfl⟩
        refine Ev.br tX0_firstMisfit_20 rfl (fun c20 => ?_) (fun c20 => ?_)
        · try simp (disch := omega) only [nI_eq, nI_leI, nI_ltI, Classical.not_not] at c20
          exact key _ _ hk hp8 hQ (Or.inl h1)
        · rw [nI_eq (by omega) (by omega)] at c20
          omega
theorem stE_k {p : Nat} (h : stE t n p = none) (hc : t p = 107) : p + 5 < n ∧ (kix (t (p + 1))).isSome = true ∧ (48 ≤ t (p + 2) ∧ t (p + 2) ≤ 57) ∧ (48 ≤ t (p + 3) ∧ t (p + 3) ≤ 57) ∧ (48 ≤ t (p + 4) ∧ t (p + 4) ≤ 57) := by
  have h1 := fbad_none (stE_lt h).2.1
  rw [show shp (t p) = [107, 75, 68, 68, 68, 59] by rw [hc]; rfl] at h1
  have a1 := h1 1 (by decide)
  have a2 := h1 2 (by decide)
  have a3 := h1 3 (by decide)
  have a4 := h1 4 (by decide)
  have a5 := h1 5 (by decide)
  refine ⟨a5.1, a1.2, ?_, ?_, ?_⟩
  · have := a2.2; unfold fitC at this; simpa using this
  · have := a3.2; unfold fitC at this; simpa using this
  · have := a4.2; unfold fitC at this; simpa using this
theorem stE_tl {p : Nat} (h : stE t n p = none) (hc : t p = 116 ∨ t p = 108) : p + 2 < n ∧ 48 ≤ t (p + 1) ∧ t (p + 1) ≤ 57 := by
  have h1 := fbad_none (stE_lt h).2.1
  have key : ∀ c, (∀ i, (h : i < [c, 68, 59].length) → p + i < n ∧ fitC [c, 68, 59][i] (t (p + i)) = true) → p + 2 < n ∧ 48 ≤ t (p + 1) ∧ t (p + 1) ≤ 57 := by
    intro c h1
    have a1 := h1 1 (by simp)
    have a2 := h1 2 (by simp)
    have := a1.2
    unfold fitC at this
    exact ⟨a2.1, by simpa using this⟩
  rcases hc with hc | hc
  · rw [show shp (t p) = [116, 68, 59] by rw [hc]; rfl] at h1
    exact key 116 h1
  · rw [show shp (t p) = [108, 68, 59] by rw [hc]; rfl] at h1
    exact key 108 h1
theorem stE_g {p : Nat} (h : stE t n p = none) (hc : t p = 103) : p + 4 < n ∧ (48 ≤ t (p + 1) ∧ t (p + 1) ≤ 57) ∧ (48 ≤ t (p + 2) ∧ t (p + 2) ≤ 57) ∧ (48 ≤ t (p + 3) ∧ t (p + 3) ≤ 57) := by
  have h1 := fbad_none (stE_lt h).2.1
  rw [show shp (t p) = [103, 68, 68, 68, 59] by rw [hc]; rfl] at h1
  have a1 := h1 1 (by decide)
  have a2 := h1 2 (by decide)
  have a3 := h1 3 (by decide)
  have a4 := h1 4 (by decide)
  refine ⟨a4.1, ?_, ?_, ?_⟩
  · have := a1.2; unfold fitC at this; simpa using this
  · have := a2.2; unfold fitC at this; simpa using this
  · have := a3.2; unfold fitC at this; simpa using this
theorem stE_4 {p : Nat} (h : stE t n p = none) : t p = 107 ∨ t p = 116 ∨ t p = 108 ∨ t p = 103 := by
  have h3 := (stE_lt h).2.2
  unfold sln shp at h3
  by_cases h1 : t p = 107
  · exact Or.inl h1
  · by_cases h2 : t p = 116
    · exact Or.inr (Or.inl h2)
    · by_cases h4 : t p = 108
      · exact Or.inr (Or.inr (Or.inl h4))
      · by_cases h5 : t p = 103
        · exact Or.inr (Or.inr (Or.inr h5))
        · rw [if_neg h1, if_neg h2, if_neg h4, if_neg h5] at h3
          simp at h3
/-- what tellStatement leaves: the answer, and the yard -/
def telQ (y : Nat) (w : mW) (D : Yd) (o : Option Yd) (r : Option mV) (u : mW) : Prop := r = some (mI (bI o.isSome)) ∧ Off y w u ∧ YardAt u y (o.getD D)
theorem ev_tellStatement {y : Nat} {D : Yd} (hL : LetAt w t n) (hY : YardAt w y D) (hI : YI D) (hd : 5 ≤ d) {p : Nat} (hp : stE t n p = none) : Cl l d MX0_tellStatement [mR 7 0, mR 1 y, mI (nI p)] w (telQ y w D (telS t D p)) := by
  show Ev l d MX0_tellStatement 0 [some (mR 7 0), some (mR 1 y), some (mI (nI p))] [] w _
  have hn96 := hL.2.2.1
  have hpn := (stE_lt hp).1
  have h256 := hL.2.2.2 p hpn
  refine Ev.blk kX0_tellStatement_0 rfl trivial ?_
  refine Ev.cV (d1 := d - 1) (ev_signAt hL (by omega)) tX0_tellStatement_2 qX0_56 rfl rfl (by decide) ⟨rfl, rfl, rfl⟩ (by omega) ?_
  rintro _ _ ⟨rfl, rfl⟩
  rw [if_pos hpn]
  have sw : ∀ c, c < 256 → mswo sX0_tellStatement_5 (nI c) = if c = 107 then 43 else if c = 116 then 69 else if c = 108 then 81 else if c = 103 then 93 else 112 := by decide +kernel
  have hsw := sw _ h256
  unfold telS
  rcases stE_4 hp with h1 | h1 | h1 | h1
  · rw [if_pos h1] at hsw ⊢
    obtain ⟨g1, g2, g3, g4, g5⟩ := stE_k hp h1
    obtain ⟨kd, hk⟩ := Option.isSome_iff_exists.mp g2
    have hk8 := (fst1_spec hk).1
    rw [hk]
    have hc1 : cel t (p + 2) < 1000 := by show 10 * (t (p + 2) - 48) + (t (p + 3) - 48) < 1000; omega
    have hc2 : dgt t (p + 4) < 1000 := by unfold dgt; omega
    refine Ev.sw (tgt := 48) tX0_tellStatement_5 hsw (by decide) ?_
    refine Ev.blk kX0_tellStatement_48 rfl trivial ?_
    rw [nI_add]
    refine Ev.cV (d1 := d - 1) (ev_kindAt hL (by omega) (show p + 1 < n by omega)) tX0_tellStatement_53 qX0_60 rfl rfl (by decide) ⟨rfl, rfl, rfl⟩ (by omega) ?_
    rintro _ _ ⟨rfl, rfl⟩
    rw [hk]
    refine Ev.blk kX0_tellStatement_56 rfl trivial ?_
    rw [nI_add]
    refine Ev.cV (d1 := d - 1) (ev_cellAt hL (by omega) (show p + 2 + 1 < n by omega) g3.1 g4.1) tX0_tellStatement_60 qX0_63 rfl rfl (by decide) ⟨rfl, rfl, rfl⟩ (by omega) ?_
    rintro _ _ ⟨rfl, rfl⟩
    refine Ev.blk kX0_tellStatement_63 rfl trivial ?_
    rw [nI_add]
    refine Ev.cV (d1 := d - 1) (ev_digitAt hL (by omega) (show p + 4 < n by omega) g5.1) tX0_tellStatement_67 qX0_66 rfl rfl (by decide) ⟨rfl, rfl, rfl⟩ (by omega) ?_
    rintro _ _ ⟨rfl, rfl⟩
    refine Ev.cV (d1 := d - 1) (ev_add hY hI (by omega) (show kd < 1000 by omega) hc1 hc2) tX0_tellStatement_70 qX0_69 rfl rfl (by decide) ⟨rfl, rfl, rfl⟩ (by omega) ?_
    rintro _ _ ⟨rfl, ho, hE⟩
    refine Ev.iret tX0_tellStatement_73 rfl (bI_nar _) ?_
    show telQ _ _ _ (if addB D kd (cel t (p + 2)) (dgt t (p + 4)) = true then some (addY D kd (cel t (p + 2)) (dgt t (p + 4))) else none) _ _
    cases hb : addB D kd (cel t (p + 2)) (dgt t (p + 4))
    · rw [hb] at hE
      exact ⟨rfl, ho, hE⟩
    · rw [hb] at hE
      exact ⟨rfl, ho, hE⟩
  · rw [if_neg (by omega), if_pos h1] at hsw ⊢
    obtain ⟨g1, g2, g3⟩ := stE_tl hp (Or.inl h1)
    have hc2 : dgt t (p + 1) < 1000 := by unfold dgt; omega
    refine Ev.sw (tgt := 74) tX0_tellStatement_5 hsw (by decide) ?_
    refine Ev.blk kX0_tellStatement_74 rfl trivial ?_
    rw [nI_add]
    refine Ev.cV (d1 := d - 1) (ev_digitAt hL (by omega) (show p + 1 < n by omega) g2) tX0_tellStatement_79 qX0_66 rfl rfl (by decide) ⟨rfl, rfl, rfl⟩ (by omega) ?_
    rintro _ _ ⟨rfl, rfl⟩
    refine Ev.cV (d1 := d - 1) (ev_turnOver hY hI (by omega) hc2) tX0_tellStatement_82 qX0_75 rfl rfl (by decide) ⟨rfl, rfl, rfl⟩ (by omega) ?_
    rintro _ _ ⟨rfl, ho, hE⟩
    refine Ev.iret tX0_tellStatement_85 rfl (bI_nar _) ?_
    cases hb : (decide (dgt t (p + 1) < dn D) && !isC D (dgt t (p + 1)))
    · rw [hb] at hE
      exact ⟨rfl, ho, hE⟩
    · rw [hb] at hE
      exact ⟨rfl, ho, hE⟩
  · rw [if_neg (by omega), if_neg (by omega), if_pos h1] at hsw ⊢
    obtain ⟨g1, g2, g3⟩ := stE_tl hp (Or.inr h1)
    refine Ev.sw (tgt := 86) tX0_tellStatement_5 hsw (by decide) ?_
    by_cases h4 : dgt t (p + 1) < 4
    · rw [if_pos h4]
      refine Ev.blk kX0_tellStatement_86 rfl trivial ?_
      rw [nI_add]
      refine Ev.cV (d1 := d - 1) (ev_digitAt hL (by omega) (show p + 1 < n by omega) g2) tX0_tellStatement_91 qX0_66 rfl rfl (by decide) ⟨rfl, rfl, rfl⟩ (by omega) ?_
      rintro _ _ ⟨rfl, rfl⟩
      refine Ev.cV (d1 := d - 1) (ev_setLaw hY h4) tX0_tellStatement_94 qX0_79 rfl rfl (by decide) ⟨rfl, rfl, rfl⟩ (by omega) ?_
      rintro _ _ ⟨rfl, ho, hE⟩
      refine Ev.iret tX0_tellStatement_97 rfl rfl ?_
      exact ⟨rfl, ho, hE⟩
    · rw [if_neg h4]
      have hc2 : dgt t (p + 1) < 1000 := by unfold dgt; omega
      refine Ev.blk kX0_tellStatement_86 rfl trivial ?_
      rw [nI_add]
      refine Ev.cV (d1 := d - 1) (ev_digitAt hL (by omega) (show p + 1 < n by omega) g2) tX0_tellStatement_91 qX0_66 rfl rfl (by decide) ⟨rfl, rfl, rfl⟩ (by omega) ?_
      rintro _ _ ⟨rfl, rfl⟩
      refine Ev.cV (d1 := d - 1) (ev_setLaw_no (y := y) (Or.inr (nI_le (by omega) (by omega)))) tX0_tellStatement_94 qX0_79 rfl rfl (by decide) ⟨rfl, rfl, rfl⟩ (by omega) ?_
      rintro _ _ ⟨rfl, rfl⟩
      refine Ev.iret tX0_tellStatement_97 rfl rfl ?_
      exact ⟨rfl, Off.rf, hY⟩
  · rw [if_neg (by omega), if_neg (by omega), if_neg (by omega)] at hsw ⊢
    rw [if_pos h1] at hsw
    obtain ⟨g1, g2, g3, g4⟩ := stE_g hp h1
    have hc1 : cel t (p + 2) < 1000 := by show 10 * (t (p + 2) - 48) + (t (p + 3) - 48) < 1000; omega
    have hc2 : dgt t (p + 1) < 1000 := by unfold dgt; omega
    refine Ev.sw (tgt := 98) tX0_tellStatement_5 hsw (by decide) ?_
    refine Ev.blk kX0_tellStatement_98 rfl trivial ?_
    rw [nI_add]
    refine Ev.cV (d1 := d - 1) (ev_digitAt hL (by omega) (show p + 1 < n by omega) g2.1) tX0_tellStatement_103 qX0_66 rfl rfl (by decide) ⟨rfl, rfl, rfl⟩ (by omega) ?_
    rintro _ _ ⟨rfl, rfl⟩
    refine Ev.blk kX0_tellStatement_106 rfl trivial ?_
    rw [nI_add]
    refine Ev.cV (d1 := d - 1) (ev_cellAt hL (by omega) (show p + 2 + 1 < n by omega) g3.1 g4.1) tX0_tellStatement_110 qX0_63 rfl rfl (by decide) ⟨rfl, rfl, rfl⟩ (by omega) ?_
    rintro _ _ ⟨rfl, rfl⟩
    refine Ev.cV (d1 := d - 1) (ev_put hY hI (by omega) hc2 hc1) tX0_tellStatement_113 qX0_82 rfl rfl (by decide) ⟨rfl, rfl, rfl⟩ (by omega) ?_
    rintro _ _ ⟨rfl, ho, hE⟩
    refine Ev.iret tX0_tellStatement_116 rfl (bI_nar _) ?_
    cases hb : (decide (dgt t (p + 1) < dn D) && decide (cel t (p + 2) < 24))
    · rw [hb] at hE
      exact ⟨rfl, ho, hE⟩
    · rw [hb] at hE
      exact ⟨rfl, ho, hE⟩
theorem addY_YI {D : Yd} (hI : YI D) {k c f : Nat} (h : addB D k c f = true) : YI (addY D k c f) := by
  unfold addB at h
  simp at h
  obtain ⟨hk, hc, hf, hn⟩ := h
  obtain ⟨h1, h2, h3, h4, h5, h6, h7, h8⟩ := hI
  refine ⟨hn, fun j hj => ?_, h3, fun j hj => ?_, fun j hj => ?_, h6, fun x hx => ?_, h8⟩
  · show va_up (dk D) (dn D) k j < 8 ∧ va_up (dc D) (dn D) c j < 24 ∧ va_up (df D) (dn D) f j < 8
    have hj : j < dn D + 1 := hj
    unfold va_up
    by_cases e : j = dn D
    · rw [if_pos e, if_pos e, if_pos e]; exact ⟨hk, hc, hf⟩
    · rw [if_neg e, if_neg e, if_neg e]; exact h2 j (by omega)
  · show j < dn D + 1 ∧ va_up (dk D) (dn D) k j < 4
    obtain ⟨g1, g2⟩ := h4 j hj
    unfold va_up
    rw [if_neg (by omega)]
    exact ⟨by omega, g2⟩
  · have hj : dn D + 1 ≤ j := hj
    exact h5 j (by omega)
  · have hx : dn D + 1 ≤ x / 8 ∨ dn D + 1 ≤ x % 8 := hx
    exact h7 x (by omega)
theorem telS_YI {D E : Yd} (hI : YI D) {p : Nat} (h : telS t D p = some E) : YI E ∧ da E = da D ∧ dg E = dg D ∧ de E = de D := by
  unfold telS at h
  split at h
  · split at h
    · cases h
      exact ⟨addY_YI hI (by assumption), rfl, rfl, rfl⟩
    · cases h
  · split at h
    · split at h
      · rename_i hb
        cases h
        simp only [Bool.and_eq_true, decide_eq_true_eq, Bool.not_eq_true'] at hb
        refine ⟨hI.us (fun j hj => ?_), rfl, rfl, rfl⟩
        unfold va_up at hj
        split at hj
        · rename_i e
          subst e
          refine ⟨hb.1, ?_⟩
          have := hb.2
          unfold isC at this
          simp at this
          omega
        · exact hI.st hj
      · cases h
    · split at h
      · split at h
        · cases h
          rename_i hv
          exact ⟨⟨hI.1, hI.2.1, hI.2.2.1, hI.2.2.2.1, hI.2.2.2.2.1, hI.2.2.2.2.2.1, hI.2.2.2.2.2.2.1, hv, hI.2.2.2.2.2.2.2.2⟩, rfl, rfl, rfl⟩
        · cases h
      · split at h
        · rename_i hb
          cases h
          simp only [Bool.and_eq_true, decide_eq_true_eq] at hb
          exact ⟨hI.uc hb.2, rfl, rfl, rfl⟩
        · cases h
/-- where P holds, all is as it was -/
def Sm (P : Nat → Nat → Prop) (w u : mW) : Prop := (∀ t i k, P t i → mgf u t i k = mgf w t i k) ∧ ∀ t i, P t i → mga u t i = mga w t i
theorem Sm.rf {P : Nat → Nat → Prop} : Sm P w w := ⟨fun _ _ _ _ => rfl, fun _ _ _ => rfl⟩
theorem Sm.tr {P : Nat → Nat → Prop} {u v : mW} (h : Sm P w u) (k : Sm P u v) : Sm P w v := ⟨fun t i j hp => (k.1 t i j hp).trans (h.1 t i j hp), fun t i hp => (k.2 t i hp).trans (h.2 t i hp)⟩
theorem Sm.sub {P P' : Nat → Nat → Prop} {u : mW} (h : Sm P w u) (hs : ∀ t i, P' t i → P t i) : Sm P' w u := ⟨fun t i k hp => h.1 t i k (hs t i hp), fun t i hp => h.2 t i (hs t i hp)⟩
theorem Off.sm {y : Nat} {u : mW} (h : Off y w u) : Sm (fun t i => ¬ ((1 ≤ t ∧ t ≤ 6) ∧ i = y)) w u := ⟨fun t i k hp => h.1 t i k (fun ⟨a, b⟩ => hp ⟨by omega, b⟩), fun t i hp => h.2 t i (fun ⟨a, b⟩ => hp ⟨by omega, b⟩)⟩
theorem OffL.sm {u : mW} (h : OffL w u) : Sm (fun t _ => t ≠ 7 ∧ t ≠ 8) w u := ⟨fun t i k hp => h.1 t i k hp.1, fun t i hp => h.2 t i hp.2⟩
theorem LetAt.sm {P : Nat → Nat → Prop} {u : mW} (h : LetAt w t n) (hs : Sm P w u) (h7 : P 7 0) (h8 : P 8 0) : LetAt u t n := ⟨by rw [hs.1 7 0 1 h7]; exact h.1, by rw [hs.2 8 0 h8]; exact h.2.1, h.2.2⟩
theorem YardAt.sm {P : Nat → Nat → Prop} {u : mW} {y : Nat} {D : Yd} (h : YardAt w y D) (hs : Sm P w u) (hp : ∀ t, 1 ≤ t → t ≤ 6 → P t y) : YardAt u y D := by
  refine ⟨⟨?_, ?_, ?_, ?_, ?_⟩, ?_, ?_, ?_, ?_, ?_, ?_⟩
  · rw [hs.2 2 y (hp 2 (by decide) (by decide))]; exact h.1.1
  · rw [hs.2 3 y (hp 3 (by decide) (by decide))]; exact h.1.2.1
  · rw [hs.2 4 y (hp 4 (by decide) (by decide))]; exact h.1.2.2.1
  · rw [hs.2 5 y (hp 5 (by decide) (by decide))]; exact h.1.2.2.2.1
  · rw [hs.2 6 y (hp 6 (by decide) (by decide))]; exact h.1.2.2.2.2
  · rw [hs.1 1 y 5 (hp 1 (by decide) (by decide))]; exact h.n
  · rw [hs.1 1 y 6 (hp 1 (by decide) (by decide))]; exact h.s
  · rw [hs.1 1 y 7 (hp 1 (by decide) (by decide))]; exact h.l
  · rw [hs.1 1 y 8 (hp 1 (by decide) (by decide))]; exact h.e
  · rw [hs.1 1 y 9 (hp 1 (by decide) (by decide))]; exact h.g
  · rw [hs.1 1 y 10 (hp 1 (by decide) (by decide))]; exact h.a
def tellQ (y : Nat) (w : mW) (t : Nat → Nat) (n : Nat) (o : Nat ⊕ (Yd × Nat)) (r : Option mV) (u : mW) : Prop :=
  Sm (fun t i => ¬ ((1 ≤ t ∧ t ≤ 6) ∧ i = y) ∧ t ≠ 7) w u ∧ LetAt u t n ∧ (match o with
    | .inl p => r = some (mI (nI p))
    | .inr (E, m) => r = some (mI (-9)) ∧ YardAt u y E ∧ mgf u 7 0 2 = nI m)
theorem ev_tellTo {y : Nat} {D : Yd} (hL : LetAt w t n) (hY : YardAt w y D) (hI : YI D) (hd : 6 ≤ d) (hp : prs t n (n + 1) 0 = none) : Cl l d MX0_tellTo [mR 7 0, mR 1 y] w (tellQ y w t n (telN t n (n + 1) D 0 0)) := by
  show Ev l d MX0_tellTo 0 [some (mR 7 0), some (mR 1 y), none] [] w _
  have hn96 := hL.2.2.1
  refine Ev.blk kX0_tellTo_0 rfl trivial ?_
  have key : ∀ F p E m u, n ≤ F + p → p ≤ n + 8 → (p < n → prs t n F p = none) → Sm (fun t i => ¬ ((1 ≤ t ∧ t ≤ 6) ∧ i = y) ∧ t ≠ 7) w u → LetAt u t n → YardAt u y E → YI E → mgf u 7 0 2 = nI m → Ev l d MX0_tellTo 7 [some (mR 7 0), some (mR 1 y), some (mI (nI p))] [] u (tellQ y w t n (telN t n F E p m)) := by
    intro F
    induction F with
    | zero =>
      intro p E m u h1 h2 h3 hS hL hE hEI hm
      refine Ev.blk kX0_tellTo_7 rfl trivial ?_
      simp only [hL.1]
      refine Ev.br tX0_tellTo_12 rfl (fun c12 => ?_) (fun c12 => ?_)
      · refine Ev.blk kX0_tellTo_54 rfl trivial ?_
        refine Ev.iret tX0_tellTo_56 rfl rfl ?_
        exact ⟨hS, hL, rfl, hE, hm⟩
      · exact absurd (nI_le (by omega) (by omega)) c12
    | succ F ih =>
      intro p E m u h1 h2 h3 hS hL hE hEI hm
      by_cases hpn : p < n
      · have hpr := h3 hpn
        have hst : stE t n p = none := by
          cases hz : stE t n p with
          | none => rfl
          | some q => unfold prs at hpr; rw [hz] at hpr; cases hpr
        have hln := (stE_lt hst).2.2
        have hl8 := sln8 (shS (t p)) (shS_lt _)
        rw [← sln_S] at hl8
        have e0 : telN t n (F + 1) E p m = (match telS t E p with
            | none => .inl p
            | some E' => telN t n F E' (p + sln (t p)) (m + 1)) := by
          exact if_pos hpn
        rw [e0]
        have hts := ev_tellStatement (l := l) (d := d - 1) hL hE hEI (by omega) hst
        cases htl : telS t E p with
        | none =>
          rw [htl] at hts
          refine Ev.blk kX0_tellTo_7 rfl trivial ?_
          simp only [hL.1]
          refine Ev.br tX0_tellTo_12 rfl (fun c12 => ?_) (fun c12 => ?_)
          · exact absurd c12 (nI_ge hpn (by omega))
          · refine Ev.blk kX0_tellTo_15 rfl trivial ?_
            refine Ev.cV (d1 := d - 1) (hts) tX0_tellTo_18 qX0_46 rfl rfl (by decide) ⟨rfl, rfl, rfl⟩ (by omega) ?_
            rintro _ _ ⟨rfl, ho, hE2⟩
            refine Ev.br tX0_tellTo_21 rfl (fun c21 => ?_) (fun c21 => ?_)
            · exact absurd rfl c21
            · refine Ev.blk kX0_tellTo_24 rfl trivial ?_
              refine Ev.iret tX0_tellTo_25 rfl rfl ?_
              refine ⟨hS.tr (ho.sm.sub (fun t i h => h.1)), hL.sm ho.sm (by omega) (by omega), rfl⟩
        | some E' =>
          rw [htl] at hts
          have hEI2 := (telS_YI hEI htl).1
          dsimp only
          refine Ev.blk kX0_tellTo_7 rfl trivial ?_
          simp only [hL.1]
          refine Ev.br tX0_tellTo_12 rfl (fun c12 => ?_) (fun c12 => ?_)
          · exact absurd c12 (nI_ge hpn (by omega))
          · refine Ev.blk kX0_tellTo_15 rfl trivial ?_
            refine Ev.cV (d1 := d - 1) (hts) tX0_tellTo_18 qX0_46 rfl rfl (by decide) ⟨rfl, rfl, rfl⟩ (by omega) ?_
            rintro _ _ ⟨rfl, ho, hE2⟩
            have hL2 := hL.sm ho.sm (by omega) (by omega)
            have hm2 := (ho.sm.1 7 0 2 (by omega)).trans hm
            refine Ev.br tX0_tellTo_21 rfl (fun c21 => ?_) (fun c21 => ?_)
            · refine Ev.blk kX0_tellTo_26 rfl trivial ?_
              rw [hm2, nI_add]
              have hL3 : LetAt (mpf _ 7 0 2 (nI (m + 1))) t n := ⟨(mgf_pfn (by simp)).trans hL2.1, hL2.2⟩
              refine Ev.cV (d1 := d - 1) (ev_shapeAt hL3 (by omega) hpn) tX0_tellTo_40 qX0_34 rfl rfl (by decide) ⟨rfl, rfl, rfl⟩ (by omega) ?_
              rintro _ _ ⟨rfl, rfl⟩
              refine Ev.cV (d1 := d - 1) (ev_strlen (by omega) (shS_lt (t p))) tX0_tellTo_43 qX0_28 rfl rfl (by decide) ⟨rfl, rfl, rfl⟩ (by omega) ?_
              rintro _ _ ⟨rfl, rfl⟩
              refine Ev.mmax tX0_tellTo_46 qX0_50 (by omega) (Nat.le_of_ble_eq_true rfl) ?_
              rw [imx_n (by omega) (by rw [← sln_S]; omega), if_pos (by rw [← sln_S]; omega), ← sln_S]
              refine Ev.blk kX0_tellTo_49 rfl trivial ?_
              rw [nI_add]
              refine Ev.jmp tX0_tellTo_51 ?_
              refine ih (p + sln (t p)) E' (m + 1) _ (by omega) (by omega) ?_ ((hS.tr (ho.sm.sub (fun t i h => h.1))).tr ?_) hL3 ?_ hEI2 mgf_pf
              · intro hlt
                unfold prs at hpr
                rw [hst] at hpr
                dsimp only at hpr
                rw [if_pos hlt] at hpr
                exact hpr
              · exact ⟨fun t i k h => mgf_pfn (fun z => h.2 z.1), fun _ _ _ => rfl⟩
              · exact hE2.sm (P := fun t _ => t ≠ 7) ⟨fun t i k h => mgf_pfn (fun z => h z.1), fun _ _ _ => rfl⟩ (fun t h1 h2 => by omega)
            · exact absurd (show ¬ bI true = nI 0 by decide) c21
      · have e0 : telN t n (F + 1) E p m = .inr (E, m) := by
          exact if_neg hpn
        rw [e0]
        refine Ev.blk kX0_tellTo_7 rfl trivial ?_
        simp only [hL.1]
        refine Ev.br tX0_tellTo_12 rfl (fun c12 => ?_) (fun c12 => ?_)
        · refine Ev.blk kX0_tellTo_54 rfl trivial ?_
          refine Ev.iret tX0_tellTo_56 rfl rfl ?_
          exact ⟨hS, hL, rfl, hE, hm⟩
        · exact absurd (nI_le (by omega) (by omega)) c12
  exact key (n + 1) 0 D 0 _ (by omega) (by omega) (fun _ => hp) ⟨fun t i k h => mgf_pfn (fun z => h.2 z.1), fun _ _ _ => rfl⟩ ⟨(mgf_pfn (by simp)).trans hL.1, hL.2⟩ (hY.sm (P := fun t _ => t ≠ 7) ⟨fun t i k h => mgf_pfn (fun z => h z.1), fun _ _ _ => rfl⟩ (fun t h1 h2 => by omega)) hI mgf_pf
end L2
