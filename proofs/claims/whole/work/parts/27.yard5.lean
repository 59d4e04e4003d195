/-! ===== the class's yard: freeing, running ===== -/
theorem cnt_at {q q' : Nat → Bool} {i : Nat} (h0 : q i = false) (h1 : q' i = true) (h : ∀ j, j ≠ i → q' j = q j) : ∀ {n : Nat}, i < n → cnt q' n = cnt q n + 1
  | 0, hn => by omega
  | n + 1, hn => by
    show cnt q' n + (if q' n = true then 1 else 0) = cnt q n + (if q n = true then 1 else 0) + 1
    by_cases e : i = n
    · subst e
      rw [h0, h1, cnt_congr (q := q') (q' := q) (fun j hj => h j (by omega))]
      simp
    · rw [cnt_at h0 h1 h (show i < n by omega), h n (by omega)]
      omega
theorem va_up_id {α : Type} (f : Nat → α) (i : Nat) : va_up f i (f i) = f := by
  funext j
  unfold va_up
  split
  · rename_i h; rw [h]
  · rfl
theorem Yd_ext {D D' : Yd} (h1 : dk D = dk D') (h2 : dc D = dc D') (h3 : df D = df D') (h4 : dt D = dt D') (h5 : ds D = ds D') (h6 : dr D = dr D') (h7 : dn D = dn D') (h8 : dl D = dl D') (h9 : de D = de D') (h10 : dg D = dg D') (h11 : da D = da D') : D = D' := by
  obtain ⟨a1, a2, a3, a4, a5, a6, a7, a8, a9, a10, a11⟩ := D
  obtain ⟨b1, b2, b3, b4, b5, b6, b7, b8, b9, b10, b11⟩ := D'
  simp only [dk, dc, df, dt, ds, dr, dn, dl, de, dg, da] at *
  subst h1 h2 h3 h4 h5 h6 h7 h8 h9 h10 h11
  rfl
/-- one more of q is freed -/
theorem frd_one {D : Yd} {i j : Nat} {q q' : Nat → Bool} (hj : j < dn D) (hj8 : j < 8) (h0 : q j = false) (h1 : q' j = true) (h : ∀ o, o ≠ j → q' o = q o) (hd : ds D j = true) :
    ur (ug (us (frd D i q) (va_up (ds (frd D i q)) j false)) (dg (frd D i q) + 1)) (va_up (dr (frd D i q)) (8 * i + j) (if dr D (8 * i + j) + 1 < 99 then dr D (8 * i + j) + 1 else 99)) = frd D i q' := by
  refine Yd_ext rfl rfl rfl rfl ?_ ?_ rfl rfl rfl ?_ rfl
  · show va_up (fun o => ds D o && !q o) j false = fun o => ds D o && !q' o
    funext o
    unfold va_up
    by_cases e : o = j
    · subst e; simp [h1]
    · rw [if_neg e, h o e]
  · show va_up (fun x => if x / 8 = i ∧ q (x % 8) = true then (if dr D x < 99 then dr D x + 1 else 99) else dr D x) (8 * i + j) _ = fun x => if x / 8 = i ∧ q' (x % 8) = true then (if dr D x < 99 then dr D x + 1 else 99) else dr D x
    funext x
    unfold va_up
    by_cases e : x = 8 * i + j
    · subst e
      have e1 : (8 * i + j) / 8 = i := by omega
      have e2 : (8 * i + j) % 8 = j := by omega
      simp only [e1, e2, h1, if_true, and_self]
      split <;> split <;> omega
    · rw [if_neg e]
      show (if x / 8 = i ∧ q (x % 8) = true then (if dr D x < 99 then dr D x + 1 else 99) else dr D x) = _
      by_cases e1 : x / 8 = i
      · have : x % 8 ≠ j := by omega
        rw [h _ this]
      · have n1 : ∀ b : Bool, ¬ (x / 8 = i ∧ b = true) := fun b z => e1 z.1
        rw [if_neg (n1 _), if_neg (n1 _)]
  · show dg D + cnt q (dn D) + 1 = dg D + cnt q' (dn D)
    rw [cnt_at h0 h1 h hj]
    omega
theorem b_frb {D : Yd} (hI : YI D) {i : Nat} (hi : i < dn D) : nI (bts (ds D) 8) &&& frb D i = nI (bts (wnt D i) 8) := by
  unfold frb
  by_cases h1 : dk D i = 1
  · rw [if_pos h1, tb_m1 _ (b256 _)]
    congr 1
    refine bts_congr (fun j hj => ?_)
    unfold wnt mayK
    simp [h1]
  · rw [if_neg h1]
    by_cases h2 : dk D i = 2
    · rw [if_pos h2, b_pow (hI.fr hi), b_and]
      congr 1
      refine bts_congr (fun j hj => ?_)
      unfold wnt mayK
      have : (j == df D i) = (df D i == j) := by
        by_cases e : j = df D i
        · subst e; rfl
        · rw [beq_eq_false_iff_ne.mpr e, beq_eq_false_iff_ne.mpr (Ne.symm e)]
      simp [h2, this]
    · rw [if_neg h2, nI_and, Nat.and_zero]
      rw [b_zero]
      congr 1
      refine bts_congr (fun j hj => ?_)
      unfold wnt mayK
      simp [h1, h2]
section Y5
variable {l : Launch} {d : Nat} {w : mW} {y : Nat} {D : Yd}
theorem ev_setFree (hY : YardAt w y D) (hI : YI D) (hd : 2 ≤ d) {i b : Nat} (hi : i < dn D) (hb : b < dn D) : Cl l d MX1_setFree [mR 1 y, mI (nI i), mI (nI b)] w (fun r u => r = none ∧ Off y w u ∧ YardAt u y (frd D i (frS D i b))) := by
  show Ev l d MX1_setFree 0 [some (mR 1 y), some (mI (nI i)), some (mI (nI b)), none, none, none] [] w _
  have h8 := hI.1
  have hi8 : i < 8 := by omega
  have hci := hI.cl hi
  have hl4 := hI.lw
  refine Ev.blk kX1_setFree_0 rfl trivial ?_
  have hq0 : (fun o => frS D i b o && decide (o < 0)) = fun _ => false := by funext o; simp
  have hD0 : frd D i (fun o => frS D i b o && decide (o < 0)) = D := by
    rw [hq0]
    have hc0 : ∀ n, cnt (fun _ => false) n = 0 := fun n => by
      induction n with
      | zero => rfl
      | succ n ih => unfold cnt; rw [ih]; rfl
    refine Yd_ext rfl rfl rfl rfl ?_ ?_ rfl rfl rfl ?_ rfl
    · funext o; show (ds D o && !false) = ds D o; simp
    · funext x; show (if x / 8 = i ∧ false = true then _ else dr D x) = dr D x; simp
    · show dg D + cnt (fun _ => false) (dn D) = dg D; rw [hc0]; rfl
  refine Ev.for (fun j L u => Off y w u ∧ YardAt u y (frd D i (fun o => frS D i b o && decide (o < j))) ∧ ∃ x4 x5, L = [some (mR 1 y), some (mI (nI i)), some (mI (nI b)), some (mI (nI j)), x4, x5]) (dn D) ?_ ?_ 0 (Nat.zero_le _) ⟨Off.rf, by rw [hD0]; exact hY, none, none, rfl⟩
  · rintro L u ⟨ho, hE, x4, x5, rfl⟩
    have hn : mgf u 1 y 5 = nI (dn D) := hE.n
    have hqn : frd D i (fun o => frS D i b o && decide (o < dn D)) = frd D i (frS D i b) := by
      congr 1
      funext o
      cases hs : ds D o
      · simp [frS, hs]
      · have := (hI.st hs).1
        simp [this]
    rw [hqn] at hE
    refine Ev.blk kX1_setFree_2 rfl trivial ?_
    simp only [hn]
    refine Ev.br tX1_setFree_7 rfl (fun c7 => ?_) (fun c7 => ?_)
    · refine Ev.vret tX1_setFree_124 rfl ?_
      exact ⟨rfl, ho, hE⟩
    · exact absurd (nI_le (Nat.le_refl _) (by omega)) c7
  · rintro j L u hj ⟨ho, hE, x4, x5, rfl⟩ k
    have hj8 : j < 8 := by omega
    have hcj := hI.cl hj
    have hn : mgf u 1 y 5 = nI (dn D) := hE.n
    have hl : mgf u 1 y 7 = nI (dl D) := hE.l
    have hc1 : mga u 3 y i = nI (dc D i) := hE.c hi8
    have hc2 : mga u 3 y j = nI (dc D j) := hE.c hj8
    have hfl := far_le _ hci _ hcj
    have hEI : YI (frd D i (fun o => frS D i b o && decide (o < j))) := hI.frd hi (fun o h => by simp only [Bool.and_eq_true] at h; unfold frS at h; simp only [Bool.and_eq_true] at h; exact h.1.1)
    have hdj : ds (frd D i (fun o => frS D i b o && decide (o < j))) j = ds D j := by
      show (ds D j && !(frS D i b j && decide (j < j))) = ds D j
      simp
    have hno : frS D i b j = false → Ev l d MX1_setFree 2 [some (mR 1 y), some (mI (nI i)), some (mI (nI b)), some (mI (nI (j + 1))), x4, x5] [] u (fun r u => r = none ∧ Off y w u ∧ YardAt u y (frd D i (frS D i b))) ∧ ∀ x4 x5, Ev l d MX1_setFree 2 [some (mR 1 y), some (mI (nI i)), some (mI (nI b)), some (mI (nI (j + 1))), x4, x5] [] u (fun r u => r = none ∧ Off y w u ∧ YardAt u y (frd D i (frS D i b))) := by
      intro hf
      have e : (fun o => frS D i b o && decide (o < j + 1)) = fun o => frS D i b o && decide (o < j) := by
        funext o
        by_cases e : o = j
        · subst e; simp [hf]
        · have : decide (o < j + 1) = decide (o < j) := by simp; omega
          rw [this]
      exact ⟨k _ _ ⟨ho, by rw [e]; exact hE, _, _, rfl⟩, fun x4 x5 => k _ _ ⟨ho, by rw [e]; exact hE, _, _, rfl⟩⟩
    refine Ev.blk kX1_setFree_2 rfl trivial ?_
    simp only [hn]
    refine Ev.br tX1_setFree_7 rfl (fun c7 => ?_) (fun c7 => ?_)
    · exact absurd c7 (nI_ge hj (by omega))
    · try simp (disch := omega) only [nI_eq, nI_leI, nI_ltI] at c7
      refine Ev.blk kX1_setFree_10 rfl trivial ?_
      simp only [hl]
      refine Ev.br tX1_setFree_15 rfl (fun c15 => ?_) (fun c15 => ?_)
      · try simp (disch := omega) only [nI_eq, nI_leI, nI_ltI] at c15
        refine Ev.blk kX1_setFree_45 rfl trivial ?_
        refine Ev.br tX1_setFree_47 rfl (fun c47 => ?_) (fun c47 => ?_)
        · try simp (disch := omega) only [nI_eq, nI_leI, nI_ltI] at c47
          refine Ev.blk kX1_setFree_54 rfl trivial ?_
          refine Ev.blk kX1_setFree_55 rfl trivial ?_
          refine Ev.br tX1_setFree_59 rfl (fun c59 => ?_) (fun c59 => ?_)
          · first
              | exact absurd c59 (by decide)
              | (refine Ev.bj kX1_setFree_118 tX1_setFree_121 rfl trivial ?_
                 rw [nI_add]
                 exact (hno (by
                   unfold frS
                   first
                     | (rw [if_pos (by omega)]; simp; intro _; omega)
                     | (rw [if_neg (by omega)]; simp; intro _; omega))).2 _ _)
          · first
              | exact absurd rfl c59
              | (have hfs : frS D i b j = ds D j := by
                   unfold frS
                   first
                     | (rw [if_pos (by omega)]; simp; intro _; omega)
                     | (rw [if_neg (by omega)]; simp; intro _; omega)
                 refine Ev.blk kX1_setFree_62 rfl trivial ?_
                 simp only [hE.s, b_at hj8, hdj]
                 refine Ev.br tX1_setFree_71 rfl (fun c71 => ?_) (fun c71 => ?_)
                 · have hdf : ds D j = false := by
                     cases hz : ds D j
                     · rfl
                     · rw [hz] at c71; exact absurd c71 (by decide)
                   refine Ev.bj kX1_setFree_118 tX1_setFree_121 rfl trivial ?_
                   rw [nI_add]
                   exact (hno (by rw [hfs, hdf])).2 _ _
                 · have hdt : ds D j = true := by
                     cases hz : ds D j
                     · rw [hz] at c71; exact absurd c71 (by decide)
                     · rfl
                   refine Ev.blk kX1_setFree_74 rfl trivial ?_
                   refine Ev.cV (d1 := d - 1) (ev_letRun hE hj8) tX1_setFree_76 qX1_83 rfl rfl (by decide) ⟨rfl, rfl, rfl⟩ (by omega) ?_
                   rintro _ v ⟨rfl, ho2, hF⟩
                   have hg : mgf v 1 y 9 = nI (dg (frd D i (fun o => frS D i b o && decide (o < j)))) := hF.g
                   have hG := hF.pG (x := dg (frd D i (fun o => frS D i b o && decide (o < j))) + 1)
                   have e64 : 8 * i + j < 64 := by omega
                   have hr1 : mga v 6 y (8 * i + j) = nI (dr D (8 * i + j)) := by
                     have h9 : mga v 6 y (8 * i + j) = nI (if (8 * i + j) / 8 = i ∧ (frS D i b ((8 * i + j) % 8) && decide ((8 * i + j) % 8 < j)) = true then (if dr D (8 * i + j) < 99 then dr D (8 * i + j) + 1 else 99) else dr D (8 * i + j)) := hF.r e64
                     rw [h9, if_neg]
                     rintro ⟨_, z⟩
                     simp only [Bool.and_eq_true, decide_eq_true_eq] at z
                     omega
                   have hrb := hI.rd (8 * i + j)
                   refine Ev.blk kX1_setFree_79 rfl ⟨trivial, by rw [pk_mul, nI_add]; exact vinN e64 (by decide)⟩ ?_
                   rw [pk_mul, nI_add, ixN (by omega), hg, nI_add]
                   rw [show mga (mpf v 1 y 9 (nI (dg (frd D i fun o => frS D i b o && decide (o < j)) + 1))) 6 y (8 * i + j) = nI (dr D (8 * i + j)) from hr1, nI_add]
                   refine Ev.mmin tX1_setFree_114 qX1_103 (by omega) (Nat.le_of_ble_eq_true rfl) ?_
                   rw [imn_n (by omega) (by omega)]
                   refine Ev.blk kX1_setFree_117 rfl ⟨trivial, vinN e64 (by decide)⟩ ?_
                   rw [ixN (by omega)]
                   refine Ev.bj kX1_setFree_118 tX1_setFree_121 rfl trivial ?_
                   rw [nI_add]
                   have hR := hG.pr (i := 8 * i + j) (v := if dr D (8 * i + j) + 1 < 99 then dr D (8 * i + j) + 1 else 99)
                   refine k _ _ ⟨ho.tr (ho2.tr (Off.tr Off.pf (Off.pA (by decide)))), ?_, _, _, rfl⟩
                   have hone := frd_one (D := D) (i := i) (j := j) (q := fun o => frS D i b o && decide (o < j)) (q' := fun o => frS D i b o && decide (o < j + 1)) hj hj8 (by simp) (by simp [hfs, hdt]) (fun o ho => by
                     have : decide (o < j + 1) = decide (o < j) := by simp; omega
                     simp only [this]) hdt
                   rw [← hone]
                   exact hR)
        · try simp (disch := omega) only [nI_eq, nI_leI, nI_ltI] at c47
          refine Ev.blk kX1_setFree_50 rfl trivial ?_
          refine Ev.jmp tX1_setFree_51 ?_
          refine Ev.blk kX1_setFree_55 rfl trivial ?_
          refine Ev.br tX1_setFree_59 rfl (fun c59 => ?_) (fun c59 => ?_)
          · first
              | exact absurd c59 (by decide)
              | (refine Ev.bj kX1_setFree_118 tX1_setFree_121 rfl trivial ?_
                 rw [nI_add]
                 exact (hno (by
                   unfold frS
                   first
                     | (rw [if_pos (by omega)]; simp; intro _; omega)
                     | (rw [if_neg (by omega)]; simp; intro _; omega))).2 _ _)
          · first
              | exact absurd rfl c59
              | (have hfs : frS D i b j = ds D j := by
                   unfold frS
                   first
                     | (rw [if_pos (by omega)]; simp; intro _; omega)
                     | (rw [if_neg (by omega)]; simp; intro _; omega)
                 refine Ev.blk kX1_setFree_62 rfl trivial ?_
                 simp only [hE.s, b_at hj8, hdj]
                 refine Ev.br tX1_setFree_71 rfl (fun c71 => ?_) (fun c71 => ?_)
                 · have hdf : ds D j = false := by
                     cases hz : ds D j
                     · rfl
                     · rw [hz] at c71; exact absurd c71 (by decide)
                   refine Ev.bj kX1_setFree_118 tX1_setFree_121 rfl trivial ?_
                   rw [nI_add]
                   exact (hno (by rw [hfs, hdf])).2 _ _
                 · have hdt : ds D j = true := by
                     cases hz : ds D j
                     · rw [hz] at c71; exact absurd c71 (by decide)
                     · rfl
                   refine Ev.blk kX1_setFree_74 rfl trivial ?_
                   refine Ev.cV (d1 := d - 1) (ev_letRun hE hj8) tX1_setFree_76 qX1_83 rfl rfl (by decide) ⟨rfl, rfl, rfl⟩ (by omega) ?_
                   rintro _ v ⟨rfl, ho2, hF⟩
                   have hg : mgf v 1 y 9 = nI (dg (frd D i (fun o => frS D i b o && decide (o < j)))) := hF.g
                   have hG := hF.pG (x := dg (frd D i (fun o => frS D i b o && decide (o < j))) + 1)
                   have e64 : 8 * i + j < 64 := by omega
                   have hr1 : mga v 6 y (8 * i + j) = nI (dr D (8 * i + j)) := by
                     have h9 : mga v 6 y (8 * i + j) = nI (if (8 * i + j) / 8 = i ∧ (frS D i b ((8 * i + j) % 8) && decide ((8 * i + j) % 8 < j)) = true then (if dr D (8 * i + j) < 99 then dr D (8 * i + j) + 1 else 99) else dr D (8 * i + j)) := hF.r e64
                     rw [h9, if_neg]
                     rintro ⟨_, z⟩
                     simp only [Bool.and_eq_true, decide_eq_true_eq] at z
                     omega
                   have hrb := hI.rd (8 * i + j)
                   refine Ev.blk kX1_setFree_79 rfl ⟨trivial, by rw [pk_mul, nI_add]; exact vinN e64 (by decide)⟩ ?_
                   rw [pk_mul, nI_add, ixN (by omega), hg, nI_add]
                   rw [show mga (mpf v 1 y 9 (nI (dg (frd D i fun o => frS D i b o && decide (o < j)) + 1))) 6 y (8 * i + j) = nI (dr D (8 * i + j)) from hr1, nI_add]
                   refine Ev.mmin tX1_setFree_114 qX1_103 (by omega) (Nat.le_of_ble_eq_true rfl) ?_
                   rw [imn_n (by omega) (by omega)]
                   refine Ev.blk kX1_setFree_117 rfl ⟨trivial, vinN e64 (by decide)⟩ ?_
                   rw [ixN (by omega)]
                   refine Ev.bj kX1_setFree_118 tX1_setFree_121 rfl trivial ?_
                   rw [nI_add]
                   have hR := hG.pr (i := 8 * i + j) (v := if dr D (8 * i + j) + 1 < 99 then dr D (8 * i + j) + 1 else 99)
                   refine k _ _ ⟨ho.tr (ho2.tr (Off.tr Off.pf (Off.pA (by decide)))), ?_, _, _, rfl⟩
                   have hone := frd_one (D := D) (i := i) (j := j) (q := fun o => frS D i b o && decide (o < j)) (q' := fun o => frS D i b o && decide (o < j + 1)) hj hj8 (by simp) (by simp [hfs, hdt]) (fun o ho => by
                     have : decide (o < j + 1) = decide (o < j) := by simp; omega
                     simp only [this]) hdt
                   rw [← hone]
                   exact hR)
      · try simp (disch := omega) only [nI_eq, nI_leI, nI_ltI] at c15
        refine Ev.blk kX1_setFree_18 rfl ⟨⟨trivial, vinN hi8 (by decide)⟩, vinN hj8 (by decide)⟩ ?_
        simp only [ix8 hi8, ix8 hj8, hc1, hc2]
        refine Ev.cS (d1 := d - 1) (ev_apart hci hcj) tX1_setFree_30 qX1_100 rfl ⟨rfl, rfl, rfl⟩ (by omega) ?_
        rintro _ _ ⟨rfl, rfl⟩
        refine Ev.blk kX1_setFree_33 rfl trivial ?_
        refine Ev.br tX1_setFree_34 rfl (fun c34 => ?_) (fun c34 => ?_)
        · try simp (disch := omega) only [nI_eq, nI_leI, nI_ltI] at c34
          refine Ev.blk kX1_setFree_41 rfl trivial ?_
          refine Ev.jmp tX1_setFree_42 ?_
          refine Ev.blk kX1_setFree_55 rfl trivial ?_
          refine Ev.br tX1_setFree_59 rfl (fun c59 => ?_) (fun c59 => ?_)
          · first
              | exact absurd c59 (by decide)
              | (refine Ev.bj kX1_setFree_118 tX1_setFree_121 rfl trivial ?_
                 rw [nI_add]
                 exact (hno (by
                   unfold frS
                   first
                     | (rw [if_pos (by omega)]; simp; intro _; omega)
                     | (rw [if_neg (by omega)]; simp; intro _; omega))).2 _ _)
          · first
              | exact absurd rfl c59
              | (have hfs : frS D i b j = ds D j := by
                   unfold frS
                   first
                     | (rw [if_pos (by omega)]; simp; intro _; omega)
                     | (rw [if_neg (by omega)]; simp; intro _; omega)
                 refine Ev.blk kX1_setFree_62 rfl trivial ?_
                 simp only [hE.s, b_at hj8, hdj]
                 refine Ev.br tX1_setFree_71 rfl (fun c71 => ?_) (fun c71 => ?_)
                 · have hdf : ds D j = false := by
                     cases hz : ds D j
                     · rfl
                     · rw [hz] at c71; exact absurd c71 (by decide)
                   refine Ev.bj kX1_setFree_118 tX1_setFree_121 rfl trivial ?_
                   rw [nI_add]
                   exact (hno (by rw [hfs, hdf])).2 _ _
                 · have hdt : ds D j = true := by
                     cases hz : ds D j
                     · rw [hz] at c71; exact absurd c71 (by decide)
                     · rfl
                   refine Ev.blk kX1_setFree_74 rfl trivial ?_
                   refine Ev.cV (d1 := d - 1) (ev_letRun hE hj8) tX1_setFree_76 qX1_83 rfl rfl (by decide) ⟨rfl, rfl, rfl⟩ (by omega) ?_
                   rintro _ v ⟨rfl, ho2, hF⟩
                   have hg : mgf v 1 y 9 = nI (dg (frd D i (fun o => frS D i b o && decide (o < j)))) := hF.g
                   have hG := hF.pG (x := dg (frd D i (fun o => frS D i b o && decide (o < j))) + 1)
                   have e64 : 8 * i + j < 64 := by omega
                   have hr1 : mga v 6 y (8 * i + j) = nI (dr D (8 * i + j)) := by
                     have h9 : mga v 6 y (8 * i + j) = nI (if (8 * i + j) / 8 = i ∧ (frS D i b ((8 * i + j) % 8) && decide ((8 * i + j) % 8 < j)) = true then (if dr D (8 * i + j) < 99 then dr D (8 * i + j) + 1 else 99) else dr D (8 * i + j)) := hF.r e64
                     rw [h9, if_neg]
                     rintro ⟨_, z⟩
                     simp only [Bool.and_eq_true, decide_eq_true_eq] at z
                     omega
                   have hrb := hI.rd (8 * i + j)
                   refine Ev.blk kX1_setFree_79 rfl ⟨trivial, by rw [pk_mul, nI_add]; exact vinN e64 (by decide)⟩ ?_
                   rw [pk_mul, nI_add, ixN (by omega), hg, nI_add]
                   rw [show mga (mpf v 1 y 9 (nI (dg (frd D i fun o => frS D i b o && decide (o < j)) + 1))) 6 y (8 * i + j) = nI (dr D (8 * i + j)) from hr1, nI_add]
                   refine Ev.mmin tX1_setFree_114 qX1_103 (by omega) (Nat.le_of_ble_eq_true rfl) ?_
                   rw [imn_n (by omega) (by omega)]
                   refine Ev.blk kX1_setFree_117 rfl ⟨trivial, vinN e64 (by decide)⟩ ?_
                   rw [ixN (by omega)]
                   refine Ev.bj kX1_setFree_118 tX1_setFree_121 rfl trivial ?_
                   rw [nI_add]
                   have hR := hG.pr (i := 8 * i + j) (v := if dr D (8 * i + j) + 1 < 99 then dr D (8 * i + j) + 1 else 99)
                   refine k _ _ ⟨ho.tr (ho2.tr (Off.tr Off.pf (Off.pA (by decide)))), ?_, _, _, rfl⟩
                   have hone := frd_one (D := D) (i := i) (j := j) (q := fun o => frS D i b o && decide (o < j)) (q' := fun o => frS D i b o && decide (o < j + 1)) hj hj8 (by simp) (by simp [hfs, hdt]) (fun o ho => by
                     have : decide (o < j + 1) = decide (o < j) := by simp; omega
                     simp only [this]) hdt
                   rw [← hone]
                   exact hR)
        · try simp (disch := omega) only [nI_eq, nI_leI, nI_ltI] at c34
          refine Ev.blk kX1_setFree_37 rfl trivial ?_
          refine Ev.jmp tX1_setFree_38 ?_
          refine Ev.blk kX1_setFree_55 rfl trivial ?_
          refine Ev.br tX1_setFree_59 rfl (fun c59 => ?_) (fun c59 => ?_)
          · first
              | exact absurd c59 (by decide)
              | (refine Ev.bj kX1_setFree_118 tX1_setFree_121 rfl trivial ?_
                 rw [nI_add]
                 exact (hno (by
                   unfold frS
                   first
                     | (rw [if_pos (by omega)]; simp; intro _; omega)
                     | (rw [if_neg (by omega)]; simp; intro _; omega))).2 _ _)
          · first
              | exact absurd rfl c59
              | (have hfs : frS D i b j = ds D j := by
                   unfold frS
                   first
                     | (rw [if_pos (by omega)]; simp; intro _; omega)
                     | (rw [if_neg (by omega)]; simp; intro _; omega)
                 refine Ev.blk kX1_setFree_62 rfl trivial ?_
                 simp only [hE.s, b_at hj8, hdj]
                 refine Ev.br tX1_setFree_71 rfl (fun c71 => ?_) (fun c71 => ?_)
                 · have hdf : ds D j = false := by
                     cases hz : ds D j
                     · rfl
                     · rw [hz] at c71; exact absurd c71 (by decide)
                   refine Ev.bj kX1_setFree_118 tX1_setFree_121 rfl trivial ?_
                   rw [nI_add]
                   exact (hno (by rw [hfs, hdf])).2 _ _
                 · have hdt : ds D j = true := by
                     cases hz : ds D j
                     · rw [hz] at c71; exact absurd c71 (by decide)
                     · rfl
                   refine Ev.blk kX1_setFree_74 rfl trivial ?_
                   refine Ev.cV (d1 := d - 1) (ev_letRun hE hj8) tX1_setFree_76 qX1_83 rfl rfl (by decide) ⟨rfl, rfl, rfl⟩ (by omega) ?_
                   rintro _ v ⟨rfl, ho2, hF⟩
                   have hg : mgf v 1 y 9 = nI (dg (frd D i (fun o => frS D i b o && decide (o < j)))) := hF.g
                   have hG := hF.pG (x := dg (frd D i (fun o => frS D i b o && decide (o < j))) + 1)
                   have e64 : 8 * i + j < 64 := by omega
                   have hr1 : mga v 6 y (8 * i + j) = nI (dr D (8 * i + j)) := by
                     have h9 : mga v 6 y (8 * i + j) = nI (if (8 * i + j) / 8 = i ∧ (frS D i b ((8 * i + j) % 8) && decide ((8 * i + j) % 8 < j)) = true then (if dr D (8 * i + j) < 99 then dr D (8 * i + j) + 1 else 99) else dr D (8 * i + j)) := hF.r e64
                     rw [h9, if_neg]
                     rintro ⟨_, z⟩
                     simp only [Bool.and_eq_true, decide_eq_true_eq] at z
                     omega
                   have hrb := hI.rd (8 * i + j)
                   refine Ev.blk kX1_setFree_79 rfl ⟨trivial, by rw [pk_mul, nI_add]; exact vinN e64 (by decide)⟩ ?_
                   rw [pk_mul, nI_add, ixN (by omega), hg, nI_add]
                   rw [show mga (mpf v 1 y 9 (nI (dg (frd D i fun o => frS D i b o && decide (o < j)) + 1))) 6 y (8 * i + j) = nI (dr D (8 * i + j)) from hr1, nI_add]
                   refine Ev.mmin tX1_setFree_114 qX1_103 (by omega) (Nat.le_of_ble_eq_true rfl) ?_
                   rw [imn_n (by omega) (by omega)]
                   refine Ev.blk kX1_setFree_117 rfl ⟨trivial, vinN e64 (by decide)⟩ ?_
                   rw [ixN (by omega)]
                   refine Ev.bj kX1_setFree_118 tX1_setFree_121 rfl trivial ?_
                   rw [nI_add]
                   have hR := hG.pr (i := 8 * i + j) (v := if dr D (8 * i + j) + 1 < 99 then dr D (8 * i + j) + 1 else 99)
                   refine k _ _ ⟨ho.tr (ho2.tr (Off.tr Off.pf (Off.pA (by decide)))), ?_, _, _, rfl⟩
                   have hone := frd_one (D := D) (i := i) (j := j) (q := fun o => frS D i b o && decide (o < j)) (q' := fun o => frS D i b o && decide (o < j + 1)) hj hj8 (by simp) (by simp [hfs, hdt]) (fun o ho => by
                     have : decide (o < j + 1) = decide (o < j) := by simp; omega
                     simp only [this]) hdt
                   rw [← hone]
                   exact hR)
end Y5
