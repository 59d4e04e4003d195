/-! ===== what each call answers, and the state behind it: the words of both sides ===== -/
section GG
variable {D : Yd} {f : Nat → Nat} {g i : Nat}
/-- who freed whom, and how often in mind, changes nothing else -/
def GU (D : Yd) (f : Nat → Nat) (g : Nat) : Yd := ug (ur D f) g
theorem GU_id : GU D (dr D) (dg D) = D := rfl
theorem capL_E {E : Yd} (h1 : isC E = isC D) (h2 : dc E = dc D) (c : Nat) : ∀ i, capL E c i = capL D c i
  | 0 => rfl
  | i + 1 => by
    unfold capL
    rw [capL_E h1 h2 c i, h1, h2]
theorem cap_G : cap (GU D f g) = cap D := funext fun c => capL_E (D := D) (E := GU D f g) rfl rfl c (dn D)
theorem awy_G : awy (GU D f g) = awy D := by
  have h : awS (GU D f g) = awS D := by
    funext c b way
    unfold awS
    rw [cap_G]
  funext c
  unfold awy
  rw [h]
theorem cap_g : cap (ug D g) = cap D := cap_G (D := D) (f := dr D) (g := g)
theorem awy_g : awy (ug D g) = awy D := awy_G (D := D) (f := dr D) (g := g)
theorem cat_G : cat (GU D f g) i = GU (cat D i) f g := by
  unfold cat
  simp only [show dk (GU D f g) = dk D from rfl, show dc (GU D f g) = dc D from rfl, show ds (GU D f g) = ds D from rfl, show dn (GU D f g) = dn D from rfl, show de (GU D f g) = de D from rfl, show tch (GU D f g) = tch D from rfl, show rnr (GU D f g) = rnr D from rfl]
  by_cases h7 : dk D i = 7 ∧ de D % 3 = 0
  · rw [if_pos h7, if_pos h7]
  · rw [if_neg h7, if_neg h7]
    cases fst1 (tch D i) (dn D) with
    | some o => rfl
    | none =>
      dsimp only
      cases nrst (ds D) (fun o => far (dc D i) (dc D o)) (dn D) with
      | none =>
        dsimp only
        cases nrst (rnr D) (fun o => far (dc D i) (dc D o)) (dn D) with
        | none => rfl
        | some b => rfl
      | some a =>
        dsimp only
        by_cases h6 : dk D i = 6
        · rw [if_pos h6, if_pos h6]
        · rw [if_neg h6, if_neg h6]
          by_cases h5 : dk D i = 5
          · rw [if_pos h5, if_pos h5]
            by_cases h1 : 1 < far (dc D i) (dc D a)
            · rw [if_pos h1, if_pos h1]; rfl
            · rw [if_neg h1, if_neg h1]
          · rw [if_neg h5, if_neg h5]
            cases nrst (rnr D) (fun o => far (dc D i) (dc D o)) (dn D) with
            | none => rfl
            | some b => rfl
theorem runs_G : ∃ f' g', runs (GU D f g) i = (GU (runs D i).1 f' g', (runs D i).2) := by
  unfold runs
  simp only [show dk (GU D f g) = dk D from rfl, show dc (GU D f g) = dc D from rfl, show nearMay (GU D f g) = nearMay D from rfl, show aimMay (GU D f g) = aimMay D from rfl, cap_G, awy_G, show frS (GU D f g) = frS D from rfl]
  by_cases h3 : dk D i = 3
  · rw [if_pos h3, if_pos h3]
    exact ⟨f, g, rfl⟩
  · rw [if_neg h3, if_neg h3]
    cases nearMay D i with
    | some o => exact ⟨_, _, rfl⟩
    | none =>
      dsimp only
      cases aimMay D i with
      | some a => exact ⟨f, g, rfl⟩
      | none => exact ⟨f, g, rfl⟩
theorem ply_G : ∃ f' g', ply (GU D f g) i = GU (ply D i) f' g' := by
  unfold ply
  simp only [show ds (GU D f g) = ds D from rfl, show da (GU D f g) = da D from rfl, show dt (GU D f g) = dt D from rfl, show dc (GU D f g) = dc D from rfl]
  by_cases h1 : ds D i = true ∨ i = da D
  · rw [if_pos h1, if_pos h1]; exact ⟨f, g, rfl⟩
  · rw [if_neg h1, if_neg h1]
    by_cases h2 : dt D i = 9
    · rw [if_pos h2, if_pos h2]; exact ⟨f, g, rfl⟩
    · rw [if_neg h2, if_neg h2]
      obtain ⟨f', g', e⟩ := runs_G (D := D) (f := f) (g := g) (i := i)
      rw [e]
      exact ⟨f', g', rfl⟩
theorem act_G : ∃ f' g', act (GU D f g) i = GU (act D i) f' g' := by
  unfold act
  simp only [show isC (GU D f g) = isC D from rfl]
  by_cases h : isC D i = true
  · rw [if_pos h, if_pos h]; exact ⟨f, g, cat_G⟩
  · rw [if_neg h, if_neg h]; exact ply_G
theorem actN_G : ∀ n, ∃ f' g', actN (GU D f g) n = GU (actN D n) f' g'
  | 0 => ⟨f, g, rfl⟩
  | n + 1 => by
    obtain ⟨f', g', e⟩ := actN_G n
    show ∃ f'' g'', act (actN (GU D f g) n) n = GU (act (actN D n) n) f'' g''
    rw [e]
    exact act_G
theorem tnth_G : tnth (GU D f g) = GU (tnth D) f g := by
  unfold tnth
  simp only [show dl (GU D f g) = dl D from rfl, show de (GU D f g) = de D from rfl]
  by_cases h : dl D = 3 ∧ de D % 10 = 0
  · rw [if_pos h, if_pos h]; rfl
  · rw [if_neg h, if_neg h]
theorem pass_G : ∃ f' g', pass (GU D f g) = GU (pass D) f' g' := by
  unfold pass
  rw [tnth_G]
  obtain ⟨f', g', e⟩ := actN_G (D := tnth D) (f := f) (g := g) (dn D)
  simp only [show dn (GU D f g) = dn D from rfl, show de (GU D f g) = de D from rfl]
  rw [e]
  exact ⟨f', g', rfl⟩
theorem passN_G : ∀ n, ∃ f' g', passN (GU D f g) n = GU (passN D n) f' g'
  | 0 => ⟨f, g, rfl⟩
  | n + 1 => by
    obtain ⟨f', g', e⟩ := passN_G n
    show ∃ f'' g'', pass (passN (GU D f g) n) = GU (pass (passN D n)) f'' g''
    rw [e]
    exact pass_G
/-- one who is freed is counted alike, whatever was counted before -/
theorem runs_g : ∃ g', runs (ug D g) i = (ug (runs D i).1 g', (runs D i).2) := by
  unfold runs
  simp only [show dk (ug D g) = dk D from rfl, show dc (ug D g) = dc D from rfl, show nearMay (ug D g) = nearMay D from rfl, show aimMay (ug D g) = aimMay D from rfl, cap_g, awy_g, show frS (ug D g) = frS D from rfl]
  by_cases h3 : dk D i = 3
  · rw [if_pos h3, if_pos h3]
    exact ⟨g, rfl⟩
  · rw [if_neg h3, if_neg h3]
    cases nearMay D i with
    | some o => exact ⟨_, rfl⟩
    | none =>
      dsimp only
      cases aimMay D i with
      | some a => exact ⟨g, rfl⟩
      | none => exact ⟨g, rfl⟩
theorem ply_g : ∃ g', ply (ug D g) i = ug (ply D i) g' := by
  unfold ply
  simp only [show ds (ug D g) = ds D from rfl, show da (ug D g) = da D from rfl, show dt (ug D g) = dt D from rfl, show dc (ug D g) = dc D from rfl]
  by_cases h1 : ds D i = true ∨ i = da D
  · rw [if_pos h1, if_pos h1]; exact ⟨g, rfl⟩
  · rw [if_neg h1, if_neg h1]
    by_cases h2 : dt D i = 9
    · rw [if_pos h2, if_pos h2]; exact ⟨g, rfl⟩
    · rw [if_neg h2, if_neg h2]
      obtain ⟨g', e⟩ := runs_g (D := D) (g := g) (i := i)
      rw [e]
      exact ⟨g', rfl⟩
theorem act_g : ∃ g', act (ug D g) i = ug (act D i) g' := by
  unfold act
  simp only [show isC (ug D g) = isC D from rfl]
  by_cases h : isC D i = true
  · rw [if_pos h, if_pos h]
    exact ⟨g, cat_G (D := D) (f := dr D) (g := g) (i := i) |>.trans (by
      have : dr (cat D i) = dr D := by
        unfold cat
        repeat' split
        all_goals rfl
      unfold GU
      rw [← this]
      rfl)⟩
  · rw [if_neg h, if_neg h]; exact ply_g
theorem actN_g : ∀ n, ∃ g', actN (ug D g) n = ug (actN D n) g'
  | 0 => ⟨g, rfl⟩
  | n + 1 => by
    obtain ⟨g', e⟩ := actN_g n
    show ∃ g'', act (actN (ug D g) n) n = ug (act (actN D n) n) g''
    rw [e]
    exact act_g
theorem pass_g : ∃ g', pass (ug D g) = ug (pass D) g' := by
  have ht : tnth (ug D g) = ug (tnth D) g := by
    unfold tnth
    simp only [show dl (ug D g) = dl D from rfl, show de (ug D g) = de D from rfl]
    by_cases h : dl D = 3 ∧ de D % 10 = 0
    · rw [if_pos h, if_pos h]; rfl
    · rw [if_neg h, if_neg h]
  unfold pass
  rw [ht]
  obtain ⟨g', e⟩ := actN_g (D := tnth D) (g := g) (dn D)
  simp only [show dn (ug D g) = dn D from rfl, show de (ug D g) = de D from rfl]
  rw [e]
  exact ⟨g', rfl⟩
theorem passN_g : ∀ n, ∃ g', passN (ug D g) n = ug (passN D n) g'
  | 0 => ⟨g, rfl⟩
  | n + 1 => by
    obtain ⟨g', e⟩ := passN_g n
    show ∃ g'', pass (passN (ug D g) n) = ug (pass (passN D n)) g''
    rw [e]
    exact pass_g
end GG
theorem passN_add (D : Yd) (a : Nat) : ∀ b, passN (passN D a) b = passN D (a + b)
  | 0 => rfl
  | b + 1 => by
    show pass (passN (passN D a) b) = pass (passN D (a + b))
    rw [passN_add D a b]
/-! ===== the numbers that are asked for ===== -/
abbrev ix (c : Int32) : Nat := c.toNatClampNeg
def cellI (c : Int32) : Bool := decide (nI 0 ≤ c ∧ c < nI 24)
def sto (D : Yd) (n : Nat) : Nat := sumN (fun k => cnt (ds (passN D (k + 1))) 8) n
def ots (D : Yd) (i : Nat) (n : Nat) : Nat := sumN (fun k => cnt (fun j => ds (passN D (k + 1)) j && !(j == i)) 8) n
def tov (D : Yd) : Option Nat := fst1 (fun k => ovr (passN D k)) 61
def alw (D : Yd) : Nat → Nat → Bool
  | 0 => fun _ => true
  | k + 1 => fun j => alw D k j && ds (passN D (k + 1)) j
def alwI (D : Yd) (k : Nat) : Int32 := if k = 0 then -1 else nI (bts (alw D k) 8)
def oLt : Option Nat → Nat → Bool
  | none, _ => true
  | some m, v => decide (m < v)
/-- the first of the greatest, and it -/
def bm (f : Nat → Nat) : Nat → Nat × Option Nat
  | 0 => (0, none)
  | k + 1 => if oLt (bm f k).2 (f k) = true then (k, some (f k)) else bm f k
def addN (D : Yd) : Nat → Yd
  | 0 => D
  | k + 1 => addY (addN D k) 4 0 0
def eno (D : Yd) : Option Nat := fst1 (fun k => decide (dn D + k ≤ 8) && (tov (addN D k)).isSome) 4
def exch (D : Yd) (i j : Nat) : Yd := us (uk D (va_up (va_up (dk D) i (dk D j)) j (dk D i))) (va_up (ds D) j false)
def chf (D : Yd) (i j s : Nat) : Nat := cnt (ds (passN (exch (passN D s) i j) (30 - s))) 8
def dbt (D : Yd) (i : Nat) : Nat → Int32
  | 0 => nI 0
  | k + 1 => dbt D i k + (nI (dr D (8 * i + k)) - nI (dr D (8 * k + i)))
def wat (D : Yd) (i : Nat) : Nat → Bool
  | 0 => true
  | k + 1 => wat D i k && decide (cap (passN D (k + 1)) (dc (passN D (k + 1)) i) ≤ 1)
def unt (st : St) (D : Yd) : Option Nat := fst1 (fun k => !(cnt (ds (passN D (k + 1))) 8 == sR st k)) (sM st)
def scD (D : Yd) (z : Int32) : Yd := us (ut (uc D (sct D z (dn D)).2) (fun _ => 0)) (fun _ => false)
def lsd (D : Yd) (z : Int32) : Nat → Int32
  | 0 => z
  | k + 1 => (sct D (lsd D z k) (dn D)).1
def lts (D : Yd) (z : Int32) (n : Nat) : Nat := sumN (fun k => cnt (ds (passN (scD D (lsd D z k)) 30)) 8) n
/-! ===== the calls ===== -/
/-- a refusal -/
def RF (st : St) (o : Int32) : Int32 × St := (o, rfs st (ix (-o)))
def RC (o : Int32) : Prop := o = -1 ∨ o = -2 ∨ o = -3 ∨ o = -4 ∨ o = -6
def GO (st : St) (why : Int32) (p : Int32 × St) : Int32 × St := if why = nI 0 then p else RF st why
theorem GO_ok {st : St} {why : Int32} {p : Int32 × St} (h : why = nI 0) : GO st why p = p := if_pos h
theorem GO_no {st : St} {why : Int32} {p : Int32 × St} (h : ¬ why = nI 0) : GO st why p = RF st why := if_neg h
def wh2 (wy x : Int32) : Int32 := if wy = nI 0 ∧ ¬ x = nI 0 ∧ ¬ x = nI 1 then -2 else wy
def P_yard (st : St) : Int32 × St := match prs (sT st) (sL st) (sL st + 1) 0 with
  | some q => (-1000 - nI q, vL st (sT st) 0)
  | none => match telN (sT st) (sL st) (sL st + 1) (sN st) 0 0 with
    | .inl p => (-2000 - nI p, vL st (sT st) 0)
    | .inr (E, m) => (nI m, vL (vN st E) (sT st) 0)
def P_child (st : St) (c x : Int32) : Int32 × St := if hasI (sN st) c = true then (if x = nI 0 then (nI (dk (sN st) (ix c)), st) else if x = nI 1 then (nI (dc (sN st) (ix c)), st) else if x = nI 2 then (nI (df (sN st) (ix c)), st) else if x = nI 3 then (bI (ds (sN st) (ix c)), st) else if x = nI 4 then (nI (dt (sN st) (ix c)), st) else RF st (-2)) else RF st (-1)
def P_go (st : St) (c x : Int32) : Int32 × St := if hasI (sN st) c = true ∧ cellI x = true then (nI (dc (sN st) (ix c)), vN st (uc (sN st) (va_up (dc (sN st)) (ix c) (ix x)))) else RF st (-1)
def P_touch (st : St) (c : Int32) : Int32 × St := if hasI (sN st) c = true then (if isC (sN st) (ix c) = true then RF st (-3) else (bI (!ds (sN st) (ix c)), vN st (us (sN st) (va_up (ds (sN st)) (ix c) (!ds (sN st) (ix c)))))) else RF st (-1)
def P_law (st : St) (v : Int32) : Int32 × St := if nI 0 ≤ v ∧ v < nI 4 then (nI (dl (sN st)), vN st (ul (sN st) (ix v))) else RF st (-2)
def P_far (st : St) (a b : Int32) : Int32 × St := if cellI a = true ∧ cellI b = true then (nI (far (ix a) (ix b)), st) else RF st (-1)
def wSec (st : St) (n : Int32) : Int32 := if outs n (nI 1) (nI 60) = nI 0 ∧ nI 999 < nI (de (sN st)) + n then -6 else outs n (nI 1) (nI 60)
def P_seconds (st : St) (n : Int32) : Int32 × St := GO st (wSec st n) (nI (de (sN st) + ix n), vN st (ug (passN (sN st) (ix n)) 0))
def P_stand (st : St) (n : Int32) : Int32 × St := GO st (outs n (nI 0) (nI 60)) (nI (bts (ds (passN (sN st) (ix n))) 8), st)
def wWhere (st : St) (c n : Int32) : Int32 := if hasI (sN st) c = true then outs n (nI 0) (nI 60) else -1
def P_where (st : St) (c n : Int32) : Int32 × St := GO st (wWhere st c n) (nI (dc (passN (sN st) (ix n)) (ix c)), st)
def P_over (st : St) : Int32 × St := if hasP (sN st) = true then (oM9 (tov (sN st)), st) else RF st (-3)
def nJ (n : Nat) : Int64 := (nI n).toInt64
def mnS (st : St) (n : Int32) : Nat := cnt (ds (sN st)) 8 + sto (sN st) (ix n)
def P_mean (st : St) (n x : Int32) : Int64 × St := if wh2 (outs n (nI 0) (nI 60)) x = nI 0 then (if x = nI 0 then nJ (mnS st n / Nat.gcd (mnS st n) (ix n + 1)) else nJ ((ix n + 1) / Nat.gcd (mnS st n) (ix n + 1)), st) else (lN 4000000000000000000 - (wh2 (outs n (nI 0) (nI 60)) x).toInt64, (RF st (wh2 (outs n (nI 0) (nI 60)) x)).2)
def P_frees (st : St) (n : Int32) : Int32 × St := GO st (outs n (nI 0) (nI 60)) (nI (dg (passN (sN st) (ix n))), st)
def P_never (st : St) (n : Int32) : Int32 × St := GO st (outs n (nI 0) (nI 60)) (if n = nI 0 then nI (bts (ds (sN st)) 8) else nI (bts (alw (sN st) (ix n)) 8), st)
def P_mayFree (st : St) (c : Int32) : Int32 × St := if hasI (sN st) c = true then (oM9 (if ds (sN st) (ix c) = true then none else nearMay (sN st) (ix c)), st) else RF st (-1)
def wWorth (st : St) (c : Int32) : Int32 := if hasI (sN st) c = true then (if isC (sN st) (ix c) = true then -3 else nI 0) else -1
/-- a refusal told up high -/
def GH (st : St) (why : Int32) (p : Int32 × St) : Int32 × St := if why = nI 0 then p else (nI 1000000000 - why, (RF st why).2)
def P_worth (st : St) (c : Int32) : Int32 × St := GH st (wWorth st c) (nI (ots (ua (sN st) (ix c)) (ix c) 20) - nI (ots (sN st) (ix c) 20), st)
def hnf (D : Yd) (i n k : Nat) : Nat := sto (uk D (va_up (dk D) i (4 + k))) n
def wHunt (st : St) (c n : Int32) : Int32 := if hasI (sN st) c = true then (if isC (sN st) (ix c) = true then outs n (nI 1) (nI 60) else -3) else -1
def P_hunt (st : St) (c n x : Int32) : Int32 × St := GO st (wh2 (wHunt st c n) x) (if x = nI 0 then nI (bm (hnf (sN st) (ix c) (ix n)) 4).1 else oM1 (bm (hnf (sN st) (ix c) (ix n)) 4).2, st)
def P_enough (st : St) : Int32 × St := if hasP (sN st) = true then (oM9 (eno (sN st)), st) else RF st (-3)
def wChg (st : St) (a b : Int32) : Int32 := if hasI (sN st) a = true ∧ hasI (sN st) b = true then (if isC (sN st) (ix a) = true ∧ isC (sN st) (ix b) = false then nI 0 else -3) else -1
def P_change (st : St) (a b x : Int32) : Int32 × St := GO st (wh2 (wChg st a b) x) (if x = nI 0 then nI (bm (chf (sN st) (ix a) (ix b)) 21).1 else oM1 (bm (chf (sN st) (ix a) (ix b)) 21).2, st)
def lgf (D : Yd) (k : Nat) : Nat := (tov (ul D k)).getD 61
def P_longest (st : St) : Int32 × St := if hasP (sN st) = true then (nI (bm (lgf (sN st)) 4).1, st) else RF st (-3)
def P_owes (st : St) (c x : Int32) : Int32 × St := if hasI (sN st) c = true ∧ hasI (sN st) x = true then (nI (dr (sN st) (8 * ix x + ix c)), st) else RF st (-1)
def P_debt (st : St) (c : Int32) : Int32 × St := GH st (if hasI (sN st) c = true then nI 0 else -1) (dbt (sN st) (ix c) 8, st)
def wWhy (st : St) (c n : Int32) : Int32 := if hasI (sN st) c = true then (if ds (sN st) (ix c) = true then outs n (nI 1) (nI 60) else -3) else -1
def P_why (st : St) (c n : Int32) : Int32 × St := GO st (wWhy st c n) (if alw (sN st) (ix n) (ix c) = true then (if hfr (sN st) (ix c) = true then (if wat (sN st) (ix c) (ix n) = true then nI 2 else nI 3) else nI 1) else nI 0, st)
def wRow (st : St) (v : Int32) : Int32 := if outs v (nI 0) (nI 8) = nI 0 ∧ sM st = 20 then -6 else outs v (nI 0) (nI 8)
def P_row (st : St) (v : Int32) : Int32 × St := GO st (wRow st v) (nI (sM st + 1), vR st (va_up (sR st) (sM st) (ix v)) (sM st + 1))
def ftf (st : St) (i c : Nat) : Bool := (unt st (uc (sN st) (va_up (dc (sN st)) i c))).isNone
def P_fits (st : St) (c : Int32) : Int32 × St := if hasI (sN st) c = true then (nI (bts (ftf st (ix c)) 24), st) else RF st (-1)
def P_judge (st : St) : Int32 × St := (oM9 (unt st (sN st)), vR st (sR st) 0)
def P_lots (st : St) (n z : Int32) : Int32 × St := GO st (outs n (nI 1) (nI 20)) (nI (lts (sN st) z (ix n)), st)
def P_image (st : St) : Int32 × St := (nI (de (sN st)), vK st (sN st))
def P_on (st : St) : Int32 × St := if sB st = true then (nI (de (sK st)), vN st (sK st)) else RF st (-3)
def P_count (st : St) (x : Int32) : Int32 × St := (if nI 10 < x ∧ x ≤ nI 16 then nI (sF st (ix x - 10)) else if x = nI 0 then nI (dn (sN st)) else if x = nI 1 then nI (dn (sN st) - plN (sN st)) else if x = nI 2 then nI (cnt (ds (sN st)) 8) else if x = nI 3 then nI (de (sN st)) else if x = nI 4 then nI (dl (sN st)) else if x = nI 5 then nI (sumN (dt (sN st)) (dn (sN st))) else if x = nI 6 then nI (sumN (dr (sN st)) 64) else if x = nI 7 then nI (sM st) else if x = nI 8 then nI (sL st) else -9, st)
/-! ===== what both sides want of numbers ===== -/
theorem outs_rc (n a b : Int32) : outs n a b = nI 0 ∨ RC (outs n a b) := by
  unfold outs
  split
  · exact Or.inr (Or.inr (Or.inr (Or.inr (Or.inl rfl))))
  · split
    · exact Or.inr (Or.inr (Or.inr (Or.inr (Or.inr rfl))))
    · exact Or.inl rfl
theorem outs_rcn {n a b : Int32} (h : ¬ outs n a b = nI 0) : RC (outs n a b) := (outs_rc n a b).resolve_left h
theorem outs_ok {n : Int32} {a b : Nat} (hb : b < 1000) (ha : a ≤ b) (h : outs n (nI a) (nI b) = nI 0) : ∃ k, a ≤ k ∧ k ≤ b ∧ n = nI k := by
  unfold outs at h
  split at h
  · exact absurd h (by decide)
  · rename_i h1
    split at h
    · exact absurd h (by decide)
    · rename_i h2
      rcases pk_ix n (n := b + 1) (by omega) with g | g | ⟨j, g1, g2⟩
      · exfalso
        have h3 : nI a ≤ n := Int32.not_lt.mp h1
        have h4 : nI 0 ≤ nI a := nI_le (Nat.zero_le _) (by omega)
        exact absurd (Int32.lt_of_lt_of_le g (Int32.le_trans h4 h3)) (Int32.lt_irrefl)
      · exfalso
        exact h2 (Int32.lt_of_lt_of_le (nI_lt (Nat.lt_succ_self b) (by omega)) g)
      · subst g2
        rw [nI_ltI (by omega) (by omega)] at h1
        exact ⟨j, by omega, by omega, rfl⟩
theorem mswo_out {x : Int32} {d : Int} {n : Nat} {offs : Array Int} (hn : n < 1000) (h : ∀ j, j ≤ n → ¬ x = nI j) : mswo (.tableswitch d 0 (n : Int) offs) x = d := by
  refine if_pos ?_
  rcases pk_ix x (n := n + 1) (by omega) with g | g | ⟨j, g1, g2⟩
  · left
    exact Int32.lt_iff_toInt_lt.mp g
  · right
    have := Int32.le_iff_toInt_le.mp g
    rw [nI_toInt (by omega)] at this
    omega
  · exact absurd g2 (h j (by omega))
theorem rc_k {o : Int32} (h : RC o) : (0 < ix (-o) ∧ ix (-o) < 7) ∧ -o = nI (ix (-o)) ∧ ¬ o = nI 0 := by
  rcases h with rfl | rfl | rfl | rfl | rfl <;> decide
theorem oM1_lt {o : Option Nat} {v : Nat} (ho : ∀ m, o = some m → m < 2 ^ 31) (hv : v < 2 ^ 31) : (oM1 o < nI v) = (oLt o v = true) := by
  cases o with
  | none =>
    apply propext
    refine ⟨fun _ => rfl, fun _ => ?_⟩
    show (-1 : Int32) < nI v
    exact Int32.lt_of_lt_of_le (by decide) (nI_pos' hv)
  | some m =>
    show (nI m < nI v) = (decide (m < v) = true)
    rw [decide_eq_true_eq]
    exact propext (nI_ltI (ho m rfl) hv)
theorem bm_lt {f : Nat → Nat} {B : Nat} (hf : ∀ k, f k < B) : ∀ k m, (bm f k).2 = some m → m < B
  | 0, m, h => by cases h
  | k + 1, m, h => by
    unfold bm at h
    split at h
    · cases h; exact hf k
    · exact bm_lt hf k m h
theorem bm_fst (f : Nat → Nat) : ∀ k, (bm f k).1 ≤ k
  | 0 => Nat.le_refl _
  | k + 1 => by
    have := bm_fst f k
    unfold bm
    split
    · exact Nat.le_succ k
    · omega
theorem bm_congr {f f' : Nat → Nat} : ∀ {n : Nat}, (∀ k, k < n → f k = f' k) → bm f n = bm f' n
  | 0, _ => rfl
  | n + 1, h => by
    unfold bm
    rw [bm_congr (fun k hk => h k (by omega)), h n (by omega)]
theorem sumN_le {f : Nat → Nat} {B : Nat} (h : ∀ k, f k ≤ B) : ∀ n, sumN f n ≤ n * B
  | 0 => Nat.zero_le _
  | n + 1 => by
    have h1 := sumN_le h n
    have h2 := h n
    show sumN f n + f n ≤ (n + 1) * B
    rw [Nat.add_mul]; omega
theorem sto_le (D : Yd) (n : Nat) : sto D n ≤ n * 8 := sumN_le (fun k => cnt_le _ 8) n
theorem cnt_wo {q : Nat → Bool} {i : Nat} (hi : i < 8) : cnt q 8 = cnt (fun j => q j && !(j == i)) 8 + (if q i = true then 1 else 0) := by
  by_cases h : q i = true
  · rw [if_pos h]
    exact cnt_at (i := i) (by simp) h (fun j hj => by simp [hj]) hi
  · rw [if_neg h, Nat.add_zero]
    refine cnt_congr (fun j _ => ?_)
    by_cases e : j = i
    · subst e; simp [h]
    · simp [e]
theorem gcd_s {a b e : Nat} (hb : 0 < b) (h1 : e ∣ a) (h2 : e ∣ b) (h : ∀ x, e < x → x ≤ b → ¬ (x ∣ a ∧ x ∣ b)) : Nat.gcd a b = e := by
  have g1 := Nat.dvd_gcd h1 h2
  have g2 : 0 < Nat.gcd a b := Nat.gcd_pos_of_pos_right a hb
  have g3 := Nat.le_of_dvd g2 g1
  have g4 := Nat.le_of_dvd hb (Nat.gcd_dvd_right a b)
  rcases Nat.lt_or_ge e (Nat.gcd a b) with g | g
  · exact absurd ⟨Nat.gcd_dvd_left a b, Nat.gcd_dvd_right a b⟩ (h _ g g4)
  · omega
theorem bts_s (q : Nat → Bool) (k : Nat) (hk : k < 31) : nI (bts q k) ||| mshl (nI 1) (nI k) = nI (bts q k + 2 ^ k) := by
  have e : ∀ k, k < 31 → mshl (nI 1) (nI k) = nI (2 ^ k) := by decide +kernel
  rw [e k hk, nI_or]
  congr 1
  have h := bts_lt q k
  rw [Nat.or_comm, Nat.add_comm, ← Nat.one_mul (2 ^ k), Nat.mul_comm, Nat.two_pow_add_eq_or_of_lt h 1]
/-! ===== what stays so ===== -/
theorem ixC {i : Nat} (h : i < 1000) : ix (nI i) = i := ixN h
theorem cellI_ok {c : Int32} (h : cellI c = true) : ∃ k, k < 24 ∧ c = nI k := by
  unfold cellI at h
  simp only [decide_eq_true_eq] at h
  obtain ⟨h1, h2⟩ := h
  rcases pk_ix c (n := 24) (by decide) with g | g | ⟨j, g1, g2⟩
  · exact absurd g (by intro z; exact (Int32.not_lt.mpr h1) z)
  · exact absurd h2 (Int32.not_lt.mpr g)
  · exact ⟨j, g1, g2⟩
theorem cellI_n {k : Nat} (h : k < 24) : cellI (nI k) = true := by
  unfold cellI
  rw [decide_eq_true_eq]
  exact ⟨nI_le (Nat.zero_le _) (by omega), nI_lt h (by decide)⟩
theorem YI.uk {D : Yd} (h : YI D) {i k : Nat} (hi : isC D i = true) (hk : k < 4) : YI (uk D (va_up (dk D) i (4 + k))) := by
  refine ⟨h.1, fun j hj => ?_, h.2.2.1, fun j hj => ?_, h.2.2.2.2⟩
  · have := h.2.1 j hj
    show va_up (dk D) i (4 + k) j < 8 ∧ _
    refine ⟨?_, this.2⟩
    unfold va_up; split
    · omega
    · exact this.1
  · have hs := h.st (j := j) hj
    show j < dn D ∧ va_up (dk D) i (4 + k) j < 4
    unfold isC at hi
    simp only [decide_eq_true_eq] at hi
    unfold va_up
    rw [if_neg (by intro e; subst e; omega)]
    exact hs
theorem YI.ul {D : Yd} (h : YI D) {v : Nat} (hv : v < 4) : YI (ul D v) := ⟨h.1, h.2.1, h.2.2.1, h.2.2.2.1, h.2.2.2.2.1, h.2.2.2.2.2.1, h.2.2.2.2.2.2.1, hv, h.2.2.2.2.2.2.2.2⟩
theorem YI.exch {D : Yd} (h : YI D) {i j : Nat} (hi : i < dn D) (hj : j < dn D) (hci : isC D i = true) (hcj : isC D j = false) : YI (exch D i j) := by
  have hne : i ≠ j := by intro e; subst e; rw [hci] at hcj; cases hcj
  refine ⟨h.1, fun o ho => ?_, h.2.2.1, fun o ho => ?_, h.2.2.2.2⟩
  · have ho : o < dn D := ho
    have := h.2.1 o ho
    show va_up (va_up (dk D) i (dk D j)) j (dk D i) o < 8 ∧ _
    refine ⟨?_, this.2⟩
    unfold va_up
    split
    · exact h.kd hi
    · split
      · exact h.kd hj
      · exact this.1
  · have ho : va_up (ds D) j false o = true := ho
    show o < dn D ∧ va_up (va_up (dk D) i (dk D j)) j (dk D i) o < 4
    unfold va_up at ho ⊢
    split at ho
    · cases ho
    · rename_i e
      have hs := h.st ho
      unfold isC at hci
      simp only [decide_eq_true_eq] at hci
      rw [if_neg e, if_neg (by intro z; subst z; omega)]
      exact hs
theorem addN_dn (D : Yd) : ∀ k, dn (addN D k) = dn D + k
  | 0 => rfl
  | k + 1 => by
    show dn (addN D k) + 1 = _
    rw [addN_dn D k]; omega
theorem addN_YI {D : Yd} (h : YI D) : ∀ k, dn D + k ≤ 8 → YI (addN D k)
  | 0, _ => h
  | k + 1, hk => addY_YI (addN_YI h k (by omega)) (by
      unfold addB
      rw [addN_dn]
      simp; omega)
theorem addN_de (D : Yd) : ∀ k, de (addN D k) = de D
  | 0 => rfl
  | k + 1 => addN_de D k
theorem sct_lt {D : Yd} (h : YI D) (z : Int32) : ∀ n j, j < dn D → (sct D z n).2 j < 24
  | 0, j, hj => h.cl hj
  | n + 1, j, hj => by
    show va_up (sct D z n).2 n (lcl (lz (sct D z n).1)) j < 24
    unfold va_up
    split
    · exact Nat.mod_lt _ (by decide)
    · exact sct_lt h z n j hj
theorem scD_YI {D : Yd} (h : YI D) (z : Int32) : YI (scD D z) := by
  refine ⟨h.1, fun j hj => ⟨h.kd hj, sct_lt h z _ j hj, h.fr hj⟩, fun j => Nat.zero_le _, (fun j hj => by cases hj), fun j _ => rfl, h.2.2.2.2.2⟩
theorem telN_keep {t : Nat → Nat} {n : Nat} : ∀ {F p m : Nat} {D E : Yd} {k : Nat}, YI D → telN t n F D p m = .inr (E, k) → YI E ∧ da E = da D ∧ dg E = dg D ∧ de E = de D
  | 0, p, m, D, E, k, hI, h => by
    cases h
    exact ⟨hI, rfl, rfl, rfl⟩
  | F + 1, p, m, D, E, k, hI, h => by
    unfold telN at h
    split at h
    · split at h
      · cases h
      · rename_i E1 h1
        obtain ⟨a1, a2, a3, a4⟩ := telS_YI hI h1
        obtain ⟨b1, b2, b3, b4⟩ := telN_keep a1 h
        exact ⟨b1, b2.trans a2, b3.trans a3, b4.trans a4⟩
    · cases h
      exact ⟨hI, rfl, rfl, rfl⟩
theorem YC.pass {D : Yd} (h : YC D) {n : Nat} (hn : n ≤ 1000) : YI (passN D n) := passN_YI h.1 n (by have := h.2.1; omega)
