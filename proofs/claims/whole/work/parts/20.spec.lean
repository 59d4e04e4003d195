/-! ===== WHAT THE CLASS AND THE REFERENCE BOTH DO, in numbers ===== -/
def nd (x y : Nat) : Nat := (x - y) + (y - x)
def far (a b : Nat) : Nat := nd (a / 6) (b / 6) + nd (a % 6) (b % 6)
def edg (c : Nat) : Bool := c / 6 == 0 || c / 6 == 3 || c % 6 == 0 || c % 6 == 5
/-- the cell of a step: stay, up, down, left, right -/
def stp (c way : Nat) : Option Nat := match way with
  | 0 => some c
  | 1 => if 6 ≤ c then some (c - 6) else none
  | 2 => if c + 6 < 24 then some (c + 6) else none
  | 3 => if 0 < c % 6 then some (c - 1) else none
  | _ => if c % 6 < 5 then some (c + 1) else none
/-- a yard: kinds, cells, friends, tired, who stands, freed, how many children, law, second, freeings, who is set aside (8 and more: nobody) -/
abbrev Yd : Type := (Nat → Nat) × (Nat → Nat) × (Nat → Nat) × (Nat → Nat) × (Nat → Bool) × (Nat → Nat) × Nat × Nat × Nat × Nat × Nat
def dk (D : Yd) : Nat → Nat := D.1
def dc (D : Yd) : Nat → Nat := D.2.1
def df (D : Yd) : Nat → Nat := D.2.2.1
def dt (D : Yd) : Nat → Nat := D.2.2.2.1
def ds (D : Yd) : Nat → Bool := D.2.2.2.2.1
def dr (D : Yd) : Nat → Nat := D.2.2.2.2.2.1
def dn (D : Yd) : Nat := D.2.2.2.2.2.2.1
def dl (D : Yd) : Nat := D.2.2.2.2.2.2.2.1
def de (D : Yd) : Nat := D.2.2.2.2.2.2.2.2.1
def dg (D : Yd) : Nat := D.2.2.2.2.2.2.2.2.2.1
def da (D : Yd) : Nat := D.2.2.2.2.2.2.2.2.2.2
def uk (D : Yd) (f : Nat → Nat) : Yd := (f, dc D, df D, dt D, ds D, dr D, dn D, dl D, de D, dg D, da D)
def uc (D : Yd) (f : Nat → Nat) : Yd := (dk D, f, df D, dt D, ds D, dr D, dn D, dl D, de D, dg D, da D)
def uf (D : Yd) (f : Nat → Nat) : Yd := (dk D, dc D, f, dt D, ds D, dr D, dn D, dl D, de D, dg D, da D)
def ut (D : Yd) (f : Nat → Nat) : Yd := (dk D, dc D, df D, f, ds D, dr D, dn D, dl D, de D, dg D, da D)
def us (D : Yd) (f : Nat → Bool) : Yd := (dk D, dc D, df D, dt D, f, dr D, dn D, dl D, de D, dg D, da D)
def ur (D : Yd) (f : Nat → Nat) : Yd := (dk D, dc D, df D, dt D, ds D, f, dn D, dl D, de D, dg D, da D)
def un (D : Yd) (x : Nat) : Yd := (dk D, dc D, df D, dt D, ds D, dr D, x, dl D, de D, dg D, da D)
def ul (D : Yd) (x : Nat) : Yd := (dk D, dc D, df D, dt D, ds D, dr D, dn D, x, de D, dg D, da D)
def ue (D : Yd) (x : Nat) : Yd := (dk D, dc D, df D, dt D, ds D, dr D, dn D, dl D, x, dg D, da D)
def ug (D : Yd) (x : Nat) : Yd := (dk D, dc D, df D, dt D, ds D, dr D, dn D, dl D, de D, x, da D)
def ua (D : Yd) (x : Nat) : Yd := (dk D, dc D, df D, dt D, ds D, dr D, dn D, dl D, de D, dg D, x)
def isC (D : Yd) (i : Nat) : Bool := decide (4 ≤ dk D i)
/-- how far the nearest catcher below i is from a cell -/
def capL (D : Yd) (c : Nat) : Nat → Nat
  | 0 => 99
  | i + 1 => if isC D i then (if far c (dc D i) < capL D c i then far c (dc D i) else capL D c i) else capL D c i
def cap (D : Yd) (c : Nat) : Nat := capL D c (dn D)
/-- the first below i -/
def fst1 (q : Nat → Bool) : Nat → Option Nat
  | 0 => none
  | i + 1 => match fst1 q i with
    | some b => some b
    | none => if q i then some i else none
/-- the nearest below i, of several the first -/
def nrst (q : Nat → Bool) (d : Nat → Nat) : Nat → Option Nat
  | 0 => none
  | i + 1 => match nrst q d i with
    | some b => if q i && decide (d i < d b) then some i else some b
    | none => if q i then some i else none
def cnt (q : Nat → Bool) : Nat → Nat
  | 0 => 0
  | i + 1 => cnt q i + (if q i then 1 else 0)
def sumN (f : Nat → Nat) : Nat → Nat
  | 0 => 0
  | i + 1 => sumN f i + f i
def bts (q : Nat → Bool) : Nat → Nat
  | 0 => 0
  | i + 1 => bts q i + (if q i then 2 ^ i else 0)
def awS (D : Yd) (c b way : Nat) : Nat := match stp c way with
  | some t => if cap D b < cap D t then t else b
  | none => b
def awy (D : Yd) (c : Nat) : Nat := awS D c (awS D c (awS D c (awS D c c 1) 2) 3) 4
def twS (c aim b way : Nat) : Nat := match stp c way with
  | some t => if far t aim < far b aim then t else b
  | none => b
def twd (c aim : Nat) : Nat := twS c aim (twS c aim (twS c aim (twS c aim c 1) 2) 3) 4
/-- by his kind one may free another -/
def mayK (D : Yd) (i o : Nat) : Bool := dk D i == 1 || (dk D i == 2 && df D i == o)
def wnt (D : Yd) (i o : Nat) : Bool := ds D o && mayK D i o
def nearMay (D : Yd) (i : Nat) : Option Nat := fst1 (fun o => wnt D i o && decide (far (dc D i) (dc D o) ≤ 1)) (dn D)
def aimMay (D : Yd) (i : Nat) : Option Nat := nrst (wnt D i) (fun o => far (dc D i) (dc D o)) (dn D)
/-- whom he frees, if he frees one -/
def frS (D : Yd) (i whom o : Nat) : Bool := ds D o && (if dl D = 2 then decide (far (dc D i) (dc D o) ≤ 1) else o == whom)
/-- those of q are freed by i -/
def frd (D : Yd) (i : Nat) (q : Nat → Bool) : Yd := ug (ur (us D (fun j => ds D j && !q j)) (fun x => if x / 8 = i ∧ q (x % 8) = true then (if dr D x < 99 then dr D x + 1 else 99) else dr D x)) (dg D + cnt q (dn D))
def tir (t : Nat) (stays : Bool) : Nat := if stays then t - 1 else (if t < 9 then t + 1 else 9)
/-- where a runner goes, and what is then -/
def runs (D : Yd) (i : Nat) : Yd × Nat :=
  if dk D i = 3 then (D, if edg (dc D i) && decide (1 < cap D (dc D i)) then dc D i else awy D (dc D i))
  else match nearMay D i with
    | some o => (frd D i (frS D i o), dc D i)
    | none => match aimMay D i with
      | some a => (D, if 1 < cap D (dc D i) then twd (dc D i) (dc D a) else awy D (dc D i))
      | none => (D, awy D (dc D i))
def ply (D : Yd) (i : Nat) : Yd :=
  if ds D i = true ∨ i = da D then ut D (va_up (dt D) i (dt D i - 1))
  else if dt D i = 9 then ut D (va_up (dt D) i 0)
  else ut (uc (runs D i).1 (va_up (dc D) i (runs D i).2)) (va_up (dt D) i (tir (dt D i) ((runs D i).2 == dc D i)))
def rnr (D : Yd) (o : Nat) : Bool := !isC D o && !ds D o
def tch (D : Yd) (i o : Nat) : Bool := rnr D o && (!(o == da D) && (!(dl D == 1 && edg (dc D o)) && decide (far (dc D i) (dc D o) ≤ 1)))
def cat (D : Yd) (i : Nat) : Yd :=
  if dk D i = 7 ∧ de D % 3 = 0 then D
  else match fst1 (tch D i) (dn D) with
    | some o => us D (va_up (ds D) o true)
    | none => match nrst (ds D) (fun o => far (dc D i) (dc D o)) (dn D) with
      | some a => if dk D i = 6 then D else if dk D i = 5 then (if 1 < far (dc D i) (dc D a) then uc D (va_up (dc D) i (twd (dc D i) (dc D a))) else D) else (match nrst (rnr D) (fun o => far (dc D i) (dc D o)) (dn D) with
        | some b => uc D (va_up (dc D) i (twd (dc D i) (dc D b)))
        | none => D)
      | none => match nrst (rnr D) (fun o => far (dc D i) (dc D o)) (dn D) with
        | some b => uc D (va_up (dc D) i (twd (dc D i) (dc D b)))
        | none => D
def act (D : Yd) (i : Nat) : Yd := if isC D i then cat D i else ply D i
def actN (D : Yd) : Nat → Yd
  | 0 => D
  | i + 1 => act (actN D i) i
def tnth (D : Yd) : Yd := if dl D = 3 ∧ de D % 10 = 0 then us D (fun _ => false) else D
def pass (D : Yd) : Yd := ue (actN (tnth D) (dn D)) (de D + 1)
def passN (D : Yd) : Nat → Yd
  | 0 => D
  | i + 1 => pass (passN D i)
/-- what is so of every yard -/
def YI (D : Yd) : Prop := dn D ≤ 8 ∧ (∀ j, j < dn D → dk D j < 8 ∧ dc D j < 24 ∧ df D j < 8) ∧ (∀ j, dt D j ≤ 9) ∧ (∀ j, ds D j = true → j < dn D ∧ dk D j < 4) ∧ (∀ j, dn D ≤ j → dt D j = 0) ∧ (∀ x, dr D x ≤ 99) ∧ (∀ x, dn D ≤ x / 8 ∨ dn D ≤ x % 8 → dr D x = 0) ∧ dl D < 4 ∧ de D < 100000
