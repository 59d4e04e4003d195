/-! ===== one instruction that neither branches nor calls; what a program checks of a stretch of code ===== -/
def mrem (x y : Int32) : Int32 := x - x / y * y
def mremL (x y : Int64) : Int64 := x - x / y * y
def mshl (x y : Int32) : Int32 := x <<< (y &&& 31)
def mshr (x y : Int32) : Int32 := x >>> (y &&& 31)
def mushr (x y : Int32) : Int32 := (x.toUInt32 >>> (y.toUInt32 &&& Int32.toUInt32 31)).toInt32
def mchr (x : Int32) : Int32 := (x.toUInt32 % 65536).toInt32
def mbyt (x : Int32) : Int32 := x.toInt8.toInt32
/-- an instruction, and what it carries: a constant; a class and the place of a field -/
abbrev mB : Type := Instr × mV
def ilen : Instr → Nat
  | .bipush _ => 2
  | .sipush _ => 3
  | .ldc _ => 2
  | .ldc_w _ => 3
  | .ldc2_w _ => 3
  | .iload _ => 2
  | .aload _ => 2
  | .lload _ => 2
  | .istore _ => 2
  | .astore _ => 2
  | .lstore _ => 2
  | .iinc _ _ => 3
  | .getfield _ => 3
  | .putfield _ => 3
  | .getstatic _ => 3
  | _ => 1
/-- a value of one word into a local; not where it would cut a long -/
def mset1 : List (Option mV) → Nat → mV → Option (List (Option mV))
  | [], _, _ => none
  | _ :: l, 0, v => some (some v :: l)
  | a :: l, i + 1, v => match a, i with
    | some (.inr (.inl _)), 0 => none
    | a, i => match mset1 l i v with
      | some l' => some (a :: l')
      | none => none
def mset2 : List (Option mV) → Nat → mV → Option (List (Option mV))
  | [], _, _ => none
  | [_], _, _ => none
  | _ :: _ :: l, 0, v => some (some v :: none :: l)
  | a :: b :: l, i + 1, v => match a, i with
    | some (.inr (.inl _)), 0 => none
    | a, i => match mset2 (b :: l) i v with
      | some l' => some (a :: l')
      | none => none
abbrev mO : Type := Option (Option Prop × List (Option mV) × List mV × mW)
def mldI (L : List (Option mV)) (i : Nat) (S : List mV) (w : mW) : mO := match L[i]? with
  | some (some (.inl x)) => some (none, L, mI x :: S, w)
  | _ => none
def mldA (L : List (Option mV)) (i : Nat) (S : List mV) (w : mW) : mO := match L[i]? with
  | some (some (.inr (.inr (t, j)))) => if t = 32 then none else some (none, L, mR t j :: S, w)
  | _ => none
def mldJ (L : List (Option mV)) (i : Nat) (S : List mV) (w : mW) : mO := match L[i]? with
  | some (some (.inr (.inl x))) => some (none, L, mJ x :: S, w)
  | _ => none
def mstI (L : List (Option mV)) (i : Nat) (S : List mV) (w : mW) : mO := match S with
  | .inl x :: S => match mset1 L i (mI x) with
    | some L1 => some (none, L1, S, w)
    | none => none
  | _ => none
def mstA (L : List (Option mV)) (i : Nat) (S : List mV) (w : mW) : mO := match S with
  | .inr (.inr (t, j)) :: S => if t = 32 then none else match mset1 L i (mR t j) with
    | some L1 => some (none, L1, S, w)
    | none => none
  | _ => none
def mstJ (L : List (Option mV)) (i : Nat) (S : List mV) (w : mW) : mO := match S with
  | .inr (.inl x) :: S => match mset2 L i (mJ x) with
    | some L1 => some (none, L1, S, w)
    | none => none
  | _ => none
def mgetf (ci k : Nat) (t i : Nat) (L : List (Option mV)) (S : List mV) (w : mW) : mO := match oC t with
  | some (cj, n) => if cj = ci then (if k < n then (match oR t i k with
      | some (t', i') => some (none, L, mR t' i' :: S, w)
      | none => some (none, L, mI (mgf w t i k) :: S, w)) else none) else none
  | none => if t = 30 then (if ci = 9 then (if k = 0 then some (none, L, mR 31 i :: S, w) else some (none, L, mI 0 :: S, w)) else none) else none
def mputf (ci k : Nat) (v : Int32) (t i : Nat) (L : List (Option mV)) (S : List mV) (w : mW) : mO := match oC t with
  | some (cj, n) => if cj = ci then (if k < n then (match oR t i k with
      | some _ => none
      | none => match oY ci k with
        | .int => some (none, L, S, mpf w t i k v)
        | .boolean => some (some (v = 0 ∨ v = 1), L, S, mpf w t i k v)
        | _ => none) else none) else none
  | none => none
def mstep (i : Instr) (pay : mV) (L : List (Option mV)) (S : List mV) (w : mW) : mO := match i with
  | .iconst _ => some (none, L, pay :: S, w)
  | .bipush _ => some (none, L, pay :: S, w)
  | .sipush _ => some (none, L, pay :: S, w)
  | .ldc _ => some (none, L, pay :: S, w)
  | .ldc_w _ => some (none, L, pay :: S, w)
  | .ldc2_w _ => some (none, L, pay :: S, w)
  | .lconst _ => some (none, L, pay :: S, w)
  | .getstatic _ => some (none, L, pay :: S, w)
  | .iload_n k => mldI L k.val S w
  | .iload k => mldI L k S w
  | .aload_n k => mldA L k.val S w
  | .aload k => mldA L k S w
  | .lload_n k => mldJ L k.val S w
  | .lload k => mldJ L k S w
  | .istore_n k => mstI L k.val S w
  | .istore k => mstI L k S w
  | .astore_n k => mstA L k.val S w
  | .astore k => mstA L k S w
  | .lstore_n k => mstJ L k.val S w
  | .lstore k => mstJ L k S w
  | .iinc k _ => match pay, L[k]? with
    | .inl n, some (some (.inl x)) => (match mset1 L k (mI (x + n)) with
      | some L1 => some (none, L1, S, w)
      | none => none)
    | _, _ => none
  | .iadd => match S with
    | .inl y :: .inl x :: S => some (none, L, mI (x + y) :: S, w)
    | _ => none
  | .isub => match S with
    | .inl y :: .inl x :: S => some (none, L, mI (x - y) :: S, w)
    | _ => none
  | .imul => match S with
    | .inl y :: .inl x :: S => some (none, L, mI (x * y) :: S, w)
    | _ => none
  | .idiv => match S with
    | .inl y :: .inl x :: S => some (some (¬ y = 0), L, mI (x / y) :: S, w)
    | _ => none
  | .irem => match S with
    | .inl y :: .inl x :: S => some (some (¬ y = 0), L, mI (mrem x y) :: S, w)
    | _ => none
  | .iand => match S with
    | .inl y :: .inl x :: S => some (none, L, mI (x &&& y) :: S, w)
    | _ => none
  | .ior => match S with
    | .inl y :: .inl x :: S => some (none, L, mI (x ||| y) :: S, w)
    | _ => none
  | .ixor => match S with
    | .inl y :: .inl x :: S => some (none, L, mI (x ^^^ y) :: S, w)
    | _ => none
  | .ishl => match S with
    | .inl y :: .inl x :: S => some (none, L, mI (mshl x y) :: S, w)
    | _ => none
  | .ishr => match S with
    | .inl y :: .inl x :: S => some (none, L, mI (mshr x y) :: S, w)
    | _ => none
  | .iushr => match S with
    | .inl y :: .inl x :: S => some (none, L, mI (mushr x y) :: S, w)
    | _ => none
  | .ineg => match S with
    | .inl x :: S => some (none, L, mI (-x) :: S, w)
    | _ => none
  | .i2l => match S with
    | .inl x :: S => some (none, L, mJ x.toInt64 :: S, w)
    | _ => none
  | .i2b => match S with
    | .inl x :: S => some (none, L, mI (mbyt x) :: S, w)
    | _ => none
  | .i2c => match S with
    | .inl x :: S => some (none, L, mI (mchr x) :: S, w)
    | _ => none
  | .lsub => match S with
    | .inr (.inl y) :: .inr (.inl x) :: S => some (none, L, mJ (x - y) :: S, w)
    | _ => none
  | .ldiv => match S with
    | .inr (.inl y) :: .inr (.inl x) :: S => some (some (¬ y = 0), L, mJ (x / y) :: S, w)
    | _ => none
  | .lrem => match S with
    | .inr (.inl y) :: .inr (.inl x) :: S => some (some (¬ y = 0), L, mJ (mremL x y) :: S, w)
    | _ => none
  | .lcmp => match S with
    | .inr (.inl y) :: .inr (.inl x) :: S => some (none, L, mI (lg_cmp x y) :: S, w)
    | _ => none
  | .dup => match S with
    | .inl x :: S => some (none, L, mI x :: mI x :: S, w)
    | .inr (.inr (t, i)) :: S => if t = 32 then none else some (none, L, mR t i :: mR t i :: S, w)
    | _ => none
  | .pop => match S with
    | .inl _ :: S => some (none, L, S, w)
    | _ => none
  | .dup2 => match S with
    | .inl x :: .inr (.inr (t, i)) :: S => if t = 32 then none else some (none, L, mI x :: mR t i :: mI x :: mR t i :: S, w)
    | _ => none
  | .getfield _ => match pay, S with
    | .inr (.inr (ci, k)), .inr (.inr (t, i)) :: S => mgetf ci k t i L S w
    | _, _ => none
  | .putfield _ => match pay, S with
    | .inr (.inr (ci, k)), .inl v :: .inr (.inr (t, i)) :: S => mputf ci k v t i L S w
    | _, _ => none
  | .iaload => match S with
    | .inl j :: .inr (.inr (t, i)) :: S => if 30 ≤ t then none else (match oC t with
      | none => some (some (vp_in j (oA t)), L, mI (mga w t i j.toNatClampNeg) :: S, w)
      | some _ => none)
    | _ => none
  | .iastore => match S with
    | .inl v :: .inl j :: .inr (.inr (t, i)) :: S => if 30 ≤ t then none else (match oC t with
      | none => some (some (vp_in j (oA t)), L, S, mpA w t i (upd (mga w t i) j.toNatClampNeg v))
      | some _ => none)
    | _ => none
  | .baload => match S with
    | .inl j :: .inr (.inr (t, i)) :: S => if t = 31 then some (some (vp_in j (sLen.getD i 0)), L, mI ((sByt.getD i []).getD j.toNatClampNeg 0) :: S, w) else none
    | _ => none
  | .arraylength => match S with
    | .inr (.inr (t, i)) :: S => if t = 31 then some (none, L, mI (nI (sLen.getD i 0)) :: S, w) else if 30 ≤ t then none else (match oC t with
      | none => some (none, L, mI (nI (oA t)) :: S, w)
      | some _ => none)
    | _ => none
  | _ => none
def mrun : List mB → Prop → List (Option mV) → List mV → mW → Option (Prop × List (Option mV) × List mV × mW)
  | [], P, L, S, w => some (P, L, S, w)
  | b :: is, P, L, S, w => match mstep b.1 b.2 L S w with
    | some (none, L1, S1, w1) => mrun is P L1 S1 w1
    | some (some C, L1, S1, w1) => mrun is (P ∧ C) L1 S1 w1
    | none => none
/-- a word of the tables, of those that stay -/
def inW (w : Cond) : Bool := decide (w ∈ lw_tbl) && goodWord w
theorem inW_ok {w : Cond} (h : inW w = true) : w ∈ GW := by
  unfold inW at h
  simp only [Bool.and_eq_true, decide_eq_true_eq] at h
  exact List.mem_filter.mpr h
def mchkP (M : mM) (i : Instr) (pay : mV) : Bool := match i, pay with
  | .iconst n, .inl v => decide (Int32.ofInt n = v)
  | .iconst _, _ => false
  | .bipush n, .inl v => decide ((Int8.ofInt n).toInt32 = v)
  | .bipush _, _ => false
  | .sipush n, .inl v => decide ((Int16.ofInt n).toInt32 = v)
  | .sipush _, _ => false
  | .lconst n, .inr (.inl v) => decide (Int64.ofNat n.val = v)
  | .lconst _, _ => false
  | .ldc k, .inl v => inW (.constant M.1.cls k v)
  | .ldc k, .inr (.inr (t, j)) => decide (t = 30) && sTab.any (fun q => decide (q.1 = M.1.cls) && (decide (q.2.1 = k) && decide (q.2.2.2 = j)))
  | .ldc _, _ => false
  | .ldc_w k, .inl v => inW (.constant M.1.cls k v)
  | .ldc_w _, _ => false
  | .ldc2_w k, .inr (.inl v) => inW (.constantLong M.1.cls k v)
  | .ldc2_w _, _ => false
  | .getstatic k, .inl v => decide (v = 1) && inW (.fieldLink M.1.cls k "java/lang/String" "COMPACT_STRINGS" "Z")
  | .getstatic k, .inr (.inr (t, j)) => decide (t = 32) && decide (j = 0) && inW (.fieldLink M.1.cls k "jdk/internal/util/Preconditions" "SIOOBE_FORMATTER" "Ljava/util/function/BiFunction;")
  | .getstatic _, _ => false
  | .iinc _ n, .inl v => decide (Int32.ofInt n = v)
  | .iinc _ _, _ => false
  | .getfield x, .inr (.inr (ci, k)) => if ci = 9 then (if k = 0 then inW (.fieldLink M.1.cls x "java/lang/String" "value" "[B") else inW (.fieldLink M.1.cls x "java/lang/String" "coder" "B")) else decide (ci < 4) && inW (.fieldLink M.1.cls x (oT ci k).1 (oT ci k).2.1 (oT ci k).2.2.1)
  | .getfield _, _ => false
  | .putfield x, .inr (.inr (ci, k)) => decide (ci < 4) && (decide ((oT ci k).2.2.2 = false) && inW (.fieldLink M.1.cls x (oT ci k).1 (oT ci k).2.1 (oT ci k).2.2.1))
  | .putfield _, _ => false
  | _, _ => true
def mchk (M : mM) : Nat → List mB → Nat → Bool
  | pc, [], pc' => decide (pc = pc')
  | pc, b :: is, pc' => decide (decode M.2.1 pc = .ok (b.1, ilen b.1)) && (mchkP M b.1 b.2 && mchk M (pc + ilen b.1) is pc')
