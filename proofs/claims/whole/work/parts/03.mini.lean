/-! ===== THE MINI MACHINE: values (int, long, reference by tag and instance), worlds (int fields, int arrays), layout ===== -/
abbrev mV : Type := Int32 ⊕ (Int64 ⊕ (Nat × Nat))
abbrev mI (x : Int32) : mV := Sum.inl x
abbrev mJ (x : Int64) : mV := Sum.inr (Sum.inl x)
abbrev mR (t i : Nat) : mV := Sum.inr (Sum.inr (t, i))
abbrev mW : Type := (Nat → Nat → Nat → Int32) × (Nat → Nat → Nat → Int32)
def mgf (w : mW) (t i k : Nat) : Int32 := w.1 t i k
def mga (w : mW) (t i : Nat) : Nat → Int32 := w.2 t i
def mpf (w : mW) (t i k : Nat) (v : Int32) : mW := (fun t' i' k' => if t' = t ∧ i' = i ∧ k' = k then v else w.1 t' i' k', w.2)
def mpA (w : mW) (t i : Nat) (f : Nat → Int32) : mW := (w.1, fun t' i' => if t' = t ∧ i' = i then f else w.2 t' i')
/-- tags: 0 the class, 1 a yard, 2 .. 6 its rows, 7 letters, 8 their signs, 9 numbers, 10 refused, 11 the model, 12 .. 24 its rows, 30 a String constant, 31 its bytes, 32 the formatter, 40 the script -/
def oC : Nat → Option (Nat × Nat)
  | 0 => some (2, 9)
  | 1 => some (1, 11)
  | 7 => some (0, 3)
  | 11 => some (3, 30)
  | _ => none
def oR : Nat → Nat → Nat → Option (Nat × Nat)
  | 0, _, 0 => some (1, 0)
  | 0, _, 1 => some (1, 1)
  | 0, _, 2 => some (1, 2)
  | 0, _, 3 => some (1, 3)
  | 0, _, 5 => some (7, 0)
  | 0, _, 6 => some (9, 0)
  | 0, _, 8 => some (10, 0)
  | 1, i, 0 => some (2, i)
  | 1, i, 1 => some (3, i)
  | 1, i, 2 => some (4, i)
  | 1, i, 3 => some (5, i)
  | 1, i, 4 => some (6, i)
  | 7, _, 0 => some (8, 0)
  | 11, _, 0 => some (12, 0)
  | 11, _, 1 => some (13, 0)
  | 11, _, 2 => some (14, 0)
  | 11, _, 3 => some (15, 0)
  | 11, _, 4 => some (16, 0)
  | 11, _, 5 => some (17, 0)
  | 11, _, 6 => some (18, 0)
  | 11, _, 10 => some (19, 0)
  | 11, _, 11 => some (20, 0)
  | 11, _, 12 => some (21, 0)
  | 11, _, 13 => some (22, 0)
  | 11, _, 17 => some (23, 0)
  | 11, _, 28 => some (24, 0)
  | _, _, _ => none
/-- the length of an array of ints, by its tag -/
def oA : Nat → Nat
  | 2 => 8
  | 3 => 8
  | 4 => 8
  | 5 => 8
  | 6 => 64
  | 8 => 96
  | 9 => 20
  | 10 => 7
  | 12 => 7
  | 13 => 8
  | 14 => 8
  | 15 => 8
  | 16 => 8
  | 17 => 8
  | 18 => 64
  | 19 => 96
  | 20 => 48
  | 21 => 48
  | 22 => 144
  | 23 => 220
  | 24 => 20
  | _ => 0
def oT : Nat → u_T
  | 0 => TX0
  | 1 => TX1
  | 2 => TX2
  | _ => TX3
def oY : Nat → Nat → FieldType
  | 0 => tyX0
  | 1 => tyX1
  | 2 => tyX2
  | _ => tyX3
def oN : Nat → String
  | 0 => RX0
  | 1 => RX1
  | 2 => RX2
  | _ => RX3
def mYd (i : Nat) : List (Nat × Nat) := [(1, i), (2, i), (3, i), (4, i), (5, i), (6, i)]
def mCells : List (Nat × Nat) := (0, 0) :: (mYd 0 ++ (mYd 1 ++ (mYd 2 ++ (mYd 3 ++ [(7, 0), (8, 0), (9, 0), (10, 0), (11, 0), (12, 0), (13, 0), (14, 0), (15, 0), (16, 0), (17, 0), (18, 0), (19, 0), (20, 0), (21, 0), (22, 0), (23, 0), (24, 0)]))))
def mStrs : List (Nat × Nat) := [(30, 0), (30, 1), (30, 2), (30, 3), (30, 4), (30, 5), (31, 0), (31, 1), (31, 2), (31, 3), (31, 4), (31, 5), (32, 0)]
def mRefs : List (Nat × Nat) := mCells ++ mStrs
/-- the Strings: lengths and bytes -/
def sLen : List Nat := [0, 6, 3, 3, 5, 8]
def sByt : List (List Int32) := [[], [107, 75, 68, 68, 68, 59], [116, 68, 59], [108, 68, 59], [103, 68, 68, 68, 59], [114, 102, 112, 104, 99, 103, 119, 98]]
def sTab : List (String × Nat × String × Nat) := [(RX0, 26, "", 0), (RX0, 86, "kKDDD;", 1), (RX0, 88, "tD;", 2), (RX0, 90, "lD;", 3), (RX0, 92, "gDDD;", 4), (RX0, 94, "\x72fphcgwb", 5), (RX1, 70, "\x72fphcgwb", 5)]
def GW : List Cond := lw_tbl.filter goodWord
/-- dictionary of class ids and slots; the class of int arrays; addresses; the formatter -/
abbrev mEnv : Type := va_G × ClassId × (Nat → Nat → Nat) × Value
abbrev mAd (E : mEnv) : Nat → Nat → Nat := E.2.2.1
def cv (E : mEnv) : mV → Value
  | .inl x => .int x
  | .inr (.inl x) => .long x
  | .inr (.inr r) => if r.1 = 32 then E.2.2.2 else .ref (mAd E r.1 r.2)
def mFd (E : mEnv) (w : mW) (q : Nat × Nat) (k : Nat) : Value := match oR q.1 q.2 k with
  | some r => .ref (mAd E r.1 r.2)
  | none => .int (mgf w q.1 q.2 k)
def mE (E : mEnv) (w : mW) (q : Nat × Nat) : va_E := match oC q.1 with
  | some (ci, n) => .inr (ci, (List.range n).map (mFd E w q))
  | none => .inl (E.2.1, oA q.1, .inl (mga w q.1 q.2))
def mWs (E : mEnv) (w : mW) : va_W := mCells.map (fun q => (mAd E q.1 q.2, mE E w q))
def mA (E : mEnv) : Nat → Prop := fun a => ∃ q, q ∈ mCells ∧ mAd E q.1 q.2 = a
def mHold (E : mEnv) (A : Nat → Prop) (w : mW) (H : Heap) : Prop := va_P E.1 vwCl (mWs E w) H ∧ va_D A (mWs E w)
def mOk : mV → Prop
  | .inl _ => True
  | .inr (.inl _) => True
  | .inr (.inr r) => r ∈ mRefs
def mLoc (E : mEnv) (ls : Array Slot) (nL : Nat) (L : List (Option mV)) : Prop := (ls.size = nL ∧ L.length = nL) ∧ lv_wf ls ∧ ∀ (i : Nat) (v : mV), L[i]? = some (some v) → mOk v ∧ ls[i]? = some (.val (cv E v))
/-- what is said of Strings and statics at a state -/
def mStr (E : mEnv) (A : Nat → Prop) (s : State) : Prop :=
  vk_S 6 sLen sByt (mAd E 30) (mAd E 31) A s s.heap ∧ (∀ q ∈ sTab, vk_R q.1 q.2.1 q.2.2.1 (mAd E 30 q.2.2.2) s) ∧ va_Z "java/lang/String" "COMPACT_STRINGS" "Z" (.int 1) A s s.heap ∧ va_Z "jdk/internal/util/Preconditions" "SIOOBE_FORMATTER" "Ljava/util/function/BiFunction;" E.2.2.2 A s s.heap ∧ (E.2.2.2 = .null ∨ ∃ a, E.2.2.2 = .ref a)
/-- a method: its name, bytes, locals, answer -/
abbrev mM : Type := MethodName × ByteArray × Nat × Option FieldType
def mCtx (E : mEnv) (A : Nat → Prop) (p : Program) (s : State) (m : MethodId) (args : Array Value) (c : Code) (M : mM) : Prop :=
  p.tables.exec = Jvm.exec ∧ c.code = M.2.1 ∧ c.maxLocals = M.2.2.1 ∧ s.vm.findClass M.1.cls = some m.cls ∧ (∀ w ∈ GW, w.before args s = true) ∧ va_K E.1 vwCl [(E.2.1, .int)] s ∧ mStr E A s
def mRm (d : Nat) : Room := { frames := d, cells := 0, slots := 0, locals := 38 * d }
/-- the machine stands at a frame of the method M, with a world, and comes to Z -/
def mG (E : mEnv) (A : Nat → Prop) (p : Program) (l : Launch) (e : Env) (R : Room) (s : State) (m : MethodId) (args : Array Value) (below : List Frame) (meth : Method) (c : Code) (cells slots : Nat) (Z : State → Prop) (M : mM) (pc : Nat) (L : List (Option mV)) (S : List mV) (w : mW) : Prop :=
  ∀ (H : Heap) (locs : List Loc) (ls : Array Slot), mHold E A w H → va_S A s.heap H locs → mLoc E ls M.2.2.1 L → (∀ v ∈ S, mOk v) → W p l e R s m args below meth c H locs cells slots Z (F0 m pc ls (S.map (cv E)))
def mQc (E : mEnv) (Q : Option mV → mW → Prop) : Array Value → State → Outcome → State → Prop := fun _ st oc t =>
  (∃ (r : Option mV) (u : mW), oc = .returned (r.map (cv E)) ∧ (∀ v, r = some v → mOk v) ∧ Q r u ∧ mHold E (mA E) u t.heap) ∧ va_F (mA E) st t
/-- a method's frame, from any state where it stands, comes to its end with Q -/
def Ev (l : Launch) (d : Nat) (M : mM) (pc : Nat) (L : List (Option mV)) (S : List mV) (w : mW) (Q : Option mV → mW → Prop) : Prop :=
  ∀ (E : mEnv) (p : Program) (e : Env) (s : State) (m : MethodId) (args : Array Value) (below : List Frame) (meth : Method) (c : Code), mCtx E (mA E) p s m args c M → meth.locks = false → meth.sig.returnType = M.2.2.2 →
    mG E (mA E) p l e (mRm d) s m args below meth c 0 0 (MQ below (mQc E Q) args s 0 0 (mA E)) M pc L S w
