/-! ===== the constructors ===== -/
def ctP (cc : ByteArray) (pc pl N : Nat) : Bool := (decide (pl = 2) && (decide (decode cc pc = .ok (.bipush (N : Int), 2)) && decide ((Int8.ofInt (N : Int)).toInt32 = nI N))) || (decide (pl = 3) && (decide (decode cc pc = .ok (.sipush (N : Int), 3)) && decide ((Int16.ofInt (N : Int)).toInt32 = nI N)))
def ctB (ci : Nat) (cc : ByteArray) (pc pl idx k N : Nat) : Bool :=
  decide (decode cc pc = .ok (.aload_n 0, 1)) && (ctP cc (pc + 1) pl N && (decide (decode cc (pc + 1 + pl) = .ok (.newarray .int, 2)) && (decide (decode cc (pc + 1 + pl + 2) = .ok (.putfield idx, 3)) && (decide (k < oF ci) && ((oT ci k).2.2.2 && (decide ((oT ci k).1 = oN ci) && (decide (parseFieldDescriptor (oT ci k).2.2.1 = some (.array .int)) && (inW (.fieldLink (oN ci) idx (oT ci k).1 (oT ci k).2.1 (oT ci k).2.2.1) && (decide (¬ nI N < 0) && (decide ((nI N).toNatClampNeg = N) && decide (N * componentBytes .int ≤ 536870912)))))))))))
theorem gw_arr : inW (.arrayClass (newarray.typeOf .int)) = true := by decide +kernel
theorem gw_oi : inW (.instanceMethod objectInit) = true := by decide +kernel
theorem gw_oc : inW (.code objectInit ⟨#[0xb1]⟩ 1 none) = true := by decide +kernel
abbrev arE (cA : ClassId) (N : Nat) : va_E := .inl (cA, N, .inl (fun _ => 0))
theorem nd_va : ∀ {l : List Nat}, l.Nodup → va_nd l = true
  | [], _ => rfl
  | a :: l, h => by
    have h1 := List.nodup_cons.mp h
    simp only [va_nd, Bool.and_eq_true, decide_eq_true_eq]
    exact ⟨h1.1, nd_va h1.2⟩
theorem rng_get (W0 : va_W) (x : va_W) : (List.range W0.length).map (fun i => (W0 ++ x)[i]?) = W0.map some := by
  apply List.ext_getElem?
  intro i
  rw [List.getElem?_map, List.getElem?_map]
  by_cases h : i < W0.length
  · rw [List.getElem?_range h, List.getElem?_eq_getElem h]
    show some ((W0 ++ x)[i]?) = some (some W0[i])
    rw [List.getElem?_append_left h, List.getElem?_eq_getElem h]
  · rw [List.getElem?_eq_none (by rw [List.length_range]; omega), List.getElem?_eq_none (by omega)]
    rfl
theorem last_get (W0 : va_W) (x : Nat × va_E) : (W0 ++ [x])[W0.length]? = some x := by
  rw [List.getElem?_append_right (Nat.le_refl _), Nat.sub_self]
  rfl
section CT
variable {p : Program} {l : Launch} {e : Env} {R : Room} {s : State} {m : MethodId} {args : Array Value} {below : List Frame} {meth : Method} {c : Code} {H : Heap} {locs : List Loc} {cells slots : Nat} {Q : State → Prop} {A : Nat → Prop} {D : va_G} {cA : ClassId} {cc : ByteArray} {ci h0 pc : Nat} {fs : List Value} {ws : va_W} {ls : Array Slot}
theorem ct_arr (hx : p.tables.exec = Jvm.exec) (hb : c.code = cc) (hts : ∀ w ∈ GW, w.before args s = true) (hin : meth.name = "<init>") (hci : ci < 4) (hown : s.vm.findClass (oN ci) = some m.cls) (hl0 : ls[0]? = some (.val (.ref h0))) (hK : va_K D vwCl [(cA, .int)] s) (hA : ∀ q, s.heap.size ≤ q → A q)
    {pl idx k N : Nat} (hk : ctB ci cc pc pl idx k N = true) (hcs : cells + 1 ≤ R.cells ∧ slots + N ≤ R.slots) (hfs : fs.length = oF ci)
    (hP : va_P D vwCl ((h0, .inr (ci, fs)) :: ws) H) (hD : va_D A ((h0, .inr (ci, fs)) :: ws)) (hS : va_S A s.heap H locs)
    (kk : ∀ (q : Nat) (H1 : Heap) (locs1 : List Loc), va_P D vwCl ((h0, .inr (ci, fs.set k (.ref q))) :: (ws ++ [(q, arE cA N)])) H1 → va_D A ((h0, .inr (ci, fs.set k (.ref q))) :: (ws ++ [(q, arE cA N)])) → va_S A s.heap H1 locs1 → W p l e R s m args below meth c H1 locs1 (cells + 1) (slots + N) Q (F0 m (pc + 1 + pl + 2 + 3) ls [])) :
    W p l e R s m args below meth c H locs cells slots Q (F0 m pc ls []) := by
  unfold ctB at hk
  simp only [Bool.and_eq_true, decide_eq_true_eq] at hk
  obtain ⟨d1, d2, d3, d4, hkN, hfin, hdecl, hpar, hlnk, hn, hN, hby⟩ := hk
  obtain ⟨t1, t2, t3, t4⟩ := oTab hci
  refine lv_aload_n hx hb d1 rfl hl0 ?_
  have fin : W p l e R s m args below meth c H locs cells slots Q (F0 m (pc + 1 + pl) ls [.int (nI N), .ref h0]) := by
    refine va_newa (ty := .int) (N' := N) (a0 := (N, .inl (fun _ => 0))) hx hb (hts _ (inW_ok gw_arr)) rfl hK hP hD hS hA (fun _ => rfl) hn hN hby hcs.1 hcs.2 d3 (fun q cA1 H1 hK1 hP1 hD1 hS1 => ?_)
    have e1 : s.vm.findClass ("[" ++ FieldType.int.toString) = some cA := (hK.2 0 _ rfl).2
    have e2 : s.vm.findClass ("[" ++ FieldType.int.toString) = some cA1 := (hK1.2 1 _ rfl).2
    have e3 : cA1 = cA := Option.some.inj (e2.symm.trans e1)
    rw [e3] at hP1 hD1
    refine va_putF (D := D) (ci := ci) (C := oN ci) (T := oT ci) (N := oF ci) hx hb hts t2 (oY ci) t3 t4 hown hK hP1 hD1 hS1 0 rfl t1 k hkN (hts _ (inW_ok hlnk)) (fun _ h9 => h9) hfin hin hdecl hpar rfl rfl (by rw [hfs]; exact hkN) d4 (fun H2 locs2 hP2 hD2 hS2 => ?_)
    exact kk q H2 locs2 hP2 hD2 hS2
  unfold ctP at d2
  simp only [Bool.or_eq_true, Bool.and_eq_true, decide_eq_true_eq] at d2
  rcases d2 with ⟨rfl, d5, d6⟩ | ⟨rfl, d5, d6⟩
  · exact lv_bipush hx hb d5 d6 fin
  · exact lv_sipush hx hb d5 d6 fin
theorem gw_code {y : MethodName} {cc : ByteArray} {n : Nat} {r : Option FieldType} (h : inW (.code y cc n r) = true) : GoodIn GW (.code y cc n r :: GW) := by
  intro w hw
  rcases List.mem_cons.mp hw with rfl | hw
  · exact GW_good _ (inW_ok h)
  · exact GW_good w hw
/-- what a constructor of cells wants, and leaves -/
def ctPc (D : va_G) (cA : ClassId) (W0 : va_W) (h0 sz : Nat) : Array Value → State → Prop := va_Pc [.ref h0] (fun U => U.heap.size = sz ∧ va_P D vwCl W0 U.heap ∧ va_K D vwCl [(cA, .int)] U ∧ va_D (fun _ => True) W0)
def ctQ {S : Type} (D : va_G) (cA : ClassId) (W0 : va_W) (W1 : S → va_W) (sz : Nat) : Array Value → State → Outcome → State → Prop := va_Qv (fun _ : S => True) (fun u t => va_P D vwCl (W1 u) t.heap ∧ va_K D vwCl [(cA, .int)] t ∧ va_D (va_A W0 sz) (W1 u)) (va_A W0 sz)
theorem ctPc_blind (D : va_G) (cA : ClassId) (W0 : va_W) (h0 sz : Nat) : FrameBlind (ctPc D cA W0 h0 sz) := by
  intro a U g mk q
  obtain ⟨q0, q1, qP, qK, qD⟩ := q
  exact ⟨q0, q1, qP, va_K.moved (u := U) (U := U.calling g mk a) (Vm.Alike.refl U.vm) qK, qD⟩
/-- a new object of a nest mate's, its constructor, and into a final field -/
def ctN (ci1 : Nat) (y1 : MethodName) (cc1 : ByteArray) (cc : ByteArray) (pc xc xi idx k : Nat) : Bool :=
  decide (decode cc pc = .ok (.aload_n 0, 1)) && (decide (decode cc (pc + 1) = .ok (.new xc, 3)) && (decide (decode cc (pc + 1 + 3) = .ok (.dup, 1)) && (decide (decode cc (pc + 1 + 3 + 1) = .ok (.invokespecial xi, 3)) && (decide (decode cc (pc + 1 + 3 + 1 + 3) = .ok (.putfield idx, 3)) && (decide (k < 9) && ((TX2 k).2.2.2 && (decide ((TX2 k).1 = RX2) && (decide (parseFieldDescriptor (TX2 k).2.2.1 = some (.object (oN ci1))) && (inW (.fieldLink RX2 idx (TX2 k).1 (TX2 k).2.1 (TX2 k).2.2.1) && (inW (.classLink RX2 xc (oN ci1)) && (inW (.instantiable (oN ci1) (oF ci1)) && (inW (.initialized (oN ci1)) && (inW (.code y1 cc1 1 none) && (inW (.instanceMethod y1) && (decide (y1.cls = oN ci1) && (decide (y1.name = "<init>") && decide (y1.cls ≠ "java/lang/invoke/MethodHandle" ∧ y1.cls ≠ "java/lang/invoke/VarHandle" ∧ (parseMethodDescriptor y1.desc).map (fun d => d.parameters.length) = some 0)))))))))))))))))
theorem ct_new {S : Type} {W1 : Nat → S → va_W} {ci1 mc ms xc xi idx k : Nat} {fs1 : List Value} {y1 : MethodName} {cc1 : ByteArray} (hM : ∀ q sz, Met l y1 (.code y1 cc1 1 none :: GW) ({ frames := 1, cells := mc, slots := ms, locals := 12 }) (ctPc D cA [(q, .inr (ci1, fs1))] q sz) (ctQ D cA [(q, .inr (ci1, fs1))] (W1 q) sz) mc ms (va_A [(q, .inr (ci1, fs1))] sz))
    (hci1 : ci1 < 4) (hf1 : ∀ j, j < oF ci1 → defaultValue (oY ci1 j) = vp_V fs1 j)
    (hx : p.tables.exec = Jvm.exec) (hb : c.code = cc) (hts : ∀ w ∈ GW, w.before args s = true) (hin : meth.name = "<init>") (hown : s.vm.findClass RX2 = some m.cls) (hl0 : ls[0]? = some (.val (.ref h0))) (hls : ls.size = c.maxLocals) (hK : va_K D vwCl [(cA, .int)] s) (hA : ∀ q, s.heap.size ≤ q → A q)
    (hnw : va_Nw (.methodLinkNest RX2 xi y1 RX2) s) (hR : 2 ≤ R.frames ∧ 32 ≤ R.locals)
    (hk : ctN ci1 y1 cc1 cc pc xc xi idx k = true) (hcs : cells + 1 + mc ≤ R.cells ∧ slots + oF ci1 + ms ≤ R.slots) (hfs : fs.length = 9)
    (hP : va_P D vwCl ((h0, .inr (2, fs)) :: ws) H) (hD : va_D A ((h0, .inr (2, fs)) :: ws)) (hS : va_S A s.heap H locs)
    (kk : ∀ (q : Nat) (u : S) (H1 : Heap) (locs1 : List Loc), va_P D vwCl ((h0, .inr (2, fs.set k (.ref q))) :: (ws ++ W1 q u)) H1 → va_D A ((h0, .inr (2, fs.set k (.ref q))) :: (ws ++ W1 q u)) → va_S A s.heap H1 locs1 → W p l e R s m args below meth c H1 locs1 (cells + 1 + mc) (slots + oF ci1 + ms) Q (F0 m (pc + 1 + 3 + 1 + 3 + 3) ls [])) :
    W p l e R s m args below meth c H locs cells slots Q (F0 m pc ls []) := by
  unfold ctN at hk
  simp only [Bool.and_eq_true, decide_eq_true_eq] at hk
  obtain ⟨d1, d2, d3, d4, d5, hkN, hfin, hdecl, hpar, hlnk, hcl, hins, hini, hcode, him, hycl, hyn, hyd⟩ := hk
  obtain ⟨t1, t2, t3, t4⟩ := oTab hci1
  obtain ⟨v1, v2, v3, v4⟩ := oTab (ci := 2) (by decide)
  refine lv_aload_n hx hb d1 rfl hl0 ?_
  refine va_new (ci := ci1) (fs := fs1) (C := oN ci1) (T := oT ci1) (N := oF ci1) hx hb hts t2 (oY ci1) t3 hown (hts _ (inW_ok hcl)) (hts _ (inW_ok hins)) (hts _ (inW_ok hini)) hK hP hD hS hA t1 hf1 (by omega) (by omega) d2 (fun q H1 hP1 hD1 hS1 => ?_)
  refine lv_dup hx hb d3 rfl ?_
  generalize hW0 : ((h0, (.inr (2, fs) : va_E)) :: ws : va_W) = W0 at hP1 hD1
  have hPc := hP1.sub (ws' := [(q, .inr (ci1, fs1))]) [W0.length] (by simp only [List.filterMap_cons, last_get, List.filterMap_nil])
  have hDc := hD1.sub (ws' := [(q, .inr (ci1, fs1))]) [W0.length] (by simp [va_nd]) (by simp only [List.map_cons, last_get, List.map_nil])
  have hFc := va_free (wc := [(q, .inr (ci1, fs1))]) hD1 hS1 hA [W0.length] (by simp only [List.map_cons, last_get, List.map_nil])
  refine va_callv (va_runIN (As := []) (rest := [.ref q, .ref h0]) (host := RX2) (Ts := GW) (own := RX2) ⟨hx, hb, rfl, hown, hts⟩ (hM q H1.size) ⟨va_cnB 0 hts (gw_code hcode) rfl rfl rfl hnw (by rw [hycl]; exact hts _ (inW_ok hini)) hyd ⟨hR.1, hR.2⟩, hyn, hts _ (inW_ok him)⟩ ⟨ctPc_blind _ _ _ _ _, fun U hU hW => ⟨rfl, by rw [hU], by rw [hU]; exact hPc, va_K.moved hW.alike hK, hDc.weaken (fun _ _ _ _ => trivial)⟩⟩ rfl rfl hls rfl (lv_room (Nat.le_of_ble_eq_true rfl)) d4 ⟨hcs.1, hcs.2⟩) hS1 (fun q _ h => hFc q h) hFc (fun u t H2 locs2 ht hvm hw hB hz1 hk1 hS2 => ?_)
  obtain ⟨hP2, hK2, hD2⟩ := hB
  rw [ht] at hP2
  obtain ⟨hP3, hD3⟩ := va_join (wr := W0) (w1 := W1 q u) hP1 hD1 [W0.length] (List.range W0.length) (by simp only [List.map_cons, last_get, List.map_nil]) (rng_get _ _) (nd_va List.nodup_range) (fun i hi z => by
    have h1 := List.mem_range.mp hi
    have h2 := List.mem_singleton.mp z
    omega) hk1 hFc hP2 hD2
  subst hW0
  refine va_putF (D := D) (ci := 2) (C := RX2) (T := TX2) (N := 9) hx hb hts v2 tyX2 tyX2_ok nmX2 hown hK hP3 hD3 hS2 0 rfl v1 k hkN (hts _ (inW_ok hlnk)) (fun _ h9 => h9) hfin hin hdecl hpar rfl rfl (by rw [hfs]; exact hkN) d5 (fun H3 locs3 hP4 hD4 hS4 => ?_)
  exact kk q u H3 locs3 hP4 hD4 hS4
end CT
abbrev Y5 : Type := Nat × Nat × Nat × Nat × Nat
abbrev fsL : List Value := [.null, .int 0, .int 0]
abbrev fsY : List Value := [.null, .null, .null, .null, .null, .int 0, .int 0, .int 0, .int 0, .int 0, .int 0]
abbrev fsT : List Value := [.null, .null, .null, .null, .int 0, .null, .null, .int 0, .null]

abbrev fsM : List Value := [.null, .null, .null, .null, .null, .null, .null, .int 0, .int 0, .int 0, .null, .null, .null, .null, .int 0, .int 0, .int 0, .null, .int 0, .int 0, .int 0, .int 0, .int 0, .int 0, .int 0, .int 0, .int 0, .int 0, .null, .int 0]
abbrev wdL (cA : ClassId) (h0 : Nat) (a : Nat) : va_W := [(h0, .inr (0, [.ref a, .int 0, .int 0])), (a, arE cA 96)]
abbrev wdY (cA : ClassId) (h0 : Nat) : Y5 → va_W := fun (a, b, c, d, f) => [(h0, .inr (1, [.ref a, .ref b, .ref c, .ref d, .ref f, .int 0, .int 0, .int 0, .int 0, .int 0, .int (-1)])), (a, arE cA 8), (b, arE cA 8), (c, arE cA 8), (d, arE cA 8), (f, arE cA 64)]
abbrev ST : Type := (Nat × Y5) × (Nat × Y5) × (Nat × Y5) × (Nat × Y5) × (Nat × Nat) × Nat × Nat
abbrev wdT (cA : ClassId) (h0 : Nat) : ST → va_W := fun (a, b, c, d, f, g, h) => (h0, .inr (2, [.ref a.1, .ref b.1, .ref c.1, .ref d.1, .int 0, .ref f.1, .ref g, .int 0, .ref h])) :: (wdY cA a.1 a.2 ++ (wdY cA b.1 b.2 ++ (wdY cA c.1 c.2 ++ (wdY cA d.1 d.2 ++ (wdL cA f.1 f.2 ++ [(g, arE cA 20), (h, arE cA 7)])))))
abbrev SMo : Type := Nat × Nat × Nat × Nat × Nat × Nat × Nat × Nat × Nat × Nat × Nat × Nat × Nat
abbrev wdM (cA : ClassId) (h0 : Nat) : SMo → va_W := fun (a0, a1, a2, a3, a4, a5, a6, a10, a11, a12, a13, a17, a28) => [(h0, .inr (3, [.ref a0, .ref a1, .ref a2, .ref a3, .ref a4, .ref a5, .ref a6, .int 0, .int 0, .int 0, .ref a10, .ref a11, .ref a12, .ref a13, .int 0, .int 0, .int 0, .ref a17, .int 0, .int 0, .int 0, .int (-9), .int 0, .int 0, .int 0, .int 0, .int 0, .int 0, .ref a28, .int 0])), (a0, arE cA 7), (a1, arE cA 8), (a2, arE cA 8), (a3, arE cA 8), (a4, arE cA 8), (a5, arE cA 8), (a6, arE cA 64), (a10, arE cA 96), (a11, arE cA 48), (a12, arE cA 48), (a13, arE cA 144), (a17, arE cA 220), (a28, arE cA 20)]
theorem dfL : ∀ j, j < 3 → defaultValue (tyX0 j) = vp_V fsL j
  | 0, _ => rfl
  | 1, _ => rfl
  | 2, _ => rfl
  | n + 3, h => absurd h (by omega)
theorem dfY : ∀ j, j < 11 → defaultValue (tyX1 j) = vp_V fsY j
  | 0, _ => rfl
  | 1, _ => rfl
  | 2, _ => rfl
  | 3, _ => rfl
  | 4, _ => rfl
  | 5, _ => rfl
  | 6, _ => rfl
  | 7, _ => rfl
  | 8, _ => rfl
  | 9, _ => rfl
  | 10, _ => rfl
  | n + 11, h => absurd h (by omega)
theorem dfT : ∀ j, j < 9 → defaultValue (tyX2 j) = vp_V fsT j
  | 0, _ => rfl
  | 1, _ => rfl
  | 2, _ => rfl
  | 3, _ => rfl
  | 4, _ => rfl
  | 5, _ => rfl
  | 6, _ => rfl
  | 7, _ => rfl
  | 8, _ => rfl
  | n + 9, h => absurd h (by omega)
theorem dfM : ∀ j, j < 30 → defaultValue (tyX3 j) = vp_V fsM j
  | 0, _ => rfl
  | 1, _ => rfl
  | 2, _ => rfl
  | 3, _ => rfl
  | 4, _ => rfl
  | 5, _ => rfl
  | 6, _ => rfl
  | 7, _ => rfl
  | 8, _ => rfl
  | 9, _ => rfl
  | 10, _ => rfl
  | 11, _ => rfl
  | 12, _ => rfl
  | 13, _ => rfl
  | 14, _ => rfl
  | 15, _ => rfl
  | 16, _ => rfl
  | 17, _ => rfl
  | 18, _ => rfl
  | 19, _ => rfl
  | 20, _ => rfl
  | 21, _ => rfl
  | 22, _ => rfl
  | 23, _ => rfl
  | 24, _ => rfl
  | 25, _ => rfl
  | 26, _ => rfl
  | 27, _ => rfl
  | 28, _ => rfl
  | 29, _ => rfl
  | n + 30, h => absurd h (by omega)
set_option maxHeartbeats 4000000 in
set_option maxRecDepth 100000 in
theorem c_Let (l : Launch) (D : va_G) (cA : ClassId) (h0 sz : Nat) : Met l yX0_init (.code yX0_init cX0_init 1 none :: GW) ({ frames := 1, cells := 1, slots := 96, locals := 12 }) (ctPc D cA [(h0, .inr (0, fsL))] h0 sz) (ctQ D cA [(h0, .inr (0, fsL))] (wdL cA h0) sz) 1 96 (va_A [(h0, .inr (0, fsL))] sz) := by
  refine Met.ofW (cc := cX0_init) (maxL := 1) (ret := none) (by decide) rfl ?_
  intro p e s m args below meth c s₁ B hml hv
  obtain ⟨rfl, hsz, hP, hK, hD0⟩ := hv
  have hx := B.exec
  have hb := B.bytes
  have hr := B.returns
  have hts0 := atoms_spec (ws := .code yX0_init cX0_init 1 none :: GW) B.pre
  have hts : ∀ w ∈ GW, w.before _ s = true := fun w hw => hts0 w (List.mem_cons_of_mem _ hw)
  have hown : s.vm.findClass RX0 = some m.cls := findClass_of_methodNamed B.named
  have hlocks := B.notSynchronized
  have hin : meth.name = "<init>" := (name_of_methodNamed B.named B.method).1
  subst hsz
  have hD := hD0.self (sz := s.heap.size)
  have hA : ∀ q : Nat, s.heap.size ≤ q → va_A [(h0, .inr (0, fsL))] s.heap.size q := fun q h => Or.inr h
  have hS : va_S (va_A [(h0, .inr (0, fsL))] s.heap.size) s.heap s.heap [] := va_S.rf
  have hl := lv_entry ([.ref h0]) (n := 1) (Nat.le_of_ble_eq_true rfl)
  rw [lg_entry_eq]
  generalize (lg_sl ([.ref h0]) ++ List.replicate (1 - (lg_sl ([.ref h0])).length) Slot.unset).toArray = ls at hl ⊢
  have hl : lv_has ls 1 [(0, .ref h0)] := hl
  have hl0 := lv_at hl 0 rfl
  refine lv_aload_n hx hb (show decode cX0_init 0 = .ok (.aload_n 0, 1) by decide +kernel) rfl hl0 ?_
  refine W.objInit hx hb hown (hts (.methodLink RX0 3 objectInit) (inW_ok (by decide +kernel))) (hts _ (inW_ok gw_oi)) (hts _ (inW_ok gw_oc)) rfl (by rw [hml]; exact hl.1) rfl (show decode cX0_init 1 = .ok (.invokespecial 3, 3) by decide +kernel) (Nat.le_of_ble_eq_true rfl) (Nat.le_of_ble_eq_true rfl) ?_
  refine W.eq (g2 := F0 m 4 ls []) rfl ?_
  refine ct_arr (ci := 0) (pc := 4) (pl := 2) (idx := 11) (k := 0) (N := 96) hx hb hts hin (by decide) hown hl0 hK hA (by decide +kernel) ⟨Nat.le_of_ble_eq_true rfl, Nat.le_of_ble_eq_true rfl⟩ rfl hP hD hS (fun a H locs hP hD hS => ?_)
  refine W.widen (k := 1) (n := 96) (Nat.le_of_ble_eq_true rfl) (Nat.le_of_ble_eq_true rfl) ?_
  exact W.vret hx hb hr (fun t ht hW => ⟨⟨a, rfl, trivial, by rw [ht]; exact hP, va_K.moved hW.alike hK, hD⟩, hS.F ht⟩) hS.2.2 (show decode cX0_init 12 = .ok (.return_, 1) by decide +kernel)
set_option maxHeartbeats 4000000 in
set_option maxRecDepth 100000 in
theorem c_Yd (l : Launch) (D : va_G) (cA : ClassId) (h0 sz : Nat) : Met l yX1_init (.code yX1_init cX1_init 1 none :: GW) ({ frames := 1, cells := 5, slots := 96, locals := 12 }) (ctPc D cA [(h0, .inr (1, fsY))] h0 sz) (ctQ D cA [(h0, .inr (1, fsY))] (wdY cA h0) sz) 5 96 (va_A [(h0, .inr (1, fsY))] sz) := by
  refine Met.ofW (cc := cX1_init) (maxL := 1) (ret := none) (by decide) rfl ?_
  intro p e s m args below meth c s₁ B hml hv
  obtain ⟨rfl, hsz, hP, hK, hD0⟩ := hv
  have hx := B.exec
  have hb := B.bytes
  have hr := B.returns
  have hts0 := atoms_spec (ws := .code yX1_init cX1_init 1 none :: GW) B.pre
  have hts : ∀ w ∈ GW, w.before _ s = true := fun w hw => hts0 w (List.mem_cons_of_mem _ hw)
  have hown : s.vm.findClass RX1 = some m.cls := findClass_of_methodNamed B.named
  have hlocks := B.notSynchronized
  have hin : meth.name = "<init>" := (name_of_methodNamed B.named B.method).1
  subst hsz
  have hD := hD0.self (sz := s.heap.size)
  have hA : ∀ q : Nat, s.heap.size ≤ q → va_A [(h0, .inr (1, fsY))] s.heap.size q := fun q h => Or.inr h
  have hS : va_S (va_A [(h0, .inr (1, fsY))] s.heap.size) s.heap s.heap [] := va_S.rf
  have hl := lv_entry ([.ref h0]) (n := 1) (Nat.le_of_ble_eq_true rfl)
  rw [lg_entry_eq]
  generalize (lg_sl ([.ref h0]) ++ List.replicate (1 - (lg_sl ([.ref h0])).length) Slot.unset).toArray = ls at hl ⊢
  have hl : lv_has ls 1 [(0, .ref h0)] := hl
  have hl0 := lv_at hl 0 rfl
  refine lv_aload_n hx hb (show decode cX1_init 0 = .ok (.aload_n 0, 1) by decide +kernel) rfl hl0 ?_
  refine W.objInit hx hb hown (hts (.methodLink RX1 3 objectInit) (inW_ok (by decide +kernel))) (hts _ (inW_ok gw_oi)) (hts _ (inW_ok gw_oc)) rfl (by rw [hml]; exact hl.1) rfl (show decode cX1_init 1 = .ok (.invokespecial 3, 3) by decide +kernel) (Nat.le_of_ble_eq_true rfl) (Nat.le_of_ble_eq_true rfl) ?_
  refine W.eq (g2 := F0 m 4 ls []) rfl ?_
  refine ct_arr (ci := 1) (pc := 4) (pl := 2) (idx := 11) (k := 0) (N := 8) hx hb hts hin (by decide) hown hl0 hK hA (by decide +kernel) ⟨Nat.le_of_ble_eq_true rfl, Nat.le_of_ble_eq_true rfl⟩ rfl hP hD hS (fun a0 H locs hP hD hS => ?_)
  refine ct_arr (ci := 1) (pc := 12) (pl := 2) (idx := 15) (k := 1) (N := 8) hx hb hts hin (by decide) hown hl0 hK hA (by decide +kernel) ⟨Nat.le_of_ble_eq_true rfl, Nat.le_of_ble_eq_true rfl⟩ rfl hP hD hS (fun a1 H locs hP hD hS => ?_)
  refine ct_arr (ci := 1) (pc := 20) (pl := 2) (idx := 18) (k := 2) (N := 8) hx hb hts hin (by decide) hown hl0 hK hA (by decide +kernel) ⟨Nat.le_of_ble_eq_true rfl, Nat.le_of_ble_eq_true rfl⟩ rfl hP hD hS (fun a2 H locs hP hD hS => ?_)
  refine ct_arr (ci := 1) (pc := 28) (pl := 2) (idx := 21) (k := 3) (N := 8) hx hb hts hin (by decide) hown hl0 hK hA (by decide +kernel) ⟨Nat.le_of_ble_eq_true rfl, Nat.le_of_ble_eq_true rfl⟩ rfl hP hD hS (fun a3 H locs hP hD hS => ?_)
  refine ct_arr (ci := 1) (pc := 36) (pl := 2) (idx := 24) (k := 4) (N := 64) hx hb hts hin (by decide) hown hl0 hK hA (by decide +kernel) ⟨Nat.le_of_ble_eq_true rfl, Nat.le_of_ble_eq_true rfl⟩ rfl hP hD hS (fun a4 H locs hP hD hS => ?_)
  refine lv_aload_n hx hb (show decode cX1_init 44 = .ok (.aload_n 0, 1) by decide +kernel) rfl hl0 ?_
  refine lv_iconst (v := (-1)) hx hb (show decode cX1_init 45 = .ok (.iconst (-1), 1) by decide +kernel) (by decide) ?_
  refine va_put (D := D) (ci := 1) (v := .int (-1)) (ty := .int) (C := RX1) (T := TX1) (N := 11) hx hb hts (oTab (ci := 1) (by decide)).2.1 tyX1 tyX1_ok nmX1 hown hK hP hD hS 0 rfl rfl 10 (by decide) (hts (.fieldLink RX1 27 (TX1 10).1 (TX1 10).2.1 (TX1 10).2.2.1) (inW_ok (by decide +kernel))) (fun _ h9 => h9) rfl (by decide +kernel) rfl rfl (Nat.le_of_ble_eq_true rfl) (show decode cX1_init 46 = .ok (.putfield 27, 3) by decide +kernel) (fun H locs hP hD hS => ?_)
  refine W.widen (k := 5) (n := 96) (Nat.le_of_ble_eq_true rfl) (Nat.le_of_ble_eq_true rfl) ?_
  exact W.vret hx hb hr (fun t ht hW => ⟨⟨(a0, a1, a2, a3, a4), rfl, trivial, by rw [ht]; exact hP, va_K.moved hW.alike hK, hD⟩, hS.F ht⟩) hS.2.2 (show decode cX1_init 49 = .ok (.return_, 1) by decide +kernel)
/-- the class of both: its nest mates' constructors -/
def ctPT (D : va_G) (cA : ClassId) (h0 sz : Nat) : Array Value → State → Prop := fun a U => ctPc D cA [(h0, .inr (2, fsT))] h0 sz a U ∧ va_Nw (.methodLinkNest RX2 9 yX1_init RX2) U ∧ va_Nw (.methodLinkNest RX2 27 yX0_init RX2) U
set_option maxHeartbeats 4000000 in
set_option maxRecDepth 100000 in
theorem c_Tas (l : Launch) (D : va_G) (cA : ClassId) (h0 sz : Nat) : Met l yX2_init (.code yX2_init cX2_init 1 none :: GW) ({ frames := 2, cells := 28, slots := 554, locals := 32 }) (ctPT D cA h0 sz) (ctQ D cA [(h0, .inr (2, fsT))] (wdT cA h0) sz) 28 554 (va_A [(h0, .inr (2, fsT))] sz) := by
  refine Met.ofW (cc := cX2_init) (maxL := 1) (ret := none) (by decide) rfl ?_
  intro p e s m args below meth c s₁ B hml hv
  obtain ⟨⟨rfl, hsz, hP, hK, hD0⟩, hw1, hw2⟩ := hv
  have hx := B.exec
  have hb := B.bytes
  have hr := B.returns
  have hts0 := atoms_spec (ws := .code yX2_init cX2_init 1 none :: GW) B.pre
  have hts : ∀ w ∈ GW, w.before _ s = true := fun w hw => hts0 w (List.mem_cons_of_mem _ hw)
  have hown : s.vm.findClass RX2 = some m.cls := findClass_of_methodNamed B.named
  have hlocks := B.notSynchronized
  have hin : meth.name = "<init>" := (name_of_methodNamed B.named B.method).1
  subst hsz
  have hD := hD0.self (sz := s.heap.size)
  have hA : ∀ q : Nat, s.heap.size ≤ q → va_A [(h0, .inr (2, fsT))] s.heap.size q := fun q h => Or.inr h
  have hS : va_S (va_A [(h0, .inr (2, fsT))] s.heap.size) s.heap s.heap [] := va_S.rf
  have hl := lv_entry ([.ref h0]) (n := 1) (Nat.le_of_ble_eq_true rfl)
  rw [lg_entry_eq]
  generalize (lg_sl ([.ref h0]) ++ List.replicate (1 - (lg_sl ([.ref h0])).length) Slot.unset).toArray = ls at hl ⊢
  have hl : lv_has ls 1 [(0, .ref h0)] := hl
  have hl0 := lv_at hl 0 rfl
  refine lv_aload_n hx hb (show decode cX2_init 0 = .ok (.aload_n 0, 1) by decide +kernel) rfl hl0 ?_
  refine W.objInit hx hb hown (hts (.methodLink RX2 1 objectInit) (inW_ok (by decide +kernel))) (hts _ (inW_ok gw_oi)) (hts _ (inW_ok gw_oc)) rfl (by rw [hml]; exact hl.1) rfl (show decode cX2_init 1 = .ok (.invokespecial 1, 3) by decide +kernel) (Nat.le_of_ble_eq_true rfl) (Nat.le_of_ble_eq_true rfl) ?_
  refine W.eq (g2 := F0 m 4 ls []) rfl ?_
  refine ct_new (ci1 := 1) (pc := 4) (xc := 7) (xi := 9) (idx := 10) (k := 0) (fs1 := fsY) (y1 := yX1_init) (cc1 := cX1_init) (W1 := wdY cA) (c_Yd l D cA) (by decide) dfY hx hb hts hin hown hl0 (by rw [hml]; exact hl.1) hK hA hw1 ⟨Nat.le_of_ble_eq_true rfl, Nat.le_of_ble_eq_true rfl⟩ (by decide +kernel) ⟨Nat.le_of_ble_eq_true rfl, Nat.le_of_ble_eq_true rfl⟩ rfl hP hD hS (fun q0 u0 H locs hP hD hS => ?_)
  refine ct_new (ci1 := 1) (pc := 15) (xc := 7) (xi := 9) (idx := 16) (k := 1) (fs1 := fsY) (y1 := yX1_init) (cc1 := cX1_init) (W1 := wdY cA) (c_Yd l D cA) (by decide) dfY hx hb hts hin hown hl0 (by rw [hml]; exact hl.1) hK hA hw1 ⟨Nat.le_of_ble_eq_true rfl, Nat.le_of_ble_eq_true rfl⟩ (by decide +kernel) ⟨Nat.le_of_ble_eq_true rfl, Nat.le_of_ble_eq_true rfl⟩ rfl hP hD hS (fun q1 u1 H locs hP hD hS => ?_)
  refine ct_new (ci1 := 1) (pc := 26) (xc := 7) (xi := 9) (idx := 19) (k := 2) (fs1 := fsY) (y1 := yX1_init) (cc1 := cX1_init) (W1 := wdY cA) (c_Yd l D cA) (by decide) dfY hx hb hts hin hown hl0 (by rw [hml]; exact hl.1) hK hA hw1 ⟨Nat.le_of_ble_eq_true rfl, Nat.le_of_ble_eq_true rfl⟩ (by decide +kernel) ⟨Nat.le_of_ble_eq_true rfl, Nat.le_of_ble_eq_true rfl⟩ rfl hP hD hS (fun q2 u2 H locs hP hD hS => ?_)
  refine ct_new (ci1 := 1) (pc := 37) (xc := 7) (xi := 9) (idx := 22) (k := 3) (fs1 := fsY) (y1 := yX1_init) (cc1 := cX1_init) (W1 := wdY cA) (c_Yd l D cA) (by decide) dfY hx hb hts hin hown hl0 (by rw [hml]; exact hl.1) hK hA hw1 ⟨Nat.le_of_ble_eq_true rfl, Nat.le_of_ble_eq_true rfl⟩ (by decide +kernel) ⟨Nat.le_of_ble_eq_true rfl, Nat.le_of_ble_eq_true rfl⟩ rfl hP hD hS (fun q3 u3 H locs hP hD hS => ?_)
  refine ct_new (ci1 := 0) (pc := 48) (xc := 25) (xi := 27) (idx := 28) (k := 5) (fs1 := fsL) (y1 := yX0_init) (cc1 := cX0_init) (W1 := wdL cA) (c_Let l D cA) (by decide) dfL hx hb hts hin hown hl0 (by rw [hml]; exact hl.1) hK hA hw2 ⟨Nat.le_of_ble_eq_true rfl, Nat.le_of_ble_eq_true rfl⟩ (by decide +kernel) ⟨Nat.le_of_ble_eq_true rfl, Nat.le_of_ble_eq_true rfl⟩ rfl hP hD hS (fun q4 u4 H locs hP hD hS => ?_)
  refine ct_arr (ci := 2) (pc := 59) (pl := 2) (idx := 32) (k := 6) (N := 20) hx hb hts hin (by decide) hown hl0 hK hA (by decide +kernel) ⟨Nat.le_of_ble_eq_true rfl, Nat.le_of_ble_eq_true rfl⟩ rfl hP hD hS (fun q5 H locs hP hD hS => ?_)
  refine ct_arr (ci := 2) (pc := 67) (pl := 2) (idx := 36) (k := 8) (N := 7) hx hb hts hin (by decide) hown hl0 hK hA (by decide +kernel) ⟨Nat.le_of_ble_eq_true rfl, Nat.le_of_ble_eq_true rfl⟩ rfl hP hD hS (fun q6 H locs hP hD hS => ?_)
  have hP := hP.sub (ws' := wdT cA h0 ((q0, u0), (q1, u1), (q2, u2), (q3, u3), (q4, u4), q5, q6)) (List.range 29) rfl
  have hD := hD.sub (ws' := wdT cA h0 ((q0, u0), (q1, u1), (q2, u2), (q3, u3), (q4, u4), q5, q6)) (List.range 29) (by decide) rfl
  refine W.widen (k := 28) (n := 554) (Nat.le_of_ble_eq_true rfl) (Nat.le_of_ble_eq_true rfl) ?_
  exact W.vret hx hb hr (fun t ht hW => ⟨⟨((q0, u0), (q1, u1), (q2, u2), (q3, u3), (q4, u4), q5, q6), rfl, trivial, by rw [ht]; exact hP, va_K.moved hW.alike hK, hD⟩, hS.F ht⟩) hS.2.2 (show decode cX2_init 75 = .ok (.return_, 1) by decide +kernel)
set_option maxHeartbeats 4000000 in
set_option maxRecDepth 100000 in
theorem c_Mod (l : Launch) (D : va_G) (cA : ClassId) (h0 sz : Nat) : Met l yX3_init (.code yX3_init cX3_init 1 none :: GW) ({ frames := 1, cells := 13, slots := 687, locals := 12 }) (ctPc D cA [(h0, .inr (3, fsM))] h0 sz) (ctQ D cA [(h0, .inr (3, fsM))] (wdM cA h0) sz) 13 687 (va_A [(h0, .inr (3, fsM))] sz) := by
  refine Met.ofW (cc := cX3_init) (maxL := 1) (ret := none) (by decide) rfl ?_
  intro p e s m args below meth c s₁ B hml hv
  obtain ⟨rfl, hsz, hP, hK, hD0⟩ := hv
  have hx := B.exec
  have hb := B.bytes
  have hr := B.returns
  have hts0 := atoms_spec (ws := .code yX3_init cX3_init 1 none :: GW) B.pre
  have hts : ∀ w ∈ GW, w.before _ s = true := fun w hw => hts0 w (List.mem_cons_of_mem _ hw)
  have hown : s.vm.findClass RX3 = some m.cls := findClass_of_methodNamed B.named
  have hlocks := B.notSynchronized
  have hin : meth.name = "<init>" := (name_of_methodNamed B.named B.method).1
  subst hsz
  have hD := hD0.self (sz := s.heap.size)
  have hA : ∀ q : Nat, s.heap.size ≤ q → va_A [(h0, .inr (3, fsM))] s.heap.size q := fun q h => Or.inr h
  have hS : va_S (va_A [(h0, .inr (3, fsM))] s.heap.size) s.heap s.heap [] := va_S.rf
  have hl := lv_entry ([.ref h0]) (n := 1) (Nat.le_of_ble_eq_true rfl)
  rw [lg_entry_eq]
  generalize (lg_sl ([.ref h0]) ++ List.replicate (1 - (lg_sl ([.ref h0])).length) Slot.unset).toArray = ls at hl ⊢
  have hl : lv_has ls 1 [(0, .ref h0)] := hl
  have hl0 := lv_at hl 0 rfl
  refine lv_aload_n hx hb (show decode cX3_init 0 = .ok (.aload_n 0, 1) by decide +kernel) rfl hl0 ?_
  refine W.objInit hx hb hown (hts (.methodLink RX3 1 objectInit) (inW_ok (by decide +kernel))) (hts _ (inW_ok gw_oi)) (hts _ (inW_ok gw_oc)) rfl (by rw [hml]; exact hl.1) rfl (show decode cX3_init 1 = .ok (.invokespecial 1, 3) by decide +kernel) (Nat.le_of_ble_eq_true rfl) (Nat.le_of_ble_eq_true rfl) ?_
  refine W.eq (g2 := F0 m 4 ls []) rfl ?_
  refine ct_arr (ci := 3) (pc := 4) (pl := 2) (idx := 7) (k := 0) (N := 7) hx hb hts hin (by decide) hown hl0 hK hA (by decide +kernel) ⟨Nat.le_of_ble_eq_true rfl, Nat.le_of_ble_eq_true rfl⟩ rfl hP hD hS (fun a0 H locs hP hD hS => ?_)
  refine ct_arr (ci := 3) (pc := 12) (pl := 2) (idx := 13) (k := 1) (N := 8) hx hb hts hin (by decide) hown hl0 hK hA (by decide +kernel) ⟨Nat.le_of_ble_eq_true rfl, Nat.le_of_ble_eq_true rfl⟩ rfl hP hD hS (fun a1 H locs hP hD hS => ?_)
  refine ct_arr (ci := 3) (pc := 20) (pl := 2) (idx := 16) (k := 2) (N := 8) hx hb hts hin (by decide) hown hl0 hK hA (by decide +kernel) ⟨Nat.le_of_ble_eq_true rfl, Nat.le_of_ble_eq_true rfl⟩ rfl hP hD hS (fun a2 H locs hP hD hS => ?_)
  refine ct_arr (ci := 3) (pc := 28) (pl := 2) (idx := 19) (k := 3) (N := 8) hx hb hts hin (by decide) hown hl0 hK hA (by decide +kernel) ⟨Nat.le_of_ble_eq_true rfl, Nat.le_of_ble_eq_true rfl⟩ rfl hP hD hS (fun a3 H locs hP hD hS => ?_)
  refine ct_arr (ci := 3) (pc := 36) (pl := 2) (idx := 22) (k := 4) (N := 8) hx hb hts hin (by decide) hown hl0 hK hA (by decide +kernel) ⟨Nat.le_of_ble_eq_true rfl, Nat.le_of_ble_eq_true rfl⟩ rfl hP hD hS (fun a4 H locs hP hD hS => ?_)
  refine ct_arr (ci := 3) (pc := 44) (pl := 2) (idx := 25) (k := 5) (N := 8) hx hb hts hin (by decide) hown hl0 hK hA (by decide +kernel) ⟨Nat.le_of_ble_eq_true rfl, Nat.le_of_ble_eq_true rfl⟩ rfl hP hD hS (fun a5 H locs hP hD hS => ?_)
  refine ct_arr (ci := 3) (pc := 52) (pl := 2) (idx := 28) (k := 6) (N := 64) hx hb hts hin (by decide) hown hl0 hK hA (by decide +kernel) ⟨Nat.le_of_ble_eq_true rfl, Nat.le_of_ble_eq_true rfl⟩ rfl hP hD hS (fun a6 H locs hP hD hS => ?_)
  refine ct_arr (ci := 3) (pc := 60) (pl := 2) (idx := 31) (k := 10) (N := 96) hx hb hts hin (by decide) hown hl0 hK hA (by decide +kernel) ⟨Nat.le_of_ble_eq_true rfl, Nat.le_of_ble_eq_true rfl⟩ rfl hP hD hS (fun a10 H locs hP hD hS => ?_)
  refine ct_arr (ci := 3) (pc := 68) (pl := 2) (idx := 34) (k := 11) (N := 48) hx hb hts hin (by decide) hown hl0 hK hA (by decide +kernel) ⟨Nat.le_of_ble_eq_true rfl, Nat.le_of_ble_eq_true rfl⟩ rfl hP hD hS (fun a11 H locs hP hD hS => ?_)
  refine ct_arr (ci := 3) (pc := 76) (pl := 2) (idx := 37) (k := 12) (N := 48) hx hb hts hin (by decide) hown hl0 hK hA (by decide +kernel) ⟨Nat.le_of_ble_eq_true rfl, Nat.le_of_ble_eq_true rfl⟩ rfl hP hD hS (fun a12 H locs hP hD hS => ?_)
  refine ct_arr (ci := 3) (pc := 84) (pl := 3) (idx := 40) (k := 13) (N := 144) hx hb hts hin (by decide) hown hl0 hK hA (by decide +kernel) ⟨Nat.le_of_ble_eq_true rfl, Nat.le_of_ble_eq_true rfl⟩ rfl hP hD hS (fun a13 H locs hP hD hS => ?_)
  refine ct_arr (ci := 3) (pc := 93) (pl := 3) (idx := 43) (k := 17) (N := 220) hx hb hts hin (by decide) hown hl0 hK hA (by decide +kernel) ⟨Nat.le_of_ble_eq_true rfl, Nat.le_of_ble_eq_true rfl⟩ rfl hP hD hS (fun a17 H locs hP hD hS => ?_)
  refine lv_aload_n hx hb (show decode cX3_init 102 = .ok (.aload_n 0, 1) by decide +kernel) rfl hl0 ?_
  refine lv_bipush (v := (-9)) hx hb (show decode cX3_init 103 = .ok (.bipush (-9), 2) by decide +kernel) (by decide) ?_
  refine va_put (D := D) (ci := 3) (v := .int (-9)) (ty := .int) (C := RX3) (T := TX3) (N := 30) hx hb hts (oTab (ci := 3) (by decide)).2.1 tyX3 tyX3_ok nmX3 hown hK hP hD hS 0 rfl rfl 21 (by decide) (hts (.fieldLink RX3 46 (TX3 21).1 (TX3 21).2.1 (TX3 21).2.2.1) (inW_ok (by decide +kernel))) (fun _ h9 => h9) rfl (by decide +kernel) rfl rfl (Nat.le_of_ble_eq_true rfl) (show decode cX3_init 105 = .ok (.putfield 46, 3) by decide +kernel) (fun H locs hP hD hS => ?_)
  refine ct_arr (ci := 3) (pc := 108) (pl := 2) (idx := 50) (k := 28) (N := 20) hx hb hts hin (by decide) hown hl0 hK hA (by decide +kernel) ⟨Nat.le_of_ble_eq_true rfl, Nat.le_of_ble_eq_true rfl⟩ rfl hP hD hS (fun a28 H locs hP hD hS => ?_)
  refine W.widen (k := 13) (n := 687) (Nat.le_of_ble_eq_true rfl) (Nat.le_of_ble_eq_true rfl) ?_
  exact W.vret hx hb hr (fun t ht hW => ⟨⟨(a0, a1, a2, a3, a4, a5, a6, a10, a11, a12, a13, a17, a28), rfl, trivial, by rw [ht]; exact hP, va_K.moved hW.alike hK, hD⟩, hS.F ht⟩) hS.2.2 (show decode cX3_init 116 = .ok (.return_, 1) by decide +kernel)
