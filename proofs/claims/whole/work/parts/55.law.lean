/-! ===== the law, from its entry ===== -/
theorem ctPT_blind (D : va_G) (cA : ClassId) (h0 sz : Nat) : FrameBlind (ctPT D cA h0 sz) := by
  intro a U g mk ⟨q, z1, z2⟩
  exact ⟨ctPc_blind _ _ _ _ _ a U g mk q, va_Nw.same (u := U) (U := U.calling g mk a) rfl rfl z1, va_Nw.same (u := U) (U := U.calling g mk a) rfl rfl z2⟩
theorem mAd_11 (D : va_G) (cA : ClassId) (adK adV : Nat → Nat) (F : Value) (h0 h1 : Nat) (u : ST) (v : SMo) : mAd (mEof D cA (h0 :: (adT u ++ h1 :: adM v)) adK adV F) 11 0 = h1 := by
  obtain ⟨⟨a0, a1, a2, a3, a4, a5⟩, ⟨b0, b1, b2, b3, b4, b5⟩, ⟨c0, c1, c2, c3, c4, c5⟩, ⟨d0, d1, d2, d3, d4, d5⟩, ⟨f0, f1⟩, g, h⟩ := u
  rfl
theorem mAd_0 (D : va_G) (cA : ClassId) (adK adV : Nat → Nat) (F : Value) (h0 : Nat) (A : List Nat) : mAd (mEof D cA (h0 :: A) adK adV F) 0 0 = h0 := rfl
set_option maxHeartbeats 4000000 in
set_option maxRecDepth 100000 in
/-- YOUR PART: from the entry, for every script of at most 2048 ints, the law comes to its end with true -/
theorem whole_start {p : Program} {e : Env} {s : State} {m : MethodId} {below : List Frame} {meth : Method} {c : Code} (l : Launch) (hflags : l.flags = flags0) {b L : Nat} {xs : Nat → Int32} (hL : L ≤ 2048) (C0 : lw_At p s m meth c b L xs) : W p l e room_1 s m #[Value.ref b] below meth c s.heap [] 0 0 (lw_Z below #[Value.ref b] s) (entryFrame m ([Value.ref b] : List Value).toArray 4) := by
  obtain ⟨hx, hb, hr, hml, hown, hts0, hX, hbl, hlocks, hgv⟩ := id C0
  have hts : ∀ w ∈ GW, w.before #[Value.ref b] s = true := fun w hw => hts0 w (List.mem_filter.mp hw).1
  have hA : ∀ q : Nat, s.heap.size ≤ q → (fun q : Nat => s.heap.size ≤ q) q := fun _ h => h
  obtain ⟨adK, adV, F, hStr⟩ := st_str hts0 hgv
  obtain ⟨D, cA, hK⟩ := st_K hts
  have hw1 : va_Nw (.methodLinkNest RX2 9 yX1_init RX2) s := va_Nw.of rfl (hts0 (.methodLinkNest RX2 9 yX1_init RX2) (by decide +kernel))
  have hw2 : va_Nw (.methodLinkNest RX2 27 yX0_init RX2) s := va_Nw.of rfl (hts0 (.methodLinkNest RX2 27 yX0_init RX2) (by decide +kernel))
  have hS : va_S (fun q : Nat => s.heap.size ≤ q) s.heap s.heap [] := va_S.rf
  have hP : va_P D vwCl [] s.heap := fun k q h => by simp at h
  have hD : va_D (fun q : Nat => s.heap.size ≤ q) [] := ⟨fun i j p q h => by simp at h, fun k q h => by simp at h⟩
  have hl := lv_entry ([.ref b]) (n := 4) (Nat.le_of_ble_eq_true rfl)
  rw [lg_entry_eq]
  generalize (lg_sl ([.ref b]) ++ List.replicate (4 - (lg_sl ([.ref b])).length) Slot.unset).toArray = ls at hl ⊢
  have hl : lv_has ls 4 [(0, .ref b)] := hl
  refine va_new (ci := 2) (fs := fsT) (C := RX2) (T := TX2) (N := 9) hx hb hts (oTab (ci := 2) (by decide)).2.1 tyX2 tyX2_ok hown (hts (.classLink R_law 7 RX2) (inW_ok (by decide +kernel))) (hts (.instantiable RX2 9) (inW_ok (by decide +kernel))) (hts (.initialized RX2) (inW_ok (by decide +kernel))) hK hP hD hS hA rfl dfT (Nat.le_of_ble_eq_true rfl) (Nat.le_of_ble_eq_true rfl) (show decode code 0 = .ok (.new 7, 3) by decide +kernel) (fun h0 H hP hD hS => ?_)
  have hP : va_P D vwCl [(h0, .inr (2, fsT))] H := hP
  have hD : va_D (fun q : Nat => s.heap.size ≤ q) [(h0, .inr (2, fsT))] := hD
  refine W.widen (k := 1) (n := 9) (Nat.le_of_ble_eq_true rfl) (Nat.le_of_ble_eq_true rfl) ?_
  refine lv_dup hx hb (show decode code 3 = .ok (.dup, 1) by decide +kernel) rfl ?_
  have hFc := va_free (wc := [(h0, .inr (2, fsT))]) hD hS hA [0] rfl
  refine va_callv (va_runI (As := []) (rest := [.ref h0]) ⟨hx, hb, hml, hown, hts⟩ (c_Tas l D cA h0 H.size) (cwI 0 hts (gw_code (by decide +kernel)) rfl rfl rfl (hts (.initialized RX2) (inW_ok (by decide +kernel))) (hts (.methodLink R_law 9 yX2_init) (inW_ok (by decide +kernel))) (hts (.instanceMethod yX2_init) (inW_ok (by decide +kernel))) rfl (by decide +kernel) ⟨Nat.le_of_ble_eq_true rfl, Nat.le_of_ble_eq_true rfl⟩) ⟨ctPT_blind _ _ _ _, fun U hU hW => ⟨⟨rfl, by rw [hU], by rw [hU]; exact hP, va_K.moved hW.alike hK, hD.weaken (fun _ _ _ _ => trivial)⟩, hw1.warmM hW, hw2.warmM hW⟩⟩ rfl rfl hl.1 rfl (lv_room (Nat.le_of_ble_eq_true rfl)) (show decode code 4 = .ok (.invokespecial 9, 3) by decide +kernel) ⟨Nat.le_of_ble_eq_true rfl, Nat.le_of_ble_eq_true rfl⟩) hS (fun q _ h => hFc q h) hFc (fun u t H1 locs1 ht hvm hw hB hz1 hk1 hS1 => ?_)
  obtain ⟨hP1, hK1, hD1⟩ := hB
  rw [ht] at hP1
  obtain ⟨hP, hD⟩ := va_join (wr := []) (w1 := wdT cA h0 u) hP hD [0] [] rfl rfl (by decide) (by decide) hk1 hFc hP1 hD1
  have hP : va_P D vwCl (wdT cA h0 u) H1 := hP
  have hD : va_D (fun q : Nat => s.heap.size ≤ q) (wdT cA h0 u) := hD
  refine W.widen (k := 29) (n := 563) (Nat.le_of_ble_eq_true rfl) (Nat.le_of_ble_eq_true rfl) ?_
  refine lv_astore_n (lv' := [(1, .ref h0), (0, .ref b)]) hx hb (show decode code 7 = .ok (.astore_n 1, 1) by decide +kernel) rfl hl (by decide) rfl (fun ls hl => ?_)
  generalize hW0 : wdT cA h0 u = W0 at hP hD
  refine va_new (ci := 3) (fs := fsM) (C := RX3) (T := TX3) (N := 30) hx hb hts (oTab (ci := 3) (by decide)).2.1 tyX3 tyX3_ok hown (hts (.classLink R_law 10 RX3) (inW_ok (by decide +kernel))) (hts (.instantiable RX3 30) (inW_ok (by decide +kernel))) (hts (.initialized RX3) (inW_ok (by decide +kernel))) hK hP hD hS1 hA rfl dfM (Nat.le_of_ble_eq_true rfl) (Nat.le_of_ble_eq_true rfl) (show decode code 8 = .ok (.new 10, 3) by decide +kernel) (fun h1 H2 hP2 hD2 hS2 => ?_)
  refine W.widen (k := 30) (n := 593) (Nat.le_of_ble_eq_true rfl) (Nat.le_of_ble_eq_true rfl) ?_
  refine lv_dup hx hb (show decode code 11 = .ok (.dup, 1) by decide +kernel) rfl ?_
  have hPc := hP2.sub (ws' := [(h1, .inr (3, fsM))]) [W0.length] (by simp only [List.filterMap_cons, last_get, List.filterMap_nil])
  have hDc := hD2.sub (ws' := [(h1, .inr (3, fsM))]) [W0.length] (by simp [va_nd]) (by simp only [List.map_cons, last_get, List.map_nil])
  have hFc2 := va_free (wc := [(h1, .inr (3, fsM))]) hD2 hS2 hA [W0.length] (by simp only [List.map_cons, last_get, List.map_nil])
  refine va_callv (va_runI (As := []) (rest := [.ref h1]) ⟨hx, hb, hml, hown, hts⟩ (c_Mod l D cA h1 H2.size) (cwI 0 hts (gw_code (by decide +kernel)) rfl rfl rfl (hts (.initialized RX3) (inW_ok (by decide +kernel))) (hts (.methodLink R_law 12 yX3_init) (inW_ok (by decide +kernel))) (hts (.instanceMethod yX3_init) (inW_ok (by decide +kernel))) rfl (by decide +kernel) ⟨Nat.le_of_ble_eq_true rfl, Nat.le_of_ble_eq_true rfl⟩) ⟨ctPc_blind _ _ _ _ _, fun U hU hW => ⟨rfl, by rw [hU], by rw [hU]; exact hPc, va_K.moved hW.alike hK, hDc.weaken (fun _ _ _ _ => trivial)⟩⟩ rfl rfl hl.1 rfl (lv_room (Nat.le_of_ble_eq_true rfl)) (show decode code 12 = .ok (.invokespecial 12, 3) by decide +kernel) ⟨Nat.le_of_ble_eq_true rfl, Nat.le_of_ble_eq_true rfl⟩) hS2 (fun q _ h => hFc2 q h) hFc2 (fun v t2 H3 locs3 ht2 hvm2 hw3 hB2 hz2 hk2 hS3 => ?_)
  obtain ⟨hP3, hK3, hD3⟩ := hB2
  rw [ht2] at hP3
  obtain ⟨hP4, hD4⟩ := va_join (wr := W0) (w1 := wdM cA h1 v) hP2 hD2 [W0.length] (List.range W0.length) (by simp only [List.map_cons, last_get, List.map_nil]) (rng_get _ _) (nd_va List.nodup_range) (fun i hi z => by
    have h1 := List.mem_range.mp hi
    have h2 := List.mem_singleton.mp z
    omega) hk2 hFc2 hP3 hD3
  subst hW0
  rw [← w0_ws D cA adK adV F h0 h1 u v] at hP4 hD4
  refine W.widen (k := 43) (n := 1280) (Nat.le_of_ble_eq_true rfl) (Nat.le_of_ble_eq_true rfl) ?_
  refine lv_astore_n (lv' := [(2, .ref h1), (1, .ref h0), (0, .ref b)]) hx hb (show decode code 15 = .ok (.astore_n 2, 1) by decide +kernel) rfl hl (by decide) rfl (fun ls hl => ?_)
  refine lv_iconst (v := 0) hx hb (show decode code 16 = .ok (.iconst 0, 1) by decide +kernel) (by decide) ?_
  refine lv_istore_n (lv' := [(3, .int 0), (2, .ref h1), (1, .ref h0), (0, .ref b)]) hx hb (show decode code 17 = .ok (.istore_n 3, 1) by decide +kernel) rfl hl (by decide) rfl (fun ls hl => ?_)
  obtain ⟨E, hE⟩ : ∃ E, E = mEof D cA (h0 :: (adT u ++ h1 :: adM v)) adK adV F := ⟨_, rfl⟩
  have e0 : mAd E 0 0 = h0 := by rw [hE]; exact mAd_0 D cA adK adV F h0 _
  have e1 : mAd E 11 0 = h1 := by rw [hE]; exact mAd_11 D cA adK adV F h0 h1 u v
  have e2 : mStr E (fun q : Nat => s.heap.size ≤ q) s := hStr E (by rw [hE]; rfl) (by rw [hE]; rfl) (by rw [hE]; rfl)
  have e3 : va_K E.1 vwCl [(E.2.1, .int)] s := by rw [hE]; exact hK
  rw [← hE] at hP4 hD4
  have e4 : mHold E (fun q : Nat => s.heap.size ≤ q) w0 H3 := ⟨by rw [hE] at hP4 ⊢; exact hP4, hD4⟩
  refine lw_loop (E := E) hL ⟨hx, hb, hml, hown, hts, e3, e2⟩ hX hbl hr hlocks (L + 1) 0 (by omega) (Nat.zero_le _) w0 st0 H3 locs3 ls ⟨⟨Kls0, Mdl0, SI0⟩, e4, hS3⟩ ?_
  rw [e0, e1]
  exact lv_sub hl [3, 2, 1, 0] rfl
set_option maxHeartbeats 4000000 in
theorem lw_walk (l : Launch) (hflags : l.flags = flags0) (b : Addr) (xs : List Int32) : MetFree l x (headSpec (Jvm.Cond.code x code maxLocals ret :: tables_1) room_1) (lw_P b xs) (fun _ _ _ _ _ => True) lw_Q := by
  refine MetFree.of_bodyS (code := code) (maxLocals := maxLocals) (ret := ret) (by decide) ?_ ?_
  · intro args s m h hn
    obtain ⟨meth, c, h1, h2, h3, h4, h5, h6, -, -⟩ := Cond.code_spec hn (atoms_spec (ws := Jvm.Cond.code x code maxLocals ret :: tables_1) h _ List.mem_cons_self)
    exact ⟨meth, c, h1, h2, h3, h4, h5, h6⟩
  · intro p e s m args below meth c s₁ B hml0 hP _
    obtain ⟨rfl, hx, hbd, hgv⟩ := hP
    obtain ⟨scr, harrAt, hlist, hof, hsmall⟩ := hx
    obtain ⟨hcb, hkn, -, -⟩ := State.arrayAt?_spec harrAt
    have hown : s.vm.findClass R_law = some m.cls := findClass_of_methodNamed B.named
    have hts0 : ∀ c ∈ (Jvm.Cond.code x code maxLocals ret :: tables_1), c.before #[Value.ref b] s = true := atoms_spec (ws := Jvm.Cond.code x code maxLocals ret :: tables_1) B.pre
    have hts : ∀ w ∈ lw_tbl, w.before #[Value.ref b] s = true := k2_hts_sels lw_privs (fun w hw => hts0 w (List.mem_cons_of_mem _ hw)) lw_privs_ok
    have hml : c.maxLocals = 4 := B.maxLocals_eq (hts0 _ List.mem_cons_self)
    have X₀ : Stand p l e room_1 s m #[Value.ref b] below meth c s₁ [] 0 0 := Stand.of_body B
    have hh0 : s₁.heap = s.heap := by rw [B.state]; rfl
    have hsz : scr.slots.size = xs.length := by rw [← Array.length_toList, hlist, List.length_map]
    have hval : ∀ j : Nat, j < xs.length → scr.slots[j]? = some (.int (xs.getD j 0)) := fun j hj => by
      rw [← Array.getElem?_toList, hlist]
      simp [hj]
    have hbl : b < s.heap.size := (Array.getElem?_eq_some_iff.mp hcb).1
    have hX : va_X b xs.length (fun j => xs.getD j 0) s s.heap := ⟨scr, hcb, hof, hkn, hsz, hval⟩
    have K : W p l e room_1 s m #[Value.ref b] below meth c s₁.heap [] 0 0 (lw_Z below #[Value.ref b] s) (entryFrame m ([Value.ref b] : List Value).toArray 4) := by
      rw [hh0]
      exact whole_start l hflags hbd ⟨B.exec, B.bytes, B.returns, hml, hown, hts, hX, hbl, B.notSynchronized, hgv⟩
    obtain ⟨t, a1, o, b1, b2, b3⟩ := K s₁ rfl X₀
    exact ⟨t, o, a1, b1, b2, b3⟩
theorem lw_pre_spec {args : Array Value} {s : State} (h : (Jvm.Cond.and given_1 narrow_1).before args s = true) (hr : rest_1_c.before args s = true) : ∃ (b : Addr) (xs : List Int32), lw_P b xs args s := by
  have hs := flat_of_before _ h
  have hq := flat_of_before _ hr
  have hc : (Cond.count 1).before args s = true := hs _ (by decide +kernel)
  have harr : (Cond.arrayOf (.arg 0) .int).before args s = true := hs _ (by decide +kernel)
  have hle : (Cond.le (.length (.arg 0)) (.int 2048)).before args s = true := hs _ (by decide +kernel)
  have hlen : (Cond.isInt (.length (.arg 0))).before args s = true := hq _ (by decide +kernel)
  have hall : (Cond.all (.arg 0) (.isInt (.elem (.arg 0) (.index 0)))).before args s = true := hq _ (by decide +kernel)
  obtain ⟨b, xs, hb, hx⟩ := State.ints_of_pre rfl harr hlen hall
  have hsm : xs.length < 2 ^ 31 := hx.choose_spec.2.2.2
  have hev : (Term.length (.arg 0)).eval args s none [] s = some (.int xs.length.toInt32) := hx.length_eval hb
  have hv := Cond.le_ints hev (show (Term.int 2048).eval args s none [] s = some (.int 2048) from rfl)
  have hd : xs.length.toInt32 ≤ 2048 := by
    simpa [Cond.before, Cond.holds, hv] using hle
  have hN : xs.length ≤ 2048 := (Int32.ofNat_le_ofNat hsm (by decide)).mp (show Int32.ofNat xs.length ≤ Int32.ofNat 2048 from hd)
  exact ⟨b, xs, Cond.one_arg hc (show args[0]? = some (.ref b) from hb), hx, hN, h⟩
theorem lw_comes (l : Launch) (hflags : l.flags = flags0) : Comes l x (Jvm.Cond.code x code maxLocals ret :: tables_1) room_1 (fun tb e args s => Calls_1 tb e args s ∧ rest_1 tb e args s ∧ Pre_1 tb e args s)
    (fun _ _ args s o t => lw_Q args s o t) := by
  intro p e ha hc hk s m args below hf hfit hheap happ hpre
  obtain ⟨b, xs, hP⟩ := lw_pre_spec hpre.2.2 hpre.2.1
  obtain ⟨k, o, h1, h2, h3, hQ⟩ := lw_walk l hflags b xs p e ha hc hk s m args below hf ((Spec.applies_iff_loose hf).mp happ).1 hP trivial
  exact ⟨k, o, h1, h2, h3, hQ⟩
theorem lw_frame {s t : State} {o : Outcome} {args : Array Value} (h : Framed s o t [] 43 1280) :
    Framed s o t (fieldLocs frame_1_writes args s ++ arrayLocs frame_1_arrays args s ++ staticLocs frame_1_statics s) 43 1280 := h
theorem lw_limb (L : Cond) (hL : ∀ (args : Array Value) (s t : State), L.after args s (.returned (some (.int 1))) t = true) :
    ArmFor flags0 classFile x code maxLocals ret World_1 tables_1 room_1 Calls_1 rest_1 Pre_1
      (fun tb e a s o t => postC L tb e a s o t ∧ Framed s o t (fieldLocs frame_1_writes a s ++ arrayLocs frame_1_arrays a s ++ staticLocs frame_1_statics s) 43 1280) := by
  intro l hflags _ _ p e ha hc hk s m args below hf hfit hheap happ hpre
  obtain ⟨k, o, h1, h2, h3, rfl, hF⟩ := lw_comes l hflags p e ha hc hk s m args below hf hfit hheap happ hpre
  exact ⟨k, _, h1, h2, h3, hL args s _, lw_frame hF⟩
theorem i_vc : Claimed_1_1 ∧ Claimed_1_2 := ⟨lw_limb limb_1_1 (fun args s t => by simp [limb_1_1, Cond.after, Cond.holds, Cond.value]), lw_limb limb_1_2 (fun args s t => Cond.after_iff.mpr (by
  first | (rw [show limb_1_2 = Cond.eq .result (.int 1) from rfl, Cond.eq_ints (x := 1) (y := 1) rfl rfl]; simp; done) | (simp [limb_1_2, Cond.value, Term.eval]; done)))⟩
