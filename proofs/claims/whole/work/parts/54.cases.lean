/-! ===== the law: its thirty cases ===== -/
theorem len0 {as : List Int32} (h : as.length = 0) : as = [] := by
  match as, h with
  | [], _ => rfl
theorem len1 {as : List Int32} (h : as.length = 1) : ∃ a, as = [a] := by
  match as, h with
  | [a], _ => exact ⟨a, rfl⟩
theorem len2 {as : List Int32} (h : as.length = 2) : ∃ a b, as = [a, b] := by
  match as, h with
  | [a, b], _ => exact ⟨a, b, rfl⟩
theorem len3 {as : List Int32} (h : as.length = 3) : ∃ a b c, as = [a, b, c] := by
  match as, h with
  | [a, b, c], _ => exact ⟨a, b, c, rfl⟩
theorem d_ts : decode code 32 = .ok (.tableswitch 877 0 29 #[136, 159, 172, 205, 238, 261, 284, 317, 340, 363, 396, 409, 443, 466, 489, 512, 535, 578, 591, 634, 647, 680, 703, 736, 759, 782, 795, 828, 841, 854], 136) := by decide +kernel
theorem lwb_0 : lwB 168 1 13 17 MX2_letter MX3_letter = true := by decide +kernel
theorem lwx_0 : lwX (168 + 1 + 5 * 1 + 3 + 1 + 5 * 1 + 3) = true := by decide +kernel
theorem lwb_1 : lwB 191 0 18 22 MX2_yard MX3_yard = true := by decide +kernel
theorem lwx_1 : lwX (191 + 1 + 5 * 0 + 3 + 1 + 5 * 0 + 3) = true := by decide +kernel
theorem lwb_2 : lwB 204 2 23 27 MX2_child MX3_child = true := by decide +kernel
theorem lwx_2 : lwX (204 + 1 + 5 * 2 + 3 + 1 + 5 * 2 + 3) = true := by decide +kernel
theorem lwb_3 : lwB 237 2 28 31 MX2_go MX3_go = true := by decide +kernel
theorem lwx_3 : lwX (237 + 1 + 5 * 2 + 3 + 1 + 5 * 2 + 3) = true := by decide +kernel
theorem lwb_4 : lwB 270 1 32 35 MX2_touch MX3_touch = true := by decide +kernel
theorem lwx_4 : lwX (270 + 1 + 5 * 1 + 3 + 1 + 5 * 1 + 3) = true := by decide +kernel
theorem lwb_5 : lwB 293 1 36 39 MX2_law MX3_law = true := by decide +kernel
theorem lwx_5 : lwX (293 + 1 + 5 * 1 + 3 + 1 + 5 * 1 + 3) = true := by decide +kernel
theorem lwb_6 : lwB 316 2 40 43 MX2_far MX3_far = true := by decide +kernel
theorem lwx_6 : lwX (316 + 1 + 5 * 2 + 3 + 1 + 5 * 2 + 3) = true := by decide +kernel
theorem lwb_7 : lwB 349 1 44 47 MX2_seconds MX3_seconds = true := by decide +kernel
theorem lwx_7 : lwX (349 + 1 + 5 * 1 + 3 + 1 + 5 * 1 + 3) = true := by decide +kernel
theorem lwb_8 : lwB 372 1 48 51 MX2_stand MX3_stand = true := by decide +kernel
theorem lwx_8 : lwX (372 + 1 + 5 * 1 + 3 + 1 + 5 * 1 + 3) = true := by decide +kernel
theorem lwb_9 : lwB 395 2 52 55 MX2_where MX3_where = true := by decide +kernel
theorem lwx_9 : lwX (395 + 1 + 5 * 2 + 3 + 1 + 5 * 2 + 3) = true := by decide +kernel
theorem lwb_10 : lwB 428 0 56 59 MX2_over MX3_over = true := by decide +kernel
theorem lwx_10 : lwX (428 + 1 + 5 * 0 + 3 + 1 + 5 * 0 + 3) = true := by decide +kernel
theorem lwb_11 : lwB 441 2 60 64 MX2_mean MX3_mean = true := by decide +kernel
theorem lwx_11 : lwY (441 + 1 + 5 * 2 + 3 + 1 + 5 * 2 + 3) = true := by decide +kernel
theorem lwb_12 : lwB 475 1 65 68 MX2_frees MX3_frees = true := by decide +kernel
theorem lwx_12 : lwX (475 + 1 + 5 * 1 + 3 + 1 + 5 * 1 + 3) = true := by decide +kernel
theorem lwb_13 : lwB 498 1 69 72 MX2_never MX3_never = true := by decide +kernel
theorem lwx_13 : lwX (498 + 1 + 5 * 1 + 3 + 1 + 5 * 1 + 3) = true := by decide +kernel
theorem lwb_14 : lwB 521 1 73 76 MX2_mayFree MX3_mayFree = true := by decide +kernel
theorem lwx_14 : lwX (521 + 1 + 5 * 1 + 3 + 1 + 5 * 1 + 3) = true := by decide +kernel
theorem lwb_15 : lwB 544 1 77 80 MX2_worth MX3_worth = true := by decide +kernel
theorem lwx_15 : lwX (544 + 1 + 5 * 1 + 3 + 1 + 5 * 1 + 3) = true := by decide +kernel
theorem lwb_16 : lwB 567 3 81 85 MX2_hunt MX3_hunt = true := by decide +kernel
theorem lwx_16 : lwX (567 + 1 + 5 * 3 + 3 + 1 + 5 * 3 + 3) = true := by decide +kernel
theorem lwb_17 : lwB 610 0 86 89 MX2_enough MX3_enough = true := by decide +kernel
theorem lwx_17 : lwX (610 + 1 + 5 * 0 + 3 + 1 + 5 * 0 + 3) = true := by decide +kernel
theorem lwb_18 : lwB 623 3 90 93 MX2_change MX3_change = true := by decide +kernel
theorem lwx_18 : lwX (623 + 1 + 5 * 3 + 3 + 1 + 5 * 3 + 3) = true := by decide +kernel
theorem lwb_19 : lwB 666 0 94 97 MX2_longest MX3_longest = true := by decide +kernel
theorem lwx_19 : lwX (666 + 1 + 5 * 0 + 3 + 1 + 5 * 0 + 3) = true := by decide +kernel
theorem lwb_20 : lwB 679 2 98 101 MX2_owes MX3_owes = true := by decide +kernel
theorem lwx_20 : lwX (679 + 1 + 5 * 2 + 3 + 1 + 5 * 2 + 3) = true := by decide +kernel
theorem lwb_21 : lwB 712 1 102 105 MX2_debt MX3_debt = true := by decide +kernel
theorem lwx_21 : lwX (712 + 1 + 5 * 1 + 3 + 1 + 5 * 1 + 3) = true := by decide +kernel
theorem lwb_22 : lwB 735 2 106 109 MX2_why MX3_why = true := by decide +kernel
theorem lwx_22 : lwX (735 + 1 + 5 * 2 + 3 + 1 + 5 * 2 + 3) = true := by decide +kernel
theorem lwb_23 : lwB 768 1 110 113 MX2_row MX3_row = true := by decide +kernel
theorem lwx_23 : lwX (768 + 1 + 5 * 1 + 3 + 1 + 5 * 1 + 3) = true := by decide +kernel
theorem lwb_24 : lwB 791 1 114 117 MX2_fits MX3_fits = true := by decide +kernel
theorem lwx_24 : lwX (791 + 1 + 5 * 1 + 3 + 1 + 5 * 1 + 3) = true := by decide +kernel
theorem lwb_25 : lwB 814 0 118 121 MX2_judge MX3_judge = true := by decide +kernel
theorem lwx_25 : lwX (814 + 1 + 5 * 0 + 3 + 1 + 5 * 0 + 3) = true := by decide +kernel
theorem lwb_26 : lwB 827 2 122 125 MX2_lots MX3_lots = true := by decide +kernel
theorem lwx_26 : lwX (827 + 1 + 5 * 2 + 3 + 1 + 5 * 2 + 3) = true := by decide +kernel
theorem lwb_27 : lwB 860 0 126 129 MX2_image MX3_image = true := by decide +kernel
theorem lwx_27 : lwX (860 + 1 + 5 * 0 + 3 + 1 + 5 * 0 + 3) = true := by decide +kernel
theorem lwb_28 : lwB 873 0 130 133 MX2_on MX3_on = true := by decide +kernel
theorem lwx_28 : lwX (873 + 1 + 5 * 0 + 3 + 1 + 5 * 0 + 3) = true := by decide +kernel
theorem lwb_29 : lwB 886 1 134 137 MX2_count MX3_count = true := by decide +kernel
theorem lwx_29 : lwX (886 + 1 + 5 * 1 + 3 + 1 + 5 * 1 + 3) = true := by decide +kernel
section LV
variable {E : mEnv} {p : Program} {l : Launch} {e : Env} {s : State} {m : MethodId} {below : List Frame} {meth : Method} {c : Code} {Z : State → Prop} {b L : Nat} {xs : Nat → Int32} {w : mW} {st : St} {H : Heap} {locs : List Loc} {ls : Array Slot} {k0 : Nat}
set_option maxHeartbeats 4000000 in
set_option maxRecDepth 100000 in
theorem lw_sw (hc : mCtx E (fun q : Nat => s.heap.size ≤ q) p s m #[Value.ref b] c ML) (hX : va_X b L xs s s.heap) (hbl : b < s.heap.size) (hL : L ≤ 2048) (hi : k0 + 4 ≤ L) (hl : lv_has ls 4 [(0, .ref b), (1, .ref (mAd E 0 0)), (2, .ref (mAd E 11 0)), (3, .int (nI k0))]) (hI : lw_I E s w st H locs)
    (kk : ∀ (w1 : mW) (st1 : St) (H1 : Heap) (locs1 : List Loc), lw_I E s w1 st1 H1 locs1 → W p l e room_1 s m #[Value.ref b] below meth c H1 locs1 43 1280 Z (F0 m 909 ls [])) (y : Int32) : W p l e room_1 s m #[Value.ref b] below meth c H locs 43 1280 Z (F0 m 32 ls [.int y]) := by
  rcases pk_ix y (n := 30) (by decide) with g | g | ⟨j, g1, rfl⟩
  · exact lv_tableOut (tgt := 909) hc.1 hc.2.1 d_ts (Or.inl (Int32.lt_iff_toInt_lt.mp g)) (by decide) (kk w st H locs hI)
  · refine lv_tableOut (tgt := 909) hc.1 hc.2.1 d_ts (Or.inr ?_) (by decide) (kk w st H locs hI)
    have := Int32.le_iff_toInt_le.mp g
    rw [nI_toInt (by omega)] at this
    omega
  · match j, g1 with
    | 0, _ => exact lv_tableIn (off := 136) (tgt := 168) hc.1 hc.2.1 d_ts (by decide) (by decide) (by first | rfl | decide +kernel) (by decide) (lw_case hc hX hbl hL hi hl hI kk (Pf := fun st as => P_letter st (as.getD 0 0)) lwb_0 lwx_0 (fun w st as ha hC hS => by obtain ⟨a, rfl⟩ := len1 ha; exact ev_letter hC (by decide) a) (fun w st as ha hC hS => by obtain ⟨a, rfl⟩ := len1 ha; exact em_letter hC hS (by decide) a) (fun st as h => S_letter h _))
    | 1, _ => exact lv_tableIn (off := 159) (tgt := 191) hc.1 hc.2.1 d_ts (by decide) (by decide) (by first | rfl | decide +kernel) (by decide) (lw_case hc hX hbl hL hi hl hI kk (Pf := fun st as => P_yard st ) lwb_1 lwx_1 (fun w st as ha hC hS => by obtain rfl := len0 ha; exact ev_yard hC hS (by decide) ) (fun w st as ha hC hS => by obtain rfl := len0 ha; exact em_yard hC hS (by decide) ) (fun st as h => S_yard h ))
    | 2, _ => exact lv_tableIn (off := 172) (tgt := 204) hc.1 hc.2.1 d_ts (by decide) (by decide) (by first | rfl | decide +kernel) (by decide) (lw_case hc hX hbl hL hi hl hI kk (Pf := fun st as => P_child st (as.getD 0 0) (as.getD 1 0)) lwb_2 lwx_2 (fun w st as ha hC hS => by obtain ⟨a, b, rfl⟩ := len2 ha; exact ev_child hC hS (by decide) a b) (fun w st as ha hC hS => by obtain ⟨a, b, rfl⟩ := len2 ha; exact em_child hC hS (by decide) a b) (fun st as h => S_child h _ _))
    | 3, _ => exact lv_tableIn (off := 205) (tgt := 237) hc.1 hc.2.1 d_ts (by decide) (by decide) (by first | rfl | decide +kernel) (by decide) (lw_case hc hX hbl hL hi hl hI kk (Pf := fun st as => P_go st (as.getD 0 0) (as.getD 1 0)) lwb_3 lwx_3 (fun w st as ha hC hS => by obtain ⟨a, b, rfl⟩ := len2 ha; exact ev_go hC hS (by decide) a b) (fun w st as ha hC hS => by obtain ⟨a, b, rfl⟩ := len2 ha; exact em_go hC hS (by decide) a b) (fun st as h => S_go h _ _))
    | 4, _ => exact lv_tableIn (off := 238) (tgt := 270) hc.1 hc.2.1 d_ts (by decide) (by decide) (by first | rfl | decide +kernel) (by decide) (lw_case hc hX hbl hL hi hl hI kk (Pf := fun st as => P_touch st (as.getD 0 0)) lwb_4 lwx_4 (fun w st as ha hC hS => by obtain ⟨a, rfl⟩ := len1 ha; exact ev_touch hC hS (by decide) a) (fun w st as ha hC hS => by obtain ⟨a, rfl⟩ := len1 ha; exact em_touch hC hS (by decide) a) (fun st as h => S_touch h _))
    | 5, _ => exact lv_tableIn (off := 261) (tgt := 293) hc.1 hc.2.1 d_ts (by decide) (by decide) (by first | rfl | decide +kernel) (by decide) (lw_case hc hX hbl hL hi hl hI kk (Pf := fun st as => P_law st (as.getD 0 0)) lwb_5 lwx_5 (fun w st as ha hC hS => by obtain ⟨a, rfl⟩ := len1 ha; exact ev_law hC hS (by decide) a) (fun w st as ha hC hS => by obtain ⟨a, rfl⟩ := len1 ha; exact em_law hC hS (by decide) a) (fun st as h => S_law h _))
    | 6, _ => exact lv_tableIn (off := 284) (tgt := 316) hc.1 hc.2.1 d_ts (by decide) (by decide) (by first | rfl | decide +kernel) (by decide) (lw_case hc hX hbl hL hi hl hI kk (Pf := fun st as => P_far st (as.getD 0 0) (as.getD 1 0)) lwb_6 lwx_6 (fun w st as ha hC hS => by obtain ⟨a, b, rfl⟩ := len2 ha; exact ev_far hC (by decide) a b) (fun w st as ha hC hS => by obtain ⟨a, b, rfl⟩ := len2 ha; exact em_far' hC (by decide) a b) (fun st as h => S_far h _ _))
    | 7, _ => exact lv_tableIn (off := 317) (tgt := 349) hc.1 hc.2.1 d_ts (by decide) (by decide) (by first | rfl | decide +kernel) (by decide) (lw_case hc hX hbl hL hi hl hI kk (Pf := fun st as => P_seconds st (as.getD 0 0)) lwb_7 lwx_7 (fun w st as ha hC hS => by obtain ⟨a, rfl⟩ := len1 ha; exact ev_seconds hC hS (by decide) a) (fun w st as ha hC hS => by obtain ⟨a, rfl⟩ := len1 ha; exact em_seconds hC hS (by decide) a) (fun st as h => S_seconds h _))
    | 8, _ => exact lv_tableIn (off := 340) (tgt := 372) hc.1 hc.2.1 d_ts (by decide) (by decide) (by first | rfl | decide +kernel) (by decide) (lw_case hc hX hbl hL hi hl hI kk (Pf := fun st as => P_stand st (as.getD 0 0)) lwb_8 lwx_8 (fun w st as ha hC hS => by obtain ⟨a, rfl⟩ := len1 ha; exact ev_stand hC hS (by decide) a) (fun w st as ha hC hS => by obtain ⟨a, rfl⟩ := len1 ha; exact em_stand hC hS (by decide) a) (fun st as h => S_stand h _))
    | 9, _ => exact lv_tableIn (off := 363) (tgt := 395) hc.1 hc.2.1 d_ts (by decide) (by decide) (by first | rfl | decide +kernel) (by decide) (lw_case hc hX hbl hL hi hl hI kk (Pf := fun st as => P_where st (as.getD 0 0) (as.getD 1 0)) lwb_9 lwx_9 (fun w st as ha hC hS => by obtain ⟨a, b, rfl⟩ := len2 ha; exact ev_where hC hS (by decide) a b) (fun w st as ha hC hS => by obtain ⟨a, b, rfl⟩ := len2 ha; exact em_where hC hS (by decide) a b) (fun st as h => S_where h _ _))
    | 10, _ => exact lv_tableIn (off := 396) (tgt := 428) hc.1 hc.2.1 d_ts (by decide) (by decide) (by first | rfl | decide +kernel) (by decide) (lw_case hc hX hbl hL hi hl hI kk (Pf := fun st as => P_over st ) lwb_10 lwx_10 (fun w st as ha hC hS => by obtain rfl := len0 ha; exact ev_over hC hS (by decide) ) (fun w st as ha hC hS => by obtain rfl := len0 ha; exact em_over hC hS (by decide) ) (fun st as h => S_over h ))
    | 11, _ => exact lv_tableIn (off := 409) (tgt := 441) hc.1 hc.2.1 d_ts (by decide) (by decide) (by first | rfl | decide +kernel) (by decide) (lw_caseJ hc hX hbl hL hi hl hI kk (Pf := fun st as => P_mean st (as.getD 0 0) (as.getD 1 0)) lwb_11 lwx_11 (fun w st as ha hC hS => by obtain ⟨a, b, rfl⟩ := len2 ha; exact ev_mean hC hS (by decide) a b) (fun w st as ha hC hS => by obtain ⟨a, b, rfl⟩ := len2 ha; exact em_mean hC hS (by decide) a b) (fun st as h => S_mean h _ _))
    | 12, _ => exact lv_tableIn (off := 443) (tgt := 475) hc.1 hc.2.1 d_ts (by decide) (by decide) (by first | rfl | decide +kernel) (by decide) (lw_case hc hX hbl hL hi hl hI kk (Pf := fun st as => P_frees st (as.getD 0 0)) lwb_12 lwx_12 (fun w st as ha hC hS => by obtain ⟨a, rfl⟩ := len1 ha; exact ev_frees hC hS (by decide) a) (fun w st as ha hC hS => by obtain ⟨a, rfl⟩ := len1 ha; exact em_frees hC hS (by decide) a) (fun st as h => S_frees h _))
    | 13, _ => exact lv_tableIn (off := 466) (tgt := 498) hc.1 hc.2.1 d_ts (by decide) (by decide) (by first | rfl | decide +kernel) (by decide) (lw_case hc hX hbl hL hi hl hI kk (Pf := fun st as => P_never st (as.getD 0 0)) lwb_13 lwx_13 (fun w st as ha hC hS => by obtain ⟨a, rfl⟩ := len1 ha; exact ev_never hC hS (by decide) a) (fun w st as ha hC hS => by obtain ⟨a, rfl⟩ := len1 ha; exact em_never hC hS (by decide) a) (fun st as h => S_never h _))
    | 14, _ => exact lv_tableIn (off := 489) (tgt := 521) hc.1 hc.2.1 d_ts (by decide) (by decide) (by first | rfl | decide +kernel) (by decide) (lw_case hc hX hbl hL hi hl hI kk (Pf := fun st as => P_mayFree st (as.getD 0 0)) lwb_14 lwx_14 (fun w st as ha hC hS => by obtain ⟨a, rfl⟩ := len1 ha; exact ev_mayFree hC hS (by decide) a) (fun w st as ha hC hS => by obtain ⟨a, rfl⟩ := len1 ha; exact em_mayFree hC hS (by decide) a) (fun st as h => S_mayFree h _))
    | 15, _ => exact lv_tableIn (off := 512) (tgt := 544) hc.1 hc.2.1 d_ts (by decide) (by decide) (by first | rfl | decide +kernel) (by decide) (lw_case hc hX hbl hL hi hl hI kk (Pf := fun st as => P_worth st (as.getD 0 0)) lwb_15 lwx_15 (fun w st as ha hC hS => by obtain ⟨a, rfl⟩ := len1 ha; exact ev_worth hC hS (by decide) a) (fun w st as ha hC hS => by obtain ⟨a, rfl⟩ := len1 ha; exact em_worth hC hS (by decide) a) (fun st as h => S_worth h _))
    | 16, _ => exact lv_tableIn (off := 535) (tgt := 567) hc.1 hc.2.1 d_ts (by decide) (by decide) (by first | rfl | decide +kernel) (by decide) (lw_case hc hX hbl hL hi hl hI kk (Pf := fun st as => P_hunt st (as.getD 0 0) (as.getD 1 0) (as.getD 2 0)) lwb_16 lwx_16 (fun w st as ha hC hS => by obtain ⟨a, b, c, rfl⟩ := len3 ha; exact ev_hunt hC hS (by decide) a b c) (fun w st as ha hC hS => by obtain ⟨a, b, c, rfl⟩ := len3 ha; exact em_hunt hC hS (by decide) a b c) (fun st as h => S_hunt h _ _ _))
    | 17, _ => exact lv_tableIn (off := 578) (tgt := 610) hc.1 hc.2.1 d_ts (by decide) (by decide) (by first | rfl | decide +kernel) (by decide) (lw_case hc hX hbl hL hi hl hI kk (Pf := fun st as => P_enough st ) lwb_17 lwx_17 (fun w st as ha hC hS => by obtain rfl := len0 ha; exact ev_enough hC hS (by decide) ) (fun w st as ha hC hS => by obtain rfl := len0 ha; exact em_enough hC hS (by decide) ) (fun st as h => S_enough h ))
    | 18, _ => exact lv_tableIn (off := 591) (tgt := 623) hc.1 hc.2.1 d_ts (by decide) (by decide) (by first | rfl | decide +kernel) (by decide) (lw_case hc hX hbl hL hi hl hI kk (Pf := fun st as => P_change st (as.getD 0 0) (as.getD 1 0) (as.getD 2 0)) lwb_18 lwx_18 (fun w st as ha hC hS => by obtain ⟨a, b, c, rfl⟩ := len3 ha; exact ev_change hC hS (by decide) a b c) (fun w st as ha hC hS => by obtain ⟨a, b, c, rfl⟩ := len3 ha; exact em_change hC hS (by decide) a b c) (fun st as h => S_change h _ _ _))
    | 19, _ => exact lv_tableIn (off := 634) (tgt := 666) hc.1 hc.2.1 d_ts (by decide) (by decide) (by first | rfl | decide +kernel) (by decide) (lw_case hc hX hbl hL hi hl hI kk (Pf := fun st as => P_longest st ) lwb_19 lwx_19 (fun w st as ha hC hS => by obtain rfl := len0 ha; exact ev_longest hC hS (by decide) ) (fun w st as ha hC hS => by obtain rfl := len0 ha; exact em_longest hC hS (by decide) ) (fun st as h => S_longest h ))
    | 20, _ => exact lv_tableIn (off := 647) (tgt := 679) hc.1 hc.2.1 d_ts (by decide) (by decide) (by first | rfl | decide +kernel) (by decide) (lw_case hc hX hbl hL hi hl hI kk (Pf := fun st as => P_owes st (as.getD 0 0) (as.getD 1 0)) lwb_20 lwx_20 (fun w st as ha hC hS => by obtain ⟨a, b, rfl⟩ := len2 ha; exact ev_owes hC hS (by decide) a b) (fun w st as ha hC hS => by obtain ⟨a, b, rfl⟩ := len2 ha; exact em_owes hC hS (by decide) a b) (fun st as h => S_owes h _ _))
    | 21, _ => exact lv_tableIn (off := 680) (tgt := 712) hc.1 hc.2.1 d_ts (by decide) (by decide) (by first | rfl | decide +kernel) (by decide) (lw_case hc hX hbl hL hi hl hI kk (Pf := fun st as => P_debt st (as.getD 0 0)) lwb_21 lwx_21 (fun w st as ha hC hS => by obtain ⟨a, rfl⟩ := len1 ha; exact ev_debt hC hS (by decide) a) (fun w st as ha hC hS => by obtain ⟨a, rfl⟩ := len1 ha; exact em_debt hC hS (by decide) a) (fun st as h => S_debt h _))
    | 22, _ => exact lv_tableIn (off := 703) (tgt := 735) hc.1 hc.2.1 d_ts (by decide) (by decide) (by first | rfl | decide +kernel) (by decide) (lw_case hc hX hbl hL hi hl hI kk (Pf := fun st as => P_why st (as.getD 0 0) (as.getD 1 0)) lwb_22 lwx_22 (fun w st as ha hC hS => by obtain ⟨a, b, rfl⟩ := len2 ha; exact ev_why hC hS (by decide) a b) (fun w st as ha hC hS => by obtain ⟨a, b, rfl⟩ := len2 ha; exact em_why hC hS (by decide) a b) (fun st as h => S_why h _ _))
    | 23, _ => exact lv_tableIn (off := 736) (tgt := 768) hc.1 hc.2.1 d_ts (by decide) (by decide) (by first | rfl | decide +kernel) (by decide) (lw_case hc hX hbl hL hi hl hI kk (Pf := fun st as => P_row st (as.getD 0 0)) lwb_23 lwx_23 (fun w st as ha hC hS => by obtain ⟨a, rfl⟩ := len1 ha; exact ev_row hC hS (by decide) a) (fun w st as ha hC hS => by obtain ⟨a, rfl⟩ := len1 ha; exact em_row hC hS (by decide) a) (fun st as h => S_row h _))
    | 24, _ => exact lv_tableIn (off := 759) (tgt := 791) hc.1 hc.2.1 d_ts (by decide) (by decide) (by first | rfl | decide +kernel) (by decide) (lw_case hc hX hbl hL hi hl hI kk (Pf := fun st as => P_fits st (as.getD 0 0)) lwb_24 lwx_24 (fun w st as ha hC hS => by obtain ⟨a, rfl⟩ := len1 ha; exact ev_fits hC hS (by decide) a) (fun w st as ha hC hS => by obtain ⟨a, rfl⟩ := len1 ha; exact em_fits hC hS (by decide) a) (fun st as h => S_fits h _))
    | 25, _ => exact lv_tableIn (off := 782) (tgt := 814) hc.1 hc.2.1 d_ts (by decide) (by decide) (by first | rfl | decide +kernel) (by decide) (lw_case hc hX hbl hL hi hl hI kk (Pf := fun st as => P_judge st ) lwb_25 lwx_25 (fun w st as ha hC hS => by obtain rfl := len0 ha; exact ev_judge hC hS (by decide) ) (fun w st as ha hC hS => by obtain rfl := len0 ha; exact em_judge hC hS (by decide) ) (fun st as h => S_judge h ))
    | 26, _ => exact lv_tableIn (off := 795) (tgt := 827) hc.1 hc.2.1 d_ts (by decide) (by decide) (by first | rfl | decide +kernel) (by decide) (lw_case hc hX hbl hL hi hl hI kk (Pf := fun st as => P_lots st (as.getD 0 0) (as.getD 1 0)) lwb_26 lwx_26 (fun w st as ha hC hS => by obtain ⟨a, b, rfl⟩ := len2 ha; exact ev_lots hC hS (by decide) a b) (fun w st as ha hC hS => by obtain ⟨a, b, rfl⟩ := len2 ha; exact em_lots hC hS (by decide) a b) (fun st as h => S_lots h _ _))
    | 27, _ => exact lv_tableIn (off := 828) (tgt := 860) hc.1 hc.2.1 d_ts (by decide) (by decide) (by first | rfl | decide +kernel) (by decide) (lw_case hc hX hbl hL hi hl hI kk (Pf := fun st as => P_image st ) lwb_27 lwx_27 (fun w st as ha hC hS => by obtain rfl := len0 ha; exact ev_image hC hS (by decide) ) (fun w st as ha hC hS => by obtain rfl := len0 ha; exact em_image hC hS (by decide) ) (fun st as h => S_image h ))
    | 28, _ => exact lv_tableIn (off := 841) (tgt := 873) hc.1 hc.2.1 d_ts (by decide) (by decide) (by first | rfl | decide +kernel) (by decide) (lw_case hc hX hbl hL hi hl hI kk (Pf := fun st as => P_on st ) lwb_28 lwx_28 (fun w st as ha hC hS => by obtain rfl := len0 ha; exact ev_on hC hS (by decide) ) (fun w st as ha hC hS => by obtain rfl := len0 ha; exact em_on hC hS (by decide) ) (fun st as h => S_on h ))
    | 29, _ => exact lv_tableIn (off := 854) (tgt := 886) hc.1 hc.2.1 d_ts (by decide) (by decide) (by first | rfl | decide +kernel) (by decide) (lw_case hc hX hbl hL hi hl hI kk (Pf := fun st as => P_count st (as.getD 0 0)) lwb_29 lwx_29 (fun w st as ha hC hS => by obtain ⟨a, rfl⟩ := len1 ha; exact ev_count hC hS (by decide) a) (fun w st as ha hC hS => by obtain ⟨a, rfl⟩ := len1 ha; exact em_count hC hS (by decide) a) (fun st as h => S_count h _))
    | n + 30, h => exact absurd h (by omega)
theorem nI_sub4 {L k0 : Nat} (hL : L ≤ 2048) (hk : k0 ≤ L) (h : ¬ Int32.ofNat L - 4 < nI k0) : k0 + 4 ≤ L := by
  have h : ¬ nI L - 4 < nI k0 := h
  rcases Nat.lt_or_ge L 4 with g | g
  · exfalso
    apply h
    have h4 : nI L - 4 < 0 := by
      have : L = 0 ∨ L = 1 ∨ L = 2 ∨ L = 3 := by omega
      rcases this with rfl | rfl | rfl | rfl <;> decide
    exact Int32.lt_of_lt_of_le h4 (nI_pos' (by omega))
  · obtain ⟨k, rfl⟩ : ∃ k, L = k + 4 := ⟨L - 4, by omega⟩
    have e : nI (k + 4) - 4 = nI k := by
      rw [← nI_add]
      exact Int32.add_sub_cancel (nI k) 4
    rw [e, nI_ltI (by omega) (by omega)] at h
    omega
set_option maxHeartbeats 4000000 in
set_option maxRecDepth 100000 in
theorem lw_loop (hL : L ≤ 2048) (hc : mCtx E (fun q : Nat => s.heap.size ≤ q) p s m #[Value.ref b] c ML) (hX : va_X b L xs s s.heap) (hbl : b < s.heap.size) (hr : meth.sig.returnType = ret) (hlocks : meth.locks = false) : ∀ (n k0 : Nat), L + 1 ≤ k0 + n → k0 ≤ L → ∀ (w : mW) (st : St) (H : Heap) (locs : List Loc) (ls : Array Slot), lw_I E s w st H locs → lv_has ls 4 [(0, .ref b), (1, .ref (mAd E 0 0)), (2, .ref (mAd E 11 0)), (3, .int (nI k0))] → W p l e room_1 s m #[Value.ref b] below meth c H locs 43 1280 (lw_Z below #[Value.ref b] s) (F0 m 18 ls []) := by
  intro n
  induction n with
  | zero =>
    intro k0 h1 h2
    exact absurd h1 (by omega)
  | succ n ih =>
    intro k0 h1 h2 w st H locs ls hI hl
    have hS := hI.2.2
    refine lv_iload_n hc.1 hc.2.1 (show decode code 18 = .ok (.iload_n 3, 1) by decide +kernel) rfl (lv_at hl 3 rfl) ?_
    refine lv_aload_n hc.1 hc.2.1 (show decode code 19 = .ok (.aload_n 0, 1) by decide +kernel) rfl (lv_at hl 0 rfl) ?_
    refine va_slen hc.1 hc.2.1 hX hbl (Nat.not_le.mpr hbl) hS (show decode code 20 = .ok (.arraylength, 1) by decide +kernel) ?_
    refine lv_iconst (v := 4) hc.1 hc.2.1 (show decode code 21 = .ok (.iconst 4, 1) by decide +kernel) (by decide) ?_
    refine lv_isub hc.1 hc.2.1 (show decode code 22 = .ok (.isub, 1) by decide +kernel) ?_
    refine lv_icmp_gt (tgt := 915) hc.1 hc.2.1 (show decode code 23 = .ok (.if_icmp .gt 892, 3) by decide +kernel) (by decide) (fun c9 => ?_) (fun c9 => ?_)
    · refine lv_iconst (v := 1) hc.1 hc.2.1 (show decode code 915 = .ok (.iconst 1, 1) by decide +kernel) (by decide) ?_
      refine va_forget (fun q hq => hS.2.2 q hq) ?_
      exact lw_ret hc.1 hc.2.1 hr hlocks (show decode code 916 = .ok (.ireturn, 1) by decide +kernel)
    · have hi : k0 + 4 ≤ L := nI_sub4 hL h2 c9
      refine lv_aload_n hc.1 hc.2.1 (show decode code 26 = .ok (.aload_n 0, 1) by decide +kernel) rfl (lv_at hl 0 rfl) ?_
      refine lv_iload_n hc.1 hc.2.1 (show decode code 27 = .ok (.iload_n 3, 1) by decide +kernel) rfl (lv_at hl 3 rfl) ?_
      refine va_sld hc.1 hc.2.1 hX hbl (Nat.not_le.mpr hbl) hS (vp_in_nI (by omega) (by omega)) (show decode code 28 = .ok (.iaload, 1) by decide +kernel) ?_
      refine lv_bipush (v := 31) hc.1 hc.2.1 (show decode code 29 = .ok (.bipush 31, 2) by decide +kernel) (by decide) ?_
      refine lv_iand hc.1 hc.2.1 (show decode code 31 = .ok (.iand, 1) by decide +kernel) ?_
      refine lw_sw hc hX hbl hL hi hl hI (fun w1 st1 H1 locs1 hI1 => ?_) _
      refine lv_iinc (v := nI (k0 + 4)) (lv' := [(3, .int (nI (k0 + 4))), (0, .ref b), (1, .ref (mAd E 0 0)), (2, .ref (mAd E 11 0))]) hc.1 hc.2.1 (show decode code 909 = .ok (.iinc 3 4, 3) by decide +kernel) hl (k := 3) rfl (by exact nI_add k0 4) (by decide) rfl (fun ls1 hl1 => ?_)
      refine lv_goto (tgt := 18) hc.1 hc.2.1 (show decode code 912 = .ok (.goto (-894), 3) by decide +kernel) (by decide) ?_
      exact ih (k0 + 4) (by omega) hi w1 st1 H1 locs1 ls1 hI1 (lv_sub hl1 [1, 2, 3, 0] rfl)
end LV
