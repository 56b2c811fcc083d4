theorem lw_gt {i L : Nat} (h : L < i + 6) (hi : i ≤ L + 6) (hL : L ≤ 3072) : Int32.ofNat L - (6 : Int32) < nI i := by
  rw [Int32.lt_iff_toInt_lt, show Int32.ofNat L - (6 : Int32) = nI L - nI 6 from rfl, pk_sub_toInt (by omega) (by omega), nI_toInt (by omega)]
  omega
theorem lw_ngt {i L : Nat} (h : i + 6 ≤ L) (hL : L ≤ 3072) : ¬ Int32.ofNat L - (6 : Int32) < nI i := by
  rw [Int32.lt_iff_toInt_lt, show Int32.ofNat L - (6 : Int32) = nI L - nI 6 from rfl, pk_sub_toInt (by omega) (by omega), nI_toInt (by omega)]
  omega
set_option maxHeartbeats 4000000 in
set_option maxRecDepth 100000 in
theorem law_sw {p : Program} {l : Launch} {e : Env} {s : State} {m : MethodId} {below : List Frame} {meth : Method} {c : Code} {G : fm_G} {σ : fm_M} {b L i : Nat} {xs : Nat → Int32} {H : Heap} {locs : List Loc} {ls : Array Slot} (hC : fm_C G p m c code 4 s #[Value.ref b] R_law) (hX : va_X b L xs s s.heap) (hbl : b < s.heap.size) (hbA : ¬ fm_A G b) (hi : i + 6 ≤ L) (hL : L ≤ 3072) (hI : fm_I G σ s H locs) (hv : Inv σ) (hl : lv_has ls 4 [(0, .ref b), (1, .ref (G.2.1 0)), (2, .ref (G.2.1 96)), (3, .int (nI i))])
    (K : ∀ (σ : fm_M) (H : Heap) (locs : List Loc), fm_I G σ s H locs → Inv σ → W p l e room_1 s m #[Value.ref b] below meth c H locs 600000 7302250 (lw_Z below #[Value.ref b] s) (F0 m 1462 ls [])) : ∀ (x : Int32) (j : Nat), j < 64 → x = nI j → W p l e room_1 s m #[Value.ref b] below meth c H locs 600000 7302250 (lw_Z below #[Value.ref b] s) (F0 m 33 ls [.int x]) := by
  have hx := hC.1.1
  have hb := hC.1.2.1
  intro x j hj ex
  subst ex
  by_cases h39 : j < 39
  · have h : j = 0 ∨ j = 1 ∨ j = 2 ∨ j = 3 ∨ j = 4 ∨ j = 5 ∨ j = 6 ∨ j = 7 ∨ j = 8 ∨ j = 9 ∨ j = 10 ∨ j = 11 ∨ j = 12 ∨ j = 13 ∨ j = 14 ∨ j = 15 ∨ j = 16 ∨ j = 17 ∨ j = 18 ∨ j = 19 ∨ j = 20 ∨ j = 21 ∨ j = 22 ∨ j = 23 ∨ j = 24 ∨ j = 25 ∨ j = 26 ∨ j = 27 ∨ j = 28 ∨ j = 29 ∨ j = 30 ∨ j = 31 ∨ j = 32 ∨ j = 33 ∨ j = 34 ∨ j = 35 ∨ j = 36 ∨ j = 37 ∨ j = 38 := by omega
    rcases h with rfl | rfl | rfl | rfl | rfl | rfl | rfl | rfl | rfl | rfl | rfl | rfl | rfl | rfl | rfl | rfl | rfl | rfl | rfl | rfl | rfl | rfl | rfl | rfl | rfl | rfl | rfl | rfl | rfl | rfl | rfl | rfl | rfl | rfl | rfl | rfl | rfl | rfl | rfl
    · exact lv_tableIn (off := 171) (tgt := 204) hx hb dL_33 (by decide) (by decide) (by decide) (by decide) (lc_person hC hX hbl hbA hi hL hI hv hl K)
    · exact lv_tableIn (off := 194) (tgt := 227) hx hb dL_33 (by decide) (by decide) (by decide) (by decide) (lc_of hC hX hbl hbA hi hL hI hv hl K)
    · exact lv_tableIn (off := 227) (tgt := 260) hx hb dL_33 (by decide) (by decide) (by decide) (by decide) (lc_does hC hX hbl hbA hi hL hI hv hl K)
    · exact lv_tableIn (off := 270) (tgt := 303) hx hb dL_33 (by decide) (by decide) (by decide) (by decide) (lc_joy hC hX hbl hbA hi hL hI hv hl K)
    · exact lv_tableIn (off := 303) (tgt := 336) hx hb dL_33 (by decide) (by decide) (by decide) (by decide) (lc_turn hC hX hbl hbA hi hL hI hv hl K)
    · exact lv_tableIn (off := 336) (tgt := 369) hx hb dL_33 (by decide) (by decide) (by decide) (by decide) (lc_as hC hX hbl hbA hi hL hI hv hl K)
    · exact lv_tableIn (off := 369) (tgt := 402) hx hb dL_33 (by decide) (by decide) (by decide) (by decide) (lc_present hC hX hbl hbA hi hL hI hv hl K)
    · exact lv_tableIn (off := 402) (tgt := 435) hx hb dL_33 (by decide) (by decide) (by decide) (by decide) (lc_presentOf hC hX hbl hbA hi hL hI hv hl K)
    · exact lv_tableIn (off := 435) (tgt := 468) hx hb dL_33 (by decide) (by decide) (by decide) (by decide) (lc_paper hC hX hbl hbA hi hL hI hv hl K)
    · exact lv_tableIn (off := 468) (tgt := 501) hx hb dL_33 (by decide) (by decide) (by decide) (by decide) (lc_wrap hC hX hbl hbA hi hL hI hv hl K)
    · exact lv_tableIn (off := 501) (tgt := 534) hx hb dL_33 (by decide) (by decide) (by decide) (by decide) (lc_unwrap hC hX hbl hbA hi hL hI hv hl K)
    · exact lv_tableIn (off := 524) (tgt := 557) hx hb dL_33 (by decide) (by decide) (by decide) (by decide) (lc_set hC hX hbl hbA hi hL hI hv hl K)
    · exact lv_tableIn (off := 567) (tgt := 600) hx hb dL_33 (by decide) (by decide) (by decide) (by decide) (lc_days hC hX hbl hbA hi hL hI hv hl K)
    · exact lv_tableIn (off := 590) (tgt := 623) hx hb dL_33 (by decide) (by decide) (by decide) (by decide) (lc_now hC hX hbl hbA hi hL hI hv hl K)
    · exact lv_tableIn (off := 613) (tgt := 646) hx hb dL_33 (by decide) (by decide) (by decide) (by decide) (lc_on hC hX hbl hbA hi hL hI hv hl K)
    · exact lv_tableIn (off := 656) (tgt := 689) hx hb dL_33 (by decide) (by decide) (by decide) (by decide) (lc_joyOn hC hX hbl hbA hi hL hI hv hl K)
    · exact lv_tableIn (off := 689) (tgt := 722) hx hb dL_33 (by decide) (by decide) (by decide) (by decide) (lc_found hC hX hbl hbA hi hL hI hv hl K)
    · exact lv_tableIn (off := 712) (tgt := 745) hx hb dL_33 (by decide) (by decide) (by decide) (by decide) (lc_comes hC hX hbl hbA hi hL hI hv hl K)
    · exact lv_tableIn (off := 745) (tgt := 778) hx hb dL_33 (by decide) (by decide) (by decide) (by decide) (lc_best hC hX hbl hbA hi hL hI hv hl K)
    · exact lv_tableIn (off := 778) (tgt := 811) hx hb dL_33 (by decide) (by decide) (by decide) (by decide) (lc_give hC hX hbl hbA hi hL hI hv hl K)
    · exact lv_tableIn (off := 811) (tgt := 844) hx hb dL_33 (by decide) (by decide) (by decide) (by decide) (lc_kind hC hX hbl hbA hi hL hI hv hl K)
    · exact lv_tableIn (off := 844) (tgt := 877) hx hb dL_33 (by decide) (by decide) (by decide) (by decide) (lc_least hC hX hbl hbA hi hL hI hv hl K)
    · exact lv_tableIn (off := 897) (tgt := 930) hx hb dL_33 (by decide) (by decide) (by decide) (by decide) (lc_order hC hX hbl hbA hi hL hI hv hl K)
    · exact lv_tableIn (off := 930) (tgt := 963) hx hb dL_33 (by decide) (by decide) (by decide) (by decide) (lc_happiest hC hX hbl hbA hi hL hI hv hl K)
    · exact lv_tableIn (off := 953) (tgt := 986) hx hb dL_33 (by decide) (by decide) (by decide) (by decide) (lc_enough hC hX hbl hbA hi hL hI hv hl K)
    · exact lv_tableIn (off := 996) (tgt := 1029) hx hb dL_33 (by decide) (by decide) (by decide) (by decide) (lc_feed hC hX hbl hbA hi hL hI hv hl K)
    · exact lv_tableIn (off := 1029) (tgt := 1062) hx hb dL_33 (by decide) (by decide) (by decide) (by decide) (lc_wipe hC hX hbl hbA hi hL hI hv hl K)
    · exact lv_tableIn (off := 1042) (tgt := 1075) hx hb dL_33 (by decide) (by decide) (by decide) (by decide) (lc_town hC hX hbl hbA hi hL hI hv hl K)
    · exact lv_tableIn (off := 1055) (tgt := 1088) hx hb dL_33 (by decide) (by decide) (by decide) (by decide) (lc_sheet hC hX hbl hbA hi hL hI hv hl K)
    · exact lv_tableIn (off := 1098) (tgt := 1131) hx hb dL_33 (by decide) (by decide) (by decide) (by decide) (lc_write hC hX hbl hbA hi hL hI hv hl K)
    · exact lv_tableIn (off := 1172) (tgt := 1205) hx hb dL_33 (by decide) (by decide) (by decide) (by decide) (lc_copy hC hX hbl hbA hi hL hI hv hl K)
    · exact lv_tableIn (off := 1235) (tgt := 1268) hx hb dL_33 (by decide) (by decide) (by decide) (by decide) (lc_lays hC hX hbl hbA hi hL hI hv hl K)
    · exact lv_tableIn (off := 1268) (tgt := 1301) hx hb dL_33 (by decide) (by decide) (by decide) (by decide) (lc_book hC hX hbl hbA hi hL hI hv hl K)
    · exact lv_tableIn (off := 1301) (tgt := 1334) hx hb dL_33 (by decide) (by decide) (by decide) (by decide) (lc_read hC hX hbl hbA hi hL hI hv hl K)
    · exact lv_tableIn (off := 1344) (tgt := 1377) hx hb dL_33 (by decide) (by decide) (by decide) (by decide) (lc_image hC hX hbl hbA hi hL hI hv hl K)
    · exact lv_tableIn (off := 1357) (tgt := 1390) hx hb dL_33 (by decide) (by decide) (by decide) (by decide) (lc_undo hC hX hbl hbA hi hL hI hv hl K)
    · exact lv_tableIn (off := 1370) (tgt := 1403) hx hb dL_33 (by decide) (by decide) (by decide) (by decide) (lc_tear hC hX hbl hbA hi hL hI hv hl K)
    · exact lv_tableIn (off := 1383) (tgt := 1416) hx hb dL_33 (by decide) (by decide) (by decide) (by decide) (lc_count hC hX hbl hbA hi hL hI hv hl K)
    · exact lv_tableIn (off := 1406) (tgt := 1439) hx hb dL_33 (by decide) (by decide) (by decide) (by decide) (lc_status hC hX hbl hbA hi hL hI hv hl K)
  · exact lv_tableOut (tgt := 1462) hx hb dL_33 (Or.inr (by rw [nI_toInt (by omega)]; omega)) (by decide) (K σ H locs hI hv)
set_option maxHeartbeats 4000000 in
set_option maxRecDepth 100000 in
/-- THE LAW'S LOOP: at its head the class and the reference agree -/
theorem law_loop {p : Program} {l : Launch} {e : Env} {s : State} {m : MethodId} {below : List Frame} {meth : Method} {c : Code} {G : fm_G} {b L : Nat} {xs : Nat → Int32} (hC : fm_C G p m c code 4 s #[Value.ref b] R_law) (hX : va_X b L xs s s.heap) (hbl : b < s.heap.size) (hA : ∀ q, fm_A G q → s.heap.size ≤ q) (hr : meth.sig.returnType = ret) (hlocks : meth.locks = false) (hL : L ≤ 3072) :
    ∀ (n i : Nat), L < i + n → ∀ (σ : fm_M) (H : Heap) (locs : List Loc) (ls : Array Slot), fm_I G σ s H locs → Inv σ → i ≤ L + 6 → lv_has ls 4 [(0, .ref b), (1, .ref (G.2.1 0)), (2, .ref (G.2.1 96)), (3, .int (nI i))] → W p l e room_1 s m #[Value.ref b] below meth c H locs 600000 7302250 (lw_Z below #[Value.ref b] s) (F0 m 18 ls []) := by
  have hx := hC.1.1
  have hb := hC.1.2.1
  have hbA : ¬ fm_A G b := fun h => Nat.not_le.mpr hbl (hA b h)
  have fin : ∀ (σ : fm_M) (H : Heap) (locs : List Loc) (ls : Array Slot), fm_I G σ s H locs → W p l e room_1 s m #[Value.ref b] below meth c H locs 600000 7302250 (lw_Z below #[Value.ref b] s) (F0 m 1468 ls []) := by
    intro σ H locs ls hI
    refine lv_iconst (v := 1) hx hb dL_1468 (by decide) ?_
    refine va_forget (fun q hq => hA _ (hI.2.2.2 q hq)) ?_
    exact lw_ret hx hb hr hlocks dL_1469
  intro n
  induction n with
  | zero =>
    intro i h1 σ H locs ls hI hv hi hl
    refine lv_iload_n hx hb dL_18 rfl (lv_at hl 3 rfl) ?_
    refine lv_aload_n hx hb dL_19 rfl (lv_at hl 0 rfl) ?_
    refine va_slen hx hb hX hbl hbA hI.2 dL_20 ?_
    refine lv_bipush (v := (6 : Int32)) hx hb dL_21 (by decide) ?_
    refine lv_isub hx hb dL_23 ?_
    refine lv_icmp_gt (tgt := 1468) hx hb dL_24 (by decide) (fun _ => fin σ H locs ls hI) (fun hc => absurd ?_ hc)
    exact lw_gt (by omega) (by omega) (by omega)
  | succ n ih =>
    intro i h1 σ H locs ls hI hv hi hl
    refine lv_iload_n hx hb dL_18 rfl (lv_at hl 3 rfl) ?_
    refine lv_aload_n hx hb dL_19 rfl (lv_at hl 0 rfl) ?_
    refine va_slen hx hb hX hbl hbA hI.2 dL_20 ?_
    refine lv_bipush (v := (6 : Int32)) hx hb dL_21 (by decide) ?_
    refine lv_isub hx hb dL_23 ?_
    by_cases h6 : i + 6 ≤ L
    · refine lv_icmp_gt (tgt := 1468) hx hb dL_24 (by decide) (fun hc => absurd hc (lw_ngt h6 (by omega))) (fun _ => ?_)
      refine lv_aload_n hx hb dL_27 rfl (lv_at hl 0 rfl) ?_
      refine lv_iload_n hx hb dL_28 rfl (lv_at hl 3 rfl) ?_
      refine va_sld hx hb hX hbl hbA hI.2 (vp_in_nI (show i < L by omega) (by omega)) dL_29 ?_
      refine lv_bipush (v := (63 : Int32)) hx hb dL_30 (by decide) ?_
      refine lv_iand hx hb dL_32 ?_
      obtain ⟨j, hj, ej⟩ := pk_andE (xs (nI i).toNatClampNeg) (m := (63 : Int32)) 6 (by decide)
      refine law_sw hC hX hbl hbA h6 hL hI hv hl (fun σ H locs hI hv => ?_) _ j hj ej
      refine lv_iinc (v := nI (i + 6)) (lv' := [(3, .int (nI (i + 6))), (0, .ref b), (1, .ref (G.2.1 0)), (2, .ref (G.2.1 96))]) hx hb dL_1462 hl (k := 3) rfl (nI_add i 6) (by decide) rfl (fun ls hl => ?_)
      refine lv_goto (tgt := 18) hx hb dL_1465 (by decide) ?_
      exact ih (i + 6) (by omega) σ H locs ls hI hv (by omega) (lv_sub hl [1, 2, 3, 0] rfl)
    · refine lv_icmp_gt (tgt := 1468) hx hb dL_24 (by decide) (fun _ => fin σ H locs ls hI) (fun hc => absurd ?_ hc)
      exact lw_gt (by omega) (by omega) (by omega)
