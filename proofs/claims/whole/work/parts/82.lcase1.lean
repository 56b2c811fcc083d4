set_option maxHeartbeats 4000000 in
set_option maxRecDepth 100000 in
theorem lc_now {p : Program} {l : Launch} {e : Env} {s : State} {m : MethodId} {below : List Frame} {meth : Method} {c : Code} {G : fm_G} {σ : fm_M} {b L i : Nat} {xs : Nat → Int32} {H : Heap} {locs : List Loc} {ls : Array Slot} (hC : fm_C G p m c code 4 s #[Value.ref b] R_law) (hX : va_X b L xs s s.heap) (hbl : b < s.heap.size) (hbA : ¬ fm_A G b) (hi : i + 6 ≤ L) (hL : L ≤ 3072) (hI : fm_I G σ s H locs) (hv : Inv σ) (hl : lv_has ls 4 [(0, .ref b), (1, .ref (G.2.1 0)), (2, .ref (G.2.1 96)), (3, .int (nI i))])
    (K : ∀ (σ : fm_M) (H : Heap) (locs : List Loc), fm_I G σ s H locs → Inv σ → W p l e room_1 s m #[Value.ref b] below meth c H locs 600000 7302250 (lw_Z below #[Value.ref b] s) (F0 m 1462 ls [])) : W p l e room_1 s m #[Value.ref b] below meth c H locs 600000 7302250 (lw_Z below #[Value.ref b] s) (F0 m 623 ls []) := by
  have hx := hC.1.1
  have hb := hC.1.2.1
  have hown := hC.1.2.2.2.1
  have hts := hC.1.2.2.2.2
  obtain ⟨r, σ1, σ2, e1, e2, hv2⟩ := op_now (xs (i + 1)) hv
  refine lv_aload_n hx hb dL_623 rfl (lv_at hl 1 rfl) ?_
  refine lw_ld (k := 1) hC hX hbl hbA hi hL (by decide) hI hl (by decide) dL_624 dL_625 dL_626 dL_627 dL_628 ?_
  refine fm_ci hI (fm_runV (As := [.int (xs (i + 1))]) (rest := []) (rm := { frames := 2, cells := 0, slots := 0, locals := 44 }) hC hI (c_X11_now hC.2.2.1 e1) mV_X11_now q_487 ⟨rfl, rfl⟩ ⟨Nat.le_of_ble_eq_true rfl, Nat.le_of_ble_eq_true rfl⟩ fc_0 rfl (by decide) rfl hl.1 rfl (Nat.le_of_ble_eq_true rfl) dL_629 ⟨Nat.le_refl _, Nat.le_refl _⟩) (fun H locs hI => ?_)
  refine lv_aload_n hx hb dL_632 rfl (lv_at hl 2 rfl) ?_
  refine lw_ld (k := 1) hC hX hbl hbA hi hL (by decide) hI hl (by decide) dL_633 dL_634 dL_635 dL_636 dL_637 ?_
  refine fm_ci hI (fm_runV (As := [.int (xs (i + 1))]) (rest := [.int r]) (rm := { frames := 2, cells := 0, slots := 0, locals := 46 }) hC hI (c_X12_now hC.2.2.1 e2) mV_X12_now q_1018 ⟨rfl, rfl⟩ ⟨Nat.le_of_ble_eq_true rfl, Nat.le_of_ble_eq_true rfl⟩ fc_96 rfl (by decide) rfl hl.1 rfl (Nat.le_of_ble_eq_true rfl) dL_638 ⟨Nat.le_refl _, Nat.le_refl _⟩) (fun H locs hI => ?_)
  exact lv_icmp_eq (tgt := 1462) hx hb dL_641 (by decide) (fun _ => K σ2 H locs hI hv2) (fun hc => absurd rfl hc)
set_option maxHeartbeats 4000000 in
set_option maxRecDepth 100000 in
theorem lc_on {p : Program} {l : Launch} {e : Env} {s : State} {m : MethodId} {below : List Frame} {meth : Method} {c : Code} {G : fm_G} {σ : fm_M} {b L i : Nat} {xs : Nat → Int32} {H : Heap} {locs : List Loc} {ls : Array Slot} (hC : fm_C G p m c code 4 s #[Value.ref b] R_law) (hX : va_X b L xs s s.heap) (hbl : b < s.heap.size) (hbA : ¬ fm_A G b) (hi : i + 6 ≤ L) (hL : L ≤ 3072) (hI : fm_I G σ s H locs) (hv : Inv σ) (hl : lv_has ls 4 [(0, .ref b), (1, .ref (G.2.1 0)), (2, .ref (G.2.1 96)), (3, .int (nI i))])
    (K : ∀ (σ : fm_M) (H : Heap) (locs : List Loc), fm_I G σ s H locs → Inv σ → W p l e room_1 s m #[Value.ref b] below meth c H locs 600000 7302250 (lw_Z below #[Value.ref b] s) (F0 m 1462 ls [])) : W p l e room_1 s m #[Value.ref b] below meth c H locs 600000 7302250 (lw_Z below #[Value.ref b] s) (F0 m 646 ls []) := by
  have hx := hC.1.1
  have hb := hC.1.2.1
  have hown := hC.1.2.2.2.1
  have hts := hC.1.2.2.2.2
  obtain ⟨r, σ1, σ2, e1, e2, hv2⟩ := op_on (xs (i + 1)) (xs (i + 2)) (xs (i + 3)) hv
  refine lv_aload_n hx hb dL_646 rfl (lv_at hl 1 rfl) ?_
  refine lw_ld (k := 1) hC hX hbl hbA hi hL (by decide) hI hl (by decide) dL_647 dL_648 dL_649 dL_650 dL_651 ?_
  refine lw_ld (k := 2) hC hX hbl hbA hi hL (by decide) hI hl (by decide) dL_652 dL_653 dL_654 dL_655 dL_656 ?_
  refine lw_ld (k := 3) hC hX hbl hbA hi hL (by decide) hI hl (by decide) dL_657 dL_658 dL_659 dL_660 dL_661 ?_
  refine fm_ci hI (fm_runV (As := [.int (xs (i + 1)), .int (xs (i + 2)), .int (xs (i + 3))]) (rest := []) (rm := { frames := 6, cells := 0, slots := 0, locals := 140 }) hC hI (c_X11_on hC.2.2.1 e1) mV_X11_on q_504 ⟨rfl, rfl⟩ ⟨Nat.le_of_ble_eq_true rfl, Nat.le_of_ble_eq_true rfl⟩ fc_0 rfl (by decide) rfl hl.1 rfl (Nat.le_of_ble_eq_true rfl) dL_662 ⟨Nat.le_refl _, Nat.le_refl _⟩) (fun H locs hI => ?_)
  refine lv_aload_n hx hb dL_665 rfl (lv_at hl 2 rfl) ?_
  refine lw_ld (k := 1) hC hX hbl hbA hi hL (by decide) hI hl (by decide) dL_666 dL_667 dL_668 dL_669 dL_670 ?_
  refine lw_ld (k := 2) hC hX hbl hbA hi hL (by decide) hI hl (by decide) dL_671 dL_672 dL_673 dL_674 dL_675 ?_
  refine lw_ld (k := 3) hC hX hbl hbA hi hL (by decide) hI hl (by decide) dL_676 dL_677 dL_678 dL_679 dL_680 ?_
  refine fm_ci hI (fm_runV (As := [.int (xs (i + 1)), .int (xs (i + 2)), .int (xs (i + 3))]) (rest := [.int r]) (rm := { frames := 6, cells := 0, slots := 0, locals := 136 }) hC hI (c_X12_on hC.2.2.1 e2) mV_X12_on q_1030 ⟨rfl, rfl⟩ ⟨Nat.le_of_ble_eq_true rfl, Nat.le_of_ble_eq_true rfl⟩ fc_96 rfl (by decide) rfl hl.1 rfl (Nat.le_of_ble_eq_true rfl) dL_681 ⟨Nat.le_refl _, Nat.le_refl _⟩) (fun H locs hI => ?_)
  exact lv_icmp_eq (tgt := 1462) hx hb dL_684 (by decide) (fun _ => K σ2 H locs hI hv2) (fun hc => absurd rfl hc)
set_option maxHeartbeats 4000000 in
set_option maxRecDepth 100000 in
theorem lc_joyOn {p : Program} {l : Launch} {e : Env} {s : State} {m : MethodId} {below : List Frame} {meth : Method} {c : Code} {G : fm_G} {σ : fm_M} {b L i : Nat} {xs : Nat → Int32} {H : Heap} {locs : List Loc} {ls : Array Slot} (hC : fm_C G p m c code 4 s #[Value.ref b] R_law) (hX : va_X b L xs s s.heap) (hbl : b < s.heap.size) (hbA : ¬ fm_A G b) (hi : i + 6 ≤ L) (hL : L ≤ 3072) (hI : fm_I G σ s H locs) (hv : Inv σ) (hl : lv_has ls 4 [(0, .ref b), (1, .ref (G.2.1 0)), (2, .ref (G.2.1 96)), (3, .int (nI i))])
    (K : ∀ (σ : fm_M) (H : Heap) (locs : List Loc), fm_I G σ s H locs → Inv σ → W p l e room_1 s m #[Value.ref b] below meth c H locs 600000 7302250 (lw_Z below #[Value.ref b] s) (F0 m 1462 ls [])) : W p l e room_1 s m #[Value.ref b] below meth c H locs 600000 7302250 (lw_Z below #[Value.ref b] s) (F0 m 689 ls []) := by
  have hx := hC.1.1
  have hb := hC.1.2.1
  have hown := hC.1.2.2.2.1
  have hts := hC.1.2.2.2.2
  obtain ⟨r, σ1, σ2, e1, e2, hv2⟩ := op_joyOn (xs (i + 1)) (xs (i + 2)) hv
  refine lv_aload_n hx hb dL_689 rfl (lv_at hl 1 rfl) ?_
  refine lw_ld (k := 1) hC hX hbl hbA hi hL (by decide) hI hl (by decide) dL_690 dL_691 dL_692 dL_693 dL_694 ?_
  refine lw_ld (k := 2) hC hX hbl hbA hi hL (by decide) hI hl (by decide) dL_695 dL_696 dL_697 dL_698 dL_699 ?_
  refine fm_ci hI (fm_runV (As := [.int (xs (i + 1)), .int (xs (i + 2))]) (rest := []) (rm := { frames := 6, cells := 0, slots := 0, locals := 140 }) hC hI (c_X11_joyOn hC.2.2.1 e1) mV_X11_joyOn q_524 ⟨rfl, rfl⟩ ⟨Nat.le_of_ble_eq_true rfl, Nat.le_of_ble_eq_true rfl⟩ fc_0 rfl (by decide) rfl hl.1 rfl (Nat.le_of_ble_eq_true rfl) dL_700 ⟨Nat.le_refl _, Nat.le_refl _⟩) (fun H locs hI => ?_)
  refine lv_aload_n hx hb dL_703 rfl (lv_at hl 2 rfl) ?_
  refine lw_ld (k := 1) hC hX hbl hbA hi hL (by decide) hI hl (by decide) dL_704 dL_705 dL_706 dL_707 dL_708 ?_
  refine lw_ld (k := 2) hC hX hbl hbA hi hL (by decide) hI hl (by decide) dL_709 dL_710 dL_711 dL_712 dL_713 ?_
  refine fm_ci hI (fm_runV (As := [.int (xs (i + 1)), .int (xs (i + 2))]) (rest := [.int r]) (rm := { frames := 6, cells := 0, slots := 0, locals := 136 }) hC hI (c_X12_joyOn hC.2.2.1 e2) mV_X12_joyOn q_1045 ⟨rfl, rfl⟩ ⟨Nat.le_of_ble_eq_true rfl, Nat.le_of_ble_eq_true rfl⟩ fc_96 rfl (by decide) rfl hl.1 rfl (Nat.le_of_ble_eq_true rfl) dL_714 ⟨Nat.le_refl _, Nat.le_refl _⟩) (fun H locs hI => ?_)
  exact lv_icmp_eq (tgt := 1462) hx hb dL_717 (by decide) (fun _ => K σ2 H locs hI hv2) (fun hc => absurd rfl hc)
set_option maxHeartbeats 4000000 in
set_option maxRecDepth 100000 in
theorem lc_found {p : Program} {l : Launch} {e : Env} {s : State} {m : MethodId} {below : List Frame} {meth : Method} {c : Code} {G : fm_G} {σ : fm_M} {b L i : Nat} {xs : Nat → Int32} {H : Heap} {locs : List Loc} {ls : Array Slot} (hC : fm_C G p m c code 4 s #[Value.ref b] R_law) (hX : va_X b L xs s s.heap) (hbl : b < s.heap.size) (hbA : ¬ fm_A G b) (hi : i + 6 ≤ L) (hL : L ≤ 3072) (hI : fm_I G σ s H locs) (hv : Inv σ) (hl : lv_has ls 4 [(0, .ref b), (1, .ref (G.2.1 0)), (2, .ref (G.2.1 96)), (3, .int (nI i))])
    (K : ∀ (σ : fm_M) (H : Heap) (locs : List Loc), fm_I G σ s H locs → Inv σ → W p l e room_1 s m #[Value.ref b] below meth c H locs 600000 7302250 (lw_Z below #[Value.ref b] s) (F0 m 1462 ls [])) : W p l e room_1 s m #[Value.ref b] below meth c H locs 600000 7302250 (lw_Z below #[Value.ref b] s) (F0 m 722 ls []) := by
  have hx := hC.1.1
  have hb := hC.1.2.1
  have hown := hC.1.2.2.2.1
  have hts := hC.1.2.2.2.2
  obtain ⟨r, σ1, σ2, e1, e2, hv2⟩ := op_found (xs (i + 1)) hv
  refine lv_aload_n hx hb dL_722 rfl (lv_at hl 1 rfl) ?_
  refine lw_ld (k := 1) hC hX hbl hbA hi hL (by decide) hI hl (by decide) dL_723 dL_724 dL_725 dL_726 dL_727 ?_
  refine fm_ci hI (fm_runV (As := [.int (xs (i + 1))]) (rest := []) (rm := { frames := 5, cells := 0, slots := 0, locals := 118 }) hC hI (c_X11_found hC.2.2.1 e1) mV_X11_found q_528 ⟨rfl, rfl⟩ ⟨Nat.le_of_ble_eq_true rfl, Nat.le_of_ble_eq_true rfl⟩ fc_0 rfl (by decide) rfl hl.1 rfl (Nat.le_of_ble_eq_true rfl) dL_728 ⟨Nat.le_refl _, Nat.le_refl _⟩) (fun H locs hI => ?_)
  refine lv_aload_n hx hb dL_731 rfl (lv_at hl 2 rfl) ?_
  refine lw_ld (k := 1) hC hX hbl hbA hi hL (by decide) hI hl (by decide) dL_732 dL_733 dL_734 dL_735 dL_736 ?_
  refine fm_ci hI (fm_runV (As := [.int (xs (i + 1))]) (rest := [.int r]) (rm := { frames := 6, cells := 0, slots := 0, locals := 138 }) hC hI (c_X12_found hC.2.2.1 e2) mV_X12_found q_1049 ⟨rfl, rfl⟩ ⟨Nat.le_of_ble_eq_true rfl, Nat.le_of_ble_eq_true rfl⟩ fc_96 rfl (by decide) rfl hl.1 rfl (Nat.le_of_ble_eq_true rfl) dL_737 ⟨Nat.le_refl _, Nat.le_refl _⟩) (fun H locs hI => ?_)
  exact lv_icmp_eq (tgt := 1462) hx hb dL_740 (by decide) (fun _ => K σ2 H locs hI hv2) (fun hc => absurd rfl hc)
set_option maxHeartbeats 4000000 in
set_option maxRecDepth 100000 in
theorem lc_comes {p : Program} {l : Launch} {e : Env} {s : State} {m : MethodId} {below : List Frame} {meth : Method} {c : Code} {G : fm_G} {σ : fm_M} {b L i : Nat} {xs : Nat → Int32} {H : Heap} {locs : List Loc} {ls : Array Slot} (hC : fm_C G p m c code 4 s #[Value.ref b] R_law) (hX : va_X b L xs s s.heap) (hbl : b < s.heap.size) (hbA : ¬ fm_A G b) (hi : i + 6 ≤ L) (hL : L ≤ 3072) (hI : fm_I G σ s H locs) (hv : Inv σ) (hl : lv_has ls 4 [(0, .ref b), (1, .ref (G.2.1 0)), (2, .ref (G.2.1 96)), (3, .int (nI i))])
    (K : ∀ (σ : fm_M) (H : Heap) (locs : List Loc), fm_I G σ s H locs → Inv σ → W p l e room_1 s m #[Value.ref b] below meth c H locs 600000 7302250 (lw_Z below #[Value.ref b] s) (F0 m 1462 ls [])) : W p l e room_1 s m #[Value.ref b] below meth c H locs 600000 7302250 (lw_Z below #[Value.ref b] s) (F0 m 745 ls []) := by
  have hx := hC.1.1
  have hb := hC.1.2.1
  have hown := hC.1.2.2.2.1
  have hts := hC.1.2.2.2.2
  obtain ⟨r, σ1, σ2, e1, e2, hv2⟩ := op_comes (xs (i + 1)) (xs (i + 2)) hv
  refine lv_aload_n hx hb dL_745 rfl (lv_at hl 1 rfl) ?_
  refine lw_ld (k := 1) hC hX hbl hbA hi hL (by decide) hI hl (by decide) dL_746 dL_747 dL_748 dL_749 dL_750 ?_
  refine lw_ld (k := 2) hC hX hbl hbA hi hL (by decide) hI hl (by decide) dL_751 dL_752 dL_753 dL_754 dL_755 ?_
  refine fm_ci hI (fm_runV (As := [.int (xs (i + 1)), .int (xs (i + 2))]) (rest := []) (rm := { frames := 5, cells := 0, slots := 0, locals := 118 }) hC hI (c_X11_comes hC.2.2.1 e1) mV_X11_comes q_533 ⟨rfl, rfl⟩ ⟨Nat.le_of_ble_eq_true rfl, Nat.le_of_ble_eq_true rfl⟩ fc_0 rfl (by decide) rfl hl.1 rfl (Nat.le_of_ble_eq_true rfl) dL_756 ⟨Nat.le_refl _, Nat.le_refl _⟩) (fun H locs hI => ?_)
  refine lv_aload_n hx hb dL_759 rfl (lv_at hl 2 rfl) ?_
  refine lw_ld (k := 1) hC hX hbl hbA hi hL (by decide) hI hl (by decide) dL_760 dL_761 dL_762 dL_763 dL_764 ?_
  refine lw_ld (k := 2) hC hX hbl hbA hi hL (by decide) hI hl (by decide) dL_765 dL_766 dL_767 dL_768 dL_769 ?_
  refine fm_ci hI (fm_runV (As := [.int (xs (i + 1)), .int (xs (i + 2))]) (rest := [.int r]) (rm := { frames := 6, cells := 0, slots := 0, locals := 138 }) hC hI (c_X12_comes hC.2.2.1 e2) mV_X12_comes q_1057 ⟨rfl, rfl⟩ ⟨Nat.le_of_ble_eq_true rfl, Nat.le_of_ble_eq_true rfl⟩ fc_96 rfl (by decide) rfl hl.1 rfl (Nat.le_of_ble_eq_true rfl) dL_770 ⟨Nat.le_refl _, Nat.le_refl _⟩) (fun H locs hI => ?_)
  exact lv_icmp_eq (tgt := 1462) hx hb dL_773 (by decide) (fun _ => K σ2 H locs hI hv2) (fun hc => absurd rfl hc)
set_option maxHeartbeats 4000000 in
set_option maxRecDepth 100000 in
theorem lc_best {p : Program} {l : Launch} {e : Env} {s : State} {m : MethodId} {below : List Frame} {meth : Method} {c : Code} {G : fm_G} {σ : fm_M} {b L i : Nat} {xs : Nat → Int32} {H : Heap} {locs : List Loc} {ls : Array Slot} (hC : fm_C G p m c code 4 s #[Value.ref b] R_law) (hX : va_X b L xs s s.heap) (hbl : b < s.heap.size) (hbA : ¬ fm_A G b) (hi : i + 6 ≤ L) (hL : L ≤ 3072) (hI : fm_I G σ s H locs) (hv : Inv σ) (hl : lv_has ls 4 [(0, .ref b), (1, .ref (G.2.1 0)), (2, .ref (G.2.1 96)), (3, .int (nI i))])
    (K : ∀ (σ : fm_M) (H : Heap) (locs : List Loc), fm_I G σ s H locs → Inv σ → W p l e room_1 s m #[Value.ref b] below meth c H locs 600000 7302250 (lw_Z below #[Value.ref b] s) (F0 m 1462 ls [])) : W p l e room_1 s m #[Value.ref b] below meth c H locs 600000 7302250 (lw_Z below #[Value.ref b] s) (F0 m 778 ls []) := by
  have hx := hC.1.1
  have hb := hC.1.2.1
  have hown := hC.1.2.2.2.1
  have hts := hC.1.2.2.2.2
  obtain ⟨r, σ1, σ2, e1, e2, hv2⟩ := op_best (xs (i + 1)) (xs (i + 2)) hv
  refine lv_aload_n hx hb dL_778 rfl (lv_at hl 1 rfl) ?_
  refine lw_ld (k := 1) hC hX hbl hbA hi hL (by decide) hI hl (by decide) dL_779 dL_780 dL_781 dL_782 dL_783 ?_
  refine lw_ld (k := 2) hC hX hbl hbA hi hL (by decide) hI hl (by decide) dL_784 dL_785 dL_786 dL_787 dL_788 ?_
  refine fm_ci hI (fm_runV (As := [.int (xs (i + 1)), .int (xs (i + 2))]) (rest := []) (rm := { frames := 6, cells := 0, slots := 0, locals := 140 }) hC hI (c_X11_best hC.2.2.1 e1) mV_X11_best q_537 ⟨rfl, rfl⟩ ⟨Nat.le_of_ble_eq_true rfl, Nat.le_of_ble_eq_true rfl⟩ fc_0 rfl (by decide) rfl hl.1 rfl (Nat.le_of_ble_eq_true rfl) dL_789 ⟨Nat.le_refl _, Nat.le_refl _⟩) (fun H locs hI => ?_)
  refine lv_aload_n hx hb dL_792 rfl (lv_at hl 2 rfl) ?_
  refine lw_ld (k := 1) hC hX hbl hbA hi hL (by decide) hI hl (by decide) dL_793 dL_794 dL_795 dL_796 dL_797 ?_
  refine lw_ld (k := 2) hC hX hbl hbA hi hL (by decide) hI hl (by decide) dL_798 dL_799 dL_800 dL_801 dL_802 ?_
  refine fm_ci hI (fm_runV (As := [.int (xs (i + 1)), .int (xs (i + 2))]) (rest := [.int r]) (rm := { frames := 7, cells := 0, slots := 0, locals := 159 }) hC hI (c_X12_best hC.2.2.1 e2) mV_X12_best q_1061 ⟨rfl, rfl⟩ ⟨Nat.le_of_ble_eq_true rfl, Nat.le_of_ble_eq_true rfl⟩ fc_96 rfl (by decide) rfl hl.1 rfl (Nat.le_of_ble_eq_true rfl) dL_803 ⟨Nat.le_refl _, Nat.le_refl _⟩) (fun H locs hI => ?_)
  exact lv_icmp_eq (tgt := 1462) hx hb dL_806 (by decide) (fun _ => K σ2 H locs hI hv2) (fun hc => absurd rfl hc)
set_option maxHeartbeats 4000000 in
set_option maxRecDepth 100000 in
theorem lc_give {p : Program} {l : Launch} {e : Env} {s : State} {m : MethodId} {below : List Frame} {meth : Method} {c : Code} {G : fm_G} {σ : fm_M} {b L i : Nat} {xs : Nat → Int32} {H : Heap} {locs : List Loc} {ls : Array Slot} (hC : fm_C G p m c code 4 s #[Value.ref b] R_law) (hX : va_X b L xs s s.heap) (hbl : b < s.heap.size) (hbA : ¬ fm_A G b) (hi : i + 6 ≤ L) (hL : L ≤ 3072) (hI : fm_I G σ s H locs) (hv : Inv σ) (hl : lv_has ls 4 [(0, .ref b), (1, .ref (G.2.1 0)), (2, .ref (G.2.1 96)), (3, .int (nI i))])
    (K : ∀ (σ : fm_M) (H : Heap) (locs : List Loc), fm_I G σ s H locs → Inv σ → W p l e room_1 s m #[Value.ref b] below meth c H locs 600000 7302250 (lw_Z below #[Value.ref b] s) (F0 m 1462 ls [])) : W p l e room_1 s m #[Value.ref b] below meth c H locs 600000 7302250 (lw_Z below #[Value.ref b] s) (F0 m 811 ls []) := by
  have hx := hC.1.1
  have hb := hC.1.2.1
  have hown := hC.1.2.2.2.1
  have hts := hC.1.2.2.2.2
  obtain ⟨r, σ1, σ2, e1, e2, hv2⟩ := op_give (xs (i + 1)) (xs (i + 2)) hv
  refine lv_aload_n hx hb dL_811 rfl (lv_at hl 1 rfl) ?_
  refine lw_ld (k := 1) hC hX hbl hbA hi hL (by decide) hI hl (by decide) dL_812 dL_813 dL_814 dL_815 dL_816 ?_
  refine lw_ld (k := 2) hC hX hbl hbA hi hL (by decide) hI hl (by decide) dL_817 dL_818 dL_819 dL_820 dL_821 ?_
  refine fm_ci hI (fm_runV (As := [.int (xs (i + 1)), .int (xs (i + 2))]) (rest := []) (rm := { frames := 6, cells := 0, slots := 0, locals := 140 }) hC hI (c_X11_give hC.2.2.1 e1) mV_X11_give q_541 ⟨rfl, rfl⟩ ⟨Nat.le_of_ble_eq_true rfl, Nat.le_of_ble_eq_true rfl⟩ fc_0 rfl (by decide) rfl hl.1 rfl (Nat.le_of_ble_eq_true rfl) dL_822 ⟨Nat.le_refl _, Nat.le_refl _⟩) (fun H locs hI => ?_)
  refine lv_aload_n hx hb dL_825 rfl (lv_at hl 2 rfl) ?_
  refine lw_ld (k := 1) hC hX hbl hbA hi hL (by decide) hI hl (by decide) dL_826 dL_827 dL_828 dL_829 dL_830 ?_
  refine lw_ld (k := 2) hC hX hbl hbA hi hL (by decide) hI hl (by decide) dL_831 dL_832 dL_833 dL_834 dL_835 ?_
  refine fm_ci hI (fm_runV (As := [.int (xs (i + 1)), .int (xs (i + 2))]) (rest := [.int r]) (rm := { frames := 7, cells := 0, slots := 0, locals := 159 }) hC hI (c_X12_give hC.2.2.1 e2) mV_X12_give q_1072 ⟨rfl, rfl⟩ ⟨Nat.le_of_ble_eq_true rfl, Nat.le_of_ble_eq_true rfl⟩ fc_96 rfl (by decide) rfl hl.1 rfl (Nat.le_of_ble_eq_true rfl) dL_836 ⟨Nat.le_refl _, Nat.le_refl _⟩) (fun H locs hI => ?_)
  exact lv_icmp_eq (tgt := 1462) hx hb dL_839 (by decide) (fun _ => K σ2 H locs hI hv2) (fun hc => absurd rfl hc)
set_option maxHeartbeats 4000000 in
set_option maxRecDepth 100000 in
theorem lc_kind {p : Program} {l : Launch} {e : Env} {s : State} {m : MethodId} {below : List Frame} {meth : Method} {c : Code} {G : fm_G} {σ : fm_M} {b L i : Nat} {xs : Nat → Int32} {H : Heap} {locs : List Loc} {ls : Array Slot} (hC : fm_C G p m c code 4 s #[Value.ref b] R_law) (hX : va_X b L xs s s.heap) (hbl : b < s.heap.size) (hbA : ¬ fm_A G b) (hi : i + 6 ≤ L) (hL : L ≤ 3072) (hI : fm_I G σ s H locs) (hv : Inv σ) (hl : lv_has ls 4 [(0, .ref b), (1, .ref (G.2.1 0)), (2, .ref (G.2.1 96)), (3, .int (nI i))])
    (K : ∀ (σ : fm_M) (H : Heap) (locs : List Loc), fm_I G σ s H locs → Inv σ → W p l e room_1 s m #[Value.ref b] below meth c H locs 600000 7302250 (lw_Z below #[Value.ref b] s) (F0 m 1462 ls [])) : W p l e room_1 s m #[Value.ref b] below meth c H locs 600000 7302250 (lw_Z below #[Value.ref b] s) (F0 m 844 ls []) := by
  have hx := hC.1.1
  have hb := hC.1.2.1
  have hown := hC.1.2.2.2.1
  have hts := hC.1.2.2.2.2
  obtain ⟨r, σ1, σ2, e1, e2, hv2⟩ := op_kind (xs (i + 1)) (xs (i + 2)) hv
  refine lv_aload_n hx hb dL_844 rfl (lv_at hl 1 rfl) ?_
  refine lw_ld (k := 1) hC hX hbl hbA hi hL (by decide) hI hl (by decide) dL_845 dL_846 dL_847 dL_848 dL_849 ?_
  refine lw_ld (k := 2) hC hX hbl hbA hi hL (by decide) hI hl (by decide) dL_850 dL_851 dL_852 dL_853 dL_854 ?_
  refine fm_ci hI (fm_runV (As := [.int (xs (i + 1)), .int (xs (i + 2))]) (rest := []) (rm := { frames := 6, cells := 0, slots := 0, locals := 140 }) hC hI (c_X11_kind hC.2.2.1 e1) mV_X11_kind q_545 ⟨rfl, rfl⟩ ⟨Nat.le_of_ble_eq_true rfl, Nat.le_of_ble_eq_true rfl⟩ fc_0 rfl (by decide) rfl hl.1 rfl (Nat.le_of_ble_eq_true rfl) dL_855 ⟨Nat.le_refl _, Nat.le_refl _⟩) (fun H locs hI => ?_)
  refine lv_aload_n hx hb dL_858 rfl (lv_at hl 2 rfl) ?_
  refine lw_ld (k := 1) hC hX hbl hbA hi hL (by decide) hI hl (by decide) dL_859 dL_860 dL_861 dL_862 dL_863 ?_
  refine lw_ld (k := 2) hC hX hbl hbA hi hL (by decide) hI hl (by decide) dL_864 dL_865 dL_866 dL_867 dL_868 ?_
  refine fm_ci hI (fm_runV (As := [.int (xs (i + 1)), .int (xs (i + 2))]) (rest := [.int r]) (rm := { frames := 7, cells := 0, slots := 0, locals := 159 }) hC hI (c_X12_kind hC.2.2.1 e2) mV_X12_kind q_1076 ⟨rfl, rfl⟩ ⟨Nat.le_of_ble_eq_true rfl, Nat.le_of_ble_eq_true rfl⟩ fc_96 rfl (by decide) rfl hl.1 rfl (Nat.le_of_ble_eq_true rfl) dL_869 ⟨Nat.le_refl _, Nat.le_refl _⟩) (fun H locs hI => ?_)
  exact lv_icmp_eq (tgt := 1462) hx hb dL_872 (by decide) (fun _ => K σ2 H locs hI hv2) (fun hc => absurd rfl hc)
set_option maxHeartbeats 4000000 in
set_option maxRecDepth 100000 in
theorem lc_least {p : Program} {l : Launch} {e : Env} {s : State} {m : MethodId} {below : List Frame} {meth : Method} {c : Code} {G : fm_G} {σ : fm_M} {b L i : Nat} {xs : Nat → Int32} {H : Heap} {locs : List Loc} {ls : Array Slot} (hC : fm_C G p m c code 4 s #[Value.ref b] R_law) (hX : va_X b L xs s s.heap) (hbl : b < s.heap.size) (hbA : ¬ fm_A G b) (hi : i + 6 ≤ L) (hL : L ≤ 3072) (hI : fm_I G σ s H locs) (hv : Inv σ) (hl : lv_has ls 4 [(0, .ref b), (1, .ref (G.2.1 0)), (2, .ref (G.2.1 96)), (3, .int (nI i))])
    (K : ∀ (σ : fm_M) (H : Heap) (locs : List Loc), fm_I G σ s H locs → Inv σ → W p l e room_1 s m #[Value.ref b] below meth c H locs 600000 7302250 (lw_Z below #[Value.ref b] s) (F0 m 1462 ls [])) : W p l e room_1 s m #[Value.ref b] below meth c H locs 600000 7302250 (lw_Z below #[Value.ref b] s) (F0 m 877 ls []) := by
  have hx := hC.1.1
  have hb := hC.1.2.1
  have hown := hC.1.2.2.2.1
  have hts := hC.1.2.2.2.2
  obtain ⟨r, σ1, σ2, e1, e2, hv2⟩ := op_least (xs (i + 1)) (xs (i + 2)) (xs (i + 3)) (xs (i + 4)) hv
  refine lv_aload_n hx hb dL_877 rfl (lv_at hl 1 rfl) ?_
  refine lw_ld (k := 1) hC hX hbl hbA hi hL (by decide) hI hl (by decide) dL_878 dL_879 dL_880 dL_881 dL_882 ?_
  refine lw_ld (k := 2) hC hX hbl hbA hi hL (by decide) hI hl (by decide) dL_883 dL_884 dL_885 dL_886 dL_887 ?_
  refine lw_ld (k := 3) hC hX hbl hbA hi hL (by decide) hI hl (by decide) dL_888 dL_889 dL_890 dL_891 dL_892 ?_
  refine lw_ld (k := 4) hC hX hbl hbA hi hL (by decide) hI hl (by decide) dL_893 dL_894 dL_895 dL_896 dL_897 ?_
  refine fm_ci hI (fm_runV (As := [.int (xs (i + 1)), .int (xs (i + 2)), .int (xs (i + 3)), .int (xs (i + 4))]) (rest := []) (rm := { frames := 6, cells := 0, slots := 0, locals := 140 }) hC hI (c_X11_least hC.2.2.1 e1) mV_X11_least q_549 ⟨rfl, rfl⟩ ⟨Nat.le_of_ble_eq_true rfl, Nat.le_of_ble_eq_true rfl⟩ fc_0 rfl (by decide) rfl hl.1 rfl (Nat.le_of_ble_eq_true rfl) dL_898 ⟨Nat.le_refl _, Nat.le_refl _⟩) (fun H locs hI => ?_)
  refine lv_aload_n hx hb dL_901 rfl (lv_at hl 2 rfl) ?_
  refine lw_ld (k := 1) hC hX hbl hbA hi hL (by decide) hI hl (by decide) dL_902 dL_903 dL_904 dL_905 dL_906 ?_
  refine lw_ld (k := 2) hC hX hbl hbA hi hL (by decide) hI hl (by decide) dL_907 dL_908 dL_909 dL_910 dL_911 ?_
  refine lw_ld (k := 3) hC hX hbl hbA hi hL (by decide) hI hl (by decide) dL_912 dL_913 dL_914 dL_915 dL_916 ?_
  refine lw_ld (k := 4) hC hX hbl hbA hi hL (by decide) hI hl (by decide) dL_917 dL_918 dL_919 dL_920 dL_921 ?_
  refine fm_ci hI (fm_runV (As := [.int (xs (i + 1)), .int (xs (i + 2)), .int (xs (i + 3)), .int (xs (i + 4))]) (rest := [.int r]) (rm := { frames := 7, cells := 0, slots := 0, locals := 159 }) hC hI (c_X12_least hC.2.2.1 e2) mV_X12_least q_1080 ⟨rfl, rfl⟩ ⟨Nat.le_of_ble_eq_true rfl, Nat.le_of_ble_eq_true rfl⟩ fc_96 rfl (by decide) rfl hl.1 rfl (Nat.le_of_ble_eq_true rfl) dL_922 ⟨Nat.le_refl _, Nat.le_refl _⟩) (fun H locs hI => ?_)
  exact lv_icmp_eq (tgt := 1462) hx hb dL_925 (by decide) (fun _ => K σ2 H locs hI hv2) (fun hc => absurd rfl hc)
set_option maxHeartbeats 4000000 in
set_option maxRecDepth 100000 in
theorem lc_order {p : Program} {l : Launch} {e : Env} {s : State} {m : MethodId} {below : List Frame} {meth : Method} {c : Code} {G : fm_G} {σ : fm_M} {b L i : Nat} {xs : Nat → Int32} {H : Heap} {locs : List Loc} {ls : Array Slot} (hC : fm_C G p m c code 4 s #[Value.ref b] R_law) (hX : va_X b L xs s s.heap) (hbl : b < s.heap.size) (hbA : ¬ fm_A G b) (hi : i + 6 ≤ L) (hL : L ≤ 3072) (hI : fm_I G σ s H locs) (hv : Inv σ) (hl : lv_has ls 4 [(0, .ref b), (1, .ref (G.2.1 0)), (2, .ref (G.2.1 96)), (3, .int (nI i))])
    (K : ∀ (σ : fm_M) (H : Heap) (locs : List Loc), fm_I G σ s H locs → Inv σ → W p l e room_1 s m #[Value.ref b] below meth c H locs 600000 7302250 (lw_Z below #[Value.ref b] s) (F0 m 1462 ls [])) : W p l e room_1 s m #[Value.ref b] below meth c H locs 600000 7302250 (lw_Z below #[Value.ref b] s) (F0 m 930 ls []) := by
  have hx := hC.1.1
  have hb := hC.1.2.1
  have hown := hC.1.2.2.2.1
  have hts := hC.1.2.2.2.2
  obtain ⟨r, σ1, σ2, e1, e2, hv2⟩ := op_order (xs (i + 1)) (xs (i + 2)) hv
  refine lv_aload_n hx hb dL_930 rfl (lv_at hl 1 rfl) ?_
  refine lw_ld (k := 1) hC hX hbl hbA hi hL (by decide) hI hl (by decide) dL_931 dL_932 dL_933 dL_934 dL_935 ?_
  refine lw_ld (k := 2) hC hX hbl hbA hi hL (by decide) hI hl (by decide) dL_936 dL_937 dL_938 dL_939 dL_940 ?_
  refine fm_ci hI (fm_runV (As := [.int (xs (i + 1)), .int (xs (i + 2))]) (rest := []) (rm := { frames := 6, cells := 0, slots := 0, locals := 140 }) hC hI (c_X11_order hC.2.2.1 e1) mV_X11_order q_553 ⟨rfl, rfl⟩ ⟨Nat.le_of_ble_eq_true rfl, Nat.le_of_ble_eq_true rfl⟩ fc_0 rfl (by decide) rfl hl.1 rfl (Nat.le_of_ble_eq_true rfl) dL_941 ⟨Nat.le_refl _, Nat.le_refl _⟩) (fun H locs hI => ?_)
  refine lv_aload_n hx hb dL_944 rfl (lv_at hl 2 rfl) ?_
  refine lw_ld (k := 1) hC hX hbl hbA hi hL (by decide) hI hl (by decide) dL_945 dL_946 dL_947 dL_948 dL_949 ?_
  refine lw_ld (k := 2) hC hX hbl hbA hi hL (by decide) hI hl (by decide) dL_950 dL_951 dL_952 dL_953 dL_954 ?_
  refine fm_ci hI (fm_runV (As := [.int (xs (i + 1)), .int (xs (i + 2))]) (rest := [.int r]) (rm := { frames := 8, cells := 0, slots := 0, locals := 184 }) hC hI (c_X12_order hC.2.2.1 e2) mV_X12_order q_1084 ⟨rfl, rfl⟩ ⟨Nat.le_of_ble_eq_true rfl, Nat.le_of_ble_eq_true rfl⟩ fc_96 rfl (by decide) rfl hl.1 rfl (Nat.le_of_ble_eq_true rfl) dL_955 ⟨Nat.le_refl _, Nat.le_refl _⟩) (fun H locs hI => ?_)
  exact lv_icmp_eq (tgt := 1462) hx hb dL_958 (by decide) (fun _ => K σ2 H locs hI hv2) (fun hc => absurd rfl hc)
set_option maxHeartbeats 4000000 in
set_option maxRecDepth 100000 in
theorem lc_happiest {p : Program} {l : Launch} {e : Env} {s : State} {m : MethodId} {below : List Frame} {meth : Method} {c : Code} {G : fm_G} {σ : fm_M} {b L i : Nat} {xs : Nat → Int32} {H : Heap} {locs : List Loc} {ls : Array Slot} (hC : fm_C G p m c code 4 s #[Value.ref b] R_law) (hX : va_X b L xs s s.heap) (hbl : b < s.heap.size) (hbA : ¬ fm_A G b) (hi : i + 6 ≤ L) (hL : L ≤ 3072) (hI : fm_I G σ s H locs) (hv : Inv σ) (hl : lv_has ls 4 [(0, .ref b), (1, .ref (G.2.1 0)), (2, .ref (G.2.1 96)), (3, .int (nI i))])
    (K : ∀ (σ : fm_M) (H : Heap) (locs : List Loc), fm_I G σ s H locs → Inv σ → W p l e room_1 s m #[Value.ref b] below meth c H locs 600000 7302250 (lw_Z below #[Value.ref b] s) (F0 m 1462 ls [])) : W p l e room_1 s m #[Value.ref b] below meth c H locs 600000 7302250 (lw_Z below #[Value.ref b] s) (F0 m 963 ls []) := by
  have hx := hC.1.1
  have hb := hC.1.2.1
  have hown := hC.1.2.2.2.1
  have hts := hC.1.2.2.2.2
  obtain ⟨r, σ1, σ2, e1, e2, hv2⟩ := op_happiest (xs (i + 1)) hv
  refine lv_aload_n hx hb dL_963 rfl (lv_at hl 1 rfl) ?_
  refine lw_ld (k := 1) hC hX hbl hbA hi hL (by decide) hI hl (by decide) dL_964 dL_965 dL_966 dL_967 dL_968 ?_
  refine fm_ci hI (fm_runV (As := [.int (xs (i + 1))]) (rest := []) (rm := { frames := 6, cells := 0, slots := 0, locals := 140 }) hC hI (c_X11_happiest hC.2.2.1 e1) mV_X11_happiest q_582 ⟨rfl, rfl⟩ ⟨Nat.le_of_ble_eq_true rfl, Nat.le_of_ble_eq_true rfl⟩ fc_0 rfl (by decide) rfl hl.1 rfl (Nat.le_of_ble_eq_true rfl) dL_969 ⟨Nat.le_refl _, Nat.le_refl _⟩) (fun H locs hI => ?_)
  refine lv_aload_n hx hb dL_972 rfl (lv_at hl 2 rfl) ?_
  refine lw_ld (k := 1) hC hX hbl hbA hi hL (by decide) hI hl (by decide) dL_973 dL_974 dL_975 dL_976 dL_977 ?_
  refine fm_ci hI (fm_runV (As := [.int (xs (i + 1))]) (rest := [.int r]) (rm := { frames := 6, cells := 0, slots := 0, locals := 136 }) hC hI (c_X12_happiest hC.2.2.1 e2) mV_X12_happiest q_1096 ⟨rfl, rfl⟩ ⟨Nat.le_of_ble_eq_true rfl, Nat.le_of_ble_eq_true rfl⟩ fc_96 rfl (by decide) rfl hl.1 rfl (Nat.le_of_ble_eq_true rfl) dL_978 ⟨Nat.le_refl _, Nat.le_refl _⟩) (fun H locs hI => ?_)
  exact lv_icmp_eq (tgt := 1462) hx hb dL_981 (by decide) (fun _ => K σ2 H locs hI hv2) (fun hc => absurd rfl hc)
set_option maxHeartbeats 4000000 in
set_option maxRecDepth 100000 in
theorem lc_enough {p : Program} {l : Launch} {e : Env} {s : State} {m : MethodId} {below : List Frame} {meth : Method} {c : Code} {G : fm_G} {σ : fm_M} {b L i : Nat} {xs : Nat → Int32} {H : Heap} {locs : List Loc} {ls : Array Slot} (hC : fm_C G p m c code 4 s #[Value.ref b] R_law) (hX : va_X b L xs s s.heap) (hbl : b < s.heap.size) (hbA : ¬ fm_A G b) (hi : i + 6 ≤ L) (hL : L ≤ 3072) (hI : fm_I G σ s H locs) (hv : Inv σ) (hl : lv_has ls 4 [(0, .ref b), (1, .ref (G.2.1 0)), (2, .ref (G.2.1 96)), (3, .int (nI i))])
    (K : ∀ (σ : fm_M) (H : Heap) (locs : List Loc), fm_I G σ s H locs → Inv σ → W p l e room_1 s m #[Value.ref b] below meth c H locs 600000 7302250 (lw_Z below #[Value.ref b] s) (F0 m 1462 ls [])) : W p l e room_1 s m #[Value.ref b] below meth c H locs 600000 7302250 (lw_Z below #[Value.ref b] s) (F0 m 986 ls []) := by
  have hx := hC.1.1
  have hb := hC.1.2.1
  have hown := hC.1.2.2.2.1
  have hts := hC.1.2.2.2.2
  obtain ⟨r, σ1, σ2, e1, e2, hv2⟩ := op_enough (xs (i + 1)) (xs (i + 2)) (xs (i + 3)) hv
  refine lv_aload_n hx hb dL_986 rfl (lv_at hl 1 rfl) ?_
  refine lw_ld (k := 1) hC hX hbl hbA hi hL (by decide) hI hl (by decide) dL_987 dL_988 dL_989 dL_990 dL_991 ?_
  refine lw_ld (k := 2) hC hX hbl hbA hi hL (by decide) hI hl (by decide) dL_992 dL_993 dL_994 dL_995 dL_996 ?_
  refine lw_ld (k := 3) hC hX hbl hbA hi hL (by decide) hI hl (by decide) dL_997 dL_998 dL_999 dL_1000 dL_1001 ?_
  refine fm_ci hI (fm_runV (As := [.int (xs (i + 1)), .int (xs (i + 2)), .int (xs (i + 3))]) (rest := []) (rm := { frames := 6, cells := 0, slots := 0, locals := 140 }) hC hI (c_X11_enough hC.2.2.1 e1) mV_X11_enough q_586 ⟨rfl, rfl⟩ ⟨Nat.le_of_ble_eq_true rfl, Nat.le_of_ble_eq_true rfl⟩ fc_0 rfl (by decide) rfl hl.1 rfl (Nat.le_of_ble_eq_true rfl) dL_1002 ⟨Nat.le_refl _, Nat.le_refl _⟩) (fun H locs hI => ?_)
  refine lv_aload_n hx hb dL_1005 rfl (lv_at hl 2 rfl) ?_
  refine lw_ld (k := 1) hC hX hbl hbA hi hL (by decide) hI hl (by decide) dL_1006 dL_1007 dL_1008 dL_1009 dL_1010 ?_
  refine lw_ld (k := 2) hC hX hbl hbA hi hL (by decide) hI hl (by decide) dL_1011 dL_1012 dL_1013 dL_1014 dL_1015 ?_
  refine lw_ld (k := 3) hC hX hbl hbA hi hL (by decide) hI hl (by decide) dL_1016 dL_1017 dL_1018 dL_1019 dL_1020 ?_
  refine fm_ci hI (fm_runV (As := [.int (xs (i + 1)), .int (xs (i + 2)), .int (xs (i + 3))]) (rest := [.int r]) (rm := { frames := 7, cells := 0, slots := 0, locals := 161 }) hC hI (c_X12_enough hC.2.2.1 e2) mV_X12_enough q_1100 ⟨rfl, rfl⟩ ⟨Nat.le_of_ble_eq_true rfl, Nat.le_of_ble_eq_true rfl⟩ fc_96 rfl (by decide) rfl hl.1 rfl (Nat.le_of_ble_eq_true rfl) dL_1021 ⟨Nat.le_refl _, Nat.le_refl _⟩) (fun H locs hI => ?_)
  exact lv_icmp_eq (tgt := 1462) hx hb dL_1024 (by decide) (fun _ => K σ2 H locs hI hv2) (fun hc => absurd rfl hc)
set_option maxHeartbeats 4000000 in
set_option maxRecDepth 100000 in
theorem lc_feed {p : Program} {l : Launch} {e : Env} {s : State} {m : MethodId} {below : List Frame} {meth : Method} {c : Code} {G : fm_G} {σ : fm_M} {b L i : Nat} {xs : Nat → Int32} {H : Heap} {locs : List Loc} {ls : Array Slot} (hC : fm_C G p m c code 4 s #[Value.ref b] R_law) (hX : va_X b L xs s s.heap) (hbl : b < s.heap.size) (hbA : ¬ fm_A G b) (hi : i + 6 ≤ L) (hL : L ≤ 3072) (hI : fm_I G σ s H locs) (hv : Inv σ) (hl : lv_has ls 4 [(0, .ref b), (1, .ref (G.2.1 0)), (2, .ref (G.2.1 96)), (3, .int (nI i))])
    (K : ∀ (σ : fm_M) (H : Heap) (locs : List Loc), fm_I G σ s H locs → Inv σ → W p l e room_1 s m #[Value.ref b] below meth c H locs 600000 7302250 (lw_Z below #[Value.ref b] s) (F0 m 1462 ls [])) : W p l e room_1 s m #[Value.ref b] below meth c H locs 600000 7302250 (lw_Z below #[Value.ref b] s) (F0 m 1029 ls []) := by
  have hx := hC.1.1
  have hb := hC.1.2.1
  have hown := hC.1.2.2.2.1
  have hts := hC.1.2.2.2.2
  obtain ⟨r, σ1, σ2, e1, e2, hv2⟩ := op_feed (xs (i + 1)) (xs (i + 2)) hv
  refine lv_aload_n hx hb dL_1029 rfl (lv_at hl 1 rfl) ?_
  refine lw_ld (k := 1) hC hX hbl hbA hi hL (by decide) hI hl (by decide) dL_1030 dL_1031 dL_1032 dL_1033 dL_1034 ?_
  refine lw_ld (k := 2) hC hX hbl hbA hi hL (by decide) hI hl (by decide) dL_1035 dL_1036 dL_1037 dL_1038 dL_1039 ?_
  refine fm_ci hI (fm_runV (As := [.int (xs (i + 1)), .int (xs (i + 2))]) (rest := []) (rm := { frames := 2, cells := 0, slots := 0, locals := 44 }) hC hI (c_X11_feed hC.2.2.1 e1) mV_X11_feed q_590 ⟨rfl, rfl⟩ ⟨Nat.le_of_ble_eq_true rfl, Nat.le_of_ble_eq_true rfl⟩ fc_0 rfl (by decide) rfl hl.1 rfl (Nat.le_of_ble_eq_true rfl) dL_1040 ⟨Nat.le_refl _, Nat.le_refl _⟩) (fun H locs hI => ?_)
  refine lv_aload_n hx hb dL_1043 rfl (lv_at hl 2 rfl) ?_
  refine lw_ld (k := 1) hC hX hbl hbA hi hL (by decide) hI hl (by decide) dL_1044 dL_1045 dL_1046 dL_1047 dL_1048 ?_
  refine lw_ld (k := 2) hC hX hbl hbA hi hL (by decide) hI hl (by decide) dL_1049 dL_1050 dL_1051 dL_1052 dL_1053 ?_
  refine fm_ci hI (fm_runV (As := [.int (xs (i + 1)), .int (xs (i + 2))]) (rest := [.int r]) (rm := { frames := 1, cells := 0, slots := 0, locals := 22 }) hC hI (c_X12_feed hC.2.2.1 e2) mV_X12_feed q_1108 ⟨rfl, rfl⟩ ⟨Nat.le_of_ble_eq_true rfl, Nat.le_of_ble_eq_true rfl⟩ fc_96 rfl (by decide) rfl hl.1 rfl (Nat.le_of_ble_eq_true rfl) dL_1054 ⟨Nat.le_refl _, Nat.le_refl _⟩) (fun H locs hI => ?_)
  exact lv_icmp_eq (tgt := 1462) hx hb dL_1057 (by decide) (fun _ => K σ2 H locs hI hv2) (fun hc => absurd rfl hc)
