def m_X12_takesNumber (a1 : Int32) (a2 : Int32) (σ : fm_M) : Option (Int32 × fm_M) := fm_j (fun (v0_J1 : Int32) (σ_J1 : fm_M) => if v0_J1 < 0 then (some (v0_J1, σ_J1)) else (fm_b (m_X12_nextToken  σ_J1) fun _u2 σ3 => (some (v0_J1, σ3)))) (fun J1 => if (σ.1 96 9) = (2 : Int32) then (fm_b (m_X12_in1 ((σ.2 96 12).toInt32) a1 a2 σ) fun r5 σ6 => (if r5 = 0 then (J1 (-1 : Int32) σ6) else (J1 ((σ6.2 96 12).toInt32) σ6))) else (J1 (-1 : Int32) σ))
set_option maxHeartbeats 4000000 in
set_option maxRecDepth 100000 in
theorem c_X12_takesNumber {l : Launch} {G : fm_G} (hJ : fm_J G) {a1 : Int32} {a2 : Int32} {σ : fm_M} {o : Int32 × fm_M}  (hf : m_X12_takesNumber a1 a2 σ = some o) : Met l yX12_takesNumber (fm_w yX12_takesNumber cX12_takesNumber 4 (some .int)) { frames := 3, cells := 0, slots := 0, locals := 62 } (va_Pc [.ref (G.2.1 96), .int a1, .int a2] (fm_st G σ)) (fm_Qi G o) 0 0 (fm_A G) := by
  refine fm_mth (own := RX12) hJ rfl (by decide +kernel) (Nat.le_of_ble_eq_true rfl) ?_
  intro p e s m below meth c ls hC hr hlk hI hl
  have hx := hC.1.1
  have hb := hC.1.2.1
  have hown := hC.1.2.2.2.1
  have hts := hC.1.2.2.2.2
  have hl : lv_has ls 4 [(0, .ref (G.2.1 96)), (1, .int a1), (2, .int a2)] := hl
  rw [m_X12_takesNumber] at hf
  refine lv_aload_n hx hb dX12_takesNumber_0 rfl (lv_at hl 0 rfl) ?_
  refine fm_gi hC hI fd_X12_9 fc_96 q_807 dX12_takesNumber_1 ?_
  refine lv_iconst (v := (2 : Int32)) hx hb dX12_takesNumber_4 (by decide) ?_
  obtain ⟨J1, eJ1, hf⟩ := fm_jE hf
  have hJ1 : ∀ (v0_J1 : Int32) (σ_J1 : fm_M) (H : Heap) (locs : List Loc) (ls : Array Slot), fm_I G σ_J1 s H locs → lv_has ls 4 [(0, .ref (G.2.1 96))] → J1 v0_J1 σ_J1 = some o → W p l e { frames := 3, cells := 0, slots := 0, locals := 62 } s m ([.ref (G.2.1 96), .int a1, .int a2] : List Value).toArray below meth c H locs 0 0 (MQ below (fm_Qi G o) ([.ref (G.2.1 96), .int a1, .int a2] : List Value).toArray s 0 0 (fm_A G)) (F0 m 30 ls [.int v0_J1]) := by
    intro v0_J1 σ_J1 H locs ls hI hl hf
    subst eJ1
    refine lv_istore_n (lv' := [(3, .int v0_J1), (0, .ref (G.2.1 96))]) hx hb dX12_takesNumber_30 rfl hl (Nat.le_of_ble_eq_true rfl) rfl (fun ls hl => ?_)
    refine lv_iload_n hx hb dX12_takesNumber_31 rfl (lv_at hl 0 rfl) ?_
    refine lv_if_lt (tgt := 39) hx hb dX12_takesNumber_32 (by decide) (fun hc => ?_) (fun hc => ?_)
    · have hf := fm_pT hf hc
      refine lv_iload_n hx hb dX12_takesNumber_39 rfl (lv_at hl 0 rfl) ?_
      exact fm_ri hC hI hr hlk hf dX12_takesNumber_40
    · have hf := fm_pF hf hc
      refine lv_aload_n hx hb dX12_takesNumber_35 rfl (lv_at hl 1 rfl) ?_
      obtain ⟨_u2, σ3, hq4, hf⟩ := fm_bE hf
      refine fm_cv hI (fm_runV (As := []) (rest := []) (rm := { frames := 2, cells := 0, slots := 0, locals := 42 }) hC hI (c_X12_nextToken hC.2.2.1 hq4) mV_X12_nextToken q_1120 ⟨rfl, rfl⟩ ⟨Nat.le_of_ble_eq_true rfl, Nat.le_of_ble_eq_true rfl⟩ fc_96 rfl (by decide) rfl hl.1 rfl (Nat.le_of_ble_eq_true rfl) dX12_takesNumber_36 ⟨Nat.zero_le _, Nat.zero_le _⟩) (fun H locs hI => ?_)
      refine lv_iload_n hx hb dX12_takesNumber_39 rfl (lv_at hl 0 rfl) ?_
      exact fm_ri hC hI hr hlk hf dX12_takesNumber_40
  refine lv_icmp_ne (tgt := 29) hx hb dX12_takesNumber_5 (by decide) (fun hc => ?_) (fun hc => ?_)
  · have hf := fm_pF hf hc
    refine lv_iconst (v := (-1 : Int32)) hx hb dX12_takesNumber_29 (by decide) ?_
    exact hJ1 (-1 : Int32) σ _ _ _ hI (lv_sub hl [0] rfl) hf
  · have hf := fm_pT hf hc
    refine lv_aload_n hx hb dX12_takesNumber_8 rfl (lv_at hl 0 rfl) ?_
    refine fm_gl hC hI fd_X12_12 fc_96 q_810 dX12_takesNumber_9 ?_
    refine lv_l2i (v := (σ.2 96 12).toInt32) hx hb dX12_takesNumber_12 rfl ?_
    refine lv_iload_n hx hb dX12_takesNumber_13 rfl (lv_at hl 1 rfl) ?_
    refine lv_iload_n hx hb dX12_takesNumber_14 rfl (lv_at hl 2 rfl) ?_
    obtain ⟨r5, σ6, hq7, hf⟩ := fm_bE hf
    refine fm_ci hI (fm_runS (As := [.int ((σ.2 96 12).toInt32), .int a1, .int a2]) (rest := []) (rm := { frames := 0, cells := 0, slots := 0, locals := 0 }) hC hI (c_X12_in1 hC.2.2.1 hq7) mS_X12_in1 q_864 ⟨rfl, rfl⟩ ⟨Nat.le_of_ble_eq_true rfl, Nat.le_of_ble_eq_true rfl⟩ rfl hl.1 rfl (Nat.le_of_ble_eq_true rfl) dX12_takesNumber_15 ⟨Nat.zero_le _, Nat.zero_le _⟩) (fun H locs hI => ?_)
    refine lv_if_eq (tgt := 29) hx hb dX12_takesNumber_18 (by decide) (fun hc => ?_) (fun hc => ?_)
    · have hf := fm_pT hf hc
      refine lv_iconst (v := (-1 : Int32)) hx hb dX12_takesNumber_29 (by decide) ?_
      exact hJ1 (-1 : Int32) σ6 _ _ _ hI (lv_sub hl [0] rfl) hf
    · have hf := fm_pF hf hc
      refine lv_aload_n hx hb dX12_takesNumber_21 rfl (lv_at hl 0 rfl) ?_
      refine fm_gl hC hI fd_X12_12 fc_96 q_810 dX12_takesNumber_22 ?_
      refine lv_l2i (v := (σ6.2 96 12).toInt32) hx hb dX12_takesNumber_25 rfl ?_
      refine lv_goto (tgt := 30) hx hb dX12_takesNumber_26 (by decide) ?_
      exact hJ1 ((σ6.2 96 12).toInt32) σ6 _ _ _ hI (lv_sub hl [0] rfl) hf
def m_X12_readsPresent_96 (kc : Int32 → Int32 → fm_M → Option (Int32 × fm_M)) : Nat → Int32 → Int32 → fm_M → Option (Int32 × fm_M)
  | 0, _, _, _ => none
  | n + 1, z2, z3, σ => if z3 < 0 then (kc z2 z3 σ) else (fm_b (m_X12_of1 z2 (0 : Int32) σ) fun r19 σ20 => (if r19 = (6 : Int32) then (some ((0 : Int32), σ20)) else (fm_b (m_X12_of1 z2 (0 : Int32) σ20) fun r22 σ23 => (fm_b (m_X12_lays1 z2 ((4 : Int32) + r22) z3 σ23) fun _u25 σ26 => (fm_b (m_X12_of1 z2 (0 : Int32) σ26) fun r28 σ29 => (fm_b (m_X12_lays1 z2 (0 : Int32) (r28 + (1 : Int32)) σ29) fun _u31 σ32 => (fm_b (m_X12_nextToken  σ32) fun _u34 σ35 => (fm_b (m_X12_wordOf 105 σ35) fun r37 σ38 => (m_X12_readsPresent_96 kc n z2 r37 σ38)))))))))
def m_X12_readsPresent  (σ : fm_M) : Option (Int32 × fm_M) := fm_g (fm_in1 (2 : Int32) 96) (if (σ.1 97 (2 : Int32).toNatClampNeg) = (8 : Int32) then (some ((0 : Int32), σ)) else (fm_b (m_X12_nextToken  σ) fun _u2 σ3 => (fm_g (fm_in1 (1 : Int32) 96) (fm_b (m_X12_takesNumber (0 : Int32) ((σ3.1 97 (1 : Int32).toNatClampNeg) - (1 : Int32)) σ3) fun r6 σ7 => (if 0 ≤ r6 then (fm_g (fm_in1 (2 : Int32) 96) (fm_b (m_X12_addsPresent r6 (0 : Int32) σ7) fun _u10 σ11 => (fm_b (m_X12_wordOf 104 σ11) fun r13 σ14 => (if r13 = (1 : Int32) then (fm_b (m_X12_nextToken  σ14) fun _u41 σ42 => (fm_b (m_X12_takesNumber (0 : Int32) (99 : Int32) σ42) fun r44 σ45 => (if 0 ≤ r44 then (fm_b (m_X12_lays1 (σ7.1 97 (2 : Int32).toNatClampNeg) (1 : Int32) r44 σ45) fun _u47 σ48 => (fm_b (m_X12_wordOf 105 σ48) fun r50 σ51 => (m_X12_readsPresent_96 (fun (x2_y53 : Int32) (x3_y53 : Int32) (σ_y53 : fm_M) => some ((1 : Int32), σ_y53)) fm_fu (σ7.1 97 (2 : Int32).toNatClampNeg) r50 σ51))) else (some ((0 : Int32), σ45))))) else (fm_b (m_X12_wordOf 105 σ14) fun r16 σ17 => (m_X12_readsPresent_96 (fun (x2_y40 : Int32) (x3_y40 : Int32) (σ_y40 : fm_M) => some ((1 : Int32), σ_y40)) fm_fu (σ7.1 97 (2 : Int32).toNatClampNeg) r16 σ17)))))) else (some ((0 : Int32), σ7)))))))
set_option maxHeartbeats 4000000 in
set_option maxRecDepth 100000 in
theorem w_X12_readsPresent_96 {p : Program} {l : Launch} {e : Env} {s : State} {m : MethodId} {args : Array Value} {below : List Frame} {meth : Method} {c : Code} {G : fm_G} {o : Int32 × fm_M} {kc : Int32 → Int32 → fm_M → Option (Int32 × fm_M)} (hC : fm_C G p m c cX12_readsPresent 4 s args RX12) (hr : meth.sig.returnType = (some .boolean)) (hlk : meth.locks = false) (hk : ∀ (z2 : Int32) (z3 : Int32) (σ : fm_M) (H : Heap) (locs : List Loc) (ls : Array Slot), fm_I G σ s H locs → lv_has ls 4 [(0, .ref (G.2.1 96)), (2, .int z2), (3, .int z3)] → kc z2 z3 σ = some o → W p l e { frames := 4, cells := 0, slots := 0, locals := 85 } s m args below meth c H locs 0 0 (MQ below (fm_Qi G o) args s 0 0 (fm_A G)) (F0 m 157 ls [])) (n : Nat) : ∀ (z2 : Int32) (z3 : Int32) (σ : fm_M) (H : Heap) (locs : List Loc) (ls : Array Slot), fm_I G σ s H locs → lv_has ls 4 [(0, .ref (G.2.1 96)), (2, .int z2), (3, .int z3)] → m_X12_readsPresent_96 kc n z2 z3 σ = some o → W p l e { frames := 4, cells := 0, slots := 0, locals := 85 } s m args below meth c H locs 0 0 (MQ below (fm_Qi G o) args s 0 0 (fm_A G)) (F0 m 96 ls []) := by
  have hx := hC.1.1
  have hb := hC.1.2.1
  have hown := hC.1.2.2.2.1
  have hts := hC.1.2.2.2.2
  induction n with
  | zero =>
    intro z2 z3 σ H locs ls hI hl hf
    cases hf
  | succ n ih =>
    intro z2 z3 σ H locs ls hI hl hf
    rw [m_X12_readsPresent_96] at hf
    refine lv_iload_n hx hb dX12_readsPresent_96 rfl (lv_at hl 2 rfl) ?_
    refine lv_if_lt (tgt := 157) hx hb dX12_readsPresent_97 (by decide) (fun hc => ?_) (fun hc => ?_)
    · have hf := fm_pT hf hc
      exact hk z2 z3 σ _ _ _ hI (lv_sub hl [0, 1, 2] rfl) hf
    · have hf := fm_pF hf hc
      refine lv_aload_n hx hb dX12_readsPresent_100 rfl (lv_at hl 0 rfl) ?_
      refine lv_iload_n hx hb dX12_readsPresent_101 rfl (lv_at hl 1 rfl) ?_
      refine lv_iconst (v := (0 : Int32)) hx hb dX12_readsPresent_102 (by decide) ?_
      obtain ⟨r19, σ20, hq21, hf⟩ := fm_bE hf
      refine fm_ci hI (fm_runV (As := [.int z2, .int (0 : Int32)]) (rest := []) (rm := { frames := 0, cells := 0, slots := 0, locals := 0 }) hC hI (c_X12_of1 hC.2.2.1 hq21) mV_X12_of1 q_896 ⟨rfl, rfl⟩ ⟨Nat.le_of_ble_eq_true rfl, Nat.le_of_ble_eq_true rfl⟩ fc_96 rfl (by decide) rfl hl.1 rfl (Nat.le_of_ble_eq_true rfl) dX12_readsPresent_103 ⟨Nat.zero_le _, Nat.zero_le _⟩) (fun H locs hI => ?_)
      refine lv_bipush (v := (6 : Int32)) hx hb dX12_readsPresent_106 (by decide) ?_
      refine lv_icmp_ne (tgt := 113) hx hb dX12_readsPresent_108 (by decide) (fun hc => ?_) (fun hc => ?_)
      · have hf := fm_pF hf hc
        refine lv_aload_n hx hb dX12_readsPresent_113 rfl (lv_at hl 0 rfl) ?_
        refine lv_iload_n hx hb dX12_readsPresent_114 rfl (lv_at hl 1 rfl) ?_
        refine lv_iconst (v := (4 : Int32)) hx hb dX12_readsPresent_115 (by decide) ?_
        refine lv_aload_n hx hb dX12_readsPresent_116 rfl (lv_at hl 0 rfl) ?_
        refine lv_iload_n hx hb dX12_readsPresent_117 rfl (lv_at hl 1 rfl) ?_
        refine lv_iconst (v := (0 : Int32)) hx hb dX12_readsPresent_118 (by decide) ?_
        obtain ⟨r22, σ23, hq24, hf⟩ := fm_bE hf
        refine fm_ci hI (fm_runV (As := [.int z2, .int (0 : Int32)]) (rest := [.int (4 : Int32), .int z2, .ref (G.2.1 96)]) (rm := { frames := 0, cells := 0, slots := 0, locals := 0 }) hC hI (c_X12_of1 hC.2.2.1 hq24) mV_X12_of1 q_896 ⟨rfl, rfl⟩ ⟨Nat.le_of_ble_eq_true rfl, Nat.le_of_ble_eq_true rfl⟩ fc_96 rfl (by decide) rfl hl.1 rfl (Nat.le_of_ble_eq_true rfl) dX12_readsPresent_119 ⟨Nat.zero_le _, Nat.zero_le _⟩) (fun H locs hI => ?_)
        refine lv_iadd hx hb dX12_readsPresent_122 ?_
        refine lv_iload_n hx hb dX12_readsPresent_123 rfl (lv_at hl 2 rfl) ?_
        obtain ⟨_u25, σ26, hq27, hf⟩ := fm_bE hf
        refine fm_cv hI (fm_runV (As := [.int z2, .int ((4 : Int32) + r22), .int z3]) (rest := []) (rm := { frames := 0, cells := 0, slots := 0, locals := 0 }) hC hI (c_X12_lays1 hC.2.2.1 hq27) mV_X12_lays1 q_947 ⟨rfl, rfl⟩ ⟨Nat.le_of_ble_eq_true rfl, Nat.le_of_ble_eq_true rfl⟩ fc_96 rfl (by decide) rfl hl.1 rfl (Nat.le_of_ble_eq_true rfl) dX12_readsPresent_124 ⟨Nat.zero_le _, Nat.zero_le _⟩) (fun H locs hI => ?_)
        refine lv_aload_n hx hb dX12_readsPresent_127 rfl (lv_at hl 0 rfl) ?_
        refine lv_iload_n hx hb dX12_readsPresent_128 rfl (lv_at hl 1 rfl) ?_
        refine lv_iconst (v := (0 : Int32)) hx hb dX12_readsPresent_129 (by decide) ?_
        refine lv_aload_n hx hb dX12_readsPresent_130 rfl (lv_at hl 0 rfl) ?_
        refine lv_iload_n hx hb dX12_readsPresent_131 rfl (lv_at hl 1 rfl) ?_
        refine lv_iconst (v := (0 : Int32)) hx hb dX12_readsPresent_132 (by decide) ?_
        obtain ⟨r28, σ29, hq30, hf⟩ := fm_bE hf
        refine fm_ci hI (fm_runV (As := [.int z2, .int (0 : Int32)]) (rest := [.int (0 : Int32), .int z2, .ref (G.2.1 96)]) (rm := { frames := 0, cells := 0, slots := 0, locals := 0 }) hC hI (c_X12_of1 hC.2.2.1 hq30) mV_X12_of1 q_896 ⟨rfl, rfl⟩ ⟨Nat.le_of_ble_eq_true rfl, Nat.le_of_ble_eq_true rfl⟩ fc_96 rfl (by decide) rfl hl.1 rfl (Nat.le_of_ble_eq_true rfl) dX12_readsPresent_133 ⟨Nat.zero_le _, Nat.zero_le _⟩) (fun H locs hI => ?_)
        refine lv_iconst (v := (1 : Int32)) hx hb dX12_readsPresent_136 (by decide) ?_
        refine lv_iadd hx hb dX12_readsPresent_137 ?_
        obtain ⟨_u31, σ32, hq33, hf⟩ := fm_bE hf
        refine fm_cv hI (fm_runV (As := [.int z2, .int (0 : Int32), .int (r28 + (1 : Int32))]) (rest := []) (rm := { frames := 0, cells := 0, slots := 0, locals := 0 }) hC hI (c_X12_lays1 hC.2.2.1 hq33) mV_X12_lays1 q_947 ⟨rfl, rfl⟩ ⟨Nat.le_of_ble_eq_true rfl, Nat.le_of_ble_eq_true rfl⟩ fc_96 rfl (by decide) rfl hl.1 rfl (Nat.le_of_ble_eq_true rfl) dX12_readsPresent_138 ⟨Nat.zero_le _, Nat.zero_le _⟩) (fun H locs hI => ?_)
        refine lv_aload_n hx hb dX12_readsPresent_141 rfl (lv_at hl 0 rfl) ?_
        obtain ⟨_u34, σ35, hq36, hf⟩ := fm_bE hf
        refine fm_cv hI (fm_runV (As := []) (rest := []) (rm := { frames := 2, cells := 0, slots := 0, locals := 42 }) hC hI (c_X12_nextToken hC.2.2.1 hq36) mV_X12_nextToken q_1120 ⟨rfl, rfl⟩ ⟨Nat.le_of_ble_eq_true rfl, Nat.le_of_ble_eq_true rfl⟩ fc_96 rfl (by decide) rfl hl.1 rfl (Nat.le_of_ble_eq_true rfl) dX12_readsPresent_142 ⟨Nat.zero_le _, Nat.zero_le _⟩) (fun H locs hI => ?_)
        refine lv_aload_n hx hb dX12_readsPresent_145 rfl (lv_at hl 0 rfl) ?_
        refine lv_aload_n hx hb dX12_readsPresent_146 rfl (lv_at hl 0 rfl) ?_
        refine fm_gr hC hI fd_X12_15 fc_96 fr_96_15 q_813 dX12_readsPresent_147 ?_
        obtain ⟨r37, σ38, hq39, hf⟩ := fm_bE hf
        refine fm_ci hI (fm_runV (As := [.ref (G.2.1 105)]) (rest := []) (rm := { frames := 0, cells := 0, slots := 0, locals := 0 }) hC hI (c_X12_wordOf hC.2.2.1 fc_105 hq39) mV_X12_wordOf q_1140 ⟨rfl, rfl⟩ ⟨Nat.le_of_ble_eq_true rfl, Nat.le_of_ble_eq_true rfl⟩ fc_96 rfl (by decide) rfl hl.1 rfl (Nat.le_of_ble_eq_true rfl) dX12_readsPresent_150 ⟨Nat.zero_le _, Nat.zero_le _⟩) (fun H locs hI => ?_)
        refine lv_istore_n (lv' := [(3, .int r37), (0, .ref (G.2.1 96)), (2, .int z2)]) hx hb dX12_readsPresent_153 rfl hl (Nat.le_of_ble_eq_true rfl) rfl (fun ls hl => ?_)
        refine lv_goto (tgt := 96) hx hb dX12_readsPresent_154 (by decide) ?_
        exact ih z2 r37 σ38 _ _ _ hI (lv_sub hl [1, 2, 0] rfl) hf
      · have hf := fm_pT hf hc
        refine lv_iconst (v := (0 : Int32)) hx hb dX12_readsPresent_111 (by decide) ?_
        exact fm_rz hC hI hr hlk (by decide) hf dX12_readsPresent_112
set_option maxHeartbeats 4000000 in
set_option maxRecDepth 100000 in
theorem c_X12_readsPresent {l : Launch} {G : fm_G} (hJ : fm_J G) {σ : fm_M} {o : Int32 × fm_M}  (hf : m_X12_readsPresent  σ = some o) : Met l yX12_readsPresent (fm_w yX12_readsPresent cX12_readsPresent 4 (some .boolean)) { frames := 4, cells := 0, slots := 0, locals := 85 } (va_Pc [.ref (G.2.1 96)] (fm_st G σ)) (fm_Qi G o) 0 0 (fm_A G) := by
  refine fm_mth (own := RX12) hJ rfl (by decide +kernel) (Nat.le_of_ble_eq_true rfl) ?_
  intro p e s m below meth c ls hC hr hlk hI hl
  have hx := hC.1.1
  have hb := hC.1.2.1
  have hown := hC.1.2.2.2.1
  have hts := hC.1.2.2.2.2
  have hl : lv_has ls 4 [(0, .ref (G.2.1 96))] := hl
  rw [m_X12_readsPresent] at hf
  refine lv_aload_n hx hb dX12_readsPresent_0 rfl (lv_at hl 0 rfl) ?_
  refine fm_gr hC hI fd_X12_0 fc_96 fr_96_0 q_798 dX12_readsPresent_1 ?_
  refine lv_iconst (v := (2 : Int32)) hx hb dX12_readsPresent_4 (by decide) ?_
  obtain ⟨hg1, hf⟩ := fm_gE hf
  refine fm_iald hC hI fc_97 fl_97 hg1 dX12_readsPresent_5 ?_
  refine lv_bipush (v := (8 : Int32)) hx hb dX12_readsPresent_6 (by decide) ?_
  refine lv_icmp_ne (tgt := 13) hx hb dX12_readsPresent_8 (by decide) (fun hc => ?_) (fun hc => ?_)
  · have hf := fm_pF hf hc
    refine lv_aload_n hx hb dX12_readsPresent_13 rfl (lv_at hl 0 rfl) ?_
    obtain ⟨_u2, σ3, hq4, hf⟩ := fm_bE hf
    refine fm_cv hI (fm_runV (As := []) (rest := []) (rm := { frames := 2, cells := 0, slots := 0, locals := 42 }) hC hI (c_X12_nextToken hC.2.2.1 hq4) mV_X12_nextToken q_1120 ⟨rfl, rfl⟩ ⟨Nat.le_of_ble_eq_true rfl, Nat.le_of_ble_eq_true rfl⟩ fc_96 rfl (by decide) rfl hl.1 rfl (Nat.le_of_ble_eq_true rfl) dX12_readsPresent_14 ⟨Nat.zero_le _, Nat.zero_le _⟩) (fun H locs hI => ?_)
    refine lv_aload_n hx hb dX12_readsPresent_17 rfl (lv_at hl 0 rfl) ?_
    refine lv_iconst (v := (0 : Int32)) hx hb dX12_readsPresent_18 (by decide) ?_
    refine lv_aload_n hx hb dX12_readsPresent_19 rfl (lv_at hl 0 rfl) ?_
    refine fm_gr hC hI fd_X12_0 fc_96 fr_96_0 q_798 dX12_readsPresent_20 ?_
    refine lv_iconst (v := (1 : Int32)) hx hb dX12_readsPresent_23 (by decide) ?_
    obtain ⟨hg5, hf⟩ := fm_gE hf
    refine fm_iald hC hI fc_97 fl_97 hg5 dX12_readsPresent_24 ?_
    refine lv_iconst (v := (1 : Int32)) hx hb dX12_readsPresent_25 (by decide) ?_
    refine lv_isub hx hb dX12_readsPresent_26 ?_
    obtain ⟨r6, σ7, hq8, hf⟩ := fm_bE hf
    refine fm_ci hI (fm_runV (As := [.int (0 : Int32), .int ((σ3.1 97 (1 : Int32).toNatClampNeg) - (1 : Int32))]) (rest := []) (rm := { frames := 3, cells := 0, slots := 0, locals := 62 }) hC hI (c_X12_takesNumber hC.2.2.1 hq8) mV_X12_takesNumber q_1148 ⟨rfl, rfl⟩ ⟨Nat.le_of_ble_eq_true rfl, Nat.le_of_ble_eq_true rfl⟩ fc_96 rfl (by decide) rfl hl.1 rfl (Nat.le_of_ble_eq_true rfl) dX12_readsPresent_27 ⟨Nat.zero_le _, Nat.zero_le _⟩) (fun H locs hI => ?_)
    refine lv_istore_n (lv' := [(1, .int r6), (0, .ref (G.2.1 96))]) hx hb dX12_readsPresent_30 rfl hl (Nat.le_of_ble_eq_true rfl) rfl (fun ls hl => ?_)
    refine lv_iload_n hx hb dX12_readsPresent_31 rfl (lv_at hl 0 rfl) ?_
    refine lv_if_ge (tgt := 37) hx hb dX12_readsPresent_32 (by decide) (fun hc => ?_) (fun hc => ?_)
    · have hf := fm_pT hf hc
      refine lv_aload_n hx hb dX12_readsPresent_37 rfl (lv_at hl 1 rfl) ?_
      refine fm_gr hC hI fd_X12_0 fc_96 fr_96_0 q_798 dX12_readsPresent_38 ?_
      refine lv_iconst (v := (2 : Int32)) hx hb dX12_readsPresent_41 (by decide) ?_
      obtain ⟨hg9, hf⟩ := fm_gE hf
      refine fm_iald hC hI fc_97 fl_97 hg9 dX12_readsPresent_42 ?_
      refine lv_istore_n (lv' := [(2, .int (σ7.1 97 (2 : Int32).toNatClampNeg)), (1, .int r6), (0, .ref (G.2.1 96))]) hx hb dX12_readsPresent_43 rfl hl (Nat.le_of_ble_eq_true rfl) rfl (fun ls hl => ?_)
      refine lv_aload_n hx hb dX12_readsPresent_44 rfl (lv_at hl 2 rfl) ?_
      refine lv_iload_n hx hb dX12_readsPresent_45 rfl (lv_at hl 1 rfl) ?_
      refine lv_iconst (v := (0 : Int32)) hx hb dX12_readsPresent_46 (by decide) ?_
      obtain ⟨_u10, σ11, hq12, hf⟩ := fm_bE hf
      refine fm_cv hI (fm_runV (As := [.int r6, .int (0 : Int32)]) (rest := []) (rm := { frames := 1, cells := 0, slots := 0, locals := 23 }) hC hI (c_X12_addsPresent hC.2.2.1 hq12) mV_X12_addsPresent q_943 ⟨rfl, rfl⟩ ⟨Nat.le_of_ble_eq_true rfl, Nat.le_of_ble_eq_true rfl⟩ fc_96 rfl (by decide) rfl hl.1 rfl (Nat.le_of_ble_eq_true rfl) dX12_readsPresent_47 ⟨Nat.zero_le _, Nat.zero_le _⟩) (fun H locs hI => ?_)
      refine lv_aload_n hx hb dX12_readsPresent_50 rfl (lv_at hl 2 rfl) ?_
      refine lv_aload_n hx hb dX12_readsPresent_51 rfl (lv_at hl 2 rfl) ?_
      refine fm_gr hC hI fd_X12_14 fc_96 fr_96_14 q_812 dX12_readsPresent_52 ?_
      obtain ⟨r13, σ14, hq15, hf⟩ := fm_bE hf
      refine fm_ci hI (fm_runV (As := [.ref (G.2.1 104)]) (rest := []) (rm := { frames := 0, cells := 0, slots := 0, locals := 0 }) hC hI (c_X12_wordOf hC.2.2.1 fc_104 hq15) mV_X12_wordOf q_1140 ⟨rfl, rfl⟩ ⟨Nat.le_of_ble_eq_true rfl, Nat.le_of_ble_eq_true rfl⟩ fc_96 rfl (by decide) rfl hl.1 rfl (Nat.le_of_ble_eq_true rfl) dX12_readsPresent_55 ⟨Nat.zero_le _, Nat.zero_le _⟩) (fun H locs hI => ?_)
      refine lv_iconst (v := (1 : Int32)) hx hb dX12_readsPresent_58 (by decide) ?_
      refine lv_icmp_ne (tgt := 87) hx hb dX12_readsPresent_59 (by decide) (fun hc => ?_) (fun hc => ?_)
      · have hf := fm_pF hf hc
        refine lv_aload_n hx hb dX12_readsPresent_87 rfl (lv_at hl 2 rfl) ?_
        refine lv_aload_n hx hb dX12_readsPresent_88 rfl (lv_at hl 2 rfl) ?_
        refine fm_gr hC hI fd_X12_15 fc_96 fr_96_15 q_813 dX12_readsPresent_89 ?_
        obtain ⟨r16, σ17, hq18, hf⟩ := fm_bE hf
        refine fm_ci hI (fm_runV (As := [.ref (G.2.1 105)]) (rest := []) (rm := { frames := 0, cells := 0, slots := 0, locals := 0 }) hC hI (c_X12_wordOf hC.2.2.1 fc_105 hq18) mV_X12_wordOf q_1140 ⟨rfl, rfl⟩ ⟨Nat.le_of_ble_eq_true rfl, Nat.le_of_ble_eq_true rfl⟩ fc_96 rfl (by decide) rfl hl.1 rfl (Nat.le_of_ble_eq_true rfl) dX12_readsPresent_92 ⟨Nat.zero_le _, Nat.zero_le _⟩) (fun H locs hI => ?_)
        refine lv_istore_n (lv' := [(3, .int r16), (2, .int (σ7.1 97 (2 : Int32).toNatClampNeg)), (1, .int r6), (0, .ref (G.2.1 96))]) hx hb dX12_readsPresent_95 rfl hl (Nat.le_of_ble_eq_true rfl) rfl (fun ls hl => ?_)
        refine w_X12_readsPresent_96 hC hr hlk (fun x2_y40 x3_y40 σ_y40 H locs ls hI hl hf => ?_) fm_fu (σ7.1 97 (2 : Int32).toNatClampNeg) r16 σ17 _ _ _ hI (lv_sub hl [3, 1, 0] rfl) hf
        refine lv_iconst (v := (1 : Int32)) hx hb dX12_readsPresent_157 (by decide) ?_
        exact fm_rz hC hI hr hlk (by decide) hf dX12_readsPresent_158
      · have hf := fm_pT hf hc
        refine lv_aload_n hx hb dX12_readsPresent_62 rfl (lv_at hl 2 rfl) ?_
        obtain ⟨_u41, σ42, hq43, hf⟩ := fm_bE hf
        refine fm_cv hI (fm_runV (As := []) (rest := []) (rm := { frames := 2, cells := 0, slots := 0, locals := 42 }) hC hI (c_X12_nextToken hC.2.2.1 hq43) mV_X12_nextToken q_1120 ⟨rfl, rfl⟩ ⟨Nat.le_of_ble_eq_true rfl, Nat.le_of_ble_eq_true rfl⟩ fc_96 rfl (by decide) rfl hl.1 rfl (Nat.le_of_ble_eq_true rfl) dX12_readsPresent_63 ⟨Nat.zero_le _, Nat.zero_le _⟩) (fun H locs hI => ?_)
        refine lv_aload_n hx hb dX12_readsPresent_66 rfl (lv_at hl 2 rfl) ?_
        refine lv_iconst (v := (0 : Int32)) hx hb dX12_readsPresent_67 (by decide) ?_
        refine lv_bipush (v := (99 : Int32)) hx hb dX12_readsPresent_68 (by decide) ?_
        obtain ⟨r44, σ45, hq46, hf⟩ := fm_bE hf
        refine fm_ci hI (fm_runV (As := [.int (0 : Int32), .int (99 : Int32)]) (rest := []) (rm := { frames := 3, cells := 0, slots := 0, locals := 62 }) hC hI (c_X12_takesNumber hC.2.2.1 hq46) mV_X12_takesNumber q_1148 ⟨rfl, rfl⟩ ⟨Nat.le_of_ble_eq_true rfl, Nat.le_of_ble_eq_true rfl⟩ fc_96 rfl (by decide) rfl hl.1 rfl (Nat.le_of_ble_eq_true rfl) dX12_readsPresent_70 ⟨Nat.zero_le _, Nat.zero_le _⟩) (fun H locs hI => ?_)
        refine lv_istore_n (lv' := [(3, .int r44), (2, .int (σ7.1 97 (2 : Int32).toNatClampNeg)), (1, .int r6), (0, .ref (G.2.1 96))]) hx hb dX12_readsPresent_73 rfl hl (Nat.le_of_ble_eq_true rfl) rfl (fun ls hl => ?_)
        refine lv_iload_n hx hb dX12_readsPresent_74 rfl (lv_at hl 0 rfl) ?_
        refine lv_if_ge (tgt := 80) hx hb dX12_readsPresent_75 (by decide) (fun hc => ?_) (fun hc => ?_)
        · have hf := fm_pT hf hc
          refine lv_aload_n hx hb dX12_readsPresent_80 rfl (lv_at hl 3 rfl) ?_
          refine lv_iload_n hx hb dX12_readsPresent_81 rfl (lv_at hl 1 rfl) ?_
          refine lv_iconst (v := (1 : Int32)) hx hb dX12_readsPresent_82 (by decide) ?_
          refine lv_iload_n hx hb dX12_readsPresent_83 rfl (lv_at hl 0 rfl) ?_
          obtain ⟨_u47, σ48, hq49, hf⟩ := fm_bE hf
          refine fm_cv hI (fm_runV (As := [.int (σ7.1 97 (2 : Int32).toNatClampNeg), .int (1 : Int32), .int r44]) (rest := []) (rm := { frames := 0, cells := 0, slots := 0, locals := 0 }) hC hI (c_X12_lays1 hC.2.2.1 hq49) mV_X12_lays1 q_947 ⟨rfl, rfl⟩ ⟨Nat.le_of_ble_eq_true rfl, Nat.le_of_ble_eq_true rfl⟩ fc_96 rfl (by decide) rfl hl.1 rfl (Nat.le_of_ble_eq_true rfl) dX12_readsPresent_84 ⟨Nat.zero_le _, Nat.zero_le _⟩) (fun H locs hI => ?_)
          refine lv_aload_n hx hb dX12_readsPresent_87 rfl (lv_at hl 3 rfl) ?_
          refine lv_aload_n hx hb dX12_readsPresent_88 rfl (lv_at hl 3 rfl) ?_
          refine fm_gr hC hI fd_X12_15 fc_96 fr_96_15 q_813 dX12_readsPresent_89 ?_
          obtain ⟨r50, σ51, hq52, hf⟩ := fm_bE hf
          refine fm_ci hI (fm_runV (As := [.ref (G.2.1 105)]) (rest := []) (rm := { frames := 0, cells := 0, slots := 0, locals := 0 }) hC hI (c_X12_wordOf hC.2.2.1 fc_105 hq52) mV_X12_wordOf q_1140 ⟨rfl, rfl⟩ ⟨Nat.le_of_ble_eq_true rfl, Nat.le_of_ble_eq_true rfl⟩ fc_96 rfl (by decide) rfl hl.1 rfl (Nat.le_of_ble_eq_true rfl) dX12_readsPresent_92 ⟨Nat.zero_le _, Nat.zero_le _⟩) (fun H locs hI => ?_)
          refine lv_istore_n (lv' := [(3, .int r50), (2, .int (σ7.1 97 (2 : Int32).toNatClampNeg)), (1, .int r6), (0, .ref (G.2.1 96))]) hx hb dX12_readsPresent_95 rfl hl (Nat.le_of_ble_eq_true rfl) rfl (fun ls hl => ?_)
          refine w_X12_readsPresent_96 hC hr hlk (fun x2_y53 x3_y53 σ_y53 H locs ls hI hl hf => ?_) fm_fu (σ7.1 97 (2 : Int32).toNatClampNeg) r50 σ51 _ _ _ hI (lv_sub hl [3, 1, 0] rfl) hf
          refine lv_iconst (v := (1 : Int32)) hx hb dX12_readsPresent_157 (by decide) ?_
          exact fm_rz hC hI hr hlk (by decide) hf dX12_readsPresent_158
        · have hf := fm_pF hf hc
          refine lv_iconst (v := (0 : Int32)) hx hb dX12_readsPresent_78 (by decide) ?_
          exact fm_rz hC hI hr hlk (by decide) hf dX12_readsPresent_79
    · have hf := fm_pF hf hc
      refine lv_iconst (v := (0 : Int32)) hx hb dX12_readsPresent_35 (by decide) ?_
      exact fm_rz hC hI hr hlk (by decide) hf dX12_readsPresent_36
  · have hf := fm_pT hf hc
    refine lv_iconst (v := (0 : Int32)) hx hb dX12_readsPresent_11 (by decide) ?_
    exact fm_rz hC hI hr hlk (by decide) hf dX12_readsPresent_12
def m_X12_readsItem  (σ : fm_M) : Option (Int32 × fm_M) := fm_b (m_X12_wordOf 103 σ) fun r1 σ2 => (if 0 ≤ r1 then (fm_g (fm_in1 (1 : Int32) 96) (if (σ2.1 97 (1 : Int32).toNatClampNeg) = (6 : Int32) then (some ((0 : Int32), σ2)) else (fm_b (m_X12_addsPerson r1 σ2) fun _u5 σ6 => (fm_b (m_X12_nextToken  σ6) fun _u8 σ9 => (some ((1 : Int32), σ9)))))) else (fm_b (m_X12_wordOf 104 σ2) fun r11 σ12 => (if r11 = 0 then (fm_b (m_X12_readsPresent  σ12) fun r14 σ15 => (if r14 = 0 then (some ((0 : Int32), σ15)) else (some ((1 : Int32), σ15)))) else (some ((0 : Int32), σ12)))))
set_option maxHeartbeats 4000000 in
set_option maxRecDepth 100000 in
theorem c_X12_readsItem {l : Launch} {G : fm_G} (hJ : fm_J G) {σ : fm_M} {o : Int32 × fm_M}  (hf : m_X12_readsItem  σ = some o) : Met l yX12_readsItem (fm_w yX12_readsItem cX12_readsItem 2 (some .boolean)) { frames := 5, cells := 0, slots := 0, locals := 108 } (va_Pc [.ref (G.2.1 96)] (fm_st G σ)) (fm_Qi G o) 0 0 (fm_A G) := by
  refine fm_mth (own := RX12) hJ rfl (by decide +kernel) (Nat.le_of_ble_eq_true rfl) ?_
  intro p e s m below meth c ls hC hr hlk hI hl
  have hx := hC.1.1
  have hb := hC.1.2.1
  have hown := hC.1.2.2.2.1
  have hts := hC.1.2.2.2.2
  have hl : lv_has ls 2 [(0, .ref (G.2.1 96))] := hl
  rw [m_X12_readsItem] at hf
  refine lv_aload_n hx hb dX12_readsItem_0 rfl (lv_at hl 0 rfl) ?_
  refine lv_aload_n hx hb dX12_readsItem_1 rfl (lv_at hl 0 rfl) ?_
  refine fm_gr hC hI fd_X12_13 fc_96 fr_96_13 q_811 dX12_readsItem_2 ?_
  obtain ⟨r1, σ2, hq3, hf⟩ := fm_bE hf
  refine fm_ci hI (fm_runV (As := [.ref (G.2.1 103)]) (rest := []) (rm := { frames := 0, cells := 0, slots := 0, locals := 0 }) hC hI (c_X12_wordOf hC.2.2.1 fc_103 hq3) mV_X12_wordOf q_1140 ⟨rfl, rfl⟩ ⟨Nat.le_of_ble_eq_true rfl, Nat.le_of_ble_eq_true rfl⟩ fc_96 rfl (by decide) rfl hl.1 rfl (Nat.le_of_ble_eq_true rfl) dX12_readsItem_5 ⟨Nat.zero_le _, Nat.zero_le _⟩) (fun H locs hI => ?_)
  refine lv_istore_n (lv' := [(1, .int r1), (0, .ref (G.2.1 96))]) hx hb dX12_readsItem_8 rfl hl (Nat.le_of_ble_eq_true rfl) rfl (fun ls hl => ?_)
  refine lv_iload_n hx hb dX12_readsItem_9 rfl (lv_at hl 0 rfl) ?_
  refine lv_if_ge (tgt := 37) hx hb dX12_readsItem_10 (by decide) (fun hc => ?_) (fun hc => ?_)
  · have hf := fm_pT hf hc
    refine lv_aload_n hx hb dX12_readsItem_37 rfl (lv_at hl 1 rfl) ?_
    refine fm_gr hC hI fd_X12_0 fc_96 fr_96_0 q_798 dX12_readsItem_38 ?_
    refine lv_iconst (v := (1 : Int32)) hx hb dX12_readsItem_41 (by decide) ?_
    obtain ⟨hg4, hf⟩ := fm_gE hf
    refine fm_iald hC hI fc_97 fl_97 hg4 dX12_readsItem_42 ?_
    refine lv_bipush (v := (6 : Int32)) hx hb dX12_readsItem_43 (by decide) ?_
    refine lv_icmp_ne (tgt := 50) hx hb dX12_readsItem_45 (by decide) (fun hc => ?_) (fun hc => ?_)
    · have hf := fm_pF hf hc
      refine lv_aload_n hx hb dX12_readsItem_50 rfl (lv_at hl 1 rfl) ?_
      refine lv_iload_n hx hb dX12_readsItem_51 rfl (lv_at hl 0 rfl) ?_
      obtain ⟨_u5, σ6, hq7, hf⟩ := fm_bE hf
      refine fm_cv hI (fm_runV (As := [.int r1]) (rest := []) (rm := { frames := 1, cells := 0, slots := 0, locals := 23 }) hC hI (c_X12_addsPerson hC.2.2.1 hq7) mV_X12_addsPerson q_872 ⟨rfl, rfl⟩ ⟨Nat.le_of_ble_eq_true rfl, Nat.le_of_ble_eq_true rfl⟩ fc_96 rfl (by decide) rfl hl.1 rfl (Nat.le_of_ble_eq_true rfl) dX12_readsItem_52 ⟨Nat.zero_le _, Nat.zero_le _⟩) (fun H locs hI => ?_)
      refine lv_aload_n hx hb dX12_readsItem_55 rfl (lv_at hl 1 rfl) ?_
      obtain ⟨_u8, σ9, hq10, hf⟩ := fm_bE hf
      refine fm_cv hI (fm_runV (As := []) (rest := []) (rm := { frames := 2, cells := 0, slots := 0, locals := 42 }) hC hI (c_X12_nextToken hC.2.2.1 hq10) mV_X12_nextToken q_1120 ⟨rfl, rfl⟩ ⟨Nat.le_of_ble_eq_true rfl, Nat.le_of_ble_eq_true rfl⟩ fc_96 rfl (by decide) rfl hl.1 rfl (Nat.le_of_ble_eq_true rfl) dX12_readsItem_56 ⟨Nat.zero_le _, Nat.zero_le _⟩) (fun H locs hI => ?_)
      refine lv_iconst (v := (1 : Int32)) hx hb dX12_readsItem_59 (by decide) ?_
      exact fm_rz hC hI hr hlk (by decide) hf dX12_readsItem_60
    · have hf := fm_pT hf hc
      refine lv_iconst (v := (0 : Int32)) hx hb dX12_readsItem_48 (by decide) ?_
      exact fm_rz hC hI hr hlk (by decide) hf dX12_readsItem_49
  · have hf := fm_pF hf hc
    refine lv_aload_n hx hb dX12_readsItem_13 rfl (lv_at hl 1 rfl) ?_
    refine lv_aload_n hx hb dX12_readsItem_14 rfl (lv_at hl 1 rfl) ?_
    refine fm_gr hC hI fd_X12_14 fc_96 fr_96_14 q_812 dX12_readsItem_15 ?_
    obtain ⟨r11, σ12, hq13, hf⟩ := fm_bE hf
    refine fm_ci hI (fm_runV (As := [.ref (G.2.1 104)]) (rest := []) (rm := { frames := 0, cells := 0, slots := 0, locals := 0 }) hC hI (c_X12_wordOf hC.2.2.1 fc_104 hq13) mV_X12_wordOf q_1140 ⟨rfl, rfl⟩ ⟨Nat.le_of_ble_eq_true rfl, Nat.le_of_ble_eq_true rfl⟩ fc_96 rfl (by decide) rfl hl.1 rfl (Nat.le_of_ble_eq_true rfl) dX12_readsItem_18 ⟨Nat.zero_le _, Nat.zero_le _⟩) (fun H locs hI => ?_)
    refine lv_if_ne (tgt := 35) hx hb dX12_readsItem_21 (by decide) (fun hc => ?_) (fun hc => ?_)
    · have hf := fm_pF hf hc
      refine lv_iconst (v := (0 : Int32)) hx hb dX12_readsItem_35 (by decide) ?_
      exact fm_rz hC hI hr hlk (by decide) hf dX12_readsItem_36
    · have hf := fm_pT hf hc
      refine lv_aload_n hx hb dX12_readsItem_24 rfl (lv_at hl 1 rfl) ?_
      obtain ⟨r14, σ15, hq16, hf⟩ := fm_bE hf
      refine fm_ci hI (fm_runV (As := []) (rest := []) (rm := { frames := 4, cells := 0, slots := 0, locals := 85 }) hC hI (c_X12_readsPresent hC.2.2.1 hq16) mV_X12_readsPresent q_1144 ⟨rfl, rfl⟩ ⟨Nat.le_of_ble_eq_true rfl, Nat.le_of_ble_eq_true rfl⟩ fc_96 rfl (by decide) rfl hl.1 rfl (Nat.le_of_ble_eq_true rfl) dX12_readsItem_25 ⟨Nat.zero_le _, Nat.zero_le _⟩) (fun H locs hI => ?_)
      refine lv_if_eq (tgt := 35) hx hb dX12_readsItem_28 (by decide) (fun hc => ?_) (fun hc => ?_)
      · have hf := fm_pT hf hc
        refine lv_iconst (v := (0 : Int32)) hx hb dX12_readsItem_35 (by decide) ?_
        exact fm_rz hC hI hr hlk (by decide) hf dX12_readsItem_36
      · have hf := fm_pF hf hc
        refine lv_iconst (v := (1 : Int32)) hx hb dX12_readsItem_31 (by decide) ?_
        refine lv_goto (tgt := 36) hx hb dX12_readsItem_32 (by decide) ?_
        exact fm_rz hC hI hr hlk (by decide) hf dX12_readsItem_36
def m_X12_town_20 (kc : Int32 → Int32 → fm_M → Option (Int32 × fm_M)) : Nat → Int32 → Int32 → fm_M → Option (Int32 × fm_M)
  | 0, _, _, _ => none
  | n + 1, z1, z2, σ => if z2 = 0 then (kc z1 z2 σ) else (if (σ.1 96 9) = (3 : Int32) then (fm_b (m_X12_nextToken  σ) fun _u12 σ13 => (fm_b (m_X12_readsItem  σ13) fun r15 σ16 => (m_X12_town_20 kc n (z1 + (1 : Int32)) r15 σ16))) else (kc z1 z2 σ))
def m_X12_town  (σ : fm_M) : Option (Int32 × fm_M) := fm_b (m_X12_setsAside  σ) fun _u1 σ2 => (fm_let (fm_sI σ2 96 11 (0 : Int32)) fun σ4 => (fm_b (m_X12_nextToken  σ4) fun _u6 σ7 => (fm_b (m_X12_readsItem  σ7) fun r9 σ10 => (m_X12_town_20 (fun (x1_y18 : Int32) (x2_y18 : Int32) (σ_y18 : fm_M) => fm_j (fun (v0_J19 : Int32) (σ_J19 : fm_M) => fm_let (fm_sI σ_J19 96 8 (0 : Int32)) fun σ20 => (if v0_J19 = 0 then (fm_b (m_X12_laysBack  σ20) fun _u22 σ23 => (some (((-1 : Int32) - (σ23.1 96 10)), σ23))) else (some (x1_y18, σ20)))) (fun J19 => if x2_y18 = 0 then (J19 (0 : Int32) σ_y18) else (if (σ_y18.1 96 9) = 0 then (J19 (1 : Int32) σ_y18) else (J19 (0 : Int32) σ_y18)))) fm_fu (1 : Int32) r9 σ10))))
set_option maxHeartbeats 4000000 in
set_option maxRecDepth 100000 in
theorem w_X12_town_20 {p : Program} {l : Launch} {e : Env} {s : State} {m : MethodId} {args : Array Value} {below : List Frame} {meth : Method} {c : Code} {G : fm_G} {o : Int32 × fm_M} {kc : Int32 → Int32 → fm_M → Option (Int32 × fm_M)} (hC : fm_C G p m c cX12_town 3 s args RX12) (hr : meth.sig.returnType = (some .int)) (hlk : meth.locks = false) (hk : ∀ (z1 : Int32) (z2 : Int32) (σ : fm_M) (H : Heap) (locs : List Loc) (ls : Array Slot), fm_I G σ s H locs → lv_has ls 3 [(0, .ref (G.2.1 96)), (1, .int z1), (2, .int z2)] → kc z1 z2 σ = some o → W p l e { frames := 6, cells := 0, slots := 0, locals := 129 } s m args below meth c H locs 0 0 (MQ below (fm_Qi G o) args s 0 0 (fm_A G)) (F0 m 47 ls [])) (n : Nat) : ∀ (z1 : Int32) (z2 : Int32) (σ : fm_M) (H : Heap) (locs : List Loc) (ls : Array Slot), fm_I G σ s H locs → lv_has ls 3 [(0, .ref (G.2.1 96)), (1, .int z1), (2, .int z2)] → m_X12_town_20 kc n z1 z2 σ = some o → W p l e { frames := 6, cells := 0, slots := 0, locals := 129 } s m args below meth c H locs 0 0 (MQ below (fm_Qi G o) args s 0 0 (fm_A G)) (F0 m 20 ls []) := by
  have hx := hC.1.1
  have hb := hC.1.2.1
  have hown := hC.1.2.2.2.1
  have hts := hC.1.2.2.2.2
  induction n with
  | zero =>
    intro z1 z2 σ H locs ls hI hl hf
    cases hf
  | succ n ih =>
    intro z1 z2 σ H locs ls hI hl hf
    rw [m_X12_town_20] at hf
    refine lv_iload_n hx hb dX12_town_20 rfl (lv_at hl 2 rfl) ?_
    refine lv_if_eq (tgt := 47) hx hb dX12_town_21 (by decide) (fun hc => ?_) (fun hc => ?_)
    · have hf := fm_pT hf hc
      exact hk z1 z2 σ _ _ _ hI (lv_sub hl [0, 1, 2] rfl) hf
    · have hf := fm_pF hf hc
      refine lv_aload_n hx hb dX12_town_24 rfl (lv_at hl 0 rfl) ?_
      refine fm_gi hC hI fd_X12_9 fc_96 q_807 dX12_town_25 ?_
      refine lv_iconst (v := (3 : Int32)) hx hb dX12_town_28 (by decide) ?_
      refine lv_icmp_ne (tgt := 47) hx hb dX12_town_29 (by decide) (fun hc => ?_) (fun hc => ?_)
      · have hf := fm_pF hf hc
        exact hk z1 z2 σ _ _ _ hI (lv_sub hl [0, 1, 2] rfl) hf
      · have hf := fm_pT hf hc
        refine lv_aload_n hx hb dX12_town_32 rfl (lv_at hl 0 rfl) ?_
        obtain ⟨_u12, σ13, hq14, hf⟩ := fm_bE hf
        refine fm_cv hI (fm_runV (As := []) (rest := []) (rm := { frames := 2, cells := 0, slots := 0, locals := 42 }) hC hI (c_X12_nextToken hC.2.2.1 hq14) mV_X12_nextToken q_1120 ⟨rfl, rfl⟩ ⟨Nat.le_of_ble_eq_true rfl, Nat.le_of_ble_eq_true rfl⟩ fc_96 rfl (by decide) rfl hl.1 rfl (Nat.le_of_ble_eq_true rfl) dX12_town_33 ⟨Nat.zero_le _, Nat.zero_le _⟩) (fun H locs hI => ?_)
        refine lv_aload_n hx hb dX12_town_36 rfl (lv_at hl 0 rfl) ?_
        obtain ⟨r15, σ16, hq17, hf⟩ := fm_bE hf
        refine fm_ci hI (fm_runV (As := []) (rest := []) (rm := { frames := 5, cells := 0, slots := 0, locals := 108 }) hC hI (c_X12_readsItem hC.2.2.1 hq17) mV_X12_readsItem q_1136 ⟨rfl, rfl⟩ ⟨Nat.le_of_ble_eq_true rfl, Nat.le_of_ble_eq_true rfl⟩ fc_96 rfl (by decide) rfl hl.1 rfl (Nat.le_of_ble_eq_true rfl) dX12_town_37 ⟨Nat.zero_le _, Nat.zero_le _⟩) (fun H locs hI => ?_)
        refine lv_istore_n (lv' := [(2, .int r15), (0, .ref (G.2.1 96)), (1, .int z1)]) hx hb dX12_town_40 rfl hl (Nat.le_of_ble_eq_true rfl) rfl (fun ls hl => ?_)
        refine lv_iinc (v := (z1 + (1 : Int32))) (lv' := [(1, .int (z1 + (1 : Int32))), (2, .int r15), (0, .ref (G.2.1 96))]) hx hb dX12_town_41 hl (k := 2) rfl rfl (Nat.le_of_ble_eq_true rfl) rfl (fun ls hl => ?_)
        refine lv_goto (tgt := 20) hx hb dX12_town_44 (by decide) ?_
        exact ih (z1 + (1 : Int32)) r15 σ16 _ _ _ hI (lv_sub hl [2, 0, 1] rfl) hf
set_option maxHeartbeats 4000000 in
set_option maxRecDepth 100000 in
theorem c_X12_town {l : Launch} {G : fm_G} (hJ : fm_J G) {σ : fm_M} {o : Int32 × fm_M}  (hf : m_X12_town  σ = some o) : Met l yX12_town (fm_w yX12_town cX12_town 3 (some .int)) { frames := 6, cells := 0, slots := 0, locals := 129 } (va_Pc [.ref (G.2.1 96)] (fm_st G σ)) (fm_Qi G o) 0 0 (fm_A G) := by
  refine fm_mth (own := RX12) hJ rfl (by decide +kernel) (Nat.le_of_ble_eq_true rfl) ?_
  intro p e s m below meth c ls hC hr hlk hI hl
  have hx := hC.1.1
  have hb := hC.1.2.1
  have hown := hC.1.2.2.2.1
  have hts := hC.1.2.2.2.2
  have hl : lv_has ls 3 [(0, .ref (G.2.1 96))] := hl
  rw [m_X12_town] at hf
  refine lv_aload_n hx hb dX12_town_0 rfl (lv_at hl 0 rfl) ?_
  obtain ⟨_u1, σ2, hq3, hf⟩ := fm_bE hf
  refine fm_cv hI (fm_runV (As := []) (rest := []) (rm := { frames := 0, cells := 0, slots := 0, locals := 0 }) hC hI (c_X12_setsAside hC.2.2.1 hq3) mV_X12_setsAside q_1037 ⟨rfl, rfl⟩ ⟨Nat.le_of_ble_eq_true rfl, Nat.le_of_ble_eq_true rfl⟩ fc_96 rfl (by decide) rfl hl.1 rfl (Nat.le_of_ble_eq_true rfl) dX12_town_1 ⟨Nat.zero_le _, Nat.zero_le _⟩) (fun H locs hI => ?_)
  refine lv_aload_n hx hb dX12_town_4 rfl (lv_at hl 0 rfl) ?_
  refine lv_iconst (v := (0 : Int32)) hx hb dX12_town_5 (by decide) ?_
  obtain ⟨σ4, e5, hf⟩ := fm_letE hf
  refine fm_pi hC hI fp_X12_11 fc_96 ⟨rfl, rfl⟩ e5 q_809 dX12_town_6 (fun H locs hI => ?_)
  refine lv_aload_n hx hb dX12_town_9 rfl (lv_at hl 0 rfl) ?_
  obtain ⟨_u6, σ7, hq8, hf⟩ := fm_bE hf
  refine fm_cv hI (fm_runV (As := []) (rest := []) (rm := { frames := 2, cells := 0, slots := 0, locals := 42 }) hC hI (c_X12_nextToken hC.2.2.1 hq8) mV_X12_nextToken q_1120 ⟨rfl, rfl⟩ ⟨Nat.le_of_ble_eq_true rfl, Nat.le_of_ble_eq_true rfl⟩ fc_96 rfl (by decide) rfl hl.1 rfl (Nat.le_of_ble_eq_true rfl) dX12_town_10 ⟨Nat.zero_le _, Nat.zero_le _⟩) (fun H locs hI => ?_)
  refine lv_iconst (v := (1 : Int32)) hx hb dX12_town_13 (by decide) ?_
  refine lv_istore_n (lv' := [(1, .int (1 : Int32)), (0, .ref (G.2.1 96))]) hx hb dX12_town_14 rfl hl (Nat.le_of_ble_eq_true rfl) rfl (fun ls hl => ?_)
  refine lv_aload_n hx hb dX12_town_15 rfl (lv_at hl 1 rfl) ?_
  obtain ⟨r9, σ10, hq11, hf⟩ := fm_bE hf
  refine fm_ci hI (fm_runV (As := []) (rest := []) (rm := { frames := 5, cells := 0, slots := 0, locals := 108 }) hC hI (c_X12_readsItem hC.2.2.1 hq11) mV_X12_readsItem q_1136 ⟨rfl, rfl⟩ ⟨Nat.le_of_ble_eq_true rfl, Nat.le_of_ble_eq_true rfl⟩ fc_96 rfl (by decide) rfl hl.1 rfl (Nat.le_of_ble_eq_true rfl) dX12_town_16 ⟨Nat.zero_le _, Nat.zero_le _⟩) (fun H locs hI => ?_)
  refine lv_istore_n (lv' := [(2, .int r9), (1, .int (1 : Int32)), (0, .ref (G.2.1 96))]) hx hb dX12_town_19 rfl hl (Nat.le_of_ble_eq_true rfl) rfl (fun ls hl => ?_)
  refine w_X12_town_20 hC hr hlk (fun x1_y18 x2_y18 σ_y18 H locs ls hI hl hf => ?_) fm_fu (1 : Int32) r9 σ10 _ _ _ hI (lv_sub hl [2, 1, 0] rfl) hf
  refine lv_iload_n hx hb dX12_town_47 rfl (lv_at hl 2 rfl) ?_
  obtain ⟨J19, eJ19, hf⟩ := fm_jE hf
  have hJ19 : ∀ (v0_J19 : Int32) (σ_J19 : fm_M) (H : Heap) (locs : List Loc) (ls : Array Slot), fm_I G σ_J19 s H locs → lv_has ls 3 [(0, .ref (G.2.1 96)), (1, .int x1_y18)] → J19 v0_J19 σ_J19 = some o → W p l e { frames := 6, cells := 0, slots := 0, locals := 129 } s m ([.ref (G.2.1 96)] : List Value).toArray below meth c H locs 0 0 (MQ below (fm_Qi G o) ([.ref (G.2.1 96)] : List Value).toArray s 0 0 (fm_A G)) (F0 m 63 ls [.int v0_J19]) := by
    intro v0_J19 σ_J19 H locs ls hI hl hf
    subst eJ19
    refine lv_istore_n (lv' := [(2, .int v0_J19), (0, .ref (G.2.1 96)), (1, .int x1_y18)]) hx hb dX12_town_63 rfl hl (Nat.le_of_ble_eq_true rfl) rfl (fun ls hl => ?_)
    refine lv_aload_n hx hb dX12_town_64 rfl (lv_at hl 1 rfl) ?_
    refine lv_iconst (v := (0 : Int32)) hx hb dX12_town_65 (by decide) ?_
    obtain ⟨σ20, e21, hf⟩ := fm_letE hf
    refine fm_pi hC hI fp_X12_8 fc_96 ⟨rfl, rfl⟩ e21 q_806 dX12_town_66 (fun H locs hI => ?_)
    refine lv_iload_n hx hb dX12_town_69 rfl (lv_at hl 0 rfl) ?_
    refine lv_if_ne (tgt := 84) hx hb dX12_town_70 (by decide) (fun hc => ?_) (fun hc => ?_)
    · have hf := fm_pF hf hc
      refine lv_iload_n hx hb dX12_town_84 rfl (lv_at hl 2 rfl) ?_
      exact fm_ri hC hI hr hlk hf dX12_town_85
    · have hf := fm_pT hf hc
      refine lv_aload_n hx hb dX12_town_73 rfl (lv_at hl 1 rfl) ?_
      obtain ⟨_u22, σ23, hq24, hf⟩ := fm_bE hf
      refine fm_cv hI (fm_runV (As := []) (rest := []) (rm := { frames := 0, cells := 0, slots := 0, locals := 0 }) hC hI (c_X12_laysBack hC.2.2.1 hq24) mV_X12_laysBack q_1041 ⟨rfl, rfl⟩ ⟨Nat.le_of_ble_eq_true rfl, Nat.le_of_ble_eq_true rfl⟩ fc_96 rfl (by decide) rfl hl.1 rfl (Nat.le_of_ble_eq_true rfl) dX12_town_74 ⟨Nat.zero_le _, Nat.zero_le _⟩) (fun H locs hI => ?_)
      refine lv_iconst (v := (-1 : Int32)) hx hb dX12_town_77 (by decide) ?_
      refine lv_aload_n hx hb dX12_town_78 rfl (lv_at hl 1 rfl) ?_
      refine fm_gi hC hI fd_X12_10 fc_96 q_808 dX12_town_79 ?_
      refine lv_isub hx hb dX12_town_82 ?_
      exact fm_ri hC hI hr hlk hf dX12_town_83
  refine lv_if_eq (tgt := 62) hx hb dX12_town_48 (by decide) (fun hc => ?_) (fun hc => ?_)
  · have hf := fm_pT hf hc
    refine lv_iconst (v := (0 : Int32)) hx hb dX12_town_62 (by decide) ?_
    exact hJ19 (0 : Int32) σ_y18 _ _ _ hI (lv_sub hl [0, 1] rfl) hf
  · have hf := fm_pF hf hc
    refine lv_aload_n hx hb dX12_town_51 rfl (lv_at hl 0 rfl) ?_
    refine fm_gi hC hI fd_X12_9 fc_96 q_807 dX12_town_52 ?_
    refine lv_if_ne (tgt := 62) hx hb dX12_town_55 (by decide) (fun hc => ?_) (fun hc => ?_)
    · have hf := fm_pF hf hc
      refine lv_iconst (v := (0 : Int32)) hx hb dX12_town_62 (by decide) ?_
      exact hJ19 (0 : Int32) σ_y18 _ _ _ hI (lv_sub hl [0, 1] rfl) hf
    · have hf := fm_pT hf hc
      refine lv_iconst (v := (1 : Int32)) hx hb dX12_town_58 (by decide) ?_
      refine lv_goto (tgt := 63) hx hb dX12_town_59 (by decide) ?_
      exact hJ19 (1 : Int32) σ_y18 _ _ _ hI (lv_sub hl [0, 1] rfl) hf
def m_X12_isSheet (a0 : Int32) (σ : fm_M) : Option (Int32 × fm_M) := fm_b (m_X12_in1 a0 (0 : Int32) (3 : Int32) σ) fun r1 σ2 => (fm_g (fm_bz r1) (some (r1, σ2)))
set_option maxHeartbeats 4000000 in
set_option maxRecDepth 100000 in
theorem c_X12_isSheet {l : Launch} {G : fm_G} (hJ : fm_J G) {a0 : Int32} {σ : fm_M} {o : Int32 × fm_M}  (hf : m_X12_isSheet a0 σ = some o) : Met l yX12_isSheet (fm_w yX12_isSheet cX12_isSheet 1 (some .boolean)) { frames := 1, cells := 0, slots := 0, locals := 22 } (va_Pc [.int a0] (fm_st G σ)) (fm_Qi G o) 0 0 (fm_A G) := by
  refine fm_mth (own := RX12) hJ rfl (by decide +kernel) (Nat.le_of_ble_eq_true rfl) ?_
  intro p e s m below meth c ls hC hr hlk hI hl
  have hx := hC.1.1
  have hb := hC.1.2.1
  have hown := hC.1.2.2.2.1
  have hts := hC.1.2.2.2.2
  have hl : lv_has ls 1 [(0, .int a0)] := hl
  rw [m_X12_isSheet] at hf
  refine lv_iload_n hx hb dX12_isSheet_0 rfl (lv_at hl 0 rfl) ?_
  refine lv_iconst (v := (0 : Int32)) hx hb dX12_isSheet_1 (by decide) ?_
  refine lv_iconst (v := (3 : Int32)) hx hb dX12_isSheet_2 (by decide) ?_
  obtain ⟨r1, σ2, hq3, hf⟩ := fm_bE hf
  refine fm_ci hI (fm_runS (As := [.int a0, .int (0 : Int32), .int (3 : Int32)]) (rest := []) (rm := { frames := 0, cells := 0, slots := 0, locals := 0 }) hC hI (c_X12_in1 hC.2.2.1 hq3) mS_X12_in1 q_864 ⟨rfl, rfl⟩ ⟨Nat.le_of_ble_eq_true rfl, Nat.le_of_ble_eq_true rfl⟩ rfl hl.1 rfl (Nat.le_of_ble_eq_true rfl) dX12_isSheet_3 ⟨Nat.zero_le _, Nat.zero_le _⟩) (fun H locs hI => ?_)
  obtain ⟨hg4, hf⟩ := fm_gE hf
  exact fm_rz hC hI hr hlk hg4 hf dX12_isSheet_6
def m_X12_wrongSheet (a1 : Int32) (σ : fm_M) : Option (Int32 × fm_M) := fm_b (m_X12_isSheet a1 σ) fun r1 σ2 => (if r1 = 0 then (some ((0 : Int32), σ2)) else (fm_g (fm_in1 a1 4) (if (σ2.1 106 a1.toNatClampNeg) = 0 then (some ((5 : Int32), σ2)) else (some ((-1 : Int32), σ2)))))
set_option maxHeartbeats 4000000 in
set_option maxRecDepth 100000 in
theorem c_X12_wrongSheet {l : Launch} {G : fm_G} (hJ : fm_J G) {a1 : Int32} {σ : fm_M} {o : Int32 × fm_M}  (hf : m_X12_wrongSheet a1 σ = some o) : Met l yX12_wrongSheet (fm_w yX12_wrongSheet cX12_wrongSheet 2 (some .int)) { frames := 2, cells := 0, slots := 0, locals := 42 } (va_Pc [.ref (G.2.1 96), .int a1] (fm_st G σ)) (fm_Qi G o) 0 0 (fm_A G) := by
  refine fm_mth (own := RX12) hJ rfl (by decide +kernel) (Nat.le_of_ble_eq_true rfl) ?_
  intro p e s m below meth c ls hC hr hlk hI hl
  have hx := hC.1.1
  have hb := hC.1.2.1
  have hown := hC.1.2.2.2.1
  have hts := hC.1.2.2.2.2
  have hl : lv_has ls 2 [(0, .ref (G.2.1 96)), (1, .int a1)] := hl
  rw [m_X12_wrongSheet] at hf
  refine lv_iload_n hx hb dX12_wrongSheet_0 rfl (lv_at hl 1 rfl) ?_
  obtain ⟨r1, σ2, hq3, hf⟩ := fm_bE hf
  refine fm_ci hI (fm_runS (As := [.int a1]) (rest := []) (rm := { frames := 1, cells := 0, slots := 0, locals := 22 }) hC hI (c_X12_isSheet hC.2.2.1 hq3) mS_X12_isSheet q_1156 ⟨rfl, rfl⟩ ⟨Nat.le_of_ble_eq_true rfl, Nat.le_of_ble_eq_true rfl⟩ rfl hl.1 rfl (Nat.le_of_ble_eq_true rfl) dX12_wrongSheet_1 ⟨Nat.zero_le _, Nat.zero_le _⟩) (fun H locs hI => ?_)
  refine lv_if_ne (tgt := 11) hx hb dX12_wrongSheet_4 (by decide) (fun hc => ?_) (fun hc => ?_)
  · have hf := fm_pF hf hc
    refine lv_aload_n hx hb dX12_wrongSheet_11 rfl (lv_at hl 0 rfl) ?_
    refine fm_gr hC hI fd_X12_16 fc_96 fr_96_16 q_814 dX12_wrongSheet_12 ?_
    refine lv_iload_n hx hb dX12_wrongSheet_15 rfl (lv_at hl 1 rfl) ?_
    obtain ⟨hg4, hf⟩ := fm_gE hf
    refine fm_iald hC hI fc_106 fl_106 hg4 dX12_wrongSheet_16 ?_
    refine lv_if_ne (tgt := 24) hx hb dX12_wrongSheet_17 (by decide) (fun hc => ?_) (fun hc => ?_)
    · have hf := fm_pF hf hc
      refine lv_iconst (v := (-1 : Int32)) hx hb dX12_wrongSheet_24 (by decide) ?_
      exact fm_ri hC hI hr hlk hf dX12_wrongSheet_25
    · have hf := fm_pT hf hc
      refine lv_iconst (v := (5 : Int32)) hx hb dX12_wrongSheet_20 (by decide) ?_
      refine lv_goto (tgt := 25) hx hb dX12_wrongSheet_21 (by decide) ?_
      exact fm_ri hC hI hr hlk hf dX12_wrongSheet_25
  · have hf := fm_pT hf hc
    refine lv_iconst (v := (0 : Int32)) hx hb dX12_wrongSheet_7 (by decide) ?_
    refine lv_goto (tgt := 25) hx hb dX12_wrongSheet_8 (by decide) ?_
    exact fm_ri hC hI hr hlk hf dX12_wrongSheet_25
def m_X12_told (a1 : Int32) (a2 : Int32) (σ : fm_M) : Option (Int64 × fm_M) := fm_g (fm_in1 (((40 : Int32) * a1) + a2) 160) (some ((σ.2 108 (((40 : Int32) * a1) + a2).toNatClampNeg), σ))
set_option maxHeartbeats 4000000 in
set_option maxRecDepth 100000 in
theorem c_X12_told {l : Launch} {G : fm_G} (hJ : fm_J G) {a1 : Int32} {a2 : Int32} {σ : fm_M} {o : Int64 × fm_M}  (hf : m_X12_told a1 a2 σ = some o) : Met l yX12_told (fm_w yX12_told cX12_told 3 (some .long)) { frames := 0, cells := 0, slots := 0, locals := 0 } (va_Pc [.ref (G.2.1 96), .int a1, .int a2] (fm_st G σ)) (fm_Ql G o) 0 0 (fm_A G) := by
  refine fm_mth (own := RX12) hJ rfl (by decide +kernel) (Nat.le_of_ble_eq_true rfl) ?_
  intro p e s m below meth c ls hC hr hlk hI hl
  have hx := hC.1.1
  have hb := hC.1.2.1
  have hown := hC.1.2.2.2.1
  have hts := hC.1.2.2.2.2
  have hl : lv_has ls 3 [(0, .ref (G.2.1 96)), (1, .int a1), (2, .int a2)] := hl
  rw [m_X12_told] at hf
  refine lv_aload_n hx hb dX12_told_0 rfl (lv_at hl 0 rfl) ?_
  refine fm_gr hC hI fd_X12_18 fc_96 fr_96_18 q_816 dX12_told_1 ?_
  refine lv_bipush (v := (40 : Int32)) hx hb dX12_told_4 (by decide) ?_
  refine lv_iload_n hx hb dX12_told_6 rfl (lv_at hl 1 rfl) ?_
  refine lv_imul hx hb dX12_told_7 ?_
  refine lv_iload_n hx hb dX12_told_8 rfl (lv_at hl 2 rfl) ?_
  refine lv_iadd hx hb dX12_told_9 ?_
  obtain ⟨hg1, hf⟩ := fm_gE hf
  refine fm_lald hC hI fc_108 fl_108 hg1 dX12_told_10 ?_
  exact fm_rl hC hI hr hlk hf dX12_told_11
def m_X12_tells (a1 : Int32) (a2 : Int32) (a3 : Int64) (σ : fm_M) : Option (Unit × fm_M) := fm_g (fm_in1 a1 4) (fm_j (fun (v0_J2 : Int64) (σ_J2 : fm_M) => fm_g (fm_in1 (((40 : Int32) * a1) + a2) 160) (fm_let (fm_sL σ_J2 108 (((40 : Int32) * a1) + a2).toNatClampNeg v0_J2) fun σ4 => (some ((), σ4)))) (fun J2 => if (σ.1 106 a1.toNatClampNeg) = (8 : Int32) then (J2 (((a3.toInt32).toInt8.toInt32).toInt64) σ) else (fm_g (fm_in1 a1 4) (if (σ.1 106 a1.toNatClampNeg) = (16 : Int32) then (J2 (((a3.toInt32).toInt16.toInt32).toInt64) σ) else (J2 a3 σ)))))
set_option maxHeartbeats 4000000 in
set_option maxRecDepth 100000 in
theorem c_X12_tells {l : Launch} {G : fm_G} (hJ : fm_J G) {a1 : Int32} {a2 : Int32} {a3 : Int64} {σ : fm_M} {o : Unit × fm_M}  (hf : m_X12_tells a1 a2 a3 σ = some o) : Met l yX12_tells (fm_w yX12_tells cX12_tells 5 none) { frames := 0, cells := 0, slots := 0, locals := 0 } (va_Pc [.ref (G.2.1 96), .int a1, .int a2, .long a3] (fm_st G σ)) (fm_Qv G o) 0 0 (fm_A G) := by
  refine fm_mth (own := RX12) hJ rfl (by decide +kernel) (Nat.le_of_ble_eq_true rfl) ?_
  intro p e s m below meth c ls hC hr hlk hI hl
  have hx := hC.1.1
  have hb := hC.1.2.1
  have hown := hC.1.2.2.2.1
  have hts := hC.1.2.2.2.2
  have hl : lv_has ls 5 [(0, .ref (G.2.1 96)), (1, .int a1), (2, .int a2), (3, .long a3)] := hl
  rw [m_X12_tells] at hf
  refine lv_aload_n hx hb dX12_tells_0 rfl (lv_at hl 0 rfl) ?_
  refine fm_gr hC hI fd_X12_18 fc_96 fr_96_18 q_816 dX12_tells_1 ?_
  refine lv_bipush (v := (40 : Int32)) hx hb dX12_tells_4 (by decide) ?_
  refine lv_iload_n hx hb dX12_tells_6 rfl (lv_at hl 1 rfl) ?_
  refine lv_imul hx hb dX12_tells_7 ?_
  refine lv_iload_n hx hb dX12_tells_8 rfl (lv_at hl 2 rfl) ?_
  refine lv_iadd hx hb dX12_tells_9 ?_
  refine lv_aload_n hx hb dX12_tells_10 rfl (lv_at hl 0 rfl) ?_
  refine fm_gr hC hI fd_X12_16 fc_96 fr_96_16 q_814 dX12_tells_11 ?_
  refine lv_iload_n hx hb dX12_tells_14 rfl (lv_at hl 1 rfl) ?_
  obtain ⟨hg1, hf⟩ := fm_gE hf
  refine fm_iald hC hI fc_106 fl_106 hg1 dX12_tells_15 ?_
  refine lv_bipush (v := (8 : Int32)) hx hb dX12_tells_16 (by decide) ?_
  obtain ⟨J2, eJ2, hf⟩ := fm_jE hf
  have hJ2 : ∀ (v0_J2 : Int64) (σ_J2 : fm_M) (H : Heap) (locs : List Loc) (ls : Array Slot), fm_I G σ_J2 s H locs → lv_has ls 5 [] → J2 v0_J2 σ_J2 = some o → W p l e { frames := 0, cells := 0, slots := 0, locals := 0 } s m ([.ref (G.2.1 96), .int a1, .int a2, .long a3] : List Value).toArray below meth c H locs 0 0 (MQ below (fm_Qv G o) ([.ref (G.2.1 96), .int a1, .int a2, .long a3] : List Value).toArray s 0 0 (fm_A G)) (F0 m 47 ls [.long v0_J2, .int (((40 : Int32) * a1) + a2), .ref (G.2.1 108)]) := by
    intro v0_J2 σ_J2 H locs ls hI hl hf
    subst eJ2
    obtain ⟨hg3, hf⟩ := fm_gE hf
    obtain ⟨σ4, e5, hf⟩ := fm_letE hf
    refine fm_last hC hI fc_108 fl_108 hg3 e5 dX12_tells_47 (fun H locs hI => ?_)
    exact fm_rv hC hI hr hlk hf dX12_tells_48
  refine lv_icmp_ne (tgt := 28) hx hb dX12_tells_18 (by decide) (fun hc => ?_) (fun hc => ?_)
  · have hf := fm_pF hf hc
    refine lv_aload_n hx hb dX12_tells_28 rfl (lv_at hl 0 rfl) ?_
    refine fm_gr hC hI fd_X12_16 fc_96 fr_96_16 q_814 dX12_tells_29 ?_
    refine lv_iload_n hx hb dX12_tells_32 rfl (lv_at hl 1 rfl) ?_
    obtain ⟨hg6, hf⟩ := fm_gE hf
    refine fm_iald hC hI fc_106 fl_106 hg6 dX12_tells_33 ?_
    refine lv_bipush (v := (16 : Int32)) hx hb dX12_tells_34 (by decide) ?_
    refine lv_icmp_ne (tgt := 46) hx hb dX12_tells_36 (by decide) (fun hc => ?_) (fun hc => ?_)
    · have hf := fm_pF hf hc
      refine lv_lload_n hx hb dX12_tells_46 rfl (lv_at hl 3 rfl) ?_
      exact hJ2 a3 σ _ _ _ hI (lv_sub hl [] rfl) hf
    · have hf := fm_pT hf hc
      refine lv_lload_n hx hb dX12_tells_39 rfl (lv_at hl 3 rfl) ?_
      refine lv_l2i (v := a3.toInt32) hx hb dX12_tells_40 rfl ?_
      refine lv_i2s (v := (a3.toInt32).toInt16.toInt32) hx hb dX12_tells_41 rfl ?_
      refine lv_i2l (v := ((a3.toInt32).toInt16.toInt32).toInt64) hx hb dX12_tells_42 rfl ?_
      refine lv_goto (tgt := 47) hx hb dX12_tells_43 (by decide) ?_
      exact hJ2 (((a3.toInt32).toInt16.toInt32).toInt64) σ _ _ _ hI (lv_sub hl [] rfl) hf
  · have hf := fm_pT hf hc
    refine lv_lload_n hx hb dX12_tells_21 rfl (lv_at hl 3 rfl) ?_
    refine lv_l2i (v := a3.toInt32) hx hb dX12_tells_22 rfl ?_
    refine lv_i2b (v := (a3.toInt32).toInt8.toInt32) hx hb dX12_tells_23 rfl ?_
    refine lv_i2l (v := ((a3.toInt32).toInt8.toInt32).toInt64) hx hb dX12_tells_24 rfl ?_
    refine lv_goto (tgt := 47) hx hb dX12_tells_25 (by decide) ?_
    exact hJ2 (((a3.toInt32).toInt8.toInt32).toInt64) σ _ _ _ hI (lv_sub hl [] rfl) hf
def m_X12_sheet_83 (kc : Int32 → Int32 → fm_M → Option (Int32 × fm_M)) : Nat → Int32 → Int32 → fm_M → Option (Int32 × fm_M)
  | 0, _, _, _ => none
  | n + 1, z1, z4, σ => if (40 : Int32) ≤ z4 then (kc z1 z4 σ) else (fm_g (fm_in1 (((40 : Int32) * z1) + z4) 160) (fm_let (fm_sL σ 108 (((40 : Int32) * z1) + z4).toNatClampNeg (0 : Int64)) fun σ15 => (m_X12_sheet_83 kc n z1 (z4 + (1 : Int32)) σ15)))
def m_X12_sheet (a1 : Int32) (a2 : Int32) (a3 : Int32) (σ : fm_M) : Option (Int32 × fm_M) := fm_b (m_X12_isSheet a1 σ) fun r1 σ2 => (if r1 = 0 then (fm_b (m_X12_no (0 : Int32) σ2) fun r4 σ5 => (some (r4, σ5))) else (if a2 = 0 then (if 0 ≤ a3 then (if a3 ≤ (40 : Int32) then (fm_g (fm_in1 a1 4) (fm_let (fm_sI σ2 106 a1.toNatClampNeg a2) fun σ8 => (fm_j (fun (v0_J10 : Int32) (σ_J10 : fm_M) => fm_g (fm_in1 a1 4) (fm_let (fm_sI σ_J10 107 a1.toNatClampNeg v0_J10) fun σ12 => (m_X12_sheet_83 (fun (x1_y17 : Int32) (x4_y17 : Int32) (σ_y17 : fm_M) => fm_g (fm_in1 x1_y17 4) (some ((σ_y17.1 107 x1_y17.toNatClampNeg), σ_y17))) fm_fu a1 (0 : Int32) σ12))) (fun J10 => if a2 = 0 then (J10 (0 : Int32) σ8) else (J10 a3 σ8))))) else (fm_b (m_X12_no (0 : Int32) σ2) fun r19 σ20 => (some (r19, σ20)))) else (fm_b (m_X12_no (6 : Int32) σ2) fun r22 σ23 => (some (r22, σ23)))) else (if a2 = (8 : Int32) then (if 0 ≤ a3 then (if a3 ≤ (40 : Int32) then (fm_g (fm_in1 a1 4) (fm_let (fm_sI σ2 106 a1.toNatClampNeg a2) fun σ26 => (fm_j (fun (v0_J28 : Int32) (σ_J28 : fm_M) => fm_g (fm_in1 a1 4) (fm_let (fm_sI σ_J28 107 a1.toNatClampNeg v0_J28) fun σ30 => (m_X12_sheet_83 (fun (x1_y32 : Int32) (x4_y32 : Int32) (σ_y32 : fm_M) => fm_g (fm_in1 x1_y32 4) (some ((σ_y32.1 107 x1_y32.toNatClampNeg), σ_y32))) fm_fu a1 (0 : Int32) σ30))) (fun J28 => if a2 = 0 then (J28 (0 : Int32) σ26) else (J28 a3 σ26))))) else (fm_b (m_X12_no (0 : Int32) σ2) fun r34 σ35 => (some (r34, σ35)))) else (fm_b (m_X12_no (6 : Int32) σ2) fun r37 σ38 => (some (r37, σ38)))) else (if a2 = (16 : Int32) then (if 0 ≤ a3 then (if a3 ≤ (40 : Int32) then (fm_g (fm_in1 a1 4) (fm_let (fm_sI σ2 106 a1.toNatClampNeg a2) fun σ41 => (fm_j (fun (v0_J43 : Int32) (σ_J43 : fm_M) => fm_g (fm_in1 a1 4) (fm_let (fm_sI σ_J43 107 a1.toNatClampNeg v0_J43) fun σ45 => (m_X12_sheet_83 (fun (x1_y47 : Int32) (x4_y47 : Int32) (σ_y47 : fm_M) => fm_g (fm_in1 x1_y47 4) (some ((σ_y47.1 107 x1_y47.toNatClampNeg), σ_y47))) fm_fu a1 (0 : Int32) σ45))) (fun J43 => if a2 = 0 then (J43 (0 : Int32) σ41) else (J43 a3 σ41))))) else (fm_b (m_X12_no (0 : Int32) σ2) fun r49 σ50 => (some (r49, σ50)))) else (fm_b (m_X12_no (6 : Int32) σ2) fun r52 σ53 => (some (r52, σ53)))) else (if a2 = (64 : Int32) then (if 0 ≤ a3 then (if a3 ≤ (40 : Int32) then (fm_g (fm_in1 a1 4) (fm_let (fm_sI σ2 106 a1.toNatClampNeg a2) fun σ56 => (fm_j (fun (v0_J58 : Int32) (σ_J58 : fm_M) => fm_g (fm_in1 a1 4) (fm_let (fm_sI σ_J58 107 a1.toNatClampNeg v0_J58) fun σ60 => (m_X12_sheet_83 (fun (x1_y62 : Int32) (x4_y62 : Int32) (σ_y62 : fm_M) => fm_g (fm_in1 x1_y62 4) (some ((σ_y62.1 107 x1_y62.toNatClampNeg), σ_y62))) fm_fu a1 (0 : Int32) σ60))) (fun J58 => if a2 = 0 then (J58 (0 : Int32) σ56) else (J58 a3 σ56))))) else (fm_b (m_X12_no (0 : Int32) σ2) fun r64 σ65 => (some (r64, σ65)))) else (fm_b (m_X12_no (6 : Int32) σ2) fun r67 σ68 => (some (r67, σ68)))) else (fm_b (m_X12_no (0 : Int32) σ2) fun r70 σ71 => (some (r70, σ71))))))))
set_option maxHeartbeats 4000000 in
set_option maxRecDepth 100000 in
theorem w_X12_sheet_83 {p : Program} {l : Launch} {e : Env} {s : State} {m : MethodId} {args : Array Value} {below : List Frame} {meth : Method} {c : Code} {G : fm_G} {o : Int32 × fm_M} {kc : Int32 → Int32 → fm_M → Option (Int32 × fm_M)} (hC : fm_C G p m c cX12_sheet 5 s args RX12) (hr : meth.sig.returnType = (some .int)) (hlk : meth.locks = false) (hk : ∀ (z1 : Int32) (z4 : Int32) (σ : fm_M) (H : Heap) (locs : List Loc) (ls : Array Slot), fm_I G σ s H locs → lv_has ls 5 [(0, .ref (G.2.1 96)), (1, .int z1), (4, .int z4)] → kc z1 z4 σ = some o → W p l e { frames := 2, cells := 0, slots := 0, locals := 42 } s m args below meth c H locs 0 0 (MQ below (fm_Qi G o) args s 0 0 (fm_A G)) (F0 m 109 ls [])) (n : Nat) : ∀ (z1 : Int32) (z4 : Int32) (σ : fm_M) (H : Heap) (locs : List Loc) (ls : Array Slot), fm_I G σ s H locs → lv_has ls 5 [(0, .ref (G.2.1 96)), (1, .int z1), (4, .int z4)] → m_X12_sheet_83 kc n z1 z4 σ = some o → W p l e { frames := 2, cells := 0, slots := 0, locals := 42 } s m args below meth c H locs 0 0 (MQ below (fm_Qi G o) args s 0 0 (fm_A G)) (F0 m 83 ls []) := by
  have hx := hC.1.1
  have hb := hC.1.2.1
  have hown := hC.1.2.2.2.1
  have hts := hC.1.2.2.2.2
  induction n with
  | zero =>
    intro z1 z4 σ H locs ls hI hl hf
    cases hf
  | succ n ih =>
    intro z1 z4 σ H locs ls hI hl hf
    rw [m_X12_sheet_83] at hf
    refine lv_iload hx hb dX12_sheet_83 (lv_at hl 2 rfl) ?_
    refine lv_bipush (v := (40 : Int32)) hx hb dX12_sheet_85 (by decide) ?_
    refine lv_icmp_ge (tgt := 109) hx hb dX12_sheet_87 (by decide) (fun hc => ?_) (fun hc => ?_)
    · have hf := fm_pT hf hc
      exact hk z1 z4 σ _ _ _ hI (lv_sub hl [0, 1, 2] rfl) hf
    · have hf := fm_pF hf hc
      refine lv_aload_n hx hb dX12_sheet_90 rfl (lv_at hl 0 rfl) ?_
      refine fm_gr hC hI fd_X12_18 fc_96 fr_96_18 q_816 dX12_sheet_91 ?_
      refine lv_bipush (v := (40 : Int32)) hx hb dX12_sheet_94 (by decide) ?_
      refine lv_iload_n hx hb dX12_sheet_96 rfl (lv_at hl 1 rfl) ?_
      refine lv_imul hx hb dX12_sheet_97 ?_
      refine lv_iload hx hb dX12_sheet_98 (lv_at hl 2 rfl) ?_
      refine lv_iadd hx hb dX12_sheet_100 ?_
      refine lv_lconst (v := (0 : Int64)) hx hb dX12_sheet_101 (by decide) ?_
      obtain ⟨hg14, hf⟩ := fm_gE hf
      obtain ⟨σ15, e16, hf⟩ := fm_letE hf
      refine fm_last hC hI fc_108 fl_108 hg14 e16 dX12_sheet_102 (fun H locs hI => ?_)
      refine lv_iinc (v := (z4 + (1 : Int32))) (lv' := [(4, .int (z4 + (1 : Int32))), (0, .ref (G.2.1 96)), (1, .int z1)]) hx hb dX12_sheet_103 hl (k := 2) rfl rfl (Nat.le_of_ble_eq_true rfl) rfl (fun ls hl => ?_)
      refine lv_goto (tgt := 83) hx hb dX12_sheet_106 (by decide) ?_
      exact ih z1 (z4 + (1 : Int32)) σ15 _ _ _ hI (lv_sub hl [1, 2, 0] rfl) hf
set_option maxHeartbeats 4000000 in
set_option maxRecDepth 100000 in
theorem c_X12_sheet {l : Launch} {G : fm_G} (hJ : fm_J G) {a1 : Int32} {a2 : Int32} {a3 : Int32} {σ : fm_M} {o : Int32 × fm_M}  (hf : m_X12_sheet a1 a2 a3 σ = some o) : Met l yX12_sheet (fm_w yX12_sheet cX12_sheet 5 (some .int)) { frames := 2, cells := 0, slots := 0, locals := 42 } (va_Pc [.ref (G.2.1 96), .int a1, .int a2, .int a3] (fm_st G σ)) (fm_Qi G o) 0 0 (fm_A G) := by
  refine fm_mth (own := RX12) hJ rfl (by decide +kernel) (Nat.le_of_ble_eq_true rfl) ?_
  intro p e s m below meth c ls hC hr hlk hI hl
  have hx := hC.1.1
  have hb := hC.1.2.1
  have hown := hC.1.2.2.2.1
  have hts := hC.1.2.2.2.2
  have hl : lv_has ls 5 [(0, .ref (G.2.1 96)), (1, .int a1), (2, .int a2), (3, .int a3)] := hl
  rw [m_X12_sheet] at hf
  refine lv_iload_n hx hb dX12_sheet_0 rfl (lv_at hl 1 rfl) ?_
  obtain ⟨r1, σ2, hq3, hf⟩ := fm_bE hf
  refine fm_ci hI (fm_runS (As := [.int a1]) (rest := []) (rm := { frames := 1, cells := 0, slots := 0, locals := 22 }) hC hI (c_X12_isSheet hC.2.2.1 hq3) mS_X12_isSheet q_1156 ⟨rfl, rfl⟩ ⟨Nat.le_of_ble_eq_true rfl, Nat.le_of_ble_eq_true rfl⟩ rfl hl.1 rfl (Nat.le_of_ble_eq_true rfl) dX12_sheet_1 ⟨Nat.zero_le _, Nat.zero_le _⟩) (fun H locs hI => ?_)
  refine lv_if_eq (tgt := 29) hx hb dX12_sheet_4 (by decide) (fun hc => ?_) (fun hc => ?_)
  · have hf := fm_pT hf hc
    refine lv_aload_n hx hb dX12_sheet_29 rfl (lv_at hl 0 rfl) ?_
    refine lv_iconst (v := (0 : Int32)) hx hb dX12_sheet_30 (by decide) ?_
    obtain ⟨r4, σ5, hq6, hf⟩ := fm_bE hf
    refine fm_ci hI (fm_runV (As := [.int (0 : Int32)]) (rest := []) (rm := { frames := 0, cells := 0, slots := 0, locals := 0 }) hC hI (c_X12_no hC.2.2.1 hq6) mV_X12_no q_867 ⟨rfl, rfl⟩ ⟨Nat.le_of_ble_eq_true rfl, Nat.le_of_ble_eq_true rfl⟩ fc_96 rfl (by decide) rfl hl.1 rfl (Nat.le_of_ble_eq_true rfl) dX12_sheet_31 ⟨Nat.zero_le _, Nat.zero_le _⟩) (fun H locs hI => ?_)
    exact fm_ri hC hI hr hlk hf dX12_sheet_34
  · have hf := fm_pF hf hc
    refine lv_iload_n hx hb dX12_sheet_7 rfl (lv_at hl 2 rfl) ?_
    refine lv_if_eq (tgt := 35) hx hb dX12_sheet_8 (by decide) (fun hc => ?_) (fun hc => ?_)
    · have hf := fm_pT hf hc
      refine lv_iload_n hx hb dX12_sheet_35 rfl (lv_at hl 3 rfl) ?_
      refine lv_if_ge (tgt := 46) hx hb dX12_sheet_36 (by decide) (fun hc => ?_) (fun hc => ?_)
      · have hf := fm_pT hf hc
        refine lv_iload_n hx hb dX12_sheet_46 rfl (lv_at hl 3 rfl) ?_
        refine lv_bipush (v := (40 : Int32)) hx hb dX12_sheet_47 (by decide) ?_
        refine lv_icmp_le (tgt := 58) hx hb dX12_sheet_49 (by decide) (fun hc => ?_) (fun hc => ?_)
        · have hf := fm_pT hf hc
          refine lv_aload_n hx hb dX12_sheet_58 rfl (lv_at hl 0 rfl) ?_
          refine fm_gr hC hI fd_X12_16 fc_96 fr_96_16 q_814 dX12_sheet_59 ?_
          refine lv_iload_n hx hb dX12_sheet_62 rfl (lv_at hl 1 rfl) ?_
          refine lv_iload_n hx hb dX12_sheet_63 rfl (lv_at hl 2 rfl) ?_
          obtain ⟨hg7, hf⟩ := fm_gE hf
          obtain ⟨σ8, e9, hf⟩ := fm_letE hf
          refine fm_iast hC hI fc_106 fl_106 hg7 e9 dX12_sheet_64 (fun H locs hI => ?_)
          refine lv_aload_n hx hb dX12_sheet_65 rfl (lv_at hl 0 rfl) ?_
          refine fm_gr hC hI fd_X12_17 fc_96 fr_96_17 q_815 dX12_sheet_66 ?_
          refine lv_iload_n hx hb dX12_sheet_69 rfl (lv_at hl 1 rfl) ?_
          refine lv_iload_n hx hb dX12_sheet_70 rfl (lv_at hl 2 rfl) ?_
          obtain ⟨J10, eJ10, hf⟩ := fm_jE hf
          have hJ10 : ∀ (v0_J10 : Int32) (σ_J10 : fm_M) (H : Heap) (locs : List Loc) (ls : Array Slot), fm_I G σ_J10 s H locs → lv_has ls 5 [(0, .ref (G.2.1 96)), (1, .int a1)] → J10 v0_J10 σ_J10 = some o → W p l e { frames := 2, cells := 0, slots := 0, locals := 42 } s m ([.ref (G.2.1 96), .int a1, .int a2, .int a3] : List Value).toArray below meth c H locs 0 0 (MQ below (fm_Qi G o) ([.ref (G.2.1 96), .int a1, .int a2, .int a3] : List Value).toArray s 0 0 (fm_A G)) (F0 m 79 ls [.int v0_J10, .int a1, .ref (G.2.1 107)]) := by
            intro v0_J10 σ_J10 H locs ls hI hl hf
            subst eJ10
            obtain ⟨hg11, hf⟩ := fm_gE hf
            obtain ⟨σ12, e13, hf⟩ := fm_letE hf
            refine fm_iast hC hI fc_107 fl_107 hg11 e13 dX12_sheet_79 (fun H locs hI => ?_)
            refine lv_iconst (v := (0 : Int32)) hx hb dX12_sheet_80 (by decide) ?_
            refine lv_istore (lv' := [(4, .int (0 : Int32)), (0, .ref (G.2.1 96)), (1, .int a1)]) hx hb dX12_sheet_81 hl (Nat.le_of_ble_eq_true rfl) rfl (fun ls hl => ?_)
            refine w_X12_sheet_83 hC hr hlk (fun x1_y17 x4_y17 σ_y17 H locs ls hI hl hf => ?_) fm_fu a1 (0 : Int32) σ12 _ _ _ hI (lv_sub hl [1, 2, 0] rfl) hf
            refine lv_aload_n hx hb dX12_sheet_109 rfl (lv_at hl 0 rfl) ?_
            refine fm_gr hC hI fd_X12_17 fc_96 fr_96_17 q_815 dX12_sheet_110 ?_
            refine lv_iload_n hx hb dX12_sheet_113 rfl (lv_at hl 1 rfl) ?_
            obtain ⟨hg18, hf⟩ := fm_gE hf
            refine fm_iald hC hI fc_107 fl_107 hg18 dX12_sheet_114 ?_
            exact fm_ri hC hI hr hlk hf dX12_sheet_115
          refine lv_if_ne (tgt := 78) hx hb dX12_sheet_71 (by decide) (fun hc => ?_) (fun hc => ?_)
          · have hf := fm_pF hf hc
            refine lv_iload_n hx hb dX12_sheet_78 rfl (lv_at hl 3 rfl) ?_
            exact hJ10 a3 σ8 _ _ _ hI (lv_sub hl [0, 1] rfl) hf
          · have hf := fm_pT hf hc
            refine lv_iconst (v := (0 : Int32)) hx hb dX12_sheet_74 (by decide) ?_
            refine lv_goto (tgt := 79) hx hb dX12_sheet_75 (by decide) ?_
            exact hJ10 (0 : Int32) σ8 _ _ _ hI (lv_sub hl [0, 1] rfl) hf
        · have hf := fm_pF hf hc
          refine lv_aload_n hx hb dX12_sheet_52 rfl (lv_at hl 0 rfl) ?_
          refine lv_iconst (v := (0 : Int32)) hx hb dX12_sheet_53 (by decide) ?_
          obtain ⟨r19, σ20, hq21, hf⟩ := fm_bE hf
          refine fm_ci hI (fm_runV (As := [.int (0 : Int32)]) (rest := []) (rm := { frames := 0, cells := 0, slots := 0, locals := 0 }) hC hI (c_X12_no hC.2.2.1 hq21) mV_X12_no q_867 ⟨rfl, rfl⟩ ⟨Nat.le_of_ble_eq_true rfl, Nat.le_of_ble_eq_true rfl⟩ fc_96 rfl (by decide) rfl hl.1 rfl (Nat.le_of_ble_eq_true rfl) dX12_sheet_54 ⟨Nat.zero_le _, Nat.zero_le _⟩) (fun H locs hI => ?_)
          exact fm_ri hC hI hr hlk hf dX12_sheet_57
      · have hf := fm_pF hf hc
        refine lv_aload_n hx hb dX12_sheet_39 rfl (lv_at hl 0 rfl) ?_
        refine lv_bipush (v := (6 : Int32)) hx hb dX12_sheet_40 (by decide) ?_
        obtain ⟨r22, σ23, hq24, hf⟩ := fm_bE hf
        refine fm_ci hI (fm_runV (As := [.int (6 : Int32)]) (rest := []) (rm := { frames := 0, cells := 0, slots := 0, locals := 0 }) hC hI (c_X12_no hC.2.2.1 hq24) mV_X12_no q_867 ⟨rfl, rfl⟩ ⟨Nat.le_of_ble_eq_true rfl, Nat.le_of_ble_eq_true rfl⟩ fc_96 rfl (by decide) rfl hl.1 rfl (Nat.le_of_ble_eq_true rfl) dX12_sheet_42 ⟨Nat.zero_le _, Nat.zero_le _⟩) (fun H locs hI => ?_)
        exact fm_ri hC hI hr hlk hf dX12_sheet_45
    · have hf := fm_pF hf hc
      refine lv_iload_n hx hb dX12_sheet_11 rfl (lv_at hl 2 rfl) ?_
      refine lv_bipush (v := (8 : Int32)) hx hb dX12_sheet_12 (by decide) ?_
      refine lv_icmp_eq (tgt := 35) hx hb dX12_sheet_14 (by decide) (fun hc => ?_) (fun hc => ?_)
      · have hf := fm_pT hf hc
        refine lv_iload_n hx hb dX12_sheet_35 rfl (lv_at hl 3 rfl) ?_
        refine lv_if_ge (tgt := 46) hx hb dX12_sheet_36 (by decide) (fun hc => ?_) (fun hc => ?_)
        · have hf := fm_pT hf hc
          refine lv_iload_n hx hb dX12_sheet_46 rfl (lv_at hl 3 rfl) ?_
          refine lv_bipush (v := (40 : Int32)) hx hb dX12_sheet_47 (by decide) ?_
          refine lv_icmp_le (tgt := 58) hx hb dX12_sheet_49 (by decide) (fun hc => ?_) (fun hc => ?_)
          · have hf := fm_pT hf hc
            refine lv_aload_n hx hb dX12_sheet_58 rfl (lv_at hl 0 rfl) ?_
            refine fm_gr hC hI fd_X12_16 fc_96 fr_96_16 q_814 dX12_sheet_59 ?_
            refine lv_iload_n hx hb dX12_sheet_62 rfl (lv_at hl 1 rfl) ?_
            refine lv_iload_n hx hb dX12_sheet_63 rfl (lv_at hl 2 rfl) ?_
            obtain ⟨hg25, hf⟩ := fm_gE hf
            obtain ⟨σ26, e27, hf⟩ := fm_letE hf
            refine fm_iast hC hI fc_106 fl_106 hg25 e27 dX12_sheet_64 (fun H locs hI => ?_)
            refine lv_aload_n hx hb dX12_sheet_65 rfl (lv_at hl 0 rfl) ?_
            refine fm_gr hC hI fd_X12_17 fc_96 fr_96_17 q_815 dX12_sheet_66 ?_
            refine lv_iload_n hx hb dX12_sheet_69 rfl (lv_at hl 1 rfl) ?_
            refine lv_iload_n hx hb dX12_sheet_70 rfl (lv_at hl 2 rfl) ?_
            obtain ⟨J28, eJ28, hf⟩ := fm_jE hf
            have hJ28 : ∀ (v0_J28 : Int32) (σ_J28 : fm_M) (H : Heap) (locs : List Loc) (ls : Array Slot), fm_I G σ_J28 s H locs → lv_has ls 5 [(0, .ref (G.2.1 96)), (1, .int a1)] → J28 v0_J28 σ_J28 = some o → W p l e { frames := 2, cells := 0, slots := 0, locals := 42 } s m ([.ref (G.2.1 96), .int a1, .int a2, .int a3] : List Value).toArray below meth c H locs 0 0 (MQ below (fm_Qi G o) ([.ref (G.2.1 96), .int a1, .int a2, .int a3] : List Value).toArray s 0 0 (fm_A G)) (F0 m 79 ls [.int v0_J28, .int a1, .ref (G.2.1 107)]) := by
              intro v0_J28 σ_J28 H locs ls hI hl hf
              subst eJ28
              obtain ⟨hg29, hf⟩ := fm_gE hf
              obtain ⟨σ30, e31, hf⟩ := fm_letE hf
              refine fm_iast hC hI fc_107 fl_107 hg29 e31 dX12_sheet_79 (fun H locs hI => ?_)
              refine lv_iconst (v := (0 : Int32)) hx hb dX12_sheet_80 (by decide) ?_
              refine lv_istore (lv' := [(4, .int (0 : Int32)), (0, .ref (G.2.1 96)), (1, .int a1)]) hx hb dX12_sheet_81 hl (Nat.le_of_ble_eq_true rfl) rfl (fun ls hl => ?_)
              refine w_X12_sheet_83 hC hr hlk (fun x1_y32 x4_y32 σ_y32 H locs ls hI hl hf => ?_) fm_fu a1 (0 : Int32) σ30 _ _ _ hI (lv_sub hl [1, 2, 0] rfl) hf
              refine lv_aload_n hx hb dX12_sheet_109 rfl (lv_at hl 0 rfl) ?_
              refine fm_gr hC hI fd_X12_17 fc_96 fr_96_17 q_815 dX12_sheet_110 ?_
              refine lv_iload_n hx hb dX12_sheet_113 rfl (lv_at hl 1 rfl) ?_
              obtain ⟨hg33, hf⟩ := fm_gE hf
              refine fm_iald hC hI fc_107 fl_107 hg33 dX12_sheet_114 ?_
              exact fm_ri hC hI hr hlk hf dX12_sheet_115
            refine lv_if_ne (tgt := 78) hx hb dX12_sheet_71 (by decide) (fun hc => ?_) (fun hc => ?_)
            · have hf := fm_pF hf hc
              refine lv_iload_n hx hb dX12_sheet_78 rfl (lv_at hl 3 rfl) ?_
              exact hJ28 a3 σ26 _ _ _ hI (lv_sub hl [0, 1] rfl) hf
            · have hf := fm_pT hf hc
              refine lv_iconst (v := (0 : Int32)) hx hb dX12_sheet_74 (by decide) ?_
              refine lv_goto (tgt := 79) hx hb dX12_sheet_75 (by decide) ?_
              exact hJ28 (0 : Int32) σ26 _ _ _ hI (lv_sub hl [0, 1] rfl) hf
          · have hf := fm_pF hf hc
            refine lv_aload_n hx hb dX12_sheet_52 rfl (lv_at hl 0 rfl) ?_
            refine lv_iconst (v := (0 : Int32)) hx hb dX12_sheet_53 (by decide) ?_
            obtain ⟨r34, σ35, hq36, hf⟩ := fm_bE hf
            refine fm_ci hI (fm_runV (As := [.int (0 : Int32)]) (rest := []) (rm := { frames := 0, cells := 0, slots := 0, locals := 0 }) hC hI (c_X12_no hC.2.2.1 hq36) mV_X12_no q_867 ⟨rfl, rfl⟩ ⟨Nat.le_of_ble_eq_true rfl, Nat.le_of_ble_eq_true rfl⟩ fc_96 rfl (by decide) rfl hl.1 rfl (Nat.le_of_ble_eq_true rfl) dX12_sheet_54 ⟨Nat.zero_le _, Nat.zero_le _⟩) (fun H locs hI => ?_)
            exact fm_ri hC hI hr hlk hf dX12_sheet_57
        · have hf := fm_pF hf hc
          refine lv_aload_n hx hb dX12_sheet_39 rfl (lv_at hl 0 rfl) ?_
          refine lv_bipush (v := (6 : Int32)) hx hb dX12_sheet_40 (by decide) ?_
          obtain ⟨r37, σ38, hq39, hf⟩ := fm_bE hf
          refine fm_ci hI (fm_runV (As := [.int (6 : Int32)]) (rest := []) (rm := { frames := 0, cells := 0, slots := 0, locals := 0 }) hC hI (c_X12_no hC.2.2.1 hq39) mV_X12_no q_867 ⟨rfl, rfl⟩ ⟨Nat.le_of_ble_eq_true rfl, Nat.le_of_ble_eq_true rfl⟩ fc_96 rfl (by decide) rfl hl.1 rfl (Nat.le_of_ble_eq_true rfl) dX12_sheet_42 ⟨Nat.zero_le _, Nat.zero_le _⟩) (fun H locs hI => ?_)
          exact fm_ri hC hI hr hlk hf dX12_sheet_45
      · have hf := fm_pF hf hc
        refine lv_iload_n hx hb dX12_sheet_17 rfl (lv_at hl 2 rfl) ?_
        refine lv_bipush (v := (16 : Int32)) hx hb dX12_sheet_18 (by decide) ?_
        refine lv_icmp_eq (tgt := 35) hx hb dX12_sheet_20 (by decide) (fun hc => ?_) (fun hc => ?_)
        · have hf := fm_pT hf hc
          refine lv_iload_n hx hb dX12_sheet_35 rfl (lv_at hl 3 rfl) ?_
          refine lv_if_ge (tgt := 46) hx hb dX12_sheet_36 (by decide) (fun hc => ?_) (fun hc => ?_)
          · have hf := fm_pT hf hc
            refine lv_iload_n hx hb dX12_sheet_46 rfl (lv_at hl 3 rfl) ?_
            refine lv_bipush (v := (40 : Int32)) hx hb dX12_sheet_47 (by decide) ?_
            refine lv_icmp_le (tgt := 58) hx hb dX12_sheet_49 (by decide) (fun hc => ?_) (fun hc => ?_)
            · have hf := fm_pT hf hc
              refine lv_aload_n hx hb dX12_sheet_58 rfl (lv_at hl 0 rfl) ?_
              refine fm_gr hC hI fd_X12_16 fc_96 fr_96_16 q_814 dX12_sheet_59 ?_
              refine lv_iload_n hx hb dX12_sheet_62 rfl (lv_at hl 1 rfl) ?_
              refine lv_iload_n hx hb dX12_sheet_63 rfl (lv_at hl 2 rfl) ?_
              obtain ⟨hg40, hf⟩ := fm_gE hf
              obtain ⟨σ41, e42, hf⟩ := fm_letE hf
              refine fm_iast hC hI fc_106 fl_106 hg40 e42 dX12_sheet_64 (fun H locs hI => ?_)
              refine lv_aload_n hx hb dX12_sheet_65 rfl (lv_at hl 0 rfl) ?_
              refine fm_gr hC hI fd_X12_17 fc_96 fr_96_17 q_815 dX12_sheet_66 ?_
              refine lv_iload_n hx hb dX12_sheet_69 rfl (lv_at hl 1 rfl) ?_
              refine lv_iload_n hx hb dX12_sheet_70 rfl (lv_at hl 2 rfl) ?_
              obtain ⟨J43, eJ43, hf⟩ := fm_jE hf
              have hJ43 : ∀ (v0_J43 : Int32) (σ_J43 : fm_M) (H : Heap) (locs : List Loc) (ls : Array Slot), fm_I G σ_J43 s H locs → lv_has ls 5 [(0, .ref (G.2.1 96)), (1, .int a1)] → J43 v0_J43 σ_J43 = some o → W p l e { frames := 2, cells := 0, slots := 0, locals := 42 } s m ([.ref (G.2.1 96), .int a1, .int a2, .int a3] : List Value).toArray below meth c H locs 0 0 (MQ below (fm_Qi G o) ([.ref (G.2.1 96), .int a1, .int a2, .int a3] : List Value).toArray s 0 0 (fm_A G)) (F0 m 79 ls [.int v0_J43, .int a1, .ref (G.2.1 107)]) := by
                intro v0_J43 σ_J43 H locs ls hI hl hf
                subst eJ43
                obtain ⟨hg44, hf⟩ := fm_gE hf
                obtain ⟨σ45, e46, hf⟩ := fm_letE hf
                refine fm_iast hC hI fc_107 fl_107 hg44 e46 dX12_sheet_79 (fun H locs hI => ?_)
                refine lv_iconst (v := (0 : Int32)) hx hb dX12_sheet_80 (by decide) ?_
                refine lv_istore (lv' := [(4, .int (0 : Int32)), (0, .ref (G.2.1 96)), (1, .int a1)]) hx hb dX12_sheet_81 hl (Nat.le_of_ble_eq_true rfl) rfl (fun ls hl => ?_)
                refine w_X12_sheet_83 hC hr hlk (fun x1_y47 x4_y47 σ_y47 H locs ls hI hl hf => ?_) fm_fu a1 (0 : Int32) σ45 _ _ _ hI (lv_sub hl [1, 2, 0] rfl) hf
                refine lv_aload_n hx hb dX12_sheet_109 rfl (lv_at hl 0 rfl) ?_
                refine fm_gr hC hI fd_X12_17 fc_96 fr_96_17 q_815 dX12_sheet_110 ?_
                refine lv_iload_n hx hb dX12_sheet_113 rfl (lv_at hl 1 rfl) ?_
                obtain ⟨hg48, hf⟩ := fm_gE hf
                refine fm_iald hC hI fc_107 fl_107 hg48 dX12_sheet_114 ?_
                exact fm_ri hC hI hr hlk hf dX12_sheet_115
              refine lv_if_ne (tgt := 78) hx hb dX12_sheet_71 (by decide) (fun hc => ?_) (fun hc => ?_)
              · have hf := fm_pF hf hc
                refine lv_iload_n hx hb dX12_sheet_78 rfl (lv_at hl 3 rfl) ?_
                exact hJ43 a3 σ41 _ _ _ hI (lv_sub hl [0, 1] rfl) hf
              · have hf := fm_pT hf hc
                refine lv_iconst (v := (0 : Int32)) hx hb dX12_sheet_74 (by decide) ?_
                refine lv_goto (tgt := 79) hx hb dX12_sheet_75 (by decide) ?_
                exact hJ43 (0 : Int32) σ41 _ _ _ hI (lv_sub hl [0, 1] rfl) hf
            · have hf := fm_pF hf hc
              refine lv_aload_n hx hb dX12_sheet_52 rfl (lv_at hl 0 rfl) ?_
              refine lv_iconst (v := (0 : Int32)) hx hb dX12_sheet_53 (by decide) ?_
              obtain ⟨r49, σ50, hq51, hf⟩ := fm_bE hf
              refine fm_ci hI (fm_runV (As := [.int (0 : Int32)]) (rest := []) (rm := { frames := 0, cells := 0, slots := 0, locals := 0 }) hC hI (c_X12_no hC.2.2.1 hq51) mV_X12_no q_867 ⟨rfl, rfl⟩ ⟨Nat.le_of_ble_eq_true rfl, Nat.le_of_ble_eq_true rfl⟩ fc_96 rfl (by decide) rfl hl.1 rfl (Nat.le_of_ble_eq_true rfl) dX12_sheet_54 ⟨Nat.zero_le _, Nat.zero_le _⟩) (fun H locs hI => ?_)
              exact fm_ri hC hI hr hlk hf dX12_sheet_57
          · have hf := fm_pF hf hc
            refine lv_aload_n hx hb dX12_sheet_39 rfl (lv_at hl 0 rfl) ?_
            refine lv_bipush (v := (6 : Int32)) hx hb dX12_sheet_40 (by decide) ?_
            obtain ⟨r52, σ53, hq54, hf⟩ := fm_bE hf
            refine fm_ci hI (fm_runV (As := [.int (6 : Int32)]) (rest := []) (rm := { frames := 0, cells := 0, slots := 0, locals := 0 }) hC hI (c_X12_no hC.2.2.1 hq54) mV_X12_no q_867 ⟨rfl, rfl⟩ ⟨Nat.le_of_ble_eq_true rfl, Nat.le_of_ble_eq_true rfl⟩ fc_96 rfl (by decide) rfl hl.1 rfl (Nat.le_of_ble_eq_true rfl) dX12_sheet_42 ⟨Nat.zero_le _, Nat.zero_le _⟩) (fun H locs hI => ?_)
            exact fm_ri hC hI hr hlk hf dX12_sheet_45
        · have hf := fm_pF hf hc
          refine lv_iload_n hx hb dX12_sheet_23 rfl (lv_at hl 2 rfl) ?_
          refine lv_bipush (v := (64 : Int32)) hx hb dX12_sheet_24 (by decide) ?_
          refine lv_icmp_eq (tgt := 35) hx hb dX12_sheet_26 (by decide) (fun hc => ?_) (fun hc => ?_)
          · have hf := fm_pT hf hc
            refine lv_iload_n hx hb dX12_sheet_35 rfl (lv_at hl 3 rfl) ?_
            refine lv_if_ge (tgt := 46) hx hb dX12_sheet_36 (by decide) (fun hc => ?_) (fun hc => ?_)
            · have hf := fm_pT hf hc
              refine lv_iload_n hx hb dX12_sheet_46 rfl (lv_at hl 3 rfl) ?_
              refine lv_bipush (v := (40 : Int32)) hx hb dX12_sheet_47 (by decide) ?_
              refine lv_icmp_le (tgt := 58) hx hb dX12_sheet_49 (by decide) (fun hc => ?_) (fun hc => ?_)
              · have hf := fm_pT hf hc
                refine lv_aload_n hx hb dX12_sheet_58 rfl (lv_at hl 0 rfl) ?_
                refine fm_gr hC hI fd_X12_16 fc_96 fr_96_16 q_814 dX12_sheet_59 ?_
                refine lv_iload_n hx hb dX12_sheet_62 rfl (lv_at hl 1 rfl) ?_
                refine lv_iload_n hx hb dX12_sheet_63 rfl (lv_at hl 2 rfl) ?_
                obtain ⟨hg55, hf⟩ := fm_gE hf
                obtain ⟨σ56, e57, hf⟩ := fm_letE hf
                refine fm_iast hC hI fc_106 fl_106 hg55 e57 dX12_sheet_64 (fun H locs hI => ?_)
                refine lv_aload_n hx hb dX12_sheet_65 rfl (lv_at hl 0 rfl) ?_
                refine fm_gr hC hI fd_X12_17 fc_96 fr_96_17 q_815 dX12_sheet_66 ?_
                refine lv_iload_n hx hb dX12_sheet_69 rfl (lv_at hl 1 rfl) ?_
                refine lv_iload_n hx hb dX12_sheet_70 rfl (lv_at hl 2 rfl) ?_
                obtain ⟨J58, eJ58, hf⟩ := fm_jE hf
                have hJ58 : ∀ (v0_J58 : Int32) (σ_J58 : fm_M) (H : Heap) (locs : List Loc) (ls : Array Slot), fm_I G σ_J58 s H locs → lv_has ls 5 [(0, .ref (G.2.1 96)), (1, .int a1)] → J58 v0_J58 σ_J58 = some o → W p l e { frames := 2, cells := 0, slots := 0, locals := 42 } s m ([.ref (G.2.1 96), .int a1, .int a2, .int a3] : List Value).toArray below meth c H locs 0 0 (MQ below (fm_Qi G o) ([.ref (G.2.1 96), .int a1, .int a2, .int a3] : List Value).toArray s 0 0 (fm_A G)) (F0 m 79 ls [.int v0_J58, .int a1, .ref (G.2.1 107)]) := by
                  intro v0_J58 σ_J58 H locs ls hI hl hf
                  subst eJ58
                  obtain ⟨hg59, hf⟩ := fm_gE hf
                  obtain ⟨σ60, e61, hf⟩ := fm_letE hf
                  refine fm_iast hC hI fc_107 fl_107 hg59 e61 dX12_sheet_79 (fun H locs hI => ?_)
                  refine lv_iconst (v := (0 : Int32)) hx hb dX12_sheet_80 (by decide) ?_
                  refine lv_istore (lv' := [(4, .int (0 : Int32)), (0, .ref (G.2.1 96)), (1, .int a1)]) hx hb dX12_sheet_81 hl (Nat.le_of_ble_eq_true rfl) rfl (fun ls hl => ?_)
                  refine w_X12_sheet_83 hC hr hlk (fun x1_y62 x4_y62 σ_y62 H locs ls hI hl hf => ?_) fm_fu a1 (0 : Int32) σ60 _ _ _ hI (lv_sub hl [1, 2, 0] rfl) hf
                  refine lv_aload_n hx hb dX12_sheet_109 rfl (lv_at hl 0 rfl) ?_
                  refine fm_gr hC hI fd_X12_17 fc_96 fr_96_17 q_815 dX12_sheet_110 ?_
                  refine lv_iload_n hx hb dX12_sheet_113 rfl (lv_at hl 1 rfl) ?_
                  obtain ⟨hg63, hf⟩ := fm_gE hf
                  refine fm_iald hC hI fc_107 fl_107 hg63 dX12_sheet_114 ?_
                  exact fm_ri hC hI hr hlk hf dX12_sheet_115
                refine lv_if_ne (tgt := 78) hx hb dX12_sheet_71 (by decide) (fun hc => ?_) (fun hc => ?_)
                · have hf := fm_pF hf hc
                  refine lv_iload_n hx hb dX12_sheet_78 rfl (lv_at hl 3 rfl) ?_
                  exact hJ58 a3 σ56 _ _ _ hI (lv_sub hl [0, 1] rfl) hf
                · have hf := fm_pT hf hc
                  refine lv_iconst (v := (0 : Int32)) hx hb dX12_sheet_74 (by decide) ?_
                  refine lv_goto (tgt := 79) hx hb dX12_sheet_75 (by decide) ?_
                  exact hJ58 (0 : Int32) σ56 _ _ _ hI (lv_sub hl [0, 1] rfl) hf
              · have hf := fm_pF hf hc
                refine lv_aload_n hx hb dX12_sheet_52 rfl (lv_at hl 0 rfl) ?_
                refine lv_iconst (v := (0 : Int32)) hx hb dX12_sheet_53 (by decide) ?_
                obtain ⟨r64, σ65, hq66, hf⟩ := fm_bE hf
                refine fm_ci hI (fm_runV (As := [.int (0 : Int32)]) (rest := []) (rm := { frames := 0, cells := 0, slots := 0, locals := 0 }) hC hI (c_X12_no hC.2.2.1 hq66) mV_X12_no q_867 ⟨rfl, rfl⟩ ⟨Nat.le_of_ble_eq_true rfl, Nat.le_of_ble_eq_true rfl⟩ fc_96 rfl (by decide) rfl hl.1 rfl (Nat.le_of_ble_eq_true rfl) dX12_sheet_54 ⟨Nat.zero_le _, Nat.zero_le _⟩) (fun H locs hI => ?_)
                exact fm_ri hC hI hr hlk hf dX12_sheet_57
            · have hf := fm_pF hf hc
              refine lv_aload_n hx hb dX12_sheet_39 rfl (lv_at hl 0 rfl) ?_
              refine lv_bipush (v := (6 : Int32)) hx hb dX12_sheet_40 (by decide) ?_
              obtain ⟨r67, σ68, hq69, hf⟩ := fm_bE hf
              refine fm_ci hI (fm_runV (As := [.int (6 : Int32)]) (rest := []) (rm := { frames := 0, cells := 0, slots := 0, locals := 0 }) hC hI (c_X12_no hC.2.2.1 hq69) mV_X12_no q_867 ⟨rfl, rfl⟩ ⟨Nat.le_of_ble_eq_true rfl, Nat.le_of_ble_eq_true rfl⟩ fc_96 rfl (by decide) rfl hl.1 rfl (Nat.le_of_ble_eq_true rfl) dX12_sheet_42 ⟨Nat.zero_le _, Nat.zero_le _⟩) (fun H locs hI => ?_)
              exact fm_ri hC hI hr hlk hf dX12_sheet_45
          · have hf := fm_pF hf hc
            refine lv_aload_n hx hb dX12_sheet_29 rfl (lv_at hl 0 rfl) ?_
            refine lv_iconst (v := (0 : Int32)) hx hb dX12_sheet_30 (by decide) ?_
            obtain ⟨r70, σ71, hq72, hf⟩ := fm_bE hf
            refine fm_ci hI (fm_runV (As := [.int (0 : Int32)]) (rest := []) (rm := { frames := 0, cells := 0, slots := 0, locals := 0 }) hC hI (c_X12_no hC.2.2.1 hq72) mV_X12_no q_867 ⟨rfl, rfl⟩ ⟨Nat.le_of_ble_eq_true rfl, Nat.le_of_ble_eq_true rfl⟩ fc_96 rfl (by decide) rfl hl.1 rfl (Nat.le_of_ble_eq_true rfl) dX12_sheet_31 ⟨Nat.zero_le _, Nat.zero_le _⟩) (fun H locs hI => ?_)
            exact fm_ri hC hI hr hlk hf dX12_sheet_34
def m_X12_write (a1 : Int32) (a2 : Int32) (a3 : Int64) (σ : fm_M) : Option (Int64 × fm_M) := fm_b (m_X12_wrongSheet a1 σ) fun r1 σ2 => (fm_j (fun (x5_J4 : Int32) (σ_J4 : fm_M) => if x5_J4 < 0 then (fm_b (m_X12_told a1 a2 σ_J4) fun r5 σ6 => (fm_b (m_X12_tells a1 a2 a3 σ6) fun _u8 σ9 => (some (r5, σ9)))) else (fm_b (m_X12_no x5_J4 σ_J4) fun r11 σ12 => (some ((r11.toInt64), σ12)))) (fun J4 => if 0 ≤ r1 then (J4 r1 σ2) else (fm_g (fm_in1 a1 4) (fm_b (m_X12_in1 a2 (0 : Int32) ((σ2.1 107 a1.toNatClampNeg) - (1 : Int32)) σ2) fun r15 σ16 => (if r15 = 0 then (J4 (0 : Int32) σ16) else (J4 r1 σ16))))))
set_option maxHeartbeats 4000000 in
set_option maxRecDepth 100000 in
theorem c_X12_write {l : Launch} {G : fm_G} (hJ : fm_J G) {a1 : Int32} {a2 : Int32} {a3 : Int64} {σ : fm_M} {o : Int64 × fm_M}  (hf : m_X12_write a1 a2 a3 σ = some o) : Met l yX12_write (fm_w yX12_write cX12_write 8 (some .long)) { frames := 3, cells := 0, slots := 0, locals := 63 } (va_Pc [.ref (G.2.1 96), .int a1, .int a2, .long a3] (fm_st G σ)) (fm_Ql G o) 0 0 (fm_A G) := by
  refine fm_mth (own := RX12) hJ rfl (by decide +kernel) (Nat.le_of_ble_eq_true rfl) ?_
  intro p e s m below meth c ls hC hr hlk hI hl
  have hx := hC.1.1
  have hb := hC.1.2.1
  have hown := hC.1.2.2.2.1
  have hts := hC.1.2.2.2.2
  have hl : lv_has ls 8 [(0, .ref (G.2.1 96)), (1, .int a1), (2, .int a2), (3, .long a3)] := hl
  rw [m_X12_write] at hf
  refine lv_aload_n hx hb dX12_write_0 rfl (lv_at hl 0 rfl) ?_
  refine lv_iload_n hx hb dX12_write_1 rfl (lv_at hl 1 rfl) ?_
  obtain ⟨r1, σ2, hq3, hf⟩ := fm_bE hf
  refine fm_ci hI (fm_runV (As := [.int a1]) (rest := []) (rm := { frames := 2, cells := 0, slots := 0, locals := 42 }) hC hI (c_X12_wrongSheet hC.2.2.1 hq3) mV_X12_wrongSheet q_1163 ⟨rfl, rfl⟩ ⟨Nat.le_of_ble_eq_true rfl, Nat.le_of_ble_eq_true rfl⟩ fc_96 rfl (by decide) rfl hl.1 rfl (Nat.le_of_ble_eq_true rfl) dX12_write_2 ⟨Nat.zero_le _, Nat.zero_le _⟩) (fun H locs hI => ?_)
  refine lv_istore (lv' := [(5, .int r1), (0, .ref (G.2.1 96)), (1, .int a1), (2, .int a2), (3, .long a3)]) hx hb dX12_write_5 hl (Nat.le_of_ble_eq_true rfl) rfl (fun ls hl => ?_)
  refine lv_iload hx hb dX12_write_7 (lv_at hl 0 rfl) ?_
  obtain ⟨J4, eJ4, hf⟩ := fm_jE hf
  have hJ4 : ∀ (x5_J4 : Int32) (σ_J4 : fm_M) (H : Heap) (locs : List Loc) (ls : Array Slot), fm_I G σ_J4 s H locs → lv_has ls 8 [(0, .ref (G.2.1 96)), (1, .int a1), (2, .int a2), (3, .long a3), (5, .int x5_J4)] → J4 x5_J4 σ_J4 = some o → W p l e { frames := 3, cells := 0, slots := 0, locals := 63 } s m ([.ref (G.2.1 96), .int a1, .int a2, .long a3] : List Value).toArray below meth c H locs 0 0 (MQ below (fm_Ql G o) ([.ref (G.2.1 96), .int a1, .int a2, .long a3] : List Value).toArray s 0 0 (fm_A G)) (F0 m 31 ls []) := by
    intro x5_J4 σ_J4 H locs ls hI hl hf
    subst eJ4
    refine lv_iload hx hb dX12_write_31 (lv_at hl 4 rfl) ?_
    refine lv_if_lt (tgt := 44) hx hb dX12_write_33 (by decide) (fun hc => ?_) (fun hc => ?_)
    · have hf := fm_pT hf hc
      refine lv_aload_n hx hb dX12_write_44 rfl (lv_at hl 0 rfl) ?_
      refine lv_iload_n hx hb dX12_write_45 rfl (lv_at hl 1 rfl) ?_
      refine lv_iload_n hx hb dX12_write_46 rfl (lv_at hl 2 rfl) ?_
      obtain ⟨r5, σ6, hq7, hf⟩ := fm_bE hf
      refine fm_cl hI (fm_runV (As := [.int a1, .int a2]) (rest := []) (rm := { frames := 0, cells := 0, slots := 0, locals := 0 }) hC hI (c_X12_told hC.2.2.1 hq7) mV_X12_told q_1167 ⟨rfl, rfl⟩ ⟨Nat.le_of_ble_eq_true rfl, Nat.le_of_ble_eq_true rfl⟩ fc_96 rfl (by decide) rfl hl.1 rfl (Nat.le_of_ble_eq_true rfl) dX12_write_47 ⟨Nat.zero_le _, Nat.zero_le _⟩) (fun H locs hI => ?_)
      refine lv_lstore (lv' := [(6, .long r5), (0, .ref (G.2.1 96)), (1, .int a1), (2, .int a2), (3, .long a3), (5, .int x5_J4)]) hx hb dX12_write_50 hl (Nat.le_of_ble_eq_true rfl) rfl (fun ls hl => ?_)
      refine lv_aload_n hx hb dX12_write_52 rfl (lv_at hl 1 rfl) ?_
      refine lv_iload_n hx hb dX12_write_53 rfl (lv_at hl 2 rfl) ?_
      refine lv_iload_n hx hb dX12_write_54 rfl (lv_at hl 3 rfl) ?_
      refine lv_lload_n hx hb dX12_write_55 rfl (lv_at hl 4 rfl) ?_
      obtain ⟨_u8, σ9, hq10, hf⟩ := fm_bE hf
      refine fm_cv hI (fm_runV (As := [.int a1, .int a2, .long a3]) (rest := []) (rm := { frames := 0, cells := 0, slots := 0, locals := 0 }) hC hI (c_X12_tells hC.2.2.1 hq10) mV_X12_tells q_1171 ⟨rfl, rfl⟩ ⟨Nat.le_of_ble_eq_true rfl, Nat.le_of_ble_eq_true rfl⟩ fc_96 rfl (by decide) rfl hl.1 rfl (Nat.le_of_ble_eq_true rfl) dX12_write_56 ⟨Nat.zero_le _, Nat.zero_le _⟩) (fun H locs hI => ?_)
      refine lv_lload hx hb dX12_write_59 (lv_at hl 0 rfl) ?_
      exact fm_rl hC hI hr hlk hf dX12_write_61
    · have hf := fm_pF hf hc
      refine lv_aload_n hx hb dX12_write_36 rfl (lv_at hl 0 rfl) ?_
      refine lv_iload hx hb dX12_write_37 (lv_at hl 4 rfl) ?_
      obtain ⟨r11, σ12, hq13, hf⟩ := fm_bE hf
      refine fm_ci hI (fm_runV (As := [.int x5_J4]) (rest := []) (rm := { frames := 0, cells := 0, slots := 0, locals := 0 }) hC hI (c_X12_no hC.2.2.1 hq13) mV_X12_no q_867 ⟨rfl, rfl⟩ ⟨Nat.le_of_ble_eq_true rfl, Nat.le_of_ble_eq_true rfl⟩ fc_96 rfl (by decide) rfl hl.1 rfl (Nat.le_of_ble_eq_true rfl) dX12_write_39 ⟨Nat.zero_le _, Nat.zero_le _⟩) (fun H locs hI => ?_)
      refine lv_i2l (v := r11.toInt64) hx hb dX12_write_42 rfl ?_
      exact fm_rl hC hI hr hlk hf dX12_write_43
  refine lv_if_ge (tgt := 31) hx hb dX12_write_9 (by decide) (fun hc => ?_) (fun hc => ?_)
  · have hf := fm_pT hf hc
    exact hJ4 r1 σ2 _ _ _ hI (lv_sub hl [1, 2, 3, 4, 0] rfl) hf
  · have hf := fm_pF hf hc
    refine lv_iload_n hx hb dX12_write_12 rfl (lv_at hl 3 rfl) ?_
    refine lv_iconst (v := (0 : Int32)) hx hb dX12_write_13 (by decide) ?_
    refine lv_aload_n hx hb dX12_write_14 rfl (lv_at hl 1 rfl) ?_
    refine fm_gr hC hI fd_X12_17 fc_96 fr_96_17 q_815 dX12_write_15 ?_
    refine lv_iload_n hx hb dX12_write_18 rfl (lv_at hl 2 rfl) ?_
    obtain ⟨hg14, hf⟩ := fm_gE hf
    refine fm_iald hC hI fc_107 fl_107 hg14 dX12_write_19 ?_
    refine lv_iconst (v := (1 : Int32)) hx hb dX12_write_20 (by decide) ?_
    refine lv_isub hx hb dX12_write_21 ?_
    obtain ⟨r15, σ16, hq17, hf⟩ := fm_bE hf
    refine fm_ci hI (fm_runS (As := [.int a2, .int (0 : Int32), .int ((σ2.1 107 a1.toNatClampNeg) - (1 : Int32))]) (rest := []) (rm := { frames := 0, cells := 0, slots := 0, locals := 0 }) hC hI (c_X12_in1 hC.2.2.1 hq17) mS_X12_in1 q_864 ⟨rfl, rfl⟩ ⟨Nat.le_of_ble_eq_true rfl, Nat.le_of_ble_eq_true rfl⟩ rfl hl.1 rfl (Nat.le_of_ble_eq_true rfl) dX12_write_22 ⟨Nat.zero_le _, Nat.zero_le _⟩) (fun H locs hI => ?_)
    refine lv_if_ne (tgt := 31) hx hb dX12_write_25 (by decide) (fun hc => ?_) (fun hc => ?_)
    · have hf := fm_pF hf hc
      exact hJ4 r1 σ16 _ _ _ hI (lv_sub hl [1, 2, 3, 4, 0] rfl) hf
    · have hf := fm_pT hf hc
      refine lv_iconst (v := (0 : Int32)) hx hb dX12_write_28 (by decide) ?_
      refine lv_istore (lv' := [(5, .int (0 : Int32)), (0, .ref (G.2.1 96)), (1, .int a1), (2, .int a2), (3, .long a3)]) hx hb dX12_write_29 hl (Nat.le_of_ble_eq_true rfl) rfl (fun ls hl => ?_)
      exact hJ4 (0 : Int32) σ16 _ _ _ hI (lv_sub hl [1, 2, 3, 4, 0] rfl) hf
def m_X12_copy_115 (kc : Int32 → Int32 → Int32 → Int32 → Int32 → Int32 → fm_M → Option (Int32 × fm_M)) : Nat → Int32 → Int32 → Int32 → Int32 → Int32 → Int32 → fm_M → Option (Int32 × fm_M)
  | 0, _, _, _, _, _, _, _ => none
  | n + 1, z1, z2, z3, z4, z5, z6, σ => if z5 ≤ z6 then (kc z1 z2 z3 z4 z5 z6 σ) else (fm_b (m_X12_told z1 (z2 + z6) σ) fun r31 σ32 => (fm_g (fm_in1 z6 40) (fm_let (fm_sL σ32 109 z6.toNatClampNeg r31) fun σ35 => (m_X12_copy_115 kc n z1 z2 z3 z4 z5 (z6 + (1 : Int32)) σ35))))
def m_X12_copy_147 (kc : Int32 → Int32 → Int32 → Int32 → fm_M → Option (Int32 × fm_M)) : Nat → Int32 → Int32 → Int32 → Int32 → fm_M → Option (Int32 × fm_M)
  | 0, _, _, _, _, _ => none
  | n + 1, z3, z4, z5, z6, σ => if z5 ≤ z6 then (kc z3 z4 z5 z6 σ) else (fm_g (fm_in1 z6 40) (fm_g (fm_in1 ((((40 : Int32) * z3) + z4) + z6) 160) (fm_let (fm_sL σ 108 ((((40 : Int32) * z3) + z4) + z6).toNatClampNeg (σ.2 109 z6.toNatClampNeg)) fun σ40 => (m_X12_copy_147 kc n z3 z4 z5 (z6 + (1 : Int32)) σ40))))
def m_X12_copy (a1 : Int32) (a2 : Int32) (a3 : Int32) (a4 : Int32) (a5 : Int32) (σ : fm_M) : Option (Int32 × fm_M) := fm_b (m_X12_isSheet a1 σ) fun r1 σ2 => (if r1 = 0 then (fm_b (m_X12_no (0 : Int32) σ2) fun r4 σ5 => (some (r4, σ5))) else (fm_b (m_X12_isSheet a3 σ2) fun r7 σ8 => (if r7 = 0 then (fm_b (m_X12_no (0 : Int32) σ8) fun r52 σ53 => (some (r52, σ53))) else (fm_g (fm_in1 a1 4) (if (σ8.1 106 a1.toNatClampNeg) = 0 then (fm_b (m_X12_no (5 : Int32) σ8) fun r11 σ12 => (some (r11, σ12))) else (fm_g (fm_in1 a3 4) (if (σ8.1 106 a3.toNatClampNeg) = 0 then (fm_b (m_X12_no (5 : Int32) σ8) fun r49 σ50 => (some (r49, σ50))) else (fm_g (fm_in1 a1 4) (fm_g (fm_in1 a3 4) (if (σ8.1 106 a1.toNatClampNeg) = (σ8.1 106 a3.toNatClampNeg) then (if a5 < 0 then (fm_b (m_X12_no (0 : Int32) σ8) fun r17 σ18 => (some (r17, σ18))) else (if a2 < 0 then (fm_b (m_X12_no (0 : Int32) σ8) fun r20 σ21 => (some (r20, σ21))) else (if a4 < 0 then (fm_b (m_X12_no (0 : Int32) σ8) fun r23 σ24 => (some (r23, σ24))) else (fm_g (fm_in1 a1 4) (if ((σ8.1 107 a1.toNatClampNeg) - a5) < a2 then (fm_b (m_X12_no (0 : Int32) σ8) fun r27 σ28 => (some (r27, σ28))) else (fm_g (fm_in1 a3 4) (if a4 ≤ ((σ8.1 107 a3.toNatClampNeg) - a5) then (m_X12_copy_115 (fun (x1_y37 : Int32) (x2_y37 : Int32) (x3_y37 : Int32) (x4_y37 : Int32) (x5_y37 : Int32) (x6_y37 : Int32) (σ_y37 : fm_M) => m_X12_copy_147 (fun (x3_y42 : Int32) (x4_y42 : Int32) (x5_y42 : Int32) (x6_y42 : Int32) (σ_y42 : fm_M) => some (x5_y42, σ_y42)) fm_fu x3_y37 x4_y37 x5_y37 (0 : Int32) σ_y37) fm_fu a1 a2 a3 a4 a5 (0 : Int32) σ8) else (fm_b (m_X12_no (0 : Int32) σ8) fun r43 σ44 => (some (r43, σ44)))))))))) else (fm_b (m_X12_no (2 : Int32) σ8) fun r46 σ47 => (some (r46, σ47)))))))))))))
set_option maxHeartbeats 4000000 in
set_option maxRecDepth 100000 in
theorem w_X12_copy_115 {p : Program} {l : Launch} {e : Env} {s : State} {m : MethodId} {args : Array Value} {below : List Frame} {meth : Method} {c : Code} {G : fm_G} {o : Int32 × fm_M} {kc : Int32 → Int32 → Int32 → Int32 → Int32 → Int32 → fm_M → Option (Int32 × fm_M)} (hC : fm_C G p m c cX12_copy 7 s args RX12) (hr : meth.sig.returnType = (some .int)) (hlk : meth.locks = false) (hk : ∀ (z1 : Int32) (z2 : Int32) (z3 : Int32) (z4 : Int32) (z5 : Int32) (z6 : Int32) (σ : fm_M) (H : Heap) (locs : List Loc) (ls : Array Slot), fm_I G σ s H locs → lv_has ls 7 [(0, .ref (G.2.1 96)), (1, .int z1), (2, .int z2), (3, .int z3), (4, .int z4), (5, .int z5), (6, .int z6)] → kc z1 z2 z3 z4 z5 z6 σ = some o → W p l e { frames := 2, cells := 0, slots := 0, locals := 42 } s m args below meth c H locs 0 0 (MQ below (fm_Qi G o) args s 0 0 (fm_A G)) (F0 m 144 ls [])) (n : Nat) : ∀ (z1 : Int32) (z2 : Int32) (z3 : Int32) (z4 : Int32) (z5 : Int32) (z6 : Int32) (σ : fm_M) (H : Heap) (locs : List Loc) (ls : Array Slot), fm_I G σ s H locs → lv_has ls 7 [(0, .ref (G.2.1 96)), (1, .int z1), (2, .int z2), (3, .int z3), (4, .int z4), (5, .int z5), (6, .int z6)] → m_X12_copy_115 kc n z1 z2 z3 z4 z5 z6 σ = some o → W p l e { frames := 2, cells := 0, slots := 0, locals := 42 } s m args below meth c H locs 0 0 (MQ below (fm_Qi G o) args s 0 0 (fm_A G)) (F0 m 115 ls []) := by
  have hx := hC.1.1
  have hb := hC.1.2.1
  have hown := hC.1.2.2.2.1
  have hts := hC.1.2.2.2.2
  induction n with
  | zero =>
    intro z1 z2 z3 z4 z5 z6 σ H locs ls hI hl hf
    cases hf
  | succ n ih =>
    intro z1 z2 z3 z4 z5 z6 σ H locs ls hI hl hf
    rw [m_X12_copy_115] at hf
    refine lv_iload hx hb dX12_copy_115 (lv_at hl 6 rfl) ?_
    refine lv_iload hx hb dX12_copy_117 (lv_at hl 5 rfl) ?_
    refine lv_icmp_ge (tgt := 144) hx hb dX12_copy_119 (by decide) (fun hc => ?_) (fun hc => ?_)
    · have hf := fm_pT hf hc
      exact hk z1 z2 z3 z4 z5 z6 σ _ _ _ hI (lv_sub hl [0, 1, 2, 3, 4, 5, 6] rfl) hf
    · have hf := fm_pF hf hc
      refine lv_aload_n hx hb dX12_copy_122 rfl (lv_at hl 0 rfl) ?_
      refine fm_gr hC hI fd_X12_19 fc_96 fr_96_19 q_817 dX12_copy_123 ?_
      refine lv_iload hx hb dX12_copy_126 (lv_at hl 6 rfl) ?_
      refine lv_aload_n hx hb dX12_copy_128 rfl (lv_at hl 0 rfl) ?_
      refine lv_iload_n hx hb dX12_copy_129 rfl (lv_at hl 1 rfl) ?_
      refine lv_iload_n hx hb dX12_copy_130 rfl (lv_at hl 2 rfl) ?_
      refine lv_iload hx hb dX12_copy_131 (lv_at hl 6 rfl) ?_
      refine lv_iadd hx hb dX12_copy_133 ?_
      obtain ⟨r31, σ32, hq33, hf⟩ := fm_bE hf
      refine fm_cl hI (fm_runV (As := [.int z1, .int (z2 + z6)]) (rest := [.int z6, .ref (G.2.1 109)]) (rm := { frames := 0, cells := 0, slots := 0, locals := 0 }) hC hI (c_X12_told hC.2.2.1 hq33) mV_X12_told q_1167 ⟨rfl, rfl⟩ ⟨Nat.le_of_ble_eq_true rfl, Nat.le_of_ble_eq_true rfl⟩ fc_96 rfl (by decide) rfl hl.1 rfl (Nat.le_of_ble_eq_true rfl) dX12_copy_134 ⟨Nat.zero_le _, Nat.zero_le _⟩) (fun H locs hI => ?_)
      obtain ⟨hg34, hf⟩ := fm_gE hf
      obtain ⟨σ35, e36, hf⟩ := fm_letE hf
      refine fm_last hC hI fc_109 fl_109 hg34 e36 dX12_copy_137 (fun H locs hI => ?_)
      refine lv_iinc (v := (z6 + (1 : Int32))) (lv' := [(6, .int (z6 + (1 : Int32))), (0, .ref (G.2.1 96)), (1, .int z1), (2, .int z2), (3, .int z3), (4, .int z4), (5, .int z5)]) hx hb dX12_copy_138 hl (k := 6) rfl rfl (Nat.le_of_ble_eq_true rfl) rfl (fun ls hl => ?_)
      refine lv_goto (tgt := 115) hx hb dX12_copy_141 (by decide) ?_
      exact ih z1 z2 z3 z4 z5 (z6 + (1 : Int32)) σ35 _ _ _ hI (lv_sub hl [1, 2, 3, 4, 5, 6, 0] rfl) hf
set_option maxHeartbeats 4000000 in
set_option maxRecDepth 100000 in
theorem w_X12_copy_147 {p : Program} {l : Launch} {e : Env} {s : State} {m : MethodId} {args : Array Value} {below : List Frame} {meth : Method} {c : Code} {G : fm_G} {o : Int32 × fm_M} {kc : Int32 → Int32 → Int32 → Int32 → fm_M → Option (Int32 × fm_M)} (hC : fm_C G p m c cX12_copy 7 s args RX12) (hr : meth.sig.returnType = (some .int)) (hlk : meth.locks = false) (hk : ∀ (z3 : Int32) (z4 : Int32) (z5 : Int32) (z6 : Int32) (σ : fm_M) (H : Heap) (locs : List Loc) (ls : Array Slot), fm_I G σ s H locs → lv_has ls 7 [(0, .ref (G.2.1 96)), (3, .int z3), (4, .int z4), (5, .int z5), (6, .int z6)] → kc z3 z4 z5 z6 σ = some o → W p l e { frames := 2, cells := 0, slots := 0, locals := 42 } s m args below meth c H locs 0 0 (MQ below (fm_Qi G o) args s 0 0 (fm_A G)) (F0 m 182 ls [])) (n : Nat) : ∀ (z3 : Int32) (z4 : Int32) (z5 : Int32) (z6 : Int32) (σ : fm_M) (H : Heap) (locs : List Loc) (ls : Array Slot), fm_I G σ s H locs → lv_has ls 7 [(0, .ref (G.2.1 96)), (3, .int z3), (4, .int z4), (5, .int z5), (6, .int z6)] → m_X12_copy_147 kc n z3 z4 z5 z6 σ = some o → W p l e { frames := 2, cells := 0, slots := 0, locals := 42 } s m args below meth c H locs 0 0 (MQ below (fm_Qi G o) args s 0 0 (fm_A G)) (F0 m 147 ls []) := by
  have hx := hC.1.1
  have hb := hC.1.2.1
  have hown := hC.1.2.2.2.1
  have hts := hC.1.2.2.2.2
  induction n with
  | zero =>
    intro z3 z4 z5 z6 σ H locs ls hI hl hf
    cases hf
  | succ n ih =>
    intro z3 z4 z5 z6 σ H locs ls hI hl hf
    rw [m_X12_copy_147] at hf
    refine lv_iload hx hb dX12_copy_147 (lv_at hl 4 rfl) ?_
    refine lv_iload hx hb dX12_copy_149 (lv_at hl 3 rfl) ?_
    refine lv_icmp_ge (tgt := 182) hx hb dX12_copy_151 (by decide) (fun hc => ?_) (fun hc => ?_)
    · have hf := fm_pT hf hc
      exact hk z3 z4 z5 z6 σ _ _ _ hI (lv_sub hl [0, 1, 2, 3, 4] rfl) hf
    · have hf := fm_pF hf hc
      refine lv_aload_n hx hb dX12_copy_154 rfl (lv_at hl 0 rfl) ?_
      refine fm_gr hC hI fd_X12_18 fc_96 fr_96_18 q_816 dX12_copy_155 ?_
      refine lv_bipush (v := (40 : Int32)) hx hb dX12_copy_158 (by decide) ?_
      refine lv_iload_n hx hb dX12_copy_160 rfl (lv_at hl 1 rfl) ?_
      refine lv_imul hx hb dX12_copy_161 ?_
      refine lv_iload hx hb dX12_copy_162 (lv_at hl 2 rfl) ?_
      refine lv_iadd hx hb dX12_copy_164 ?_
      refine lv_iload hx hb dX12_copy_165 (lv_at hl 4 rfl) ?_
      refine lv_iadd hx hb dX12_copy_167 ?_
      refine lv_aload_n hx hb dX12_copy_168 rfl (lv_at hl 0 rfl) ?_
      refine fm_gr hC hI fd_X12_19 fc_96 fr_96_19 q_817 dX12_copy_169 ?_
      refine lv_iload hx hb dX12_copy_172 (lv_at hl 4 rfl) ?_
      obtain ⟨hg38, hf⟩ := fm_gE hf
      refine fm_lald hC hI fc_109 fl_109 hg38 dX12_copy_174 ?_
      obtain ⟨hg39, hf⟩ := fm_gE hf
      obtain ⟨σ40, e41, hf⟩ := fm_letE hf
      refine fm_last hC hI fc_108 fl_108 hg39 e41 dX12_copy_175 (fun H locs hI => ?_)
      refine lv_iinc (v := (z6 + (1 : Int32))) (lv' := [(6, .int (z6 + (1 : Int32))), (0, .ref (G.2.1 96)), (3, .int z3), (4, .int z4), (5, .int z5)]) hx hb dX12_copy_176 hl (k := 4) rfl rfl (Nat.le_of_ble_eq_true rfl) rfl (fun ls hl => ?_)
      refine lv_goto (tgt := 147) hx hb dX12_copy_179 (by decide) ?_
      exact ih z3 z4 z5 (z6 + (1 : Int32)) σ40 _ _ _ hI (lv_sub hl [1, 2, 3, 4, 0] rfl) hf
set_option maxHeartbeats 4000000 in
set_option maxRecDepth 100000 in
theorem c_X12_copy {l : Launch} {G : fm_G} (hJ : fm_J G) {a1 : Int32} {a2 : Int32} {a3 : Int32} {a4 : Int32} {a5 : Int32} {σ : fm_M} {o : Int32 × fm_M}  (hf : m_X12_copy a1 a2 a3 a4 a5 σ = some o) : Met l yX12_copy (fm_w yX12_copy cX12_copy 7 (some .int)) { frames := 2, cells := 0, slots := 0, locals := 42 } (va_Pc [.ref (G.2.1 96), .int a1, .int a2, .int a3, .int a4, .int a5] (fm_st G σ)) (fm_Qi G o) 0 0 (fm_A G) := by
  refine fm_mth (own := RX12) hJ rfl (by decide +kernel) (Nat.le_of_ble_eq_true rfl) ?_
  intro p e s m below meth c ls hC hr hlk hI hl
  have hx := hC.1.1
  have hb := hC.1.2.1
  have hown := hC.1.2.2.2.1
  have hts := hC.1.2.2.2.2
  have hl : lv_has ls 7 [(0, .ref (G.2.1 96)), (1, .int a1), (2, .int a2), (3, .int a3), (4, .int a4), (5, .int a5)] := hl
  rw [m_X12_copy] at hf
  refine lv_iload_n hx hb dX12_copy_0 rfl (lv_at hl 1 rfl) ?_
  obtain ⟨r1, σ2, hq3, hf⟩ := fm_bE hf
  refine fm_ci hI (fm_runS (As := [.int a1]) (rest := []) (rm := { frames := 1, cells := 0, slots := 0, locals := 22 }) hC hI (c_X12_isSheet hC.2.2.1 hq3) mS_X12_isSheet q_1156 ⟨rfl, rfl⟩ ⟨Nat.le_of_ble_eq_true rfl, Nat.le_of_ble_eq_true rfl⟩ rfl hl.1 rfl (Nat.le_of_ble_eq_true rfl) dX12_copy_1 ⟨Nat.zero_le _, Nat.zero_le _⟩) (fun H locs hI => ?_)
  refine lv_if_eq (tgt := 14) hx hb dX12_copy_4 (by decide) (fun hc => ?_) (fun hc => ?_)
  · have hf := fm_pT hf hc
    refine lv_aload_n hx hb dX12_copy_14 rfl (lv_at hl 0 rfl) ?_
    refine lv_iconst (v := (0 : Int32)) hx hb dX12_copy_15 (by decide) ?_
    obtain ⟨r4, σ5, hq6, hf⟩ := fm_bE hf
    refine fm_ci hI (fm_runV (As := [.int (0 : Int32)]) (rest := []) (rm := { frames := 0, cells := 0, slots := 0, locals := 0 }) hC hI (c_X12_no hC.2.2.1 hq6) mV_X12_no q_867 ⟨rfl, rfl⟩ ⟨Nat.le_of_ble_eq_true rfl, Nat.le_of_ble_eq_true rfl⟩ fc_96 rfl (by decide) rfl hl.1 rfl (Nat.le_of_ble_eq_true rfl) dX12_copy_16 ⟨Nat.zero_le _, Nat.zero_le _⟩) (fun H locs hI => ?_)
    exact fm_ri hC hI hr hlk hf dX12_copy_19
  · have hf := fm_pF hf hc
    refine lv_iload_n hx hb dX12_copy_7 rfl (lv_at hl 3 rfl) ?_
    obtain ⟨r7, σ8, hq9, hf⟩ := fm_bE hf
    refine fm_ci hI (fm_runS (As := [.int a3]) (rest := []) (rm := { frames := 1, cells := 0, slots := 0, locals := 22 }) hC hI (c_X12_isSheet hC.2.2.1 hq9) mS_X12_isSheet q_1156 ⟨rfl, rfl⟩ ⟨Nat.le_of_ble_eq_true rfl, Nat.le_of_ble_eq_true rfl⟩ rfl hl.1 rfl (Nat.le_of_ble_eq_true rfl) dX12_copy_8 ⟨Nat.zero_le _, Nat.zero_le _⟩) (fun H locs hI => ?_)
    refine lv_if_ne (tgt := 20) hx hb dX12_copy_11 (by decide) (fun hc => ?_) (fun hc => ?_)
    · have hf := fm_pF hf hc
      refine lv_aload_n hx hb dX12_copy_20 rfl (lv_at hl 0 rfl) ?_
      refine fm_gr hC hI fd_X12_16 fc_96 fr_96_16 q_814 dX12_copy_21 ?_
      refine lv_iload_n hx hb dX12_copy_24 rfl (lv_at hl 1 rfl) ?_
      obtain ⟨hg10, hf⟩ := fm_gE hf
      refine fm_iald hC hI fc_106 fl_106 hg10 dX12_copy_25 ?_
      refine lv_if_eq (tgt := 38) hx hb dX12_copy_26 (by decide) (fun hc => ?_) (fun hc => ?_)
      · have hf := fm_pT hf hc
        refine lv_aload_n hx hb dX12_copy_38 rfl (lv_at hl 0 rfl) ?_
        refine lv_iconst (v := (5 : Int32)) hx hb dX12_copy_39 (by decide) ?_
        obtain ⟨r11, σ12, hq13, hf⟩ := fm_bE hf
        refine fm_ci hI (fm_runV (As := [.int (5 : Int32)]) (rest := []) (rm := { frames := 0, cells := 0, slots := 0, locals := 0 }) hC hI (c_X12_no hC.2.2.1 hq13) mV_X12_no q_867 ⟨rfl, rfl⟩ ⟨Nat.le_of_ble_eq_true rfl, Nat.le_of_ble_eq_true rfl⟩ fc_96 rfl (by decide) rfl hl.1 rfl (Nat.le_of_ble_eq_true rfl) dX12_copy_40 ⟨Nat.zero_le _, Nat.zero_le _⟩) (fun H locs hI => ?_)
        exact fm_ri hC hI hr hlk hf dX12_copy_43
      · have hf := fm_pF hf hc
        refine lv_aload_n hx hb dX12_copy_29 rfl (lv_at hl 0 rfl) ?_
        refine fm_gr hC hI fd_X12_16 fc_96 fr_96_16 q_814 dX12_copy_30 ?_
        refine lv_iload_n hx hb dX12_copy_33 rfl (lv_at hl 3 rfl) ?_
        obtain ⟨hg14, hf⟩ := fm_gE hf
        refine fm_iald hC hI fc_106 fl_106 hg14 dX12_copy_34 ?_
        refine lv_if_ne (tgt := 44) hx hb dX12_copy_35 (by decide) (fun hc => ?_) (fun hc => ?_)
        · have hf := fm_pF hf hc
          refine lv_aload_n hx hb dX12_copy_44 rfl (lv_at hl 0 rfl) ?_
          refine fm_gr hC hI fd_X12_16 fc_96 fr_96_16 q_814 dX12_copy_45 ?_
          refine lv_iload_n hx hb dX12_copy_48 rfl (lv_at hl 1 rfl) ?_
          obtain ⟨hg15, hf⟩ := fm_gE hf
          refine fm_iald hC hI fc_106 fl_106 hg15 dX12_copy_49 ?_
          refine lv_aload_n hx hb dX12_copy_50 rfl (lv_at hl 0 rfl) ?_
          refine fm_gr hC hI fd_X12_16 fc_96 fr_96_16 q_814 dX12_copy_51 ?_
          refine lv_iload_n hx hb dX12_copy_54 rfl (lv_at hl 3 rfl) ?_
          obtain ⟨hg16, hf⟩ := fm_gE hf
          refine fm_iald hC hI fc_106 fl_106 hg16 dX12_copy_55 ?_
          refine lv_icmp_eq (tgt := 65) hx hb dX12_copy_56 (by decide) (fun hc => ?_) (fun hc => ?_)
          · have hf := fm_pT hf hc
            refine lv_iload hx hb dX12_copy_65 (lv_at hl 5 rfl) ?_
            refine lv_if_lt (tgt := 106) hx hb dX12_copy_67 (by decide) (fun hc => ?_) (fun hc => ?_)
            · have hf := fm_pT hf hc
              refine lv_aload_n hx hb dX12_copy_106 rfl (lv_at hl 0 rfl) ?_
              refine lv_iconst (v := (0 : Int32)) hx hb dX12_copy_107 (by decide) ?_
              obtain ⟨r17, σ18, hq19, hf⟩ := fm_bE hf
              refine fm_ci hI (fm_runV (As := [.int (0 : Int32)]) (rest := []) (rm := { frames := 0, cells := 0, slots := 0, locals := 0 }) hC hI (c_X12_no hC.2.2.1 hq19) mV_X12_no q_867 ⟨rfl, rfl⟩ ⟨Nat.le_of_ble_eq_true rfl, Nat.le_of_ble_eq_true rfl⟩ fc_96 rfl (by decide) rfl hl.1 rfl (Nat.le_of_ble_eq_true rfl) dX12_copy_108 ⟨Nat.zero_le _, Nat.zero_le _⟩) (fun H locs hI => ?_)
              exact fm_ri hC hI hr hlk hf dX12_copy_111
            · have hf := fm_pF hf hc
              refine lv_iload_n hx hb dX12_copy_70 rfl (lv_at hl 2 rfl) ?_
              refine lv_if_lt (tgt := 106) hx hb dX12_copy_71 (by decide) (fun hc => ?_) (fun hc => ?_)
              · have hf := fm_pT hf hc
                refine lv_aload_n hx hb dX12_copy_106 rfl (lv_at hl 0 rfl) ?_
                refine lv_iconst (v := (0 : Int32)) hx hb dX12_copy_107 (by decide) ?_
                obtain ⟨r20, σ21, hq22, hf⟩ := fm_bE hf
                refine fm_ci hI (fm_runV (As := [.int (0 : Int32)]) (rest := []) (rm := { frames := 0, cells := 0, slots := 0, locals := 0 }) hC hI (c_X12_no hC.2.2.1 hq22) mV_X12_no q_867 ⟨rfl, rfl⟩ ⟨Nat.le_of_ble_eq_true rfl, Nat.le_of_ble_eq_true rfl⟩ fc_96 rfl (by decide) rfl hl.1 rfl (Nat.le_of_ble_eq_true rfl) dX12_copy_108 ⟨Nat.zero_le _, Nat.zero_le _⟩) (fun H locs hI => ?_)
                exact fm_ri hC hI hr hlk hf dX12_copy_111
              · have hf := fm_pF hf hc
                refine lv_iload hx hb dX12_copy_74 (lv_at hl 4 rfl) ?_
                refine lv_if_lt (tgt := 106) hx hb dX12_copy_76 (by decide) (fun hc => ?_) (fun hc => ?_)
                · have hf := fm_pT hf hc
                  refine lv_aload_n hx hb dX12_copy_106 rfl (lv_at hl 0 rfl) ?_
                  refine lv_iconst (v := (0 : Int32)) hx hb dX12_copy_107 (by decide) ?_
                  obtain ⟨r23, σ24, hq25, hf⟩ := fm_bE hf
                  refine fm_ci hI (fm_runV (As := [.int (0 : Int32)]) (rest := []) (rm := { frames := 0, cells := 0, slots := 0, locals := 0 }) hC hI (c_X12_no hC.2.2.1 hq25) mV_X12_no q_867 ⟨rfl, rfl⟩ ⟨Nat.le_of_ble_eq_true rfl, Nat.le_of_ble_eq_true rfl⟩ fc_96 rfl (by decide) rfl hl.1 rfl (Nat.le_of_ble_eq_true rfl) dX12_copy_108 ⟨Nat.zero_le _, Nat.zero_le _⟩) (fun H locs hI => ?_)
                  exact fm_ri hC hI hr hlk hf dX12_copy_111
                · have hf := fm_pF hf hc
                  refine lv_iload_n hx hb dX12_copy_79 rfl (lv_at hl 2 rfl) ?_
                  refine lv_aload_n hx hb dX12_copy_80 rfl (lv_at hl 0 rfl) ?_
                  refine fm_gr hC hI fd_X12_17 fc_96 fr_96_17 q_815 dX12_copy_81 ?_
                  refine lv_iload_n hx hb dX12_copy_84 rfl (lv_at hl 1 rfl) ?_
                  obtain ⟨hg26, hf⟩ := fm_gE hf
                  refine fm_iald hC hI fc_107 fl_107 hg26 dX12_copy_85 ?_
                  refine lv_iload hx hb dX12_copy_86 (lv_at hl 5 rfl) ?_
                  refine lv_isub hx hb dX12_copy_88 ?_
                  refine lv_icmp_gt (tgt := 106) hx hb dX12_copy_89 (by decide) (fun hc => ?_) (fun hc => ?_)
                  · have hf := fm_pT hf hc
                    refine lv_aload_n hx hb dX12_copy_106 rfl (lv_at hl 0 rfl) ?_
                    refine lv_iconst (v := (0 : Int32)) hx hb dX12_copy_107 (by decide) ?_
                    obtain ⟨r27, σ28, hq29, hf⟩ := fm_bE hf
                    refine fm_ci hI (fm_runV (As := [.int (0 : Int32)]) (rest := []) (rm := { frames := 0, cells := 0, slots := 0, locals := 0 }) hC hI (c_X12_no hC.2.2.1 hq29) mV_X12_no q_867 ⟨rfl, rfl⟩ ⟨Nat.le_of_ble_eq_true rfl, Nat.le_of_ble_eq_true rfl⟩ fc_96 rfl (by decide) rfl hl.1 rfl (Nat.le_of_ble_eq_true rfl) dX12_copy_108 ⟨Nat.zero_le _, Nat.zero_le _⟩) (fun H locs hI => ?_)
                    exact fm_ri hC hI hr hlk hf dX12_copy_111
                  · have hf := fm_pF hf hc
                    refine lv_iload hx hb dX12_copy_92 (lv_at hl 4 rfl) ?_
                    refine lv_aload_n hx hb dX12_copy_94 rfl (lv_at hl 0 rfl) ?_
                    refine fm_gr hC hI fd_X12_17 fc_96 fr_96_17 q_815 dX12_copy_95 ?_
                    refine lv_iload_n hx hb dX12_copy_98 rfl (lv_at hl 3 rfl) ?_
                    obtain ⟨hg30, hf⟩ := fm_gE hf
                    refine fm_iald hC hI fc_107 fl_107 hg30 dX12_copy_99 ?_
                    refine lv_iload hx hb dX12_copy_100 (lv_at hl 5 rfl) ?_
                    refine lv_isub hx hb dX12_copy_102 ?_
                    refine lv_icmp_le (tgt := 112) hx hb dX12_copy_103 (by decide) (fun hc => ?_) (fun hc => ?_)
                    · have hf := fm_pT hf hc
                      refine lv_iconst (v := (0 : Int32)) hx hb dX12_copy_112 (by decide) ?_
                      refine lv_istore (lv' := [(6, .int (0 : Int32)), (0, .ref (G.2.1 96)), (1, .int a1), (2, .int a2), (3, .int a3), (4, .int a4), (5, .int a5)]) hx hb dX12_copy_113 hl (Nat.le_of_ble_eq_true rfl) rfl (fun ls hl => ?_)
                      refine w_X12_copy_115 hC hr hlk (fun x1_y37 x2_y37 x3_y37 x4_y37 x5_y37 x6_y37 σ_y37 H locs ls hI hl hf => ?_) fm_fu a1 a2 a3 a4 a5 (0 : Int32) σ8 _ _ _ hI (lv_sub hl [1, 2, 3, 4, 5, 6, 0] rfl) hf
                      refine lv_iconst (v := (0 : Int32)) hx hb dX12_copy_144 (by decide) ?_
                      refine lv_istore (lv' := [(6, .int (0 : Int32)), (0, .ref (G.2.1 96)), (1, .int x1_y37), (2, .int x2_y37), (3, .int x3_y37), (4, .int x4_y37), (5, .int x5_y37)]) hx hb dX12_copy_145 hl (Nat.le_of_ble_eq_true rfl) rfl (fun ls hl => ?_)
                      refine w_X12_copy_147 hC hr hlk (fun x3_y42 x4_y42 x5_y42 x6_y42 σ_y42 H locs ls hI hl hf => ?_) fm_fu x3_y37 x4_y37 x5_y37 (0 : Int32) σ_y37 _ _ _ hI (lv_sub hl [1, 4, 5, 6, 0] rfl) hf
                      refine lv_iload hx hb dX12_copy_182 (lv_at hl 3 rfl) ?_
                      exact fm_ri hC hI hr hlk hf dX12_copy_184
                    · have hf := fm_pF hf hc
                      refine lv_aload_n hx hb dX12_copy_106 rfl (lv_at hl 0 rfl) ?_
                      refine lv_iconst (v := (0 : Int32)) hx hb dX12_copy_107 (by decide) ?_
                      obtain ⟨r43, σ44, hq45, hf⟩ := fm_bE hf
                      refine fm_ci hI (fm_runV (As := [.int (0 : Int32)]) (rest := []) (rm := { frames := 0, cells := 0, slots := 0, locals := 0 }) hC hI (c_X12_no hC.2.2.1 hq45) mV_X12_no q_867 ⟨rfl, rfl⟩ ⟨Nat.le_of_ble_eq_true rfl, Nat.le_of_ble_eq_true rfl⟩ fc_96 rfl (by decide) rfl hl.1 rfl (Nat.le_of_ble_eq_true rfl) dX12_copy_108 ⟨Nat.zero_le _, Nat.zero_le _⟩) (fun H locs hI => ?_)
                      exact fm_ri hC hI hr hlk hf dX12_copy_111
          · have hf := fm_pF hf hc
            refine lv_aload_n hx hb dX12_copy_59 rfl (lv_at hl 0 rfl) ?_
            refine lv_iconst (v := (2 : Int32)) hx hb dX12_copy_60 (by decide) ?_
            obtain ⟨r46, σ47, hq48, hf⟩ := fm_bE hf
            refine fm_ci hI (fm_runV (As := [.int (2 : Int32)]) (rest := []) (rm := { frames := 0, cells := 0, slots := 0, locals := 0 }) hC hI (c_X12_no hC.2.2.1 hq48) mV_X12_no q_867 ⟨rfl, rfl⟩ ⟨Nat.le_of_ble_eq_true rfl, Nat.le_of_ble_eq_true rfl⟩ fc_96 rfl (by decide) rfl hl.1 rfl (Nat.le_of_ble_eq_true rfl) dX12_copy_61 ⟨Nat.zero_le _, Nat.zero_le _⟩) (fun H locs hI => ?_)
            exact fm_ri hC hI hr hlk hf dX12_copy_64
        · have hf := fm_pT hf hc
          refine lv_aload_n hx hb dX12_copy_38 rfl (lv_at hl 0 rfl) ?_
          refine lv_iconst (v := (5 : Int32)) hx hb dX12_copy_39 (by decide) ?_
          obtain ⟨r49, σ50, hq51, hf⟩ := fm_bE hf
          refine fm_ci hI (fm_runV (As := [.int (5 : Int32)]) (rest := []) (rm := { frames := 0, cells := 0, slots := 0, locals := 0 }) hC hI (c_X12_no hC.2.2.1 hq51) mV_X12_no q_867 ⟨rfl, rfl⟩ ⟨Nat.le_of_ble_eq_true rfl, Nat.le_of_ble_eq_true rfl⟩ fc_96 rfl (by decide) rfl hl.1 rfl (Nat.le_of_ble_eq_true rfl) dX12_copy_40 ⟨Nat.zero_le _, Nat.zero_le _⟩) (fun H locs hI => ?_)
          exact fm_ri hC hI hr hlk hf dX12_copy_43
    · have hf := fm_pT hf hc
      refine lv_aload_n hx hb dX12_copy_14 rfl (lv_at hl 0 rfl) ?_
      refine lv_iconst (v := (0 : Int32)) hx hb dX12_copy_15 (by decide) ?_
      obtain ⟨r52, σ53, hq54, hf⟩ := fm_bE hf
      refine fm_ci hI (fm_runV (As := [.int (0 : Int32)]) (rest := []) (rm := { frames := 0, cells := 0, slots := 0, locals := 0 }) hC hI (c_X12_no hC.2.2.1 hq54) mV_X12_no q_867 ⟨rfl, rfl⟩ ⟨Nat.le_of_ble_eq_true rfl, Nat.le_of_ble_eq_true rfl⟩ fc_96 rfl (by decide) rfl hl.1 rfl (Nat.le_of_ble_eq_true rfl) dX12_copy_16 ⟨Nat.zero_le _, Nat.zero_le _⟩) (fun H locs hI => ?_)
      exact fm_ri hC hI hr hlk hf dX12_copy_19
def m_X12_lays_51 (kc : Int32 → Int32 → Int32 → fm_M → Option (Int32 × fm_M)) : Nat → Int32 → Int32 → Int32 → fm_M → Option (Int32 × fm_M)
  | 0, _, _, _, _ => none
  | n + 1, z1, z2, z4, σ => fm_g (fm_in1 z1 4) (if (σ.1 107 z1.toNatClampNeg) ≤ z4 then (kc z1 z2 z4 σ) else (if (6 : Int32) ≤ z4 then (kc z1 z2 z4 σ) else (fm_b (m_X12_told z1 z4 σ) fun r6 σ7 => (if (lg_cmp r6 (0 : Int64)) < 0 then (kc z1 z2 z4 σ7) else (fm_b (m_X12_told z1 z4 σ7) fun r9 σ10 => (if 0 < (lg_cmp r9 (3 : Int64)) then (kc z1 z2 z4 σ10) else (fm_b (m_X12_told z1 z4 σ10) fun r12 σ13 => (fm_b (m_X12_lays1 z2 ((4 : Int32) + z4) (r12.toInt32) σ13) fun _u15 σ16 => (m_X12_lays_51 kc n z1 z2 (z4 + (1 : Int32)) σ16)))))))))
def m_X12_lays (a1 : Int32) (a2 : Int32) (σ : fm_M) : Option (Int32 × fm_M) := fm_b (m_X12_wrongSheet a1 σ) fun r1 σ2 => (fm_j (fun (x3_J4 : Int32) (σ_J4 : fm_M) => if x3_J4 < 0 then (m_X12_lays_51 (fun (x1_y18 : Int32) (x2_y18 : Int32) (x4_y18 : Int32) (σ_y18 : fm_M) => fm_b (m_X12_lays1 x2_y18 (0 : Int32) x4_y18 σ_y18) fun _u19 σ20 => (some (x4_y18, σ20))) fm_fu a1 a2 (0 : Int32) σ_J4) else (fm_b (m_X12_no x3_J4 σ_J4) fun r22 σ23 => (some (r22, σ23)))) (fun J4 => if 0 ≤ r1 then (J4 r1 σ2) else (fm_b (m_X12_isPresent a2 σ2) fun r25 σ26 => (fm_j (fun (v0_J28 : Int32) (σ_J28 : fm_M) => J4 v0_J28 σ_J28) (fun J28 => if r25 = 0 then (J28 (0 : Int32) σ26) else (fm_b (m_X12_of1 a2 (3 : Int32) σ26) fun r29 σ30 => (if r29 = (1 : Int32) then (J28 (4 : Int32) σ30) else (J28 (-1 : Int32) σ30))))))))
set_option maxHeartbeats 4000000 in
set_option maxRecDepth 100000 in
theorem w_X12_lays_51 {p : Program} {l : Launch} {e : Env} {s : State} {m : MethodId} {args : Array Value} {below : List Frame} {meth : Method} {c : Code} {G : fm_G} {o : Int32 × fm_M} {kc : Int32 → Int32 → Int32 → fm_M → Option (Int32 × fm_M)} (hC : fm_C G p m c cX12_lays 5 s args RX12) (hr : meth.sig.returnType = (some .int)) (hlk : meth.locks = false) (hk : ∀ (z1 : Int32) (z2 : Int32) (z4 : Int32) (σ : fm_M) (H : Heap) (locs : List Loc) (ls : Array Slot), fm_I G σ s H locs → lv_has ls 5 [(0, .ref (G.2.1 96)), (1, .int z1), (2, .int z2), (4, .int z4)] → kc z1 z2 z4 σ = some o → W p l e { frames := 3, cells := 0, slots := 0, locals := 63 } s m args below meth c H locs 0 0 (MQ below (fm_Qi G o) args s 0 0 (fm_A G)) (F0 m 118 ls [])) (n : Nat) : ∀ (z1 : Int32) (z2 : Int32) (z4 : Int32) (σ : fm_M) (H : Heap) (locs : List Loc) (ls : Array Slot), fm_I G σ s H locs → lv_has ls 5 [(0, .ref (G.2.1 96)), (1, .int z1), (2, .int z2), (4, .int z4)] → m_X12_lays_51 kc n z1 z2 z4 σ = some o → W p l e { frames := 3, cells := 0, slots := 0, locals := 63 } s m args below meth c H locs 0 0 (MQ below (fm_Qi G o) args s 0 0 (fm_A G)) (F0 m 51 ls []) := by
  have hx := hC.1.1
  have hb := hC.1.2.1
  have hown := hC.1.2.2.2.1
  have hts := hC.1.2.2.2.2
  induction n with
  | zero =>
    intro z1 z2 z4 σ H locs ls hI hl hf
    cases hf
  | succ n ih =>
    intro z1 z2 z4 σ H locs ls hI hl hf
    rw [m_X12_lays_51] at hf
    refine lv_iload hx hb dX12_lays_51 (lv_at hl 3 rfl) ?_
    refine lv_aload_n hx hb dX12_lays_53 rfl (lv_at hl 0 rfl) ?_
    refine fm_gr hC hI fd_X12_17 fc_96 fr_96_17 q_815 dX12_lays_54 ?_
    refine lv_iload_n hx hb dX12_lays_57 rfl (lv_at hl 1 rfl) ?_
    obtain ⟨hg5, hf⟩ := fm_gE hf
    refine fm_iald hC hI fc_107 fl_107 hg5 dX12_lays_58 ?_
    refine lv_icmp_ge (tgt := 118) hx hb dX12_lays_59 (by decide) (fun hc => ?_) (fun hc => ?_)
    · have hf := fm_pT hf hc
      exact hk z1 z2 z4 σ _ _ _ hI (lv_sub hl [0, 1, 2, 3] rfl) hf
    · have hf := fm_pF hf hc
      refine lv_iload hx hb dX12_lays_62 (lv_at hl 3 rfl) ?_
      refine lv_bipush (v := (6 : Int32)) hx hb dX12_lays_64 (by decide) ?_
      refine lv_icmp_ge (tgt := 118) hx hb dX12_lays_66 (by decide) (fun hc => ?_) (fun hc => ?_)
      · have hf := fm_pT hf hc
        exact hk z1 z2 z4 σ _ _ _ hI (lv_sub hl [0, 1, 2, 3] rfl) hf
      · have hf := fm_pF hf hc
        refine lv_aload_n hx hb dX12_lays_69 rfl (lv_at hl 0 rfl) ?_
        refine lv_iload_n hx hb dX12_lays_70 rfl (lv_at hl 1 rfl) ?_
        refine lv_iload hx hb dX12_lays_71 (lv_at hl 3 rfl) ?_
        obtain ⟨r6, σ7, hq8, hf⟩ := fm_bE hf
        refine fm_cl hI (fm_runV (As := [.int z1, .int z4]) (rest := []) (rm := { frames := 0, cells := 0, slots := 0, locals := 0 }) hC hI (c_X12_told hC.2.2.1 hq8) mV_X12_told q_1167 ⟨rfl, rfl⟩ ⟨Nat.le_of_ble_eq_true rfl, Nat.le_of_ble_eq_true rfl⟩ fc_96 rfl (by decide) rfl hl.1 rfl (Nat.le_of_ble_eq_true rfl) dX12_lays_73 ⟨Nat.zero_le _, Nat.zero_le _⟩) (fun H locs hI => ?_)
        refine lv_lconst (v := (0 : Int64)) hx hb dX12_lays_76 (by decide) ?_
        refine W.lcmp hx hb dX12_lays_77 ?_
        refine lv_if_lt (tgt := 118) hx hb dX12_lays_78 (by decide) (fun hc => ?_) (fun hc => ?_)
        · have hf := fm_pT hf hc
          exact hk z1 z2 z4 σ7 _ _ _ hI (lv_sub hl [0, 1, 2, 3] rfl) hf
        · have hf := fm_pF hf hc
          refine lv_aload_n hx hb dX12_lays_81 rfl (lv_at hl 0 rfl) ?_
          refine lv_iload_n hx hb dX12_lays_82 rfl (lv_at hl 1 rfl) ?_
          refine lv_iload hx hb dX12_lays_83 (lv_at hl 3 rfl) ?_
          obtain ⟨r9, σ10, hq11, hf⟩ := fm_bE hf
          refine fm_cl hI (fm_runV (As := [.int z1, .int z4]) (rest := []) (rm := { frames := 0, cells := 0, slots := 0, locals := 0 }) hC hI (c_X12_told hC.2.2.1 hq11) mV_X12_told q_1167 ⟨rfl, rfl⟩ ⟨Nat.le_of_ble_eq_true rfl, Nat.le_of_ble_eq_true rfl⟩ fc_96 rfl (by decide) rfl hl.1 rfl (Nat.le_of_ble_eq_true rfl) dX12_lays_85 ⟨Nat.zero_le _, Nat.zero_le _⟩) (fun H locs hI => ?_)
          refine lv_ldc2 (v := (3 : Int64)) hx hb hown (hts _ q_1183) dX12_lays_88 ?_
          refine W.lcmp hx hb dX12_lays_91 ?_
          refine lv_if_gt (tgt := 118) hx hb dX12_lays_92 (by decide) (fun hc => ?_) (fun hc => ?_)
          · have hf := fm_pT hf hc
            exact hk z1 z2 z4 σ10 _ _ _ hI (lv_sub hl [0, 1, 2, 3] rfl) hf
          · have hf := fm_pF hf hc
            refine lv_aload_n hx hb dX12_lays_95 rfl (lv_at hl 0 rfl) ?_
            refine lv_iload_n hx hb dX12_lays_96 rfl (lv_at hl 2 rfl) ?_
            refine lv_iconst (v := (4 : Int32)) hx hb dX12_lays_97 (by decide) ?_
            refine lv_iload hx hb dX12_lays_98 (lv_at hl 3 rfl) ?_
            refine lv_iadd hx hb dX12_lays_100 ?_
            refine lv_aload_n hx hb dX12_lays_101 rfl (lv_at hl 0 rfl) ?_
            refine lv_iload_n hx hb dX12_lays_102 rfl (lv_at hl 1 rfl) ?_
            refine lv_iload hx hb dX12_lays_103 (lv_at hl 3 rfl) ?_
            obtain ⟨r12, σ13, hq14, hf⟩ := fm_bE hf
            refine fm_cl hI (fm_runV (As := [.int z1, .int z4]) (rest := [.int ((4 : Int32) + z4), .int z2, .ref (G.2.1 96)]) (rm := { frames := 0, cells := 0, slots := 0, locals := 0 }) hC hI (c_X12_told hC.2.2.1 hq14) mV_X12_told q_1167 ⟨rfl, rfl⟩ ⟨Nat.le_of_ble_eq_true rfl, Nat.le_of_ble_eq_true rfl⟩ fc_96 rfl (by decide) rfl hl.1 rfl (Nat.le_of_ble_eq_true rfl) dX12_lays_105 ⟨Nat.zero_le _, Nat.zero_le _⟩) (fun H locs hI => ?_)
            refine lv_l2i (v := r12.toInt32) hx hb dX12_lays_108 rfl ?_
            obtain ⟨_u15, σ16, hq17, hf⟩ := fm_bE hf
            refine fm_cv hI (fm_runV (As := [.int z2, .int ((4 : Int32) + z4), .int (r12.toInt32)]) (rest := []) (rm := { frames := 0, cells := 0, slots := 0, locals := 0 }) hC hI (c_X12_lays1 hC.2.2.1 hq17) mV_X12_lays1 q_947 ⟨rfl, rfl⟩ ⟨Nat.le_of_ble_eq_true rfl, Nat.le_of_ble_eq_true rfl⟩ fc_96 rfl (by decide) rfl hl.1 rfl (Nat.le_of_ble_eq_true rfl) dX12_lays_109 ⟨Nat.zero_le _, Nat.zero_le _⟩) (fun H locs hI => ?_)
            refine lv_iinc (v := (z4 + (1 : Int32))) (lv' := [(4, .int (z4 + (1 : Int32))), (0, .ref (G.2.1 96)), (1, .int z1), (2, .int z2)]) hx hb dX12_lays_112 hl (k := 3) rfl rfl (Nat.le_of_ble_eq_true rfl) rfl (fun ls hl => ?_)
            refine lv_goto (tgt := 51) hx hb dX12_lays_115 (by decide) ?_
            exact ih z1 z2 (z4 + (1 : Int32)) σ16 _ _ _ hI (lv_sub hl [1, 2, 3, 0] rfl) hf
set_option maxHeartbeats 4000000 in
set_option maxRecDepth 100000 in
theorem c_X12_lays {l : Launch} {G : fm_G} (hJ : fm_J G) {a1 : Int32} {a2 : Int32} {σ : fm_M} {o : Int32 × fm_M}  (hf : m_X12_lays a1 a2 σ = some o) : Met l yX12_lays (fm_w yX12_lays cX12_lays 5 (some .int)) { frames := 3, cells := 0, slots := 0, locals := 63 } (va_Pc [.ref (G.2.1 96), .int a1, .int a2] (fm_st G σ)) (fm_Qi G o) 0 0 (fm_A G) := by
  refine fm_mth (own := RX12) hJ rfl (by decide +kernel) (Nat.le_of_ble_eq_true rfl) ?_
  intro p e s m below meth c ls hC hr hlk hI hl
  have hx := hC.1.1
  have hb := hC.1.2.1
  have hown := hC.1.2.2.2.1
  have hts := hC.1.2.2.2.2
  have hl : lv_has ls 5 [(0, .ref (G.2.1 96)), (1, .int a1), (2, .int a2)] := hl
  rw [m_X12_lays] at hf
  refine lv_aload_n hx hb dX12_lays_0 rfl (lv_at hl 0 rfl) ?_
  refine lv_iload_n hx hb dX12_lays_1 rfl (lv_at hl 1 rfl) ?_
  obtain ⟨r1, σ2, hq3, hf⟩ := fm_bE hf
  refine fm_ci hI (fm_runV (As := [.int a1]) (rest := []) (rm := { frames := 2, cells := 0, slots := 0, locals := 42 }) hC hI (c_X12_wrongSheet hC.2.2.1 hq3) mV_X12_wrongSheet q_1163 ⟨rfl, rfl⟩ ⟨Nat.le_of_ble_eq_true rfl, Nat.le_of_ble_eq_true rfl⟩ fc_96 rfl (by decide) rfl hl.1 rfl (Nat.le_of_ble_eq_true rfl) dX12_lays_2 ⟨Nat.zero_le _, Nat.zero_le _⟩) (fun H locs hI => ?_)
  refine lv_istore_n (lv' := [(3, .int r1), (0, .ref (G.2.1 96)), (1, .int a1), (2, .int a2)]) hx hb dX12_lays_5 rfl hl (Nat.le_of_ble_eq_true rfl) rfl (fun ls hl => ?_)
  refine lv_iload_n hx hb dX12_lays_6 rfl (lv_at hl 0 rfl) ?_
  obtain ⟨J4, eJ4, hf⟩ := fm_jE hf
  have hJ4 : ∀ (x3_J4 : Int32) (σ_J4 : fm_M) (H : Heap) (locs : List Loc) (ls : Array Slot), fm_I G σ_J4 s H locs → lv_has ls 5 [(0, .ref (G.2.1 96)), (1, .int a1), (2, .int a2), (3, .int x3_J4)] → J4 x3_J4 σ_J4 = some o → W p l e { frames := 3, cells := 0, slots := 0, locals := 63 } s m ([.ref (G.2.1 96), .int a1, .int a2] : List Value).toArray below meth c H locs 0 0 (MQ below (fm_Qi G o) ([.ref (G.2.1 96), .int a1, .int a2] : List Value).toArray s 0 0 (fm_A G)) (F0 m 38 ls []) := by
    intro x3_J4 σ_J4 H locs ls hI hl hf
    subst eJ4
    refine lv_iload_n hx hb dX12_lays_38 rfl (lv_at hl 3 rfl) ?_
    refine lv_if_lt (tgt := 48) hx hb dX12_lays_39 (by decide) (fun hc => ?_) (fun hc => ?_)
    · have hf := fm_pT hf hc
      refine lv_iconst (v := (0 : Int32)) hx hb dX12_lays_48 (by decide) ?_
      refine lv_istore (lv' := [(4, .int (0 : Int32)), (0, .ref (G.2.1 96)), (1, .int a1), (2, .int a2), (3, .int x3_J4)]) hx hb dX12_lays_49 hl (Nat.le_of_ble_eq_true rfl) rfl (fun ls hl => ?_)
      refine w_X12_lays_51 hC hr hlk (fun x1_y18 x2_y18 x4_y18 σ_y18 H locs ls hI hl hf => ?_) fm_fu a1 a2 (0 : Int32) σ_J4 _ _ _ hI (lv_sub hl [1, 2, 3, 0] rfl) hf
      refine lv_aload_n hx hb dX12_lays_118 rfl (lv_at hl 0 rfl) ?_
      refine lv_iload_n hx hb dX12_lays_119 rfl (lv_at hl 2 rfl) ?_
      refine lv_iconst (v := (0 : Int32)) hx hb dX12_lays_120 (by decide) ?_
      refine lv_iload hx hb dX12_lays_121 (lv_at hl 3 rfl) ?_
      obtain ⟨_u19, σ20, hq21, hf⟩ := fm_bE hf
      refine fm_cv hI (fm_runV (As := [.int x2_y18, .int (0 : Int32), .int x4_y18]) (rest := []) (rm := { frames := 0, cells := 0, slots := 0, locals := 0 }) hC hI (c_X12_lays1 hC.2.2.1 hq21) mV_X12_lays1 q_947 ⟨rfl, rfl⟩ ⟨Nat.le_of_ble_eq_true rfl, Nat.le_of_ble_eq_true rfl⟩ fc_96 rfl (by decide) rfl hl.1 rfl (Nat.le_of_ble_eq_true rfl) dX12_lays_123 ⟨Nat.zero_le _, Nat.zero_le _⟩) (fun H locs hI => ?_)
      refine lv_iload hx hb dX12_lays_126 (lv_at hl 3 rfl) ?_
      exact fm_ri hC hI hr hlk hf dX12_lays_128
    · have hf := fm_pF hf hc
      refine lv_aload_n hx hb dX12_lays_42 rfl (lv_at hl 0 rfl) ?_
      refine lv_iload_n hx hb dX12_lays_43 rfl (lv_at hl 3 rfl) ?_
      obtain ⟨r22, σ23, hq24, hf⟩ := fm_bE hf
      refine fm_ci hI (fm_runV (As := [.int x3_J4]) (rest := []) (rm := { frames := 0, cells := 0, slots := 0, locals := 0 }) hC hI (c_X12_no hC.2.2.1 hq24) mV_X12_no q_867 ⟨rfl, rfl⟩ ⟨Nat.le_of_ble_eq_true rfl, Nat.le_of_ble_eq_true rfl⟩ fc_96 rfl (by decide) rfl hl.1 rfl (Nat.le_of_ble_eq_true rfl) dX12_lays_44 ⟨Nat.zero_le _, Nat.zero_le _⟩) (fun H locs hI => ?_)
      exact fm_ri hC hI hr hlk hf dX12_lays_47
  refine lv_if_ge (tgt := 38) hx hb dX12_lays_7 (by decide) (fun hc => ?_) (fun hc => ?_)
  · have hf := fm_pT hf hc
    exact hJ4 r1 σ2 _ _ _ hI (lv_sub hl [1, 2, 3, 0] rfl) hf
  · have hf := fm_pF hf hc
    refine lv_aload_n hx hb dX12_lays_10 rfl (lv_at hl 1 rfl) ?_
    refine lv_iload_n hx hb dX12_lays_11 rfl (lv_at hl 3 rfl) ?_
    obtain ⟨r25, σ26, hq27, hf⟩ := fm_bE hf
    refine fm_ci hI (fm_runV (As := [.int a2]) (rest := []) (rm := { frames := 1, cells := 0, slots := 0, locals := 22 }) hC hI (c_X12_isPresent hC.2.2.1 hq27) mV_X12_isPresent q_904 ⟨rfl, rfl⟩ ⟨Nat.le_of_ble_eq_true rfl, Nat.le_of_ble_eq_true rfl⟩ fc_96 rfl (by decide) rfl hl.1 rfl (Nat.le_of_ble_eq_true rfl) dX12_lays_12 ⟨Nat.zero_le _, Nat.zero_le _⟩) (fun H locs hI => ?_)
    obtain ⟨J28, eJ28, hf⟩ := fm_jE hf
    have hJ28 : ∀ (v0_J28 : Int32) (σ_J28 : fm_M) (H : Heap) (locs : List Loc) (ls : Array Slot), fm_I G σ_J28 s H locs → lv_has ls 5 [(0, .ref (G.2.1 96)), (1, .int a1), (2, .int a2)] → J28 v0_J28 σ_J28 = some o → W p l e { frames := 3, cells := 0, slots := 0, locals := 63 } s m ([.ref (G.2.1 96), .int a1, .int a2] : List Value).toArray below meth c H locs 0 0 (MQ below (fm_Qi G o) ([.ref (G.2.1 96), .int a1, .int a2] : List Value).toArray s 0 0 (fm_A G)) (F0 m 37 ls [.int v0_J28]) := by
      intro v0_J28 σ_J28 H locs ls hI hl hf
      subst eJ28
      refine lv_istore_n (lv' := [(3, .int v0_J28), (0, .ref (G.2.1 96)), (1, .int a1), (2, .int a2)]) hx hb dX12_lays_37 rfl hl (Nat.le_of_ble_eq_true rfl) rfl (fun ls hl => ?_)
      exact hJ4 v0_J28 σ_J28 _ _ _ hI (lv_sub hl [1, 2, 3, 0] rfl) hf
    refine lv_if_ne (tgt := 22) hx hb dX12_lays_15 (by decide) (fun hc => ?_) (fun hc => ?_)
    · have hf := fm_pF hf hc
      refine lv_aload_n hx hb dX12_lays_22 rfl (lv_at hl 1 rfl) ?_
      refine lv_iload_n hx hb dX12_lays_23 rfl (lv_at hl 3 rfl) ?_
      refine lv_iconst (v := (3 : Int32)) hx hb dX12_lays_24 (by decide) ?_
      obtain ⟨r29, σ30, hq31, hf⟩ := fm_bE hf
      refine fm_ci hI (fm_runV (As := [.int a2, .int (3 : Int32)]) (rest := []) (rm := { frames := 0, cells := 0, slots := 0, locals := 0 }) hC hI (c_X12_of1 hC.2.2.1 hq31) mV_X12_of1 q_896 ⟨rfl, rfl⟩ ⟨Nat.le_of_ble_eq_true rfl, Nat.le_of_ble_eq_true rfl⟩ fc_96 rfl (by decide) rfl hl.1 rfl (Nat.le_of_ble_eq_true rfl) dX12_lays_25 ⟨Nat.zero_le _, Nat.zero_le _⟩) (fun H locs hI => ?_)
      refine lv_iconst (v := (1 : Int32)) hx hb dX12_lays_28 (by decide) ?_
      refine lv_icmp_ne (tgt := 36) hx hb dX12_lays_29 (by decide) (fun hc => ?_) (fun hc => ?_)
      · have hf := fm_pF hf hc
        refine lv_iconst (v := (-1 : Int32)) hx hb dX12_lays_36 (by decide) ?_
        exact hJ28 (-1 : Int32) σ30 _ _ _ hI (lv_sub hl [1, 2, 3] rfl) hf
      · have hf := fm_pT hf hc
        refine lv_iconst (v := (4 : Int32)) hx hb dX12_lays_32 (by decide) ?_
        refine lv_goto (tgt := 37) hx hb dX12_lays_33 (by decide) ?_
        exact hJ28 (4 : Int32) σ30 _ _ _ hI (lv_sub hl [1, 2, 3] rfl) hf
    · have hf := fm_pT hf hc
      refine lv_iconst (v := (0 : Int32)) hx hb dX12_lays_18 (by decide) ?_
      refine lv_goto (tgt := 37) hx hb dX12_lays_19 (by decide) ?_
      exact hJ28 (0 : Int32) σ26 _ _ _ hI (lv_sub hl [1, 2, 3] rfl) hf
def m_X12_book_37 (kc : Int32 → Int32 → Int32 → fm_M → Option (Int32 × fm_M)) : Nat → Int32 → Int32 → Int32 → fm_M → Option (Int32 × fm_M)
  | 0, _, _, _, _ => none
  | n + 1, z1, z2, z4, σ => fm_g (fm_in1 z1 4) (if (σ.1 107 z1.toNatClampNeg) ≤ z4 then (kc z1 z2 z4 σ) else (fm_b (m_X12_get z2 (1 : Int32) σ) fun r9 σ10 => (fm_b (m_X12_tells z1 z4 (r9.toInt64) σ10) fun _u12 σ13 => (fm_b (m_X12_day  σ13) fun _u15 σ16 => (m_X12_book_37 kc n z1 z2 (z4 + (1 : Int32)) σ16)))))
def m_X12_book (a1 : Int32) (a2 : Int32) (σ : fm_M) : Option (Int32 × fm_M) := fm_b (m_X12_wrongSheet a1 σ) fun r1 σ2 => (fm_j (fun (x3_J4 : Int32) (σ_J4 : fm_M) => if x3_J4 < 0 then (fm_b (m_X12_setsAside  σ_J4) fun _u5 σ6 => (m_X12_book_37 (fun (x1_y18 : Int32) (x2_y18 : Int32) (x4_y18 : Int32) (σ_y18 : fm_M) => fm_b (m_X12_laysBack  σ_y18) fun _u19 σ20 => (fm_g (fm_in1 x1_y18 4) (some ((σ20.1 107 x1_y18.toNatClampNeg), σ20)))) fm_fu a1 a2 (0 : Int32) σ6)) else (fm_b (m_X12_no x3_J4 σ_J4) fun r23 σ24 => (some (r23, σ24)))) (fun J4 => if 0 ≤ r1 then (J4 r1 σ2) else (fm_b (m_X12_isPerson a2 σ2) fun r26 σ27 => (if r26 = 0 then (J4 (0 : Int32) σ27) else (J4 r1 σ27)))))
set_option maxHeartbeats 4000000 in
set_option maxRecDepth 100000 in
theorem w_X12_book_37 {p : Program} {l : Launch} {e : Env} {s : State} {m : MethodId} {args : Array Value} {below : List Frame} {meth : Method} {c : Code} {G : fm_G} {o : Int32 × fm_M} {kc : Int32 → Int32 → Int32 → fm_M → Option (Int32 × fm_M)} (hC : fm_C G p m c cX12_book 5 s args RX12) (hr : meth.sig.returnType = (some .int)) (hlk : meth.locks = false) (hk : ∀ (z1 : Int32) (z2 : Int32) (z4 : Int32) (σ : fm_M) (H : Heap) (locs : List Loc) (ls : Array Slot), fm_I G σ s H locs → lv_has ls 5 [(0, .ref (G.2.1 96)), (1, .int z1), (2, .int z2), (4, .int z4)] → kc z1 z2 z4 σ = some o → W p l e { frames := 5, cells := 0, slots := 0, locals := 114 } s m args below meth c H locs 0 0 (MQ below (fm_Qi G o) args s 0 0 (fm_A G)) (F0 m 72 ls [])) (n : Nat) : ∀ (z1 : Int32) (z2 : Int32) (z4 : Int32) (σ : fm_M) (H : Heap) (locs : List Loc) (ls : Array Slot), fm_I G σ s H locs → lv_has ls 5 [(0, .ref (G.2.1 96)), (1, .int z1), (2, .int z2), (4, .int z4)] → m_X12_book_37 kc n z1 z2 z4 σ = some o → W p l e { frames := 5, cells := 0, slots := 0, locals := 114 } s m args below meth c H locs 0 0 (MQ below (fm_Qi G o) args s 0 0 (fm_A G)) (F0 m 37 ls []) := by
  have hx := hC.1.1
  have hb := hC.1.2.1
  have hown := hC.1.2.2.2.1
  have hts := hC.1.2.2.2.2
  induction n with
  | zero =>
    intro z1 z2 z4 σ H locs ls hI hl hf
    cases hf
  | succ n ih =>
    intro z1 z2 z4 σ H locs ls hI hl hf
    rw [m_X12_book_37] at hf
    refine lv_iload hx hb dX12_book_37 (lv_at hl 3 rfl) ?_
    refine lv_aload_n hx hb dX12_book_39 rfl (lv_at hl 0 rfl) ?_
    refine fm_gr hC hI fd_X12_17 fc_96 fr_96_17 q_815 dX12_book_40 ?_
    refine lv_iload_n hx hb dX12_book_43 rfl (lv_at hl 1 rfl) ?_
    obtain ⟨hg8, hf⟩ := fm_gE hf
    refine fm_iald hC hI fc_107 fl_107 hg8 dX12_book_44 ?_
    refine lv_icmp_ge (tgt := 72) hx hb dX12_book_45 (by decide) (fun hc => ?_) (fun hc => ?_)
    · have hf := fm_pT hf hc
      exact hk z1 z2 z4 σ _ _ _ hI (lv_sub hl [0, 1, 2, 3] rfl) hf
    · have hf := fm_pF hf hc
      refine lv_aload_n hx hb dX12_book_48 rfl (lv_at hl 0 rfl) ?_
      refine lv_iload_n hx hb dX12_book_49 rfl (lv_at hl 1 rfl) ?_
      refine lv_iload hx hb dX12_book_50 (lv_at hl 3 rfl) ?_
      refine lv_aload_n hx hb dX12_book_52 rfl (lv_at hl 0 rfl) ?_
      refine lv_iload_n hx hb dX12_book_53 rfl (lv_at hl 2 rfl) ?_
      refine lv_iconst (v := (1 : Int32)) hx hb dX12_book_54 (by decide) ?_
      obtain ⟨r9, σ10, hq11, hf⟩ := fm_bE hf
      refine fm_ci hI (fm_runV (As := [.int z2, .int (1 : Int32)]) (rest := [.int z4, .int z1, .ref (G.2.1 96)]) (rm := { frames := 0, cells := 0, slots := 0, locals := 0 }) hC hI (c_X12_get hC.2.2.1 hq11) mV_X12_get q_888 ⟨rfl, rfl⟩ ⟨Nat.le_of_ble_eq_true rfl, Nat.le_of_ble_eq_true rfl⟩ fc_96 rfl (by decide) rfl hl.1 rfl (Nat.le_of_ble_eq_true rfl) dX12_book_55 ⟨Nat.zero_le _, Nat.zero_le _⟩) (fun H locs hI => ?_)
      refine lv_i2l (v := r9.toInt64) hx hb dX12_book_58 rfl ?_
      obtain ⟨_u12, σ13, hq14, hf⟩ := fm_bE hf
      refine fm_cv hI (fm_runV (As := [.int z1, .int z4, .long (r9.toInt64)]) (rest := []) (rm := { frames := 0, cells := 0, slots := 0, locals := 0 }) hC hI (c_X12_tells hC.2.2.1 hq14) mV_X12_tells q_1171 ⟨rfl, rfl⟩ ⟨Nat.le_of_ble_eq_true rfl, Nat.le_of_ble_eq_true rfl⟩ fc_96 rfl (by decide) rfl hl.1 rfl (Nat.le_of_ble_eq_true rfl) dX12_book_59 ⟨Nat.zero_le _, Nat.zero_le _⟩) (fun H locs hI => ?_)
      refine lv_aload_n hx hb dX12_book_62 rfl (lv_at hl 0 rfl) ?_
      obtain ⟨_u15, σ16, hq17, hf⟩ := fm_bE hf
      refine fm_cv hI (fm_runV (As := []) (rest := []) (rm := { frames := 4, cells := 0, slots := 0, locals := 92 }) hC hI (c_X12_day hC.2.2.1 hq17) mV_X12_day q_994 ⟨rfl, rfl⟩ ⟨Nat.le_of_ble_eq_true rfl, Nat.le_of_ble_eq_true rfl⟩ fc_96 rfl (by decide) rfl hl.1 rfl (Nat.le_of_ble_eq_true rfl) dX12_book_63 ⟨Nat.zero_le _, Nat.zero_le _⟩) (fun H locs hI => ?_)
      refine lv_iinc (v := (z4 + (1 : Int32))) (lv' := [(4, .int (z4 + (1 : Int32))), (0, .ref (G.2.1 96)), (1, .int z1), (2, .int z2)]) hx hb dX12_book_66 hl (k := 3) rfl rfl (Nat.le_of_ble_eq_true rfl) rfl (fun ls hl => ?_)
      refine lv_goto (tgt := 37) hx hb dX12_book_69 (by decide) ?_
      exact ih z1 z2 (z4 + (1 : Int32)) σ16 _ _ _ hI (lv_sub hl [1, 2, 3, 0] rfl) hf
set_option maxHeartbeats 4000000 in
set_option maxRecDepth 100000 in
theorem c_X12_book {l : Launch} {G : fm_G} (hJ : fm_J G) {a1 : Int32} {a2 : Int32} {σ : fm_M} {o : Int32 × fm_M}  (hf : m_X12_book a1 a2 σ = some o) : Met l yX12_book (fm_w yX12_book cX12_book 5 (some .int)) { frames := 5, cells := 0, slots := 0, locals := 114 } (va_Pc [.ref (G.2.1 96), .int a1, .int a2] (fm_st G σ)) (fm_Qi G o) 0 0 (fm_A G) := by
  refine fm_mth (own := RX12) hJ rfl (by decide +kernel) (Nat.le_of_ble_eq_true rfl) ?_
  intro p e s m below meth c ls hC hr hlk hI hl
  have hx := hC.1.1
  have hb := hC.1.2.1
  have hown := hC.1.2.2.2.1
  have hts := hC.1.2.2.2.2
  have hl : lv_has ls 5 [(0, .ref (G.2.1 96)), (1, .int a1), (2, .int a2)] := hl
  rw [m_X12_book] at hf
  refine lv_aload_n hx hb dX12_book_0 rfl (lv_at hl 0 rfl) ?_
  refine lv_iload_n hx hb dX12_book_1 rfl (lv_at hl 1 rfl) ?_
  obtain ⟨r1, σ2, hq3, hf⟩ := fm_bE hf
  refine fm_ci hI (fm_runV (As := [.int a1]) (rest := []) (rm := { frames := 2, cells := 0, slots := 0, locals := 42 }) hC hI (c_X12_wrongSheet hC.2.2.1 hq3) mV_X12_wrongSheet q_1163 ⟨rfl, rfl⟩ ⟨Nat.le_of_ble_eq_true rfl, Nat.le_of_ble_eq_true rfl⟩ fc_96 rfl (by decide) rfl hl.1 rfl (Nat.le_of_ble_eq_true rfl) dX12_book_2 ⟨Nat.zero_le _, Nat.zero_le _⟩) (fun H locs hI => ?_)
  refine lv_istore_n (lv' := [(3, .int r1), (0, .ref (G.2.1 96)), (1, .int a1), (2, .int a2)]) hx hb dX12_book_5 rfl hl (Nat.le_of_ble_eq_true rfl) rfl (fun ls hl => ?_)
  refine lv_iload_n hx hb dX12_book_6 rfl (lv_at hl 0 rfl) ?_
  obtain ⟨J4, eJ4, hf⟩ := fm_jE hf
  have hJ4 : ∀ (x3_J4 : Int32) (σ_J4 : fm_M) (H : Heap) (locs : List Loc) (ls : Array Slot), fm_I G σ_J4 s H locs → lv_has ls 5 [(0, .ref (G.2.1 96)), (1, .int a1), (2, .int a2), (3, .int x3_J4)] → J4 x3_J4 σ_J4 = some o → W p l e { frames := 5, cells := 0, slots := 0, locals := 114 } s m ([.ref (G.2.1 96), .int a1, .int a2] : List Value).toArray below meth c H locs 0 0 (MQ below (fm_Qi G o) ([.ref (G.2.1 96), .int a1, .int a2] : List Value).toArray s 0 0 (fm_A G)) (F0 m 20 ls []) := by
    intro x3_J4 σ_J4 H locs ls hI hl hf
    subst eJ4
    refine lv_iload_n hx hb dX12_book_20 rfl (lv_at hl 3 rfl) ?_
    refine lv_if_lt (tgt := 30) hx hb dX12_book_21 (by decide) (fun hc => ?_) (fun hc => ?_)
    · have hf := fm_pT hf hc
      refine lv_aload_n hx hb dX12_book_30 rfl (lv_at hl 0 rfl) ?_
      obtain ⟨_u5, σ6, hq7, hf⟩ := fm_bE hf
      refine fm_cv hI (fm_runV (As := []) (rest := []) (rm := { frames := 0, cells := 0, slots := 0, locals := 0 }) hC hI (c_X12_setsAside hC.2.2.1 hq7) mV_X12_setsAside q_1037 ⟨rfl, rfl⟩ ⟨Nat.le_of_ble_eq_true rfl, Nat.le_of_ble_eq_true rfl⟩ fc_96 rfl (by decide) rfl hl.1 rfl (Nat.le_of_ble_eq_true rfl) dX12_book_31 ⟨Nat.zero_le _, Nat.zero_le _⟩) (fun H locs hI => ?_)
      refine lv_iconst (v := (0 : Int32)) hx hb dX12_book_34 (by decide) ?_
      refine lv_istore (lv' := [(4, .int (0 : Int32)), (0, .ref (G.2.1 96)), (1, .int a1), (2, .int a2), (3, .int x3_J4)]) hx hb dX12_book_35 hl (Nat.le_of_ble_eq_true rfl) rfl (fun ls hl => ?_)
      refine w_X12_book_37 hC hr hlk (fun x1_y18 x2_y18 x4_y18 σ_y18 H locs ls hI hl hf => ?_) fm_fu a1 a2 (0 : Int32) σ6 _ _ _ hI (lv_sub hl [1, 2, 3, 0] rfl) hf
      refine lv_aload_n hx hb dX12_book_72 rfl (lv_at hl 0 rfl) ?_
      obtain ⟨_u19, σ20, hq21, hf⟩ := fm_bE hf
      refine fm_cv hI (fm_runV (As := []) (rest := []) (rm := { frames := 0, cells := 0, slots := 0, locals := 0 }) hC hI (c_X12_laysBack hC.2.2.1 hq21) mV_X12_laysBack q_1041 ⟨rfl, rfl⟩ ⟨Nat.le_of_ble_eq_true rfl, Nat.le_of_ble_eq_true rfl⟩ fc_96 rfl (by decide) rfl hl.1 rfl (Nat.le_of_ble_eq_true rfl) dX12_book_73 ⟨Nat.zero_le _, Nat.zero_le _⟩) (fun H locs hI => ?_)
      refine lv_aload_n hx hb dX12_book_76 rfl (lv_at hl 0 rfl) ?_
      refine fm_gr hC hI fd_X12_17 fc_96 fr_96_17 q_815 dX12_book_77 ?_
      refine lv_iload_n hx hb dX12_book_80 rfl (lv_at hl 1 rfl) ?_
      obtain ⟨hg22, hf⟩ := fm_gE hf
      refine fm_iald hC hI fc_107 fl_107 hg22 dX12_book_81 ?_
      exact fm_ri hC hI hr hlk hf dX12_book_82
    · have hf := fm_pF hf hc
      refine lv_aload_n hx hb dX12_book_24 rfl (lv_at hl 0 rfl) ?_
      refine lv_iload_n hx hb dX12_book_25 rfl (lv_at hl 3 rfl) ?_
      obtain ⟨r23, σ24, hq25, hf⟩ := fm_bE hf
      refine fm_ci hI (fm_runV (As := [.int x3_J4]) (rest := []) (rm := { frames := 0, cells := 0, slots := 0, locals := 0 }) hC hI (c_X12_no hC.2.2.1 hq25) mV_X12_no q_867 ⟨rfl, rfl⟩ ⟨Nat.le_of_ble_eq_true rfl, Nat.le_of_ble_eq_true rfl⟩ fc_96 rfl (by decide) rfl hl.1 rfl (Nat.le_of_ble_eq_true rfl) dX12_book_26 ⟨Nat.zero_le _, Nat.zero_le _⟩) (fun H locs hI => ?_)
      exact fm_ri hC hI hr hlk hf dX12_book_29
  refine lv_if_ge (tgt := 20) hx hb dX12_book_7 (by decide) (fun hc => ?_) (fun hc => ?_)
  · have hf := fm_pT hf hc
    exact hJ4 r1 σ2 _ _ _ hI (lv_sub hl [1, 2, 3, 0] rfl) hf
  · have hf := fm_pF hf hc
    refine lv_aload_n hx hb dX12_book_10 rfl (lv_at hl 1 rfl) ?_
    refine lv_iload_n hx hb dX12_book_11 rfl (lv_at hl 3 rfl) ?_
    obtain ⟨r26, σ27, hq28, hf⟩ := fm_bE hf
    refine fm_ci hI (fm_runV (As := [.int a2]) (rest := []) (rm := { frames := 1, cells := 0, slots := 0, locals := 22 }) hC hI (c_X12_isPerson hC.2.2.1 hq28) mV_X12_isPerson q_884 ⟨rfl, rfl⟩ ⟨Nat.le_of_ble_eq_true rfl, Nat.le_of_ble_eq_true rfl⟩ fc_96 rfl (by decide) rfl hl.1 rfl (Nat.le_of_ble_eq_true rfl) dX12_book_12 ⟨Nat.zero_le _, Nat.zero_le _⟩) (fun H locs hI => ?_)
    refine lv_if_ne (tgt := 20) hx hb dX12_book_15 (by decide) (fun hc => ?_) (fun hc => ?_)
    · have hf := fm_pF hf hc
      exact hJ4 r1 σ27 _ _ _ hI (lv_sub hl [1, 2, 3, 0] rfl) hf
    · have hf := fm_pT hf hc
      refine lv_iconst (v := (0 : Int32)) hx hb dX12_book_18 (by decide) ?_
      refine lv_istore_n (lv' := [(3, .int (0 : Int32)), (0, .ref (G.2.1 96)), (1, .int a1), (2, .int a2)]) hx hb dX12_book_19 rfl hl (Nat.le_of_ble_eq_true rfl) rfl (fun ls hl => ?_)
      exact hJ4 (0 : Int32) σ27 _ _ _ hI (lv_sub hl [1, 2, 3, 0] rfl) hf
def m_X12_isSo_5 (kc : Int32 → Int32 → Int32 → Int32 → fm_M → Option (Int32 × fm_M)) : Nat → Int32 → Int32 → Int32 → Int32 → fm_M → Option (Int32 × fm_M)
  | 0, _, _, _, _, _ => none
  | n + 1, z1, z2, z3, z4, σ => fm_g (fm_in1 z1 4) (if (σ.1 107 z1.toNatClampNeg) ≤ z4 then (kc z1 z2 z3 z4 σ) else (if z3 = 0 then (kc z1 z2 z3 z4 σ) else (fm_b (m_X12_told z1 z4 σ) fun r2 σ3 => (fm_b (m_X12_get z2 (1 : Int32) σ3) fun r5 σ6 => (fm_j (fun (v0_J8 : Int32) (σ_J8 : fm_M) => fm_b (m_X12_day  σ_J8) fun _u9 σ10 => (m_X12_isSo_5 kc n z1 z2 v0_J8 (z4 + (1 : Int32)) σ10)) (fun J8 => if (lg_cmp r2 (r5.toInt64)) = 0 then (J8 (1 : Int32) σ6) else (J8 (0 : Int32) σ6)))))))
def m_X12_isSo (a1 : Int32) (a2 : Int32) (σ : fm_M) : Option (Int32 × fm_M) := m_X12_isSo_5 (fun (x1_y12 : Int32) (x2_y12 : Int32) (x3_y12 : Int32) (x4_y12 : Int32) (σ_y12 : fm_M) => fm_g (fm_bz x3_y12) (some (x3_y12, σ_y12))) fm_fu a1 a2 (1 : Int32) (0 : Int32) σ
set_option maxHeartbeats 4000000 in
set_option maxRecDepth 100000 in
theorem w_X12_isSo_5 {p : Program} {l : Launch} {e : Env} {s : State} {m : MethodId} {args : Array Value} {below : List Frame} {meth : Method} {c : Code} {G : fm_G} {o : Int32 × fm_M} {kc : Int32 → Int32 → Int32 → Int32 → fm_M → Option (Int32 × fm_M)} (hC : fm_C G p m c cX12_isSo 5 s args RX12) (hr : meth.sig.returnType = (some .boolean)) (hlk : meth.locks = false) (hk : ∀ (z1 : Int32) (z2 : Int32) (z3 : Int32) (z4 : Int32) (σ : fm_M) (H : Heap) (locs : List Loc) (ls : Array Slot), fm_I G σ s H locs → lv_has ls 5 [(0, .ref (G.2.1 96)), (1, .int z1), (2, .int z2), (3, .int z3), (4, .int z4)] → kc z1 z2 z3 z4 σ = some o → W p l e { frames := 5, cells := 0, slots := 0, locals := 114 } s m args below meth c H locs 0 0 (MQ below (fm_Qi G o) args s 0 0 (fm_A G)) (F0 m 54 ls [])) (n : Nat) : ∀ (z1 : Int32) (z2 : Int32) (z3 : Int32) (z4 : Int32) (σ : fm_M) (H : Heap) (locs : List Loc) (ls : Array Slot), fm_I G σ s H locs → lv_has ls 5 [(0, .ref (G.2.1 96)), (1, .int z1), (2, .int z2), (3, .int z3), (4, .int z4)] → m_X12_isSo_5 kc n z1 z2 z3 z4 σ = some o → W p l e { frames := 5, cells := 0, slots := 0, locals := 114 } s m args below meth c H locs 0 0 (MQ below (fm_Qi G o) args s 0 0 (fm_A G)) (F0 m 5 ls []) := by
  have hx := hC.1.1
  have hb := hC.1.2.1
  have hown := hC.1.2.2.2.1
  have hts := hC.1.2.2.2.2
  induction n with
  | zero =>
    intro z1 z2 z3 z4 σ H locs ls hI hl hf
    cases hf
  | succ n ih =>
    intro z1 z2 z3 z4 σ H locs ls hI hl hf
    rw [m_X12_isSo_5] at hf
    refine lv_iload hx hb dX12_isSo_5 (lv_at hl 4 rfl) ?_
    refine lv_aload_n hx hb dX12_isSo_7 rfl (lv_at hl 0 rfl) ?_
    refine fm_gr hC hI fd_X12_17 fc_96 fr_96_17 q_815 dX12_isSo_8 ?_
    refine lv_iload_n hx hb dX12_isSo_11 rfl (lv_at hl 1 rfl) ?_
    obtain ⟨hg1, hf⟩ := fm_gE hf
    refine fm_iald hC hI fc_107 fl_107 hg1 dX12_isSo_12 ?_
    refine lv_icmp_ge (tgt := 54) hx hb dX12_isSo_13 (by decide) (fun hc => ?_) (fun hc => ?_)
    · have hf := fm_pT hf hc
      exact hk z1 z2 z3 z4 σ _ _ _ hI (lv_sub hl [0, 1, 2, 3, 4] rfl) hf
    · have hf := fm_pF hf hc
      refine lv_iload_n hx hb dX12_isSo_16 rfl (lv_at hl 3 rfl) ?_
      refine lv_if_eq (tgt := 54) hx hb dX12_isSo_17 (by decide) (fun hc => ?_) (fun hc => ?_)
      · have hf := fm_pT hf hc
        exact hk z1 z2 z3 z4 σ _ _ _ hI (lv_sub hl [0, 1, 2, 3, 4] rfl) hf
      · have hf := fm_pF hf hc
        refine lv_aload_n hx hb dX12_isSo_20 rfl (lv_at hl 0 rfl) ?_
        refine lv_iload_n hx hb dX12_isSo_21 rfl (lv_at hl 1 rfl) ?_
        refine lv_iload hx hb dX12_isSo_22 (lv_at hl 4 rfl) ?_
        obtain ⟨r2, σ3, hq4, hf⟩ := fm_bE hf
        refine fm_cl hI (fm_runV (As := [.int z1, .int z4]) (rest := []) (rm := { frames := 0, cells := 0, slots := 0, locals := 0 }) hC hI (c_X12_told hC.2.2.1 hq4) mV_X12_told q_1167 ⟨rfl, rfl⟩ ⟨Nat.le_of_ble_eq_true rfl, Nat.le_of_ble_eq_true rfl⟩ fc_96 rfl (by decide) rfl hl.1 rfl (Nat.le_of_ble_eq_true rfl) dX12_isSo_24 ⟨Nat.zero_le _, Nat.zero_le _⟩) (fun H locs hI => ?_)
        refine lv_aload_n hx hb dX12_isSo_27 rfl (lv_at hl 0 rfl) ?_
        refine lv_iload_n hx hb dX12_isSo_28 rfl (lv_at hl 2 rfl) ?_
        refine lv_iconst (v := (1 : Int32)) hx hb dX12_isSo_29 (by decide) ?_
        obtain ⟨r5, σ6, hq7, hf⟩ := fm_bE hf
        refine fm_ci hI (fm_runV (As := [.int z2, .int (1 : Int32)]) (rest := [.long r2]) (rm := { frames := 0, cells := 0, slots := 0, locals := 0 }) hC hI (c_X12_get hC.2.2.1 hq7) mV_X12_get q_888 ⟨rfl, rfl⟩ ⟨Nat.le_of_ble_eq_true rfl, Nat.le_of_ble_eq_true rfl⟩ fc_96 rfl (by decide) rfl hl.1 rfl (Nat.le_of_ble_eq_true rfl) dX12_isSo_30 ⟨Nat.zero_le _, Nat.zero_le _⟩) (fun H locs hI => ?_)
        refine lv_i2l (v := r5.toInt64) hx hb dX12_isSo_33 rfl ?_
        refine W.lcmp hx hb dX12_isSo_34 ?_
        obtain ⟨J8, eJ8, hf⟩ := fm_jE hf
        have hJ8 : ∀ (v0_J8 : Int32) (σ_J8 : fm_M) (H : Heap) (locs : List Loc) (ls : Array Slot), fm_I G σ_J8 s H locs → lv_has ls 5 [(0, .ref (G.2.1 96)), (1, .int z1), (2, .int z2), (4, .int z4)] → J8 v0_J8 σ_J8 = some o → W p l e { frames := 5, cells := 0, slots := 0, locals := 114 } s m args below meth c H locs 0 0 (MQ below (fm_Qi G o) args s 0 0 (fm_A G)) (F0 m 43 ls [.int v0_J8]) := by
          intro v0_J8 σ_J8 H locs ls hI hl hf
          subst eJ8
          refine lv_istore_n (lv' := [(3, .int v0_J8), (0, .ref (G.2.1 96)), (1, .int z1), (2, .int z2), (4, .int z4)]) hx hb dX12_isSo_43 rfl hl (Nat.le_of_ble_eq_true rfl) rfl (fun ls hl => ?_)
          refine lv_aload_n hx hb dX12_isSo_44 rfl (lv_at hl 1 rfl) ?_
          obtain ⟨_u9, σ10, hq11, hf⟩ := fm_bE hf
          refine fm_cv hI (fm_runV (As := []) (rest := []) (rm := { frames := 4, cells := 0, slots := 0, locals := 92 }) hC hI (c_X12_day hC.2.2.1 hq11) mV_X12_day q_994 ⟨rfl, rfl⟩ ⟨Nat.le_of_ble_eq_true rfl, Nat.le_of_ble_eq_true rfl⟩ fc_96 rfl (by decide) rfl hl.1 rfl (Nat.le_of_ble_eq_true rfl) dX12_isSo_45 ⟨Nat.zero_le _, Nat.zero_le _⟩) (fun H locs hI => ?_)
          refine lv_iinc (v := (z4 + (1 : Int32))) (lv' := [(4, .int (z4 + (1 : Int32))), (3, .int v0_J8), (0, .ref (G.2.1 96)), (1, .int z1), (2, .int z2)]) hx hb dX12_isSo_48 hl (k := 4) rfl rfl (Nat.le_of_ble_eq_true rfl) rfl (fun ls hl => ?_)
          refine lv_goto (tgt := 5) hx hb dX12_isSo_51 (by decide) ?_
          exact ih z1 z2 v0_J8 (z4 + (1 : Int32)) σ10 _ _ _ hI (lv_sub hl [2, 3, 4, 1, 0] rfl) hf
        refine lv_if_ne (tgt := 42) hx hb dX12_isSo_35 (by decide) (fun hc => ?_) (fun hc => ?_)
        · have hf := fm_pF hf hc
          refine lv_iconst (v := (0 : Int32)) hx hb dX12_isSo_42 (by decide) ?_
          exact hJ8 (0 : Int32) σ6 _ _ _ hI (lv_sub hl [0, 1, 2, 4] rfl) hf
        · have hf := fm_pT hf hc
          refine lv_iconst (v := (1 : Int32)) hx hb dX12_isSo_38 (by decide) ?_
          refine lv_goto (tgt := 43) hx hb dX12_isSo_39 (by decide) ?_
          exact hJ8 (1 : Int32) σ6 _ _ _ hI (lv_sub hl [0, 1, 2, 4] rfl) hf
set_option maxHeartbeats 4000000 in
set_option maxRecDepth 100000 in
theorem c_X12_isSo {l : Launch} {G : fm_G} (hJ : fm_J G) {a1 : Int32} {a2 : Int32} {σ : fm_M} {o : Int32 × fm_M}  (hf : m_X12_isSo a1 a2 σ = some o) : Met l yX12_isSo (fm_w yX12_isSo cX12_isSo 5 (some .boolean)) { frames := 5, cells := 0, slots := 0, locals := 114 } (va_Pc [.ref (G.2.1 96), .int a1, .int a2] (fm_st G σ)) (fm_Qi G o) 0 0 (fm_A G) := by
  refine fm_mth (own := RX12) hJ rfl (by decide +kernel) (Nat.le_of_ble_eq_true rfl) ?_
  intro p e s m below meth c ls hC hr hlk hI hl
  have hx := hC.1.1
  have hb := hC.1.2.1
  have hown := hC.1.2.2.2.1
  have hts := hC.1.2.2.2.2
  have hl : lv_has ls 5 [(0, .ref (G.2.1 96)), (1, .int a1), (2, .int a2)] := hl
  rw [m_X12_isSo] at hf
  refine lv_iconst (v := (1 : Int32)) hx hb dX12_isSo_0 (by decide) ?_
  refine lv_istore_n (lv' := [(3, .int (1 : Int32)), (0, .ref (G.2.1 96)), (1, .int a1), (2, .int a2)]) hx hb dX12_isSo_1 rfl hl (Nat.le_of_ble_eq_true rfl) rfl (fun ls hl => ?_)
  refine lv_iconst (v := (0 : Int32)) hx hb dX12_isSo_2 (by decide) ?_
  refine lv_istore (lv' := [(4, .int (0 : Int32)), (3, .int (1 : Int32)), (0, .ref (G.2.1 96)), (1, .int a1), (2, .int a2)]) hx hb dX12_isSo_3 hl (Nat.le_of_ble_eq_true rfl) rfl (fun ls hl => ?_)
  refine w_X12_isSo_5 hC hr hlk (fun x1_y12 x2_y12 x3_y12 x4_y12 σ_y12 H locs ls hI hl hf => ?_) fm_fu a1 a2 (1 : Int32) (0 : Int32) σ _ _ _ hI (lv_sub hl [2, 3, 4, 1, 0] rfl) hf
  refine lv_iload_n hx hb dX12_isSo_54 rfl (lv_at hl 3 rfl) ?_
  obtain ⟨hg13, hf⟩ := fm_gE hf
  exact fm_rz hC hI hr hlk hg13 hf dX12_isSo_55
def m_X12_read_53 (kc : Int32 → Int32 → Int32 → Int32 → Int32 → fm_M → Option (Int32 × fm_M)) : Nat → Int32 → Int32 → Int32 → Int32 → Int32 → fm_M → Option (Int32 × fm_M)
  | 0, _, _, _, _, _, _ => none
  | n + 1, z1, z2, z3, z5, z6, σ => if (600 : Int32) ≤ z6 then (kc z1 z2 z3 z5 z6 σ) else (fm_b (m_X12_puts z2 (0 : Int32) (z6 / (100 : Int32)) σ) fun _u8 σ9 => (fm_b (m_X12_lays1 z3 (1 : Int32) (z6 - z6 / (100 : Int32) * (100 : Int32)) σ9) fun _u11 σ12 => (fm_b (m_X12_isSo z1 z2 σ12) fun r14 σ15 => (fm_j (fun (v0_J17 : Int32) (σ_J17 : fm_M) => fm_b (m_X12_laysBack  σ_J17) fun _u18 σ19 => (m_X12_read_53 kc n z1 z2 z3 (z5 + v0_J17) (z6 + (1 : Int32)) σ19)) (fun J17 => if r14 = 0 then (J17 (0 : Int32) σ15) else (J17 (1 : Int32) σ15))))))
def m_X12_read (a1 : Int32) (a2 : Int32) (a3 : Int32) (σ : fm_M) : Option (Int32 × fm_M) := fm_b (m_X12_wrongSheet a1 σ) fun r1 σ2 => (fm_j (fun (x4_J4 : Int32) (σ_J4 : fm_M) => if x4_J4 < 0 then (fm_b (m_X12_setsAside  σ_J4) fun _u5 σ6 => (m_X12_read_53 (fun (x1_y21 : Int32) (x2_y21 : Int32) (x3_y21 : Int32) (x5_y21 : Int32) (x6_y21 : Int32) (σ_y21 : fm_M) => some (x5_y21, σ_y21)) fm_fu a1 a2 a3 (0 : Int32) (0 : Int32) σ6)) else (fm_b (m_X12_no x4_J4 σ_J4) fun r22 σ23 => (some (r22, σ23)))) (fun J4 => if 0 ≤ r1 then (J4 r1 σ2) else (fm_b (m_X12_isPerson a2 σ2) fun r25 σ26 => (if r25 = 0 then (J4 (0 : Int32) σ26) else (fm_b (m_X12_isPresent a3 σ26) fun r28 σ29 => (if r28 = 0 then (J4 (0 : Int32) σ29) else (J4 r1 σ29)))))))
set_option maxHeartbeats 4000000 in
set_option maxRecDepth 100000 in
theorem w_X12_read_53 {p : Program} {l : Launch} {e : Env} {s : State} {m : MethodId} {args : Array Value} {below : List Frame} {meth : Method} {c : Code} {G : fm_G} {o : Int32 × fm_M} {kc : Int32 → Int32 → Int32 → Int32 → Int32 → fm_M → Option (Int32 × fm_M)} (hC : fm_C G p m c cX12_read 7 s args RX12) (hr : meth.sig.returnType = (some .int)) (hlk : meth.locks = false) (hk : ∀ (z1 : Int32) (z2 : Int32) (z3 : Int32) (z5 : Int32) (z6 : Int32) (σ : fm_M) (H : Heap) (locs : List Loc) (ls : Array Slot), fm_I G σ s H locs → lv_has ls 7 [(0, .ref (G.2.1 96)), (1, .int z1), (2, .int z2), (3, .int z3), (5, .int z5), (6, .int z6)] → kc z1 z2 z3 z5 z6 σ = some o → W p l e { frames := 6, cells := 0, slots := 0, locals := 138 } s m args below meth c H locs 0 0 (MQ below (fm_Qi G o) args s 0 0 (fm_A G)) (F0 m 112 ls [])) (n : Nat) : ∀ (z1 : Int32) (z2 : Int32) (z3 : Int32) (z5 : Int32) (z6 : Int32) (σ : fm_M) (H : Heap) (locs : List Loc) (ls : Array Slot), fm_I G σ s H locs → lv_has ls 7 [(0, .ref (G.2.1 96)), (1, .int z1), (2, .int z2), (3, .int z3), (5, .int z5), (6, .int z6)] → m_X12_read_53 kc n z1 z2 z3 z5 z6 σ = some o → W p l e { frames := 6, cells := 0, slots := 0, locals := 138 } s m args below meth c H locs 0 0 (MQ below (fm_Qi G o) args s 0 0 (fm_A G)) (F0 m 53 ls []) := by
  have hx := hC.1.1
  have hb := hC.1.2.1
  have hown := hC.1.2.2.2.1
  have hts := hC.1.2.2.2.2
  induction n with
  | zero =>
    intro z1 z2 z3 z5 z6 σ H locs ls hI hl hf
    cases hf
  | succ n ih =>
    intro z1 z2 z3 z5 z6 σ H locs ls hI hl hf
    rw [m_X12_read_53] at hf
    refine lv_iload hx hb dX12_read_53 (lv_at hl 5 rfl) ?_
    refine lv_sipush (v := (600 : Int32)) hx hb dX12_read_55 (by decide) ?_
    refine lv_icmp_ge (tgt := 112) hx hb dX12_read_58 (by decide) (fun hc => ?_) (fun hc => ?_)
    · have hf := fm_pT hf hc
      exact hk z1 z2 z3 z5 z6 σ _ _ _ hI (lv_sub hl [0, 1, 2, 3, 4, 5] rfl) hf
    · have hf := fm_pF hf hc
      refine lv_aload_n hx hb dX12_read_61 rfl (lv_at hl 0 rfl) ?_
      refine lv_iload_n hx hb dX12_read_62 rfl (lv_at hl 2 rfl) ?_
      refine lv_iconst (v := (0 : Int32)) hx hb dX12_read_63 (by decide) ?_
      refine lv_iload hx hb dX12_read_64 (lv_at hl 5 rfl) ?_
      refine lv_bipush (v := (100 : Int32)) hx hb dX12_read_66 (by decide) ?_
      refine lv_idiv hx hb dX12_read_68 (by decide) ?_
      obtain ⟨_u8, σ9, hq10, hf⟩ := fm_bE hf
      refine fm_cv hI (fm_runV (As := [.int z2, .int (0 : Int32), .int (z6 / (100 : Int32))]) (rest := []) (rm := { frames := 0, cells := 0, slots := 0, locals := 0 }) hC hI (c_X12_puts hC.2.2.1 hq10) mV_X12_puts q_876 ⟨rfl, rfl⟩ ⟨Nat.le_of_ble_eq_true rfl, Nat.le_of_ble_eq_true rfl⟩ fc_96 rfl (by decide) rfl hl.1 rfl (Nat.le_of_ble_eq_true rfl) dX12_read_69 ⟨Nat.zero_le _, Nat.zero_le _⟩) (fun H locs hI => ?_)
      refine lv_aload_n hx hb dX12_read_72 rfl (lv_at hl 0 rfl) ?_
      refine lv_iload_n hx hb dX12_read_73 rfl (lv_at hl 3 rfl) ?_
      refine lv_iconst (v := (1 : Int32)) hx hb dX12_read_74 (by decide) ?_
      refine lv_iload hx hb dX12_read_75 (lv_at hl 5 rfl) ?_
      refine lv_bipush (v := (100 : Int32)) hx hb dX12_read_77 (by decide) ?_
      refine lv_irem hx hb dX12_read_79 (by decide) ?_
      obtain ⟨_u11, σ12, hq13, hf⟩ := fm_bE hf
      refine fm_cv hI (fm_runV (As := [.int z3, .int (1 : Int32), .int (z6 - z6 / (100 : Int32) * (100 : Int32))]) (rest := []) (rm := { frames := 0, cells := 0, slots := 0, locals := 0 }) hC hI (c_X12_lays1 hC.2.2.1 hq13) mV_X12_lays1 q_947 ⟨rfl, rfl⟩ ⟨Nat.le_of_ble_eq_true rfl, Nat.le_of_ble_eq_true rfl⟩ fc_96 rfl (by decide) rfl hl.1 rfl (Nat.le_of_ble_eq_true rfl) dX12_read_80 ⟨Nat.zero_le _, Nat.zero_le _⟩) (fun H locs hI => ?_)
      refine lv_iload hx hb dX12_read_83 (lv_at hl 4 rfl) ?_
      refine lv_aload_n hx hb dX12_read_85 rfl (lv_at hl 0 rfl) ?_
      refine lv_iload_n hx hb dX12_read_86 rfl (lv_at hl 1 rfl) ?_
      refine lv_iload_n hx hb dX12_read_87 rfl (lv_at hl 2 rfl) ?_
      obtain ⟨r14, σ15, hq16, hf⟩ := fm_bE hf
      refine fm_ci hI (fm_runV (As := [.int z1, .int z2]) (rest := [.int z5]) (rm := { frames := 5, cells := 0, slots := 0, locals := 114 }) hC hI (c_X12_isSo hC.2.2.1 hq16) mV_X12_isSo q_1192 ⟨rfl, rfl⟩ ⟨Nat.le_of_ble_eq_true rfl, Nat.le_of_ble_eq_true rfl⟩ fc_96 rfl (by decide) rfl hl.1 rfl (Nat.le_of_ble_eq_true rfl) dX12_read_88 ⟨Nat.zero_le _, Nat.zero_le _⟩) (fun H locs hI => ?_)
      obtain ⟨J17, eJ17, hf⟩ := fm_jE hf
      have hJ17 : ∀ (v0_J17 : Int32) (σ_J17 : fm_M) (H : Heap) (locs : List Loc) (ls : Array Slot), fm_I G σ_J17 s H locs → lv_has ls 7 [(0, .ref (G.2.1 96)), (1, .int z1), (2, .int z2), (3, .int z3), (6, .int z6)] → J17 v0_J17 σ_J17 = some o → W p l e { frames := 6, cells := 0, slots := 0, locals := 138 } s m args below meth c H locs 0 0 (MQ below (fm_Qi G o) args s 0 0 (fm_A G)) (F0 m 99 ls [.int v0_J17, .int z5]) := by
        intro v0_J17 σ_J17 H locs ls hI hl hf
        subst eJ17
        refine lv_iadd hx hb dX12_read_99 ?_
        refine lv_istore (lv' := [(5, .int (z5 + v0_J17)), (0, .ref (G.2.1 96)), (1, .int z1), (2, .int z2), (3, .int z3), (6, .int z6)]) hx hb dX12_read_100 hl (Nat.le_of_ble_eq_true rfl) rfl (fun ls hl => ?_)
        refine lv_aload_n hx hb dX12_read_102 rfl (lv_at hl 1 rfl) ?_
        obtain ⟨_u18, σ19, hq20, hf⟩ := fm_bE hf
        refine fm_cv hI (fm_runV (As := []) (rest := []) (rm := { frames := 0, cells := 0, slots := 0, locals := 0 }) hC hI (c_X12_laysBack hC.2.2.1 hq20) mV_X12_laysBack q_1041 ⟨rfl, rfl⟩ ⟨Nat.le_of_ble_eq_true rfl, Nat.le_of_ble_eq_true rfl⟩ fc_96 rfl (by decide) rfl hl.1 rfl (Nat.le_of_ble_eq_true rfl) dX12_read_103 ⟨Nat.zero_le _, Nat.zero_le _⟩) (fun H locs hI => ?_)
        refine lv_iinc (v := (z6 + (1 : Int32))) (lv' := [(6, .int (z6 + (1 : Int32))), (5, .int (z5 + v0_J17)), (0, .ref (G.2.1 96)), (1, .int z1), (2, .int z2), (3, .int z3)]) hx hb dX12_read_106 hl (k := 5) rfl rfl (Nat.le_of_ble_eq_true rfl) rfl (fun ls hl => ?_)
        refine lv_goto (tgt := 53) hx hb dX12_read_109 (by decide) ?_
        exact ih z1 z2 z3 (z5 + v0_J17) (z6 + (1 : Int32)) σ19 _ _ _ hI (lv_sub hl [2, 3, 4, 5, 1, 0] rfl) hf
      refine lv_if_eq (tgt := 98) hx hb dX12_read_91 (by decide) (fun hc => ?_) (fun hc => ?_)
      · have hf := fm_pT hf hc
        refine lv_iconst (v := (0 : Int32)) hx hb dX12_read_98 (by decide) ?_
        exact hJ17 (0 : Int32) σ15 _ _ _ hI (lv_sub hl [0, 1, 2, 3, 5] rfl) hf
      · have hf := fm_pF hf hc
        refine lv_iconst (v := (1 : Int32)) hx hb dX12_read_94 (by decide) ?_
        refine lv_goto (tgt := 99) hx hb dX12_read_95 (by decide) ?_
        exact hJ17 (1 : Int32) σ15 _ _ _ hI (lv_sub hl [0, 1, 2, 3, 5] rfl) hf
set_option maxHeartbeats 4000000 in
set_option maxRecDepth 100000 in
theorem c_X12_read {l : Launch} {G : fm_G} (hJ : fm_J G) {a1 : Int32} {a2 : Int32} {a3 : Int32} {σ : fm_M} {o : Int32 × fm_M}  (hf : m_X12_read a1 a2 a3 σ = some o) : Met l yX12_read (fm_w yX12_read cX12_read 7 (some .int)) { frames := 6, cells := 0, slots := 0, locals := 138 } (va_Pc [.ref (G.2.1 96), .int a1, .int a2, .int a3] (fm_st G σ)) (fm_Qi G o) 0 0 (fm_A G) := by
  refine fm_mth (own := RX12) hJ rfl (by decide +kernel) (Nat.le_of_ble_eq_true rfl) ?_
  intro p e s m below meth c ls hC hr hlk hI hl
  have hx := hC.1.1
  have hb := hC.1.2.1
  have hown := hC.1.2.2.2.1
  have hts := hC.1.2.2.2.2
  have hl : lv_has ls 7 [(0, .ref (G.2.1 96)), (1, .int a1), (2, .int a2), (3, .int a3)] := hl
  rw [m_X12_read] at hf
  refine lv_aload_n hx hb dX12_read_0 rfl (lv_at hl 0 rfl) ?_
  refine lv_iload_n hx hb dX12_read_1 rfl (lv_at hl 1 rfl) ?_
  obtain ⟨r1, σ2, hq3, hf⟩ := fm_bE hf
  refine fm_ci hI (fm_runV (As := [.int a1]) (rest := []) (rm := { frames := 2, cells := 0, slots := 0, locals := 42 }) hC hI (c_X12_wrongSheet hC.2.2.1 hq3) mV_X12_wrongSheet q_1163 ⟨rfl, rfl⟩ ⟨Nat.le_of_ble_eq_true rfl, Nat.le_of_ble_eq_true rfl⟩ fc_96 rfl (by decide) rfl hl.1 rfl (Nat.le_of_ble_eq_true rfl) dX12_read_2 ⟨Nat.zero_le _, Nat.zero_le _⟩) (fun H locs hI => ?_)
  refine lv_istore (lv' := [(4, .int r1), (0, .ref (G.2.1 96)), (1, .int a1), (2, .int a2), (3, .int a3)]) hx hb dX12_read_5 hl (Nat.le_of_ble_eq_true rfl) rfl (fun ls hl => ?_)
  refine lv_iload hx hb dX12_read_7 (lv_at hl 0 rfl) ?_
  obtain ⟨J4, eJ4, hf⟩ := fm_jE hf
  have hJ4 : ∀ (x4_J4 : Int32) (σ_J4 : fm_M) (H : Heap) (locs : List Loc) (ls : Array Slot), fm_I G σ_J4 s H locs → lv_has ls 7 [(0, .ref (G.2.1 96)), (1, .int a1), (2, .int a2), (3, .int a3), (4, .int x4_J4)] → J4 x4_J4 σ_J4 = some o → W p l e { frames := 6, cells := 0, slots := 0, locals := 138 } s m ([.ref (G.2.1 96), .int a1, .int a2, .int a3] : List Value).toArray below meth c H locs 0 0 (MQ below (fm_Qi G o) ([.ref (G.2.1 96), .int a1, .int a2, .int a3] : List Value).toArray s 0 0 (fm_A G)) (F0 m 31 ls []) := by
    intro x4_J4 σ_J4 H locs ls hI hl hf
    subst eJ4
    refine lv_iload hx hb dX12_read_31 (lv_at hl 4 rfl) ?_
    refine lv_if_lt (tgt := 43) hx hb dX12_read_33 (by decide) (fun hc => ?_) (fun hc => ?_)
    · have hf := fm_pT hf hc
      refine lv_iconst (v := (0 : Int32)) hx hb dX12_read_43 (by decide) ?_
      refine lv_istore (lv' := [(5, .int (0 : Int32)), (0, .ref (G.2.1 96)), (1, .int a1), (2, .int a2), (3, .int a3), (4, .int x4_J4)]) hx hb dX12_read_44 hl (Nat.le_of_ble_eq_true rfl) rfl (fun ls hl => ?_)
      refine lv_aload_n hx hb dX12_read_46 rfl (lv_at hl 1 rfl) ?_
      obtain ⟨_u5, σ6, hq7, hf⟩ := fm_bE hf
      refine fm_cv hI (fm_runV (As := []) (rest := []) (rm := { frames := 0, cells := 0, slots := 0, locals := 0 }) hC hI (c_X12_setsAside hC.2.2.1 hq7) mV_X12_setsAside q_1037 ⟨rfl, rfl⟩ ⟨Nat.le_of_ble_eq_true rfl, Nat.le_of_ble_eq_true rfl⟩ fc_96 rfl (by decide) rfl hl.1 rfl (Nat.le_of_ble_eq_true rfl) dX12_read_47 ⟨Nat.zero_le _, Nat.zero_le _⟩) (fun H locs hI => ?_)
      refine lv_iconst (v := (0 : Int32)) hx hb dX12_read_50 (by decide) ?_
      refine lv_istore (lv' := [(6, .int (0 : Int32)), (5, .int (0 : Int32)), (0, .ref (G.2.1 96)), (1, .int a1), (2, .int a2), (3, .int a3), (4, .int x4_J4)]) hx hb dX12_read_51 hl (Nat.le_of_ble_eq_true rfl) rfl (fun ls hl => ?_)
      refine w_X12_read_53 hC hr hlk (fun x1_y21 x2_y21 x3_y21 x5_y21 x6_y21 σ_y21 H locs ls hI hl hf => ?_) fm_fu a1 a2 a3 (0 : Int32) (0 : Int32) σ6 _ _ _ hI (lv_sub hl [2, 3, 4, 5, 1, 0] rfl) hf
      refine lv_iload hx hb dX12_read_112 (lv_at hl 4 rfl) ?_
      exact fm_ri hC hI hr hlk hf dX12_read_114
    · have hf := fm_pF hf hc
      refine lv_aload_n hx hb dX12_read_36 rfl (lv_at hl 0 rfl) ?_
      refine lv_iload hx hb dX12_read_37 (lv_at hl 4 rfl) ?_
      obtain ⟨r22, σ23, hq24, hf⟩ := fm_bE hf
      refine fm_ci hI (fm_runV (As := [.int x4_J4]) (rest := []) (rm := { frames := 0, cells := 0, slots := 0, locals := 0 }) hC hI (c_X12_no hC.2.2.1 hq24) mV_X12_no q_867 ⟨rfl, rfl⟩ ⟨Nat.le_of_ble_eq_true rfl, Nat.le_of_ble_eq_true rfl⟩ fc_96 rfl (by decide) rfl hl.1 rfl (Nat.le_of_ble_eq_true rfl) dX12_read_39 ⟨Nat.zero_le _, Nat.zero_le _⟩) (fun H locs hI => ?_)
      exact fm_ri hC hI hr hlk hf dX12_read_42
  refine lv_if_ge (tgt := 31) hx hb dX12_read_9 (by decide) (fun hc => ?_) (fun hc => ?_)
  · have hf := fm_pT hf hc
    exact hJ4 r1 σ2 _ _ _ hI (lv_sub hl [1, 2, 3, 4, 0] rfl) hf
  · have hf := fm_pF hf hc
    refine lv_aload_n hx hb dX12_read_12 rfl (lv_at hl 1 rfl) ?_
    refine lv_iload_n hx hb dX12_read_13 rfl (lv_at hl 3 rfl) ?_
    obtain ⟨r25, σ26, hq27, hf⟩ := fm_bE hf
    refine fm_ci hI (fm_runV (As := [.int a2]) (rest := []) (rm := { frames := 1, cells := 0, slots := 0, locals := 22 }) hC hI (c_X12_isPerson hC.2.2.1 hq27) mV_X12_isPerson q_884 ⟨rfl, rfl⟩ ⟨Nat.le_of_ble_eq_true rfl, Nat.le_of_ble_eq_true rfl⟩ fc_96 rfl (by decide) rfl hl.1 rfl (Nat.le_of_ble_eq_true rfl) dX12_read_14 ⟨Nat.zero_le _, Nat.zero_le _⟩) (fun H locs hI => ?_)
    refine lv_if_eq (tgt := 28) hx hb dX12_read_17 (by decide) (fun hc => ?_) (fun hc => ?_)
    · have hf := fm_pT hf hc
      refine lv_iconst (v := (0 : Int32)) hx hb dX12_read_28 (by decide) ?_
      refine lv_istore (lv' := [(4, .int (0 : Int32)), (0, .ref (G.2.1 96)), (1, .int a1), (2, .int a2), (3, .int a3)]) hx hb dX12_read_29 hl (Nat.le_of_ble_eq_true rfl) rfl (fun ls hl => ?_)
      exact hJ4 (0 : Int32) σ26 _ _ _ hI (lv_sub hl [1, 2, 3, 4, 0] rfl) hf
    · have hf := fm_pF hf hc
      refine lv_aload_n hx hb dX12_read_20 rfl (lv_at hl 1 rfl) ?_
      refine lv_iload_n hx hb dX12_read_21 rfl (lv_at hl 4 rfl) ?_
      obtain ⟨r28, σ29, hq30, hf⟩ := fm_bE hf
      refine fm_ci hI (fm_runV (As := [.int a3]) (rest := []) (rm := { frames := 1, cells := 0, slots := 0, locals := 22 }) hC hI (c_X12_isPresent hC.2.2.1 hq30) mV_X12_isPresent q_904 ⟨rfl, rfl⟩ ⟨Nat.le_of_ble_eq_true rfl, Nat.le_of_ble_eq_true rfl⟩ fc_96 rfl (by decide) rfl hl.1 rfl (Nat.le_of_ble_eq_true rfl) dX12_read_22 ⟨Nat.zero_le _, Nat.zero_le _⟩) (fun H locs hI => ?_)
      refine lv_if_ne (tgt := 31) hx hb dX12_read_25 (by decide) (fun hc => ?_) (fun hc => ?_)
      · have hf := fm_pF hf hc
        exact hJ4 r1 σ29 _ _ _ hI (lv_sub hl [1, 2, 3, 4, 0] rfl) hf
      · have hf := fm_pT hf hc
        refine lv_iconst (v := (0 : Int32)) hx hb dX12_read_28 (by decide) ?_
        refine lv_istore (lv' := [(4, .int (0 : Int32)), (0, .ref (G.2.1 96)), (1, .int a1), (2, .int a2), (3, .int a3)]) hx hb dX12_read_29 hl (Nat.le_of_ble_eq_true rfl) rfl (fun ls hl => ?_)
        exact hJ4 (0 : Int32) σ29 _ _ _ hI (lv_sub hl [1, 2, 3, 4, 0] rfl) hf
def m_X12_image_2 (kc : Int32 → fm_M → Option (Int32 × fm_M)) : Nat → Int32 → fm_M → Option (Int32 × fm_M)
  | 0, _, _ => none
  | n + 1, z1, σ => if (96 : Int32) ≤ z1 then (kc z1 σ) else (fm_g (fm_in1 z1 96) (fm_g (fm_in1 z1 96) (fm_let (fm_sI σ 98 z1.toNatClampNeg (σ.1 97 z1.toNatClampNeg)) fun σ3 => (m_X12_image_2 kc n (z1 + (1 : Int32)) σ3))))
def m_X12_image  (σ : fm_M) : Option (Int32 × fm_M) := m_X12_image_2 (fun (x1_y5 : Int32) (σ_y5 : fm_M) => fm_let (fm_sI σ_y5 96 3 (1 : Int32)) fun σ6 => (some ((1 : Int32), σ6))) fm_fu (0 : Int32) σ
set_option maxHeartbeats 4000000 in
set_option maxRecDepth 100000 in
theorem w_X12_image_2 {p : Program} {l : Launch} {e : Env} {s : State} {m : MethodId} {args : Array Value} {below : List Frame} {meth : Method} {c : Code} {G : fm_G} {o : Int32 × fm_M} {kc : Int32 → fm_M → Option (Int32 × fm_M)} (hC : fm_C G p m c cX12_image 2 s args RX12) (hr : meth.sig.returnType = (some .int)) (hlk : meth.locks = false) (hk : ∀ (z1 : Int32) (σ : fm_M) (H : Heap) (locs : List Loc) (ls : Array Slot), fm_I G σ s H locs → lv_has ls 2 [(0, .ref (G.2.1 96)), (1, .int z1)] → kc z1 σ = some o → W p l e { frames := 0, cells := 0, slots := 0, locals := 0 } s m args below meth c H locs 0 0 (MQ below (fm_Qi G o) args s 0 0 (fm_A G)) (F0 m 26 ls [])) (n : Nat) : ∀ (z1 : Int32) (σ : fm_M) (H : Heap) (locs : List Loc) (ls : Array Slot), fm_I G σ s H locs → lv_has ls 2 [(0, .ref (G.2.1 96)), (1, .int z1)] → m_X12_image_2 kc n z1 σ = some o → W p l e { frames := 0, cells := 0, slots := 0, locals := 0 } s m args below meth c H locs 0 0 (MQ below (fm_Qi G o) args s 0 0 (fm_A G)) (F0 m 2 ls []) := by
  have hx := hC.1.1
  have hb := hC.1.2.1
  have hown := hC.1.2.2.2.1
  have hts := hC.1.2.2.2.2
  induction n with
  | zero =>
    intro z1 σ H locs ls hI hl hf
    cases hf
  | succ n ih =>
    intro z1 σ H locs ls hI hl hf
    rw [m_X12_image_2] at hf
    refine lv_iload_n hx hb dX12_image_2 rfl (lv_at hl 1 rfl) ?_
    refine lv_bipush (v := (96 : Int32)) hx hb dX12_image_3 (by decide) ?_
    refine lv_icmp_ge (tgt := 26) hx hb dX12_image_5 (by decide) (fun hc => ?_) (fun hc => ?_)
    · have hf := fm_pT hf hc
      exact hk z1 σ _ _ _ hI (lv_sub hl [0, 1] rfl) hf
    · have hf := fm_pF hf hc
      refine lv_aload_n hx hb dX12_image_8 rfl (lv_at hl 0 rfl) ?_
      refine fm_gr hC hI fd_X12_1 fc_96 fr_96_1 q_799 dX12_image_9 ?_
      refine lv_iload_n hx hb dX12_image_12 rfl (lv_at hl 1 rfl) ?_
      refine lv_aload_n hx hb dX12_image_13 rfl (lv_at hl 0 rfl) ?_
      refine fm_gr hC hI fd_X12_0 fc_96 fr_96_0 q_798 dX12_image_14 ?_
      refine lv_iload_n hx hb dX12_image_17 rfl (lv_at hl 1 rfl) ?_
      obtain ⟨hg1, hf⟩ := fm_gE hf
      refine fm_iald hC hI fc_97 fl_97 hg1 dX12_image_18 ?_
      obtain ⟨hg2, hf⟩ := fm_gE hf
      obtain ⟨σ3, e4, hf⟩ := fm_letE hf
      refine fm_iast hC hI fc_98 fl_98 hg2 e4 dX12_image_19 (fun H locs hI => ?_)
      refine lv_iinc (v := (z1 + (1 : Int32))) (lv' := [(1, .int (z1 + (1 : Int32))), (0, .ref (G.2.1 96))]) hx hb dX12_image_20 hl (k := 1) rfl rfl (Nat.le_of_ble_eq_true rfl) rfl (fun ls hl => ?_)
      refine lv_goto (tgt := 2) hx hb dX12_image_23 (by decide) ?_
      exact ih (z1 + (1 : Int32)) σ3 _ _ _ hI (lv_sub hl [1, 0] rfl) hf
set_option maxHeartbeats 4000000 in
set_option maxRecDepth 100000 in
theorem c_X12_image {l : Launch} {G : fm_G} (hJ : fm_J G) {σ : fm_M} {o : Int32 × fm_M}  (hf : m_X12_image  σ = some o) : Met l yX12_image (fm_w yX12_image cX12_image 2 (some .int)) { frames := 0, cells := 0, slots := 0, locals := 0 } (va_Pc [.ref (G.2.1 96)] (fm_st G σ)) (fm_Qi G o) 0 0 (fm_A G) := by
  refine fm_mth (own := RX12) hJ rfl (by decide +kernel) (Nat.le_of_ble_eq_true rfl) ?_
  intro p e s m below meth c ls hC hr hlk hI hl
  have hx := hC.1.1
  have hb := hC.1.2.1
  have hown := hC.1.2.2.2.1
  have hts := hC.1.2.2.2.2
  have hl : lv_has ls 2 [(0, .ref (G.2.1 96))] := hl
  rw [m_X12_image] at hf
  refine lv_iconst (v := (0 : Int32)) hx hb dX12_image_0 (by decide) ?_
  refine lv_istore_n (lv' := [(1, .int (0 : Int32)), (0, .ref (G.2.1 96))]) hx hb dX12_image_1 rfl hl (Nat.le_of_ble_eq_true rfl) rfl (fun ls hl => ?_)
  refine w_X12_image_2 hC hr hlk (fun x1_y5 σ_y5 H locs ls hI hl hf => ?_) fm_fu (0 : Int32) σ _ _ _ hI (lv_sub hl [1, 0] rfl) hf
  refine lv_aload_n hx hb dX12_image_26 rfl (lv_at hl 0 rfl) ?_
  refine lv_iconst (v := (1 : Int32)) hx hb dX12_image_27 (by decide) ?_
  obtain ⟨σ6, e7, hf⟩ := fm_letE hf
  refine fm_pi hC hI fp_X12_3 fc_96 ⟨rfl, rfl⟩ e7 q_801 dX12_image_28 (fun H locs hI => ?_)
  refine lv_iconst (v := (1 : Int32)) hx hb dX12_image_31 (by decide) ?_
  exact fm_ri hC hI hr hlk hf dX12_image_32
