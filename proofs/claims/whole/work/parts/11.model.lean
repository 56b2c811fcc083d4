def m_X12_joy (a1 : Int32) (a2 : Int32) (σ : fm_M) : Option (Int32 × fm_M) := fm_b (m_X12_isPerson a1 σ) fun r1 σ2 => (if r1 = 0 then (fm_b (m_X12_no (0 : Int32) σ2) fun r4 σ5 => (some (r4, σ5))) else (fm_b (m_X12_in1 a2 (0 : Int32) (9999 : Int32) σ2) fun r7 σ8 => (if r7 = 0 then (fm_b (m_X12_no (0 : Int32) σ8) fun r16 σ17 => (some (r16, σ17))) else (fm_b (m_X12_get a1 (1 : Int32) σ8) fun r10 σ11 => (fm_b (m_X12_puts a1 (1 : Int32) a2 σ11) fun _u13 σ14 => (some (r10, σ14)))))))
set_option maxHeartbeats 4000000 in
set_option maxRecDepth 100000 in
theorem c_X12_joy {l : Launch} {G : fm_G} (hJ : fm_J G) {a1 : Int32} {a2 : Int32} {σ : fm_M} {o : Int32 × fm_M}  (hf : m_X12_joy a1 a2 σ = some o) : Met l yX12_joy (fm_w yX12_joy cX12_joy 4 (some .int)) { frames := 2, cells := 0, slots := 0, locals := 43 } (va_Pc [.ref (G.2.1 96), .int a1, .int a2] (fm_st G σ)) (fm_Qi G o) 0 0 (fm_A G) := by
  refine fm_mth (own := RX12) hJ rfl (by decide +kernel) (Nat.le_of_ble_eq_true rfl) ?_
  intro p e s m below meth c ls hC hr hlk hI hl
  have hx := hC.1.1
  have hb := hC.1.2.1
  have hown := hC.1.2.2.2.1
  have hts := hC.1.2.2.2.2
  have hl : lv_has ls 4 [(0, .ref (G.2.1 96)), (1, .int a1), (2, .int a2)] := hl
  rw [m_X12_joy] at hf
  refine lv_aload_n hx hb dX12_joy_0 rfl (lv_at hl 0 rfl) ?_
  refine lv_iload_n hx hb dX12_joy_1 rfl (lv_at hl 1 rfl) ?_
  obtain ⟨r1, σ2, hq3, hf⟩ := fm_bE hf
  refine fm_ci hI (fm_runV (As := [.int a1]) (rest := []) (rm := { frames := 1, cells := 0, slots := 0, locals := 22 }) hC hI (c_X12_isPerson hC.2.2.1 hq3) mV_X12_isPerson q_884 ⟨rfl, rfl⟩ ⟨Nat.le_of_ble_eq_true rfl, Nat.le_of_ble_eq_true rfl⟩ fc_96 rfl (by decide) rfl hl.1 rfl (Nat.le_of_ble_eq_true rfl) dX12_joy_2 ⟨Nat.zero_le _, Nat.zero_le _⟩) (fun H locs hI => ?_)
  refine lv_if_eq (tgt := 19) hx hb dX12_joy_5 (by decide) (fun hc => ?_) (fun hc => ?_)
  · have hf := fm_pT hf hc
    refine lv_aload_n hx hb dX12_joy_19 rfl (lv_at hl 0 rfl) ?_
    refine lv_iconst (v := (0 : Int32)) hx hb dX12_joy_20 (by decide) ?_
    obtain ⟨r4, σ5, hq6, hf⟩ := fm_bE hf
    refine fm_ci hI (fm_runV (As := [.int (0 : Int32)]) (rest := []) (rm := { frames := 0, cells := 0, slots := 0, locals := 0 }) hC hI (c_X12_no hC.2.2.1 hq6) mV_X12_no q_867 ⟨rfl, rfl⟩ ⟨Nat.le_of_ble_eq_true rfl, Nat.le_of_ble_eq_true rfl⟩ fc_96 rfl (by decide) rfl hl.1 rfl (Nat.le_of_ble_eq_true rfl) dX12_joy_21 ⟨Nat.zero_le _, Nat.zero_le _⟩) (fun H locs hI => ?_)
    exact fm_ri hC hI hr hlk hf dX12_joy_24
  · have hf := fm_pF hf hc
    refine lv_iload_n hx hb dX12_joy_8 rfl (lv_at hl 2 rfl) ?_
    refine lv_iconst (v := (0 : Int32)) hx hb dX12_joy_9 (by decide) ?_
    refine lv_sipush (v := (9999 : Int32)) hx hb dX12_joy_10 (by decide) ?_
    obtain ⟨r7, σ8, hq9, hf⟩ := fm_bE hf
    refine fm_ci hI (fm_runS (As := [.int a2, .int (0 : Int32), .int (9999 : Int32)]) (rest := []) (rm := { frames := 0, cells := 0, slots := 0, locals := 0 }) hC hI (c_X12_in1 hC.2.2.1 hq9) mS_X12_in1 q_864 ⟨rfl, rfl⟩ ⟨Nat.le_of_ble_eq_true rfl, Nat.le_of_ble_eq_true rfl⟩ rfl hl.1 rfl (Nat.le_of_ble_eq_true rfl) dX12_joy_13 ⟨Nat.zero_le _, Nat.zero_le _⟩) (fun H locs hI => ?_)
    refine lv_if_ne (tgt := 25) hx hb dX12_joy_16 (by decide) (fun hc => ?_) (fun hc => ?_)
    · have hf := fm_pF hf hc
      refine lv_aload_n hx hb dX12_joy_25 rfl (lv_at hl 0 rfl) ?_
      refine lv_iload_n hx hb dX12_joy_26 rfl (lv_at hl 1 rfl) ?_
      refine lv_iconst (v := (1 : Int32)) hx hb dX12_joy_27 (by decide) ?_
      obtain ⟨r10, σ11, hq12, hf⟩ := fm_bE hf
      refine fm_ci hI (fm_runV (As := [.int a1, .int (1 : Int32)]) (rest := []) (rm := { frames := 0, cells := 0, slots := 0, locals := 0 }) hC hI (c_X12_get hC.2.2.1 hq12) mV_X12_get q_888 ⟨rfl, rfl⟩ ⟨Nat.le_of_ble_eq_true rfl, Nat.le_of_ble_eq_true rfl⟩ fc_96 rfl (by decide) rfl hl.1 rfl (Nat.le_of_ble_eq_true rfl) dX12_joy_28 ⟨Nat.zero_le _, Nat.zero_le _⟩) (fun H locs hI => ?_)
      refine lv_istore_n (lv' := [(3, .int r10), (0, .ref (G.2.1 96)), (1, .int a1), (2, .int a2)]) hx hb dX12_joy_31 rfl hl (Nat.le_of_ble_eq_true rfl) rfl (fun ls hl => ?_)
      refine lv_aload_n hx hb dX12_joy_32 rfl (lv_at hl 1 rfl) ?_
      refine lv_iload_n hx hb dX12_joy_33 rfl (lv_at hl 2 rfl) ?_
      refine lv_iconst (v := (1 : Int32)) hx hb dX12_joy_34 (by decide) ?_
      refine lv_iload_n hx hb dX12_joy_35 rfl (lv_at hl 3 rfl) ?_
      obtain ⟨_u13, σ14, hq15, hf⟩ := fm_bE hf
      refine fm_cv hI (fm_runV (As := [.int a1, .int (1 : Int32), .int a2]) (rest := []) (rm := { frames := 0, cells := 0, slots := 0, locals := 0 }) hC hI (c_X12_puts hC.2.2.1 hq15) mV_X12_puts q_876 ⟨rfl, rfl⟩ ⟨Nat.le_of_ble_eq_true rfl, Nat.le_of_ble_eq_true rfl⟩ fc_96 rfl (by decide) rfl hl.1 rfl (Nat.le_of_ble_eq_true rfl) dX12_joy_36 ⟨Nat.zero_le _, Nat.zero_le _⟩) (fun H locs hI => ?_)
      refine lv_iload_n hx hb dX12_joy_39 rfl (lv_at hl 0 rfl) ?_
      exact fm_ri hC hI hr hlk hf dX12_joy_40
    · have hf := fm_pT hf hc
      refine lv_aload_n hx hb dX12_joy_19 rfl (lv_at hl 0 rfl) ?_
      refine lv_iconst (v := (0 : Int32)) hx hb dX12_joy_20 (by decide) ?_
      obtain ⟨r16, σ17, hq18, hf⟩ := fm_bE hf
      refine fm_ci hI (fm_runV (As := [.int (0 : Int32)]) (rest := []) (rm := { frames := 0, cells := 0, slots := 0, locals := 0 }) hC hI (c_X12_no hC.2.2.1 hq18) mV_X12_no q_867 ⟨rfl, rfl⟩ ⟨Nat.le_of_ble_eq_true rfl, Nat.le_of_ble_eq_true rfl⟩ fc_96 rfl (by decide) rfl hl.1 rfl (Nat.le_of_ble_eq_true rfl) dX12_joy_21 ⟨Nat.zero_le _, Nat.zero_le _⟩) (fun H locs hI => ?_)
      exact fm_ri hC hI hr hlk hf dX12_joy_24
def m_X12_turn (a1 : Int32) (a2 : Int32) (σ : fm_M) : Option (Int32 × fm_M) := fm_b (m_X12_isPerson a1 σ) fun r1 σ2 => (if r1 = 0 then (fm_b (m_X12_no (0 : Int32) σ2) fun r4 σ5 => (some (r4, σ5))) else (fm_b (m_X12_in1 a2 (0 : Int32) (5 : Int32) σ2) fun r7 σ8 => (if r7 = 0 then (fm_b (m_X12_no (0 : Int32) σ8) fun r16 σ17 => (some (r16, σ17))) else (fm_b (m_X12_get a1 (0 : Int32) σ8) fun r10 σ11 => (fm_b (m_X12_puts a1 (0 : Int32) a2 σ11) fun _u13 σ14 => (some (r10, σ14)))))))
set_option maxHeartbeats 4000000 in
set_option maxRecDepth 100000 in
theorem c_X12_turn {l : Launch} {G : fm_G} (hJ : fm_J G) {a1 : Int32} {a2 : Int32} {σ : fm_M} {o : Int32 × fm_M}  (hf : m_X12_turn a1 a2 σ = some o) : Met l yX12_turn (fm_w yX12_turn cX12_turn 4 (some .int)) { frames := 2, cells := 0, slots := 0, locals := 43 } (va_Pc [.ref (G.2.1 96), .int a1, .int a2] (fm_st G σ)) (fm_Qi G o) 0 0 (fm_A G) := by
  refine fm_mth (own := RX12) hJ rfl (by decide +kernel) (Nat.le_of_ble_eq_true rfl) ?_
  intro p e s m below meth c ls hC hr hlk hI hl
  have hx := hC.1.1
  have hb := hC.1.2.1
  have hown := hC.1.2.2.2.1
  have hts := hC.1.2.2.2.2
  have hl : lv_has ls 4 [(0, .ref (G.2.1 96)), (1, .int a1), (2, .int a2)] := hl
  rw [m_X12_turn] at hf
  refine lv_aload_n hx hb dX12_turn_0 rfl (lv_at hl 0 rfl) ?_
  refine lv_iload_n hx hb dX12_turn_1 rfl (lv_at hl 1 rfl) ?_
  obtain ⟨r1, σ2, hq3, hf⟩ := fm_bE hf
  refine fm_ci hI (fm_runV (As := [.int a1]) (rest := []) (rm := { frames := 1, cells := 0, slots := 0, locals := 22 }) hC hI (c_X12_isPerson hC.2.2.1 hq3) mV_X12_isPerson q_884 ⟨rfl, rfl⟩ ⟨Nat.le_of_ble_eq_true rfl, Nat.le_of_ble_eq_true rfl⟩ fc_96 rfl (by decide) rfl hl.1 rfl (Nat.le_of_ble_eq_true rfl) dX12_turn_2 ⟨Nat.zero_le _, Nat.zero_le _⟩) (fun H locs hI => ?_)
  refine lv_if_eq (tgt := 17) hx hb dX12_turn_5 (by decide) (fun hc => ?_) (fun hc => ?_)
  · have hf := fm_pT hf hc
    refine lv_aload_n hx hb dX12_turn_17 rfl (lv_at hl 0 rfl) ?_
    refine lv_iconst (v := (0 : Int32)) hx hb dX12_turn_18 (by decide) ?_
    obtain ⟨r4, σ5, hq6, hf⟩ := fm_bE hf
    refine fm_ci hI (fm_runV (As := [.int (0 : Int32)]) (rest := []) (rm := { frames := 0, cells := 0, slots := 0, locals := 0 }) hC hI (c_X12_no hC.2.2.1 hq6) mV_X12_no q_867 ⟨rfl, rfl⟩ ⟨Nat.le_of_ble_eq_true rfl, Nat.le_of_ble_eq_true rfl⟩ fc_96 rfl (by decide) rfl hl.1 rfl (Nat.le_of_ble_eq_true rfl) dX12_turn_19 ⟨Nat.zero_le _, Nat.zero_le _⟩) (fun H locs hI => ?_)
    exact fm_ri hC hI hr hlk hf dX12_turn_22
  · have hf := fm_pF hf hc
    refine lv_iload_n hx hb dX12_turn_8 rfl (lv_at hl 2 rfl) ?_
    refine lv_iconst (v := (0 : Int32)) hx hb dX12_turn_9 (by decide) ?_
    refine lv_iconst (v := (5 : Int32)) hx hb dX12_turn_10 (by decide) ?_
    obtain ⟨r7, σ8, hq9, hf⟩ := fm_bE hf
    refine fm_ci hI (fm_runS (As := [.int a2, .int (0 : Int32), .int (5 : Int32)]) (rest := []) (rm := { frames := 0, cells := 0, slots := 0, locals := 0 }) hC hI (c_X12_in1 hC.2.2.1 hq9) mS_X12_in1 q_864 ⟨rfl, rfl⟩ ⟨Nat.le_of_ble_eq_true rfl, Nat.le_of_ble_eq_true rfl⟩ rfl hl.1 rfl (Nat.le_of_ble_eq_true rfl) dX12_turn_11 ⟨Nat.zero_le _, Nat.zero_le _⟩) (fun H locs hI => ?_)
    refine lv_if_ne (tgt := 23) hx hb dX12_turn_14 (by decide) (fun hc => ?_) (fun hc => ?_)
    · have hf := fm_pF hf hc
      refine lv_aload_n hx hb dX12_turn_23 rfl (lv_at hl 0 rfl) ?_
      refine lv_iload_n hx hb dX12_turn_24 rfl (lv_at hl 1 rfl) ?_
      refine lv_iconst (v := (0 : Int32)) hx hb dX12_turn_25 (by decide) ?_
      obtain ⟨r10, σ11, hq12, hf⟩ := fm_bE hf
      refine fm_ci hI (fm_runV (As := [.int a1, .int (0 : Int32)]) (rest := []) (rm := { frames := 0, cells := 0, slots := 0, locals := 0 }) hC hI (c_X12_get hC.2.2.1 hq12) mV_X12_get q_888 ⟨rfl, rfl⟩ ⟨Nat.le_of_ble_eq_true rfl, Nat.le_of_ble_eq_true rfl⟩ fc_96 rfl (by decide) rfl hl.1 rfl (Nat.le_of_ble_eq_true rfl) dX12_turn_26 ⟨Nat.zero_le _, Nat.zero_le _⟩) (fun H locs hI => ?_)
      refine lv_istore_n (lv' := [(3, .int r10), (0, .ref (G.2.1 96)), (1, .int a1), (2, .int a2)]) hx hb dX12_turn_29 rfl hl (Nat.le_of_ble_eq_true rfl) rfl (fun ls hl => ?_)
      refine lv_aload_n hx hb dX12_turn_30 rfl (lv_at hl 1 rfl) ?_
      refine lv_iload_n hx hb dX12_turn_31 rfl (lv_at hl 2 rfl) ?_
      refine lv_iconst (v := (0 : Int32)) hx hb dX12_turn_32 (by decide) ?_
      refine lv_iload_n hx hb dX12_turn_33 rfl (lv_at hl 3 rfl) ?_
      obtain ⟨_u13, σ14, hq15, hf⟩ := fm_bE hf
      refine fm_cv hI (fm_runV (As := [.int a1, .int (0 : Int32), .int a2]) (rest := []) (rm := { frames := 0, cells := 0, slots := 0, locals := 0 }) hC hI (c_X12_puts hC.2.2.1 hq15) mV_X12_puts q_876 ⟨rfl, rfl⟩ ⟨Nat.le_of_ble_eq_true rfl, Nat.le_of_ble_eq_true rfl⟩ fc_96 rfl (by decide) rfl hl.1 rfl (Nat.le_of_ble_eq_true rfl) dX12_turn_34 ⟨Nat.zero_le _, Nat.zero_le _⟩) (fun H locs hI => ?_)
      refine lv_iload_n hx hb dX12_turn_37 rfl (lv_at hl 0 rfl) ?_
      exact fm_ri hC hI hr hlk hf dX12_turn_38
    · have hf := fm_pT hf hc
      refine lv_aload_n hx hb dX12_turn_17 rfl (lv_at hl 0 rfl) ?_
      refine lv_iconst (v := (0 : Int32)) hx hb dX12_turn_18 (by decide) ?_
      obtain ⟨r16, σ17, hq18, hf⟩ := fm_bE hf
      refine fm_ci hI (fm_runV (As := [.int (0 : Int32)]) (rest := []) (rm := { frames := 0, cells := 0, slots := 0, locals := 0 }) hC hI (c_X12_no hC.2.2.1 hq18) mV_X12_no q_867 ⟨rfl, rfl⟩ ⟨Nat.le_of_ble_eq_true rfl, Nat.le_of_ble_eq_true rfl⟩ fc_96 rfl (by decide) rfl hl.1 rfl (Nat.le_of_ble_eq_true rfl) dX12_turn_19 ⟨Nat.zero_le _, Nat.zero_le _⟩) (fun H locs hI => ?_)
      exact fm_ri hC hI hr hlk hf dX12_turn_22
def m_X12_as_30 (kc : Int32 → Int32 → Int32 → fm_M → Option (Int32 × fm_M)) : Nat → Int32 → Int32 → Int32 → fm_M → Option (Int32 × fm_M)
  | 0, _, _, _, _ => none
  | n + 1, z1, z2, z3, σ => if z3 = z2 then (kc z1 z2 z3 σ) else (if z3 = 0 then (kc z1 z2 z3 σ) else (if z3 = (4 : Int32) then (m_X12_as_30 kc n z1 z2 (2 : Int32) σ) else (if z3 = (5 : Int32) then (m_X12_as_30 kc n z1 z2 (1 : Int32) σ) else (m_X12_as_30 kc n z1 z2 (0 : Int32) σ))))
def m_X12_as (a1 : Int32) (a2 : Int32) (σ : fm_M) : Option (Int32 × fm_M) := fm_b (m_X12_isPerson a1 σ) fun r1 σ2 => (if r1 = 0 then (fm_b (m_X12_no (0 : Int32) σ2) fun r4 σ5 => (some (r4, σ5))) else (fm_b (m_X12_in1 a2 (0 : Int32) (5 : Int32) σ2) fun r7 σ8 => (if r7 = 0 then (fm_b (m_X12_no (0 : Int32) σ8) fun r20 σ21 => (some (r20, σ21))) else (fm_b (m_X12_get a1 (0 : Int32) σ8) fun r10 σ11 => (m_X12_as_30 (fun (x1_y13 : Int32) (x2_y13 : Int32) (x3_y13 : Int32) (σ_y13 : fm_M) => if x3_y13 = x2_y13 then (fm_b (m_X12_get x1_y13 (1 : Int32) σ_y13) fun r17 σ18 => (some (r17, σ18))) else (fm_b (m_X12_no (2 : Int32) σ_y13) fun r14 σ15 => (some (r14, σ15)))) fm_fu a1 a2 r10 σ11)))))
set_option maxHeartbeats 4000000 in
set_option maxRecDepth 100000 in
theorem w_X12_as_30 {p : Program} {l : Launch} {e : Env} {s : State} {m : MethodId} {args : Array Value} {below : List Frame} {meth : Method} {c : Code} {G : fm_G} {o : Int32 × fm_M} {kc : Int32 → Int32 → Int32 → fm_M → Option (Int32 × fm_M)} (hC : fm_C G p m c cX12_as 4 s args RX12) (hr : meth.sig.returnType = (some .int)) (hlk : meth.locks = false) (hk : ∀ (z1 : Int32) (z2 : Int32) (z3 : Int32) (σ : fm_M) (H : Heap) (locs : List Loc) (ls : Array Slot), fm_I G σ s H locs → lv_has ls 4 [(0, .ref (G.2.1 96)), (1, .int z1), (2, .int z2), (3, .int z3)] → kc z1 z2 z3 σ = some o → W p l e { frames := 2, cells := 0, slots := 0, locals := 43 } s m args below meth c H locs 0 0 (MQ below (fm_Qi G o) args s 0 0 (fm_A G)) (F0 m 62 ls [])) (n : Nat) : ∀ (z1 : Int32) (z2 : Int32) (z3 : Int32) (σ : fm_M) (H : Heap) (locs : List Loc) (ls : Array Slot), fm_I G σ s H locs → lv_has ls 4 [(0, .ref (G.2.1 96)), (1, .int z1), (2, .int z2), (3, .int z3)] → m_X12_as_30 kc n z1 z2 z3 σ = some o → W p l e { frames := 2, cells := 0, slots := 0, locals := 43 } s m args below meth c H locs 0 0 (MQ below (fm_Qi G o) args s 0 0 (fm_A G)) (F0 m 30 ls []) := by
  have hx := hC.1.1
  have hb := hC.1.2.1
  have hown := hC.1.2.2.2.1
  have hts := hC.1.2.2.2.2
  induction n with
  | zero =>
    intro z1 z2 z3 σ H locs ls hI hl hf
    cases hf
  | succ n ih =>
    intro z1 z2 z3 σ H locs ls hI hl hf
    rw [m_X12_as_30] at hf
    refine lv_iload_n hx hb dX12_as_30 rfl (lv_at hl 3 rfl) ?_
    refine lv_iload_n hx hb dX12_as_31 rfl (lv_at hl 2 rfl) ?_
    refine lv_icmp_eq (tgt := 62) hx hb dX12_as_32 (by decide) (fun hc => ?_) (fun hc => ?_)
    · have hf := fm_pT hf hc
      exact hk z1 z2 z3 σ _ _ _ hI (lv_sub hl [0, 1, 2, 3] rfl) hf
    · have hf := fm_pF hf hc
      refine lv_iload_n hx hb dX12_as_35 rfl (lv_at hl 3 rfl) ?_
      refine lv_if_eq (tgt := 62) hx hb dX12_as_36 (by decide) (fun hc => ?_) (fun hc => ?_)
      · have hf := fm_pT hf hc
        exact hk z1 z2 z3 σ _ _ _ hI (lv_sub hl [0, 1, 2, 3] rfl) hf
      · have hf := fm_pF hf hc
        refine lv_iload_n hx hb dX12_as_39 rfl (lv_at hl 3 rfl) ?_
        refine lv_iconst (v := (4 : Int32)) hx hb dX12_as_40 (by decide) ?_
        refine lv_icmp_ne (tgt := 48) hx hb dX12_as_41 (by decide) (fun hc => ?_) (fun hc => ?_)
        · have hf := fm_pF hf hc
          refine lv_iload_n hx hb dX12_as_48 rfl (lv_at hl 3 rfl) ?_
          refine lv_iconst (v := (5 : Int32)) hx hb dX12_as_49 (by decide) ?_
          refine lv_icmp_ne (tgt := 57) hx hb dX12_as_50 (by decide) (fun hc => ?_) (fun hc => ?_)
          · have hf := fm_pF hf hc
            refine lv_iconst (v := (0 : Int32)) hx hb dX12_as_57 (by decide) ?_
            refine lv_istore_n (lv' := [(3, .int (0 : Int32)), (0, .ref (G.2.1 96)), (1, .int z1), (2, .int z2)]) hx hb dX12_as_58 rfl hl (Nat.le_of_ble_eq_true rfl) rfl (fun ls hl => ?_)
            refine lv_goto (tgt := 30) hx hb dX12_as_59 (by decide) ?_
            exact ih z1 z2 (0 : Int32) σ _ _ _ hI (lv_sub hl [1, 2, 3, 0] rfl) hf
          · have hf := fm_pT hf hc
            refine lv_iconst (v := (1 : Int32)) hx hb dX12_as_53 (by decide) ?_
            refine lv_goto (tgt := 58) hx hb dX12_as_54 (by decide) ?_
            refine lv_istore_n (lv' := [(3, .int (1 : Int32)), (0, .ref (G.2.1 96)), (1, .int z1), (2, .int z2)]) hx hb dX12_as_58 rfl hl (Nat.le_of_ble_eq_true rfl) rfl (fun ls hl => ?_)
            refine lv_goto (tgt := 30) hx hb dX12_as_59 (by decide) ?_
            exact ih z1 z2 (1 : Int32) σ _ _ _ hI (lv_sub hl [1, 2, 3, 0] rfl) hf
        · have hf := fm_pT hf hc
          refine lv_iconst (v := (2 : Int32)) hx hb dX12_as_44 (by decide) ?_
          refine lv_goto (tgt := 58) hx hb dX12_as_45 (by decide) ?_
          refine lv_istore_n (lv' := [(3, .int (2 : Int32)), (0, .ref (G.2.1 96)), (1, .int z1), (2, .int z2)]) hx hb dX12_as_58 rfl hl (Nat.le_of_ble_eq_true rfl) rfl (fun ls hl => ?_)
          refine lv_goto (tgt := 30) hx hb dX12_as_59 (by decide) ?_
          exact ih z1 z2 (2 : Int32) σ _ _ _ hI (lv_sub hl [1, 2, 3, 0] rfl) hf
set_option maxHeartbeats 4000000 in
set_option maxRecDepth 100000 in
theorem c_X12_as {l : Launch} {G : fm_G} (hJ : fm_J G) {a1 : Int32} {a2 : Int32} {σ : fm_M} {o : Int32 × fm_M}  (hf : m_X12_as a1 a2 σ = some o) : Met l yX12_as (fm_w yX12_as cX12_as 4 (some .int)) { frames := 2, cells := 0, slots := 0, locals := 43 } (va_Pc [.ref (G.2.1 96), .int a1, .int a2] (fm_st G σ)) (fm_Qi G o) 0 0 (fm_A G) := by
  refine fm_mth (own := RX12) hJ rfl (by decide +kernel) (Nat.le_of_ble_eq_true rfl) ?_
  intro p e s m below meth c ls hC hr hlk hI hl
  have hx := hC.1.1
  have hb := hC.1.2.1
  have hown := hC.1.2.2.2.1
  have hts := hC.1.2.2.2.2
  have hl : lv_has ls 4 [(0, .ref (G.2.1 96)), (1, .int a1), (2, .int a2)] := hl
  rw [m_X12_as] at hf
  refine lv_aload_n hx hb dX12_as_0 rfl (lv_at hl 0 rfl) ?_
  refine lv_iload_n hx hb dX12_as_1 rfl (lv_at hl 1 rfl) ?_
  obtain ⟨r1, σ2, hq3, hf⟩ := fm_bE hf
  refine fm_ci hI (fm_runV (As := [.int a1]) (rest := []) (rm := { frames := 1, cells := 0, slots := 0, locals := 22 }) hC hI (c_X12_isPerson hC.2.2.1 hq3) mV_X12_isPerson q_884 ⟨rfl, rfl⟩ ⟨Nat.le_of_ble_eq_true rfl, Nat.le_of_ble_eq_true rfl⟩ fc_96 rfl (by decide) rfl hl.1 rfl (Nat.le_of_ble_eq_true rfl) dX12_as_2 ⟨Nat.zero_le _, Nat.zero_le _⟩) (fun H locs hI => ?_)
  refine lv_if_eq (tgt := 17) hx hb dX12_as_5 (by decide) (fun hc => ?_) (fun hc => ?_)
  · have hf := fm_pT hf hc
    refine lv_aload_n hx hb dX12_as_17 rfl (lv_at hl 0 rfl) ?_
    refine lv_iconst (v := (0 : Int32)) hx hb dX12_as_18 (by decide) ?_
    obtain ⟨r4, σ5, hq6, hf⟩ := fm_bE hf
    refine fm_ci hI (fm_runV (As := [.int (0 : Int32)]) (rest := []) (rm := { frames := 0, cells := 0, slots := 0, locals := 0 }) hC hI (c_X12_no hC.2.2.1 hq6) mV_X12_no q_867 ⟨rfl, rfl⟩ ⟨Nat.le_of_ble_eq_true rfl, Nat.le_of_ble_eq_true rfl⟩ fc_96 rfl (by decide) rfl hl.1 rfl (Nat.le_of_ble_eq_true rfl) dX12_as_19 ⟨Nat.zero_le _, Nat.zero_le _⟩) (fun H locs hI => ?_)
    exact fm_ri hC hI hr hlk hf dX12_as_22
  · have hf := fm_pF hf hc
    refine lv_iload_n hx hb dX12_as_8 rfl (lv_at hl 2 rfl) ?_
    refine lv_iconst (v := (0 : Int32)) hx hb dX12_as_9 (by decide) ?_
    refine lv_iconst (v := (5 : Int32)) hx hb dX12_as_10 (by decide) ?_
    obtain ⟨r7, σ8, hq9, hf⟩ := fm_bE hf
    refine fm_ci hI (fm_runS (As := [.int a2, .int (0 : Int32), .int (5 : Int32)]) (rest := []) (rm := { frames := 0, cells := 0, slots := 0, locals := 0 }) hC hI (c_X12_in1 hC.2.2.1 hq9) mS_X12_in1 q_864 ⟨rfl, rfl⟩ ⟨Nat.le_of_ble_eq_true rfl, Nat.le_of_ble_eq_true rfl⟩ rfl hl.1 rfl (Nat.le_of_ble_eq_true rfl) dX12_as_11 ⟨Nat.zero_le _, Nat.zero_le _⟩) (fun H locs hI => ?_)
    refine lv_if_ne (tgt := 23) hx hb dX12_as_14 (by decide) (fun hc => ?_) (fun hc => ?_)
    · have hf := fm_pF hf hc
      refine lv_aload_n hx hb dX12_as_23 rfl (lv_at hl 0 rfl) ?_
      refine lv_iload_n hx hb dX12_as_24 rfl (lv_at hl 1 rfl) ?_
      refine lv_iconst (v := (0 : Int32)) hx hb dX12_as_25 (by decide) ?_
      obtain ⟨r10, σ11, hq12, hf⟩ := fm_bE hf
      refine fm_ci hI (fm_runV (As := [.int a1, .int (0 : Int32)]) (rest := []) (rm := { frames := 0, cells := 0, slots := 0, locals := 0 }) hC hI (c_X12_get hC.2.2.1 hq12) mV_X12_get q_888 ⟨rfl, rfl⟩ ⟨Nat.le_of_ble_eq_true rfl, Nat.le_of_ble_eq_true rfl⟩ fc_96 rfl (by decide) rfl hl.1 rfl (Nat.le_of_ble_eq_true rfl) dX12_as_26 ⟨Nat.zero_le _, Nat.zero_le _⟩) (fun H locs hI => ?_)
      refine lv_istore_n (lv' := [(3, .int r10), (0, .ref (G.2.1 96)), (1, .int a1), (2, .int a2)]) hx hb dX12_as_29 rfl hl (Nat.le_of_ble_eq_true rfl) rfl (fun ls hl => ?_)
      refine w_X12_as_30 hC hr hlk (fun x1_y13 x2_y13 x3_y13 σ_y13 H locs ls hI hl hf => ?_) fm_fu a1 a2 r10 σ11 _ _ _ hI (lv_sub hl [1, 2, 3, 0] rfl) hf
      refine lv_iload_n hx hb dX12_as_62 rfl (lv_at hl 3 rfl) ?_
      refine lv_iload_n hx hb dX12_as_63 rfl (lv_at hl 2 rfl) ?_
      refine lv_icmp_ne (tgt := 76) hx hb dX12_as_64 (by decide) (fun hc => ?_) (fun hc => ?_)
      · have hf := fm_pF hf hc
        refine lv_aload_n hx hb dX12_as_76 rfl (lv_at hl 0 rfl) ?_
        refine lv_iconst (v := (2 : Int32)) hx hb dX12_as_77 (by decide) ?_
        obtain ⟨r14, σ15, hq16, hf⟩ := fm_bE hf
        refine fm_ci hI (fm_runV (As := [.int (2 : Int32)]) (rest := []) (rm := { frames := 0, cells := 0, slots := 0, locals := 0 }) hC hI (c_X12_no hC.2.2.1 hq16) mV_X12_no q_867 ⟨rfl, rfl⟩ ⟨Nat.le_of_ble_eq_true rfl, Nat.le_of_ble_eq_true rfl⟩ fc_96 rfl (by decide) rfl hl.1 rfl (Nat.le_of_ble_eq_true rfl) dX12_as_78 ⟨Nat.zero_le _, Nat.zero_le _⟩) (fun H locs hI => ?_)
        exact fm_ri hC hI hr hlk hf dX12_as_81
      · have hf := fm_pT hf hc
        refine lv_aload_n hx hb dX12_as_67 rfl (lv_at hl 0 rfl) ?_
        refine lv_iload_n hx hb dX12_as_68 rfl (lv_at hl 1 rfl) ?_
        refine lv_iconst (v := (1 : Int32)) hx hb dX12_as_69 (by decide) ?_
        obtain ⟨r17, σ18, hq19, hf⟩ := fm_bE hf
        refine fm_ci hI (fm_runV (As := [.int x1_y13, .int (1 : Int32)]) (rest := []) (rm := { frames := 0, cells := 0, slots := 0, locals := 0 }) hC hI (c_X12_get hC.2.2.1 hq19) mV_X12_get q_888 ⟨rfl, rfl⟩ ⟨Nat.le_of_ble_eq_true rfl, Nat.le_of_ble_eq_true rfl⟩ fc_96 rfl (by decide) rfl hl.1 rfl (Nat.le_of_ble_eq_true rfl) dX12_as_70 ⟨Nat.zero_le _, Nat.zero_le _⟩) (fun H locs hI => ?_)
        refine lv_goto (tgt := 81) hx hb dX12_as_73 (by decide) ?_
        exact fm_ri hC hI hr hlk hf dX12_as_81
    · have hf := fm_pT hf hc
      refine lv_aload_n hx hb dX12_as_17 rfl (lv_at hl 0 rfl) ?_
      refine lv_iconst (v := (0 : Int32)) hx hb dX12_as_18 (by decide) ?_
      obtain ⟨r20, σ21, hq22, hf⟩ := fm_bE hf
      refine fm_ci hI (fm_runV (As := [.int (0 : Int32)]) (rest := []) (rm := { frames := 0, cells := 0, slots := 0, locals := 0 }) hC hI (c_X12_no hC.2.2.1 hq22) mV_X12_no q_867 ⟨rfl, rfl⟩ ⟨Nat.le_of_ble_eq_true rfl, Nat.le_of_ble_eq_true rfl⟩ fc_96 rfl (by decide) rfl hl.1 rfl (Nat.le_of_ble_eq_true rfl) dX12_as_19 ⟨Nat.zero_le _, Nat.zero_le _⟩) (fun H locs hI => ?_)
      exact fm_ri hC hI hr hlk hf dX12_as_22
def m_X12_addsPresent (a1 : Int32) (a2 : Int32) (σ : fm_M) : Option (Unit × fm_M) := fm_g (fm_in1 (2 : Int32) 96) (fm_b (m_X12_lays1 (σ.1 97 (2 : Int32).toNatClampNeg) (0 : Int32) (0 : Int32) σ) fun _u2 σ3 => (fm_b (m_X12_lays1 (σ.1 97 (2 : Int32).toNatClampNeg) (1 : Int32) a2 σ3) fun _u5 σ6 => (fm_b (m_X12_lays1 (σ.1 97 (2 : Int32).toNatClampNeg) (2 : Int32) a1 σ6) fun _u8 σ9 => (fm_b (m_X12_lays1 (σ.1 97 (2 : Int32).toNatClampNeg) (3 : Int32) (0 : Int32) σ9) fun _u11 σ12 => (fm_g (fm_in1 (2 : Int32) 96) (fm_g (fm_in1 (2 : Int32) 96) (fm_let (fm_sI σ12 97 (2 : Int32).toNatClampNeg ((σ12.1 97 (2 : Int32).toNatClampNeg) + (1 : Int32))) fun σ16 => (some ((), σ16)))))))))
set_option maxHeartbeats 4000000 in
set_option maxRecDepth 100000 in
theorem c_X12_addsPresent {l : Launch} {G : fm_G} (hJ : fm_J G) {a1 : Int32} {a2 : Int32} {σ : fm_M} {o : Unit × fm_M}  (hf : m_X12_addsPresent a1 a2 σ = some o) : Met l yX12_addsPresent (fm_w yX12_addsPresent cX12_addsPresent 4 none) { frames := 1, cells := 0, slots := 0, locals := 23 } (va_Pc [.ref (G.2.1 96), .int a1, .int a2] (fm_st G σ)) (fm_Qv G o) 0 0 (fm_A G) := by
  refine fm_mth (own := RX12) hJ rfl (by decide +kernel) (Nat.le_of_ble_eq_true rfl) ?_
  intro p e s m below meth c ls hC hr hlk hI hl
  have hx := hC.1.1
  have hb := hC.1.2.1
  have hown := hC.1.2.2.2.1
  have hts := hC.1.2.2.2.2
  have hl : lv_has ls 4 [(0, .ref (G.2.1 96)), (1, .int a1), (2, .int a2)] := hl
  rw [m_X12_addsPresent] at hf
  refine lv_aload_n hx hb dX12_addsPresent_0 rfl (lv_at hl 0 rfl) ?_
  refine fm_gr hC hI fd_X12_0 fc_96 fr_96_0 q_798 dX12_addsPresent_1 ?_
  refine lv_iconst (v := (2 : Int32)) hx hb dX12_addsPresent_4 (by decide) ?_
  obtain ⟨hg1, hf⟩ := fm_gE hf
  refine fm_iald hC hI fc_97 fl_97 hg1 dX12_addsPresent_5 ?_
  refine lv_istore_n (lv' := [(3, .int (σ.1 97 (2 : Int32).toNatClampNeg)), (0, .ref (G.2.1 96)), (1, .int a1), (2, .int a2)]) hx hb dX12_addsPresent_6 rfl hl (Nat.le_of_ble_eq_true rfl) rfl (fun ls hl => ?_)
  refine lv_aload_n hx hb dX12_addsPresent_7 rfl (lv_at hl 1 rfl) ?_
  refine lv_iload_n hx hb dX12_addsPresent_8 rfl (lv_at hl 0 rfl) ?_
  refine lv_iconst (v := (0 : Int32)) hx hb dX12_addsPresent_9 (by decide) ?_
  refine lv_iconst (v := (0 : Int32)) hx hb dX12_addsPresent_10 (by decide) ?_
  obtain ⟨_u2, σ3, hq4, hf⟩ := fm_bE hf
  refine fm_cv hI (fm_runV (As := [.int (σ.1 97 (2 : Int32).toNatClampNeg), .int (0 : Int32), .int (0 : Int32)]) (rest := []) (rm := { frames := 0, cells := 0, slots := 0, locals := 0 }) hC hI (c_X12_lays1 hC.2.2.1 hq4) mV_X12_lays1 q_947 ⟨rfl, rfl⟩ ⟨Nat.le_of_ble_eq_true rfl, Nat.le_of_ble_eq_true rfl⟩ fc_96 rfl (by decide) rfl hl.1 rfl (Nat.le_of_ble_eq_true rfl) dX12_addsPresent_11 ⟨Nat.zero_le _, Nat.zero_le _⟩) (fun H locs hI => ?_)
  refine lv_aload_n hx hb dX12_addsPresent_14 rfl (lv_at hl 1 rfl) ?_
  refine lv_iload_n hx hb dX12_addsPresent_15 rfl (lv_at hl 0 rfl) ?_
  refine lv_iconst (v := (1 : Int32)) hx hb dX12_addsPresent_16 (by decide) ?_
  refine lv_iload_n hx hb dX12_addsPresent_17 rfl (lv_at hl 3 rfl) ?_
  obtain ⟨_u5, σ6, hq7, hf⟩ := fm_bE hf
  refine fm_cv hI (fm_runV (As := [.int (σ.1 97 (2 : Int32).toNatClampNeg), .int (1 : Int32), .int a2]) (rest := []) (rm := { frames := 0, cells := 0, slots := 0, locals := 0 }) hC hI (c_X12_lays1 hC.2.2.1 hq7) mV_X12_lays1 q_947 ⟨rfl, rfl⟩ ⟨Nat.le_of_ble_eq_true rfl, Nat.le_of_ble_eq_true rfl⟩ fc_96 rfl (by decide) rfl hl.1 rfl (Nat.le_of_ble_eq_true rfl) dX12_addsPresent_18 ⟨Nat.zero_le _, Nat.zero_le _⟩) (fun H locs hI => ?_)
  refine lv_aload_n hx hb dX12_addsPresent_21 rfl (lv_at hl 1 rfl) ?_
  refine lv_iload_n hx hb dX12_addsPresent_22 rfl (lv_at hl 0 rfl) ?_
  refine lv_iconst (v := (2 : Int32)) hx hb dX12_addsPresent_23 (by decide) ?_
  refine lv_iload_n hx hb dX12_addsPresent_24 rfl (lv_at hl 2 rfl) ?_
  obtain ⟨_u8, σ9, hq10, hf⟩ := fm_bE hf
  refine fm_cv hI (fm_runV (As := [.int (σ.1 97 (2 : Int32).toNatClampNeg), .int (2 : Int32), .int a1]) (rest := []) (rm := { frames := 0, cells := 0, slots := 0, locals := 0 }) hC hI (c_X12_lays1 hC.2.2.1 hq10) mV_X12_lays1 q_947 ⟨rfl, rfl⟩ ⟨Nat.le_of_ble_eq_true rfl, Nat.le_of_ble_eq_true rfl⟩ fc_96 rfl (by decide) rfl hl.1 rfl (Nat.le_of_ble_eq_true rfl) dX12_addsPresent_25 ⟨Nat.zero_le _, Nat.zero_le _⟩) (fun H locs hI => ?_)
  refine lv_aload_n hx hb dX12_addsPresent_28 rfl (lv_at hl 1 rfl) ?_
  refine lv_iload_n hx hb dX12_addsPresent_29 rfl (lv_at hl 0 rfl) ?_
  refine lv_iconst (v := (3 : Int32)) hx hb dX12_addsPresent_30 (by decide) ?_
  refine lv_iconst (v := (0 : Int32)) hx hb dX12_addsPresent_31 (by decide) ?_
  obtain ⟨_u11, σ12, hq13, hf⟩ := fm_bE hf
  refine fm_cv hI (fm_runV (As := [.int (σ.1 97 (2 : Int32).toNatClampNeg), .int (3 : Int32), .int (0 : Int32)]) (rest := []) (rm := { frames := 0, cells := 0, slots := 0, locals := 0 }) hC hI (c_X12_lays1 hC.2.2.1 hq13) mV_X12_lays1 q_947 ⟨rfl, rfl⟩ ⟨Nat.le_of_ble_eq_true rfl, Nat.le_of_ble_eq_true rfl⟩ fc_96 rfl (by decide) rfl hl.1 rfl (Nat.le_of_ble_eq_true rfl) dX12_addsPresent_32 ⟨Nat.zero_le _, Nat.zero_le _⟩) (fun H locs hI => ?_)
  refine lv_aload_n hx hb dX12_addsPresent_35 rfl (lv_at hl 1 rfl) ?_
  refine fm_gr hC hI fd_X12_0 fc_96 fr_96_0 q_798 dX12_addsPresent_36 ?_
  refine lv_iconst (v := (2 : Int32)) hx hb dX12_addsPresent_39 (by decide) ?_
  refine lv_dup2_11 hx hb dX12_addsPresent_40 rfl rfl ?_
  obtain ⟨hg14, hf⟩ := fm_gE hf
  refine fm_iald hC hI fc_97 fl_97 hg14 dX12_addsPresent_41 ?_
  refine lv_iconst (v := (1 : Int32)) hx hb dX12_addsPresent_42 (by decide) ?_
  refine lv_iadd hx hb dX12_addsPresent_43 ?_
  obtain ⟨hg15, hf⟩ := fm_gE hf
  obtain ⟨σ16, e17, hf⟩ := fm_letE hf
  refine fm_iast hC hI fc_97 fl_97 hg15 e17 dX12_addsPresent_44 (fun H locs hI => ?_)
  exact fm_rv hC hI hr hlk hf dX12_addsPresent_45
def m_X12_present (a1 : Int32) (a2 : Int32) (σ : fm_M) : Option (Int32 × fm_M) := fm_b (m_X12_isPerson a1 σ) fun r1 σ2 => (if r1 = 0 then (fm_b (m_X12_no (0 : Int32) σ2) fun r4 σ5 => (some (r4, σ5))) else (fm_b (m_X12_in1 a2 (0 : Int32) (99 : Int32) σ2) fun r7 σ8 => (if r7 = 0 then (fm_b (m_X12_no (0 : Int32) σ8) fun r18 σ19 => (some (r18, σ19))) else (fm_g (fm_in1 (2 : Int32) 96) (if (σ8.1 97 (2 : Int32).toNatClampNeg) = (8 : Int32) then (fm_b (m_X12_no (1 : Int32) σ8) fun r15 σ16 => (some (r15, σ16))) else (fm_b (m_X12_addsPresent a1 a2 σ8) fun _u11 σ12 => (fm_g (fm_in1 (2 : Int32) 96) (some (((σ12.1 97 (2 : Int32).toNatClampNeg) - (1 : Int32)), σ12)))))))))
set_option maxHeartbeats 4000000 in
set_option maxRecDepth 100000 in
theorem c_X12_present {l : Launch} {G : fm_G} (hJ : fm_J G) {a1 : Int32} {a2 : Int32} {σ : fm_M} {o : Int32 × fm_M}  (hf : m_X12_present a1 a2 σ = some o) : Met l yX12_present (fm_w yX12_present cX12_present 3 (some .int)) { frames := 2, cells := 0, slots := 0, locals := 46 } (va_Pc [.ref (G.2.1 96), .int a1, .int a2] (fm_st G σ)) (fm_Qi G o) 0 0 (fm_A G) := by
  refine fm_mth (own := RX12) hJ rfl (by decide +kernel) (Nat.le_of_ble_eq_true rfl) ?_
  intro p e s m below meth c ls hC hr hlk hI hl
  have hx := hC.1.1
  have hb := hC.1.2.1
  have hown := hC.1.2.2.2.1
  have hts := hC.1.2.2.2.2
  have hl : lv_has ls 3 [(0, .ref (G.2.1 96)), (1, .int a1), (2, .int a2)] := hl
  rw [m_X12_present] at hf
  refine lv_aload_n hx hb dX12_present_0 rfl (lv_at hl 0 rfl) ?_
  refine lv_iload_n hx hb dX12_present_1 rfl (lv_at hl 1 rfl) ?_
  obtain ⟨r1, σ2, hq3, hf⟩ := fm_bE hf
  refine fm_ci hI (fm_runV (As := [.int a1]) (rest := []) (rm := { frames := 1, cells := 0, slots := 0, locals := 22 }) hC hI (c_X12_isPerson hC.2.2.1 hq3) mV_X12_isPerson q_884 ⟨rfl, rfl⟩ ⟨Nat.le_of_ble_eq_true rfl, Nat.le_of_ble_eq_true rfl⟩ fc_96 rfl (by decide) rfl hl.1 rfl (Nat.le_of_ble_eq_true rfl) dX12_present_2 ⟨Nat.zero_le _, Nat.zero_le _⟩) (fun H locs hI => ?_)
  refine lv_if_eq (tgt := 18) hx hb dX12_present_5 (by decide) (fun hc => ?_) (fun hc => ?_)
  · have hf := fm_pT hf hc
    refine lv_aload_n hx hb dX12_present_18 rfl (lv_at hl 0 rfl) ?_
    refine lv_iconst (v := (0 : Int32)) hx hb dX12_present_19 (by decide) ?_
    obtain ⟨r4, σ5, hq6, hf⟩ := fm_bE hf
    refine fm_ci hI (fm_runV (As := [.int (0 : Int32)]) (rest := []) (rm := { frames := 0, cells := 0, slots := 0, locals := 0 }) hC hI (c_X12_no hC.2.2.1 hq6) mV_X12_no q_867 ⟨rfl, rfl⟩ ⟨Nat.le_of_ble_eq_true rfl, Nat.le_of_ble_eq_true rfl⟩ fc_96 rfl (by decide) rfl hl.1 rfl (Nat.le_of_ble_eq_true rfl) dX12_present_20 ⟨Nat.zero_le _, Nat.zero_le _⟩) (fun H locs hI => ?_)
    exact fm_ri hC hI hr hlk hf dX12_present_23
  · have hf := fm_pF hf hc
    refine lv_iload_n hx hb dX12_present_8 rfl (lv_at hl 2 rfl) ?_
    refine lv_iconst (v := (0 : Int32)) hx hb dX12_present_9 (by decide) ?_
    refine lv_bipush (v := (99 : Int32)) hx hb dX12_present_10 (by decide) ?_
    obtain ⟨r7, σ8, hq9, hf⟩ := fm_bE hf
    refine fm_ci hI (fm_runS (As := [.int a2, .int (0 : Int32), .int (99 : Int32)]) (rest := []) (rm := { frames := 0, cells := 0, slots := 0, locals := 0 }) hC hI (c_X12_in1 hC.2.2.1 hq9) mS_X12_in1 q_864 ⟨rfl, rfl⟩ ⟨Nat.le_of_ble_eq_true rfl, Nat.le_of_ble_eq_true rfl⟩ rfl hl.1 rfl (Nat.le_of_ble_eq_true rfl) dX12_present_12 ⟨Nat.zero_le _, Nat.zero_le _⟩) (fun H locs hI => ?_)
    refine lv_if_ne (tgt := 24) hx hb dX12_present_15 (by decide) (fun hc => ?_) (fun hc => ?_)
    · have hf := fm_pF hf hc
      refine lv_aload_n hx hb dX12_present_24 rfl (lv_at hl 0 rfl) ?_
      refine fm_gr hC hI fd_X12_0 fc_96 fr_96_0 q_798 dX12_present_25 ?_
      refine lv_iconst (v := (2 : Int32)) hx hb dX12_present_28 (by decide) ?_
      obtain ⟨hg10, hf⟩ := fm_gE hf
      refine fm_iald hC hI fc_97 fl_97 hg10 dX12_present_29 ?_
      refine lv_bipush (v := (8 : Int32)) hx hb dX12_present_30 (by decide) ?_
      refine lv_icmp_ne (tgt := 41) hx hb dX12_present_32 (by decide) (fun hc => ?_) (fun hc => ?_)
      · have hf := fm_pF hf hc
        refine lv_aload_n hx hb dX12_present_41 rfl (lv_at hl 0 rfl) ?_
        refine lv_iload_n hx hb dX12_present_42 rfl (lv_at hl 1 rfl) ?_
        refine lv_iload_n hx hb dX12_present_43 rfl (lv_at hl 2 rfl) ?_
        obtain ⟨_u11, σ12, hq13, hf⟩ := fm_bE hf
        refine fm_cv hI (fm_runV (As := [.int a1, .int a2]) (rest := []) (rm := { frames := 1, cells := 0, slots := 0, locals := 23 }) hC hI (c_X12_addsPresent hC.2.2.1 hq13) mV_X12_addsPresent q_943 ⟨rfl, rfl⟩ ⟨Nat.le_of_ble_eq_true rfl, Nat.le_of_ble_eq_true rfl⟩ fc_96 rfl (by decide) rfl hl.1 rfl (Nat.le_of_ble_eq_true rfl) dX12_present_44 ⟨Nat.zero_le _, Nat.zero_le _⟩) (fun H locs hI => ?_)
        refine lv_aload_n hx hb dX12_present_47 rfl (lv_at hl 0 rfl) ?_
        refine fm_gr hC hI fd_X12_0 fc_96 fr_96_0 q_798 dX12_present_48 ?_
        refine lv_iconst (v := (2 : Int32)) hx hb dX12_present_51 (by decide) ?_
        obtain ⟨hg14, hf⟩ := fm_gE hf
        refine fm_iald hC hI fc_97 fl_97 hg14 dX12_present_52 ?_
        refine lv_iconst (v := (1 : Int32)) hx hb dX12_present_53 (by decide) ?_
        refine lv_isub hx hb dX12_present_54 ?_
        exact fm_ri hC hI hr hlk hf dX12_present_55
      · have hf := fm_pT hf hc
        refine lv_aload_n hx hb dX12_present_35 rfl (lv_at hl 0 rfl) ?_
        refine lv_iconst (v := (1 : Int32)) hx hb dX12_present_36 (by decide) ?_
        obtain ⟨r15, σ16, hq17, hf⟩ := fm_bE hf
        refine fm_ci hI (fm_runV (As := [.int (1 : Int32)]) (rest := []) (rm := { frames := 0, cells := 0, slots := 0, locals := 0 }) hC hI (c_X12_no hC.2.2.1 hq17) mV_X12_no q_867 ⟨rfl, rfl⟩ ⟨Nat.le_of_ble_eq_true rfl, Nat.le_of_ble_eq_true rfl⟩ fc_96 rfl (by decide) rfl hl.1 rfl (Nat.le_of_ble_eq_true rfl) dX12_present_37 ⟨Nat.zero_le _, Nat.zero_le _⟩) (fun H locs hI => ?_)
        exact fm_ri hC hI hr hlk hf dX12_present_40
    · have hf := fm_pT hf hc
      refine lv_aload_n hx hb dX12_present_18 rfl (lv_at hl 0 rfl) ?_
      refine lv_iconst (v := (0 : Int32)) hx hb dX12_present_19 (by decide) ?_
      obtain ⟨r18, σ19, hq20, hf⟩ := fm_bE hf
      refine fm_ci hI (fm_runV (As := [.int (0 : Int32)]) (rest := []) (rm := { frames := 0, cells := 0, slots := 0, locals := 0 }) hC hI (c_X12_no hC.2.2.1 hq20) mV_X12_no q_867 ⟨rfl, rfl⟩ ⟨Nat.le_of_ble_eq_true rfl, Nat.le_of_ble_eq_true rfl⟩ fc_96 rfl (by decide) rfl hl.1 rfl (Nat.le_of_ble_eq_true rfl) dX12_present_20 ⟨Nat.zero_le _, Nat.zero_le _⟩) (fun H locs hI => ?_)
      exact fm_ri hC hI hr hlk hf dX12_present_23
def m_X12_presentOf (a1 : Int32) (a2 : Int32) (σ : fm_M) : Option (Int32 × fm_M) := fm_b (m_X12_isPresent a1 σ) fun r1 σ2 => (if r1 = 0 then (fm_b (m_X12_no (0 : Int32) σ2) fun r4 σ5 => (some (r4, σ5))) else (fm_b (m_X12_in1 a2 (0 : Int32) (3 : Int32) σ2) fun r7 σ8 => (if r7 = 0 then (fm_b (m_X12_no (0 : Int32) σ8) fun r10 σ11 => (some (r10, σ11))) else (fm_b (m_X12_of1 a1 a2 σ8) fun r13 σ14 => (some (r13, σ14))))))
set_option maxHeartbeats 4000000 in
set_option maxRecDepth 100000 in
theorem c_X12_presentOf {l : Launch} {G : fm_G} (hJ : fm_J G) {a1 : Int32} {a2 : Int32} {σ : fm_M} {o : Int32 × fm_M}  (hf : m_X12_presentOf a1 a2 σ = some o) : Met l yX12_presentOf (fm_w yX12_presentOf cX12_presentOf 3 (some .int)) { frames := 2, cells := 0, slots := 0, locals := 43 } (va_Pc [.ref (G.2.1 96), .int a1, .int a2] (fm_st G σ)) (fm_Qi G o) 0 0 (fm_A G) := by
  refine fm_mth (own := RX12) hJ rfl (by decide +kernel) (Nat.le_of_ble_eq_true rfl) ?_
  intro p e s m below meth c ls hC hr hlk hI hl
  have hx := hC.1.1
  have hb := hC.1.2.1
  have hown := hC.1.2.2.2.1
  have hts := hC.1.2.2.2.2
  have hl : lv_has ls 3 [(0, .ref (G.2.1 96)), (1, .int a1), (2, .int a2)] := hl
  rw [m_X12_presentOf] at hf
  refine lv_aload_n hx hb dX12_presentOf_0 rfl (lv_at hl 0 rfl) ?_
  refine lv_iload_n hx hb dX12_presentOf_1 rfl (lv_at hl 1 rfl) ?_
  obtain ⟨r1, σ2, hq3, hf⟩ := fm_bE hf
  refine fm_ci hI (fm_runV (As := [.int a1]) (rest := []) (rm := { frames := 1, cells := 0, slots := 0, locals := 22 }) hC hI (c_X12_isPresent hC.2.2.1 hq3) mV_X12_isPresent q_904 ⟨rfl, rfl⟩ ⟨Nat.le_of_ble_eq_true rfl, Nat.le_of_ble_eq_true rfl⟩ fc_96 rfl (by decide) rfl hl.1 rfl (Nat.le_of_ble_eq_true rfl) dX12_presentOf_2 ⟨Nat.zero_le _, Nat.zero_le _⟩) (fun H locs hI => ?_)
  refine lv_if_eq (tgt := 26) hx hb dX12_presentOf_5 (by decide) (fun hc => ?_) (fun hc => ?_)
  · have hf := fm_pT hf hc
    refine lv_aload_n hx hb dX12_presentOf_26 rfl (lv_at hl 0 rfl) ?_
    refine lv_iconst (v := (0 : Int32)) hx hb dX12_presentOf_27 (by decide) ?_
    obtain ⟨r4, σ5, hq6, hf⟩ := fm_bE hf
    refine fm_ci hI (fm_runV (As := [.int (0 : Int32)]) (rest := []) (rm := { frames := 0, cells := 0, slots := 0, locals := 0 }) hC hI (c_X12_no hC.2.2.1 hq6) mV_X12_no q_867 ⟨rfl, rfl⟩ ⟨Nat.le_of_ble_eq_true rfl, Nat.le_of_ble_eq_true rfl⟩ fc_96 rfl (by decide) rfl hl.1 rfl (Nat.le_of_ble_eq_true rfl) dX12_presentOf_28 ⟨Nat.zero_le _, Nat.zero_le _⟩) (fun H locs hI => ?_)
    exact fm_ri hC hI hr hlk hf dX12_presentOf_31
  · have hf := fm_pF hf hc
    refine lv_iload_n hx hb dX12_presentOf_8 rfl (lv_at hl 2 rfl) ?_
    refine lv_iconst (v := (0 : Int32)) hx hb dX12_presentOf_9 (by decide) ?_
    refine lv_iconst (v := (3 : Int32)) hx hb dX12_presentOf_10 (by decide) ?_
    obtain ⟨r7, σ8, hq9, hf⟩ := fm_bE hf
    refine fm_ci hI (fm_runS (As := [.int a2, .int (0 : Int32), .int (3 : Int32)]) (rest := []) (rm := { frames := 0, cells := 0, slots := 0, locals := 0 }) hC hI (c_X12_in1 hC.2.2.1 hq9) mS_X12_in1 q_864 ⟨rfl, rfl⟩ ⟨Nat.le_of_ble_eq_true rfl, Nat.le_of_ble_eq_true rfl⟩ rfl hl.1 rfl (Nat.le_of_ble_eq_true rfl) dX12_presentOf_11 ⟨Nat.zero_le _, Nat.zero_le _⟩) (fun H locs hI => ?_)
    refine lv_if_eq (tgt := 26) hx hb dX12_presentOf_14 (by decide) (fun hc => ?_) (fun hc => ?_)
    · have hf := fm_pT hf hc
      refine lv_aload_n hx hb dX12_presentOf_26 rfl (lv_at hl 0 rfl) ?_
      refine lv_iconst (v := (0 : Int32)) hx hb dX12_presentOf_27 (by decide) ?_
      obtain ⟨r10, σ11, hq12, hf⟩ := fm_bE hf
      refine fm_ci hI (fm_runV (As := [.int (0 : Int32)]) (rest := []) (rm := { frames := 0, cells := 0, slots := 0, locals := 0 }) hC hI (c_X12_no hC.2.2.1 hq12) mV_X12_no q_867 ⟨rfl, rfl⟩ ⟨Nat.le_of_ble_eq_true rfl, Nat.le_of_ble_eq_true rfl⟩ fc_96 rfl (by decide) rfl hl.1 rfl (Nat.le_of_ble_eq_true rfl) dX12_presentOf_28 ⟨Nat.zero_le _, Nat.zero_le _⟩) (fun H locs hI => ?_)
      exact fm_ri hC hI hr hlk hf dX12_presentOf_31
    · have hf := fm_pF hf hc
      refine lv_aload_n hx hb dX12_presentOf_17 rfl (lv_at hl 0 rfl) ?_
      refine lv_iload_n hx hb dX12_presentOf_18 rfl (lv_at hl 1 rfl) ?_
      refine lv_iload_n hx hb dX12_presentOf_19 rfl (lv_at hl 2 rfl) ?_
      obtain ⟨r13, σ14, hq15, hf⟩ := fm_bE hf
      refine fm_ci hI (fm_runV (As := [.int a1, .int a2]) (rest := []) (rm := { frames := 0, cells := 0, slots := 0, locals := 0 }) hC hI (c_X12_of1 hC.2.2.1 hq15) mV_X12_of1 q_896 ⟨rfl, rfl⟩ ⟨Nat.le_of_ble_eq_true rfl, Nat.le_of_ble_eq_true rfl⟩ fc_96 rfl (by decide) rfl hl.1 rfl (Nat.le_of_ble_eq_true rfl) dX12_presentOf_20 ⟨Nat.zero_le _, Nat.zero_le _⟩) (fun H locs hI => ?_)
      refine lv_goto (tgt := 31) hx hb dX12_presentOf_23 (by decide) ?_
      exact fm_ri hC hI hr hlk hf dX12_presentOf_31
def m_X12_paper (a1 : Int32) (a2 : Int32) (σ : fm_M) : Option (Int32 × fm_M) := fm_b (m_X12_isPresent a1 σ) fun r1 σ2 => (if r1 = 0 then (fm_b (m_X12_no (0 : Int32) σ2) fun r4 σ5 => (some (r4, σ5))) else (if 0 ≤ a2 then (fm_b (m_X12_of1 a1 (0 : Int32) σ2) fun r7 σ8 => (if r7 ≤ a2 then (fm_b (m_X12_no (3 : Int32) σ8) fun r10 σ11 => (some (r10, σ11))) else (fm_b (m_X12_of1 a1 ((4 : Int32) + a2) σ8) fun r13 σ14 => (some (r13, σ14))))) else (fm_b (m_X12_no (0 : Int32) σ2) fun r16 σ17 => (some (r16, σ17)))))
set_option maxHeartbeats 4000000 in
set_option maxRecDepth 100000 in
theorem c_X12_paper {l : Launch} {G : fm_G} (hJ : fm_J G) {a1 : Int32} {a2 : Int32} {σ : fm_M} {o : Int32 × fm_M}  (hf : m_X12_paper a1 a2 σ = some o) : Met l yX12_paper (fm_w yX12_paper cX12_paper 3 (some .int)) { frames := 2, cells := 0, slots := 0, locals := 43 } (va_Pc [.ref (G.2.1 96), .int a1, .int a2] (fm_st G σ)) (fm_Qi G o) 0 0 (fm_A G) := by
  refine fm_mth (own := RX12) hJ rfl (by decide +kernel) (Nat.le_of_ble_eq_true rfl) ?_
  intro p e s m below meth c ls hC hr hlk hI hl
  have hx := hC.1.1
  have hb := hC.1.2.1
  have hown := hC.1.2.2.2.1
  have hts := hC.1.2.2.2.2
  have hl : lv_has ls 3 [(0, .ref (G.2.1 96)), (1, .int a1), (2, .int a2)] := hl
  rw [m_X12_paper] at hf
  refine lv_aload_n hx hb dX12_paper_0 rfl (lv_at hl 0 rfl) ?_
  refine lv_iload_n hx hb dX12_paper_1 rfl (lv_at hl 1 rfl) ?_
  obtain ⟨r1, σ2, hq3, hf⟩ := fm_bE hf
  refine fm_ci hI (fm_runV (As := [.int a1]) (rest := []) (rm := { frames := 1, cells := 0, slots := 0, locals := 22 }) hC hI (c_X12_isPresent hC.2.2.1 hq3) mV_X12_isPresent q_904 ⟨rfl, rfl⟩ ⟨Nat.le_of_ble_eq_true rfl, Nat.le_of_ble_eq_true rfl⟩ fc_96 rfl (by decide) rfl hl.1 rfl (Nat.le_of_ble_eq_true rfl) dX12_paper_2 ⟨Nat.zero_le _, Nat.zero_le _⟩) (fun H locs hI => ?_)
  refine lv_if_eq (tgt := 12) hx hb dX12_paper_5 (by decide) (fun hc => ?_) (fun hc => ?_)
  · have hf := fm_pT hf hc
    refine lv_aload_n hx hb dX12_paper_12 rfl (lv_at hl 0 rfl) ?_
    refine lv_iconst (v := (0 : Int32)) hx hb dX12_paper_13 (by decide) ?_
    obtain ⟨r4, σ5, hq6, hf⟩ := fm_bE hf
    refine fm_ci hI (fm_runV (As := [.int (0 : Int32)]) (rest := []) (rm := { frames := 0, cells := 0, slots := 0, locals := 0 }) hC hI (c_X12_no hC.2.2.1 hq6) mV_X12_no q_867 ⟨rfl, rfl⟩ ⟨Nat.le_of_ble_eq_true rfl, Nat.le_of_ble_eq_true rfl⟩ fc_96 rfl (by decide) rfl hl.1 rfl (Nat.le_of_ble_eq_true rfl) dX12_paper_14 ⟨Nat.zero_le _, Nat.zero_le _⟩) (fun H locs hI => ?_)
    exact fm_ri hC hI hr hlk hf dX12_paper_17
  · have hf := fm_pF hf hc
    refine lv_iload_n hx hb dX12_paper_8 rfl (lv_at hl 2 rfl) ?_
    refine lv_if_ge (tgt := 18) hx hb dX12_paper_9 (by decide) (fun hc => ?_) (fun hc => ?_)
    · have hf := fm_pT hf hc
      refine lv_iload_n hx hb dX12_paper_18 rfl (lv_at hl 2 rfl) ?_
      refine lv_aload_n hx hb dX12_paper_19 rfl (lv_at hl 0 rfl) ?_
      refine lv_iload_n hx hb dX12_paper_20 rfl (lv_at hl 1 rfl) ?_
      refine lv_iconst (v := (0 : Int32)) hx hb dX12_paper_21 (by decide) ?_
      obtain ⟨r7, σ8, hq9, hf⟩ := fm_bE hf
      refine fm_ci hI (fm_runV (As := [.int a1, .int (0 : Int32)]) (rest := [.int a2]) (rm := { frames := 0, cells := 0, slots := 0, locals := 0 }) hC hI (c_X12_of1 hC.2.2.1 hq9) mV_X12_of1 q_896 ⟨rfl, rfl⟩ ⟨Nat.le_of_ble_eq_true rfl, Nat.le_of_ble_eq_true rfl⟩ fc_96 rfl (by decide) rfl hl.1 rfl (Nat.le_of_ble_eq_true rfl) dX12_paper_22 ⟨Nat.zero_le _, Nat.zero_le _⟩) (fun H locs hI => ?_)
      refine lv_icmp_ge (tgt := 39) hx hb dX12_paper_25 (by decide) (fun hc => ?_) (fun hc => ?_)
      · have hf := fm_pT hf hc
        refine lv_aload_n hx hb dX12_paper_39 rfl (lv_at hl 0 rfl) ?_
        refine lv_iconst (v := (3 : Int32)) hx hb dX12_paper_40 (by decide) ?_
        obtain ⟨r10, σ11, hq12, hf⟩ := fm_bE hf
        refine fm_ci hI (fm_runV (As := [.int (3 : Int32)]) (rest := []) (rm := { frames := 0, cells := 0, slots := 0, locals := 0 }) hC hI (c_X12_no hC.2.2.1 hq12) mV_X12_no q_867 ⟨rfl, rfl⟩ ⟨Nat.le_of_ble_eq_true rfl, Nat.le_of_ble_eq_true rfl⟩ fc_96 rfl (by decide) rfl hl.1 rfl (Nat.le_of_ble_eq_true rfl) dX12_paper_41 ⟨Nat.zero_le _, Nat.zero_le _⟩) (fun H locs hI => ?_)
        exact fm_ri hC hI hr hlk hf dX12_paper_44
      · have hf := fm_pF hf hc
        refine lv_aload_n hx hb dX12_paper_28 rfl (lv_at hl 0 rfl) ?_
        refine lv_iload_n hx hb dX12_paper_29 rfl (lv_at hl 1 rfl) ?_
        refine lv_iconst (v := (4 : Int32)) hx hb dX12_paper_30 (by decide) ?_
        refine lv_iload_n hx hb dX12_paper_31 rfl (lv_at hl 2 rfl) ?_
        refine lv_iadd hx hb dX12_paper_32 ?_
        obtain ⟨r13, σ14, hq15, hf⟩ := fm_bE hf
        refine fm_ci hI (fm_runV (As := [.int a1, .int ((4 : Int32) + a2)]) (rest := []) (rm := { frames := 0, cells := 0, slots := 0, locals := 0 }) hC hI (c_X12_of1 hC.2.2.1 hq15) mV_X12_of1 q_896 ⟨rfl, rfl⟩ ⟨Nat.le_of_ble_eq_true rfl, Nat.le_of_ble_eq_true rfl⟩ fc_96 rfl (by decide) rfl hl.1 rfl (Nat.le_of_ble_eq_true rfl) dX12_paper_33 ⟨Nat.zero_le _, Nat.zero_le _⟩) (fun H locs hI => ?_)
        refine lv_goto (tgt := 44) hx hb dX12_paper_36 (by decide) ?_
        exact fm_ri hC hI hr hlk hf dX12_paper_44
    · have hf := fm_pF hf hc
      refine lv_aload_n hx hb dX12_paper_12 rfl (lv_at hl 0 rfl) ?_
      refine lv_iconst (v := (0 : Int32)) hx hb dX12_paper_13 (by decide) ?_
      obtain ⟨r16, σ17, hq18, hf⟩ := fm_bE hf
      refine fm_ci hI (fm_runV (As := [.int (0 : Int32)]) (rest := []) (rm := { frames := 0, cells := 0, slots := 0, locals := 0 }) hC hI (c_X12_no hC.2.2.1 hq18) mV_X12_no q_867 ⟨rfl, rfl⟩ ⟨Nat.le_of_ble_eq_true rfl, Nat.le_of_ble_eq_true rfl⟩ fc_96 rfl (by decide) rfl hl.1 rfl (Nat.le_of_ble_eq_true rfl) dX12_paper_14 ⟨Nat.zero_le _, Nat.zero_le _⟩) (fun H locs hI => ?_)
      exact fm_ri hC hI hr hlk hf dX12_paper_17
def m_X12_isPaper (a0 : Int32) (σ : fm_M) : Option (Int32 × fm_M) := fm_b (m_X12_in1 a0 (0 : Int32) (3 : Int32) σ) fun r1 σ2 => (fm_g (fm_bz r1) (some (r1, σ2)))
set_option maxHeartbeats 4000000 in
set_option maxRecDepth 100000 in
theorem c_X12_isPaper {l : Launch} {G : fm_G} (hJ : fm_J G) {a0 : Int32} {σ : fm_M} {o : Int32 × fm_M}  (hf : m_X12_isPaper a0 σ = some o) : Met l yX12_isPaper (fm_w yX12_isPaper cX12_isPaper 1 (some .boolean)) { frames := 1, cells := 0, slots := 0, locals := 22 } (va_Pc [.int a0] (fm_st G σ)) (fm_Qi G o) 0 0 (fm_A G) := by
  refine fm_mth (own := RX12) hJ rfl (by decide +kernel) (Nat.le_of_ble_eq_true rfl) ?_
  intro p e s m below meth c ls hC hr hlk hI hl
  have hx := hC.1.1
  have hb := hC.1.2.1
  have hown := hC.1.2.2.2.1
  have hts := hC.1.2.2.2.2
  have hl : lv_has ls 1 [(0, .int a0)] := hl
  rw [m_X12_isPaper] at hf
  refine lv_iload_n hx hb dX12_isPaper_0 rfl (lv_at hl 0 rfl) ?_
  refine lv_iconst (v := (0 : Int32)) hx hb dX12_isPaper_1 (by decide) ?_
  refine lv_iconst (v := (3 : Int32)) hx hb dX12_isPaper_2 (by decide) ?_
  obtain ⟨r1, σ2, hq3, hf⟩ := fm_bE hf
  refine fm_ci hI (fm_runS (As := [.int a0, .int (0 : Int32), .int (3 : Int32)]) (rest := []) (rm := { frames := 0, cells := 0, slots := 0, locals := 0 }) hC hI (c_X12_in1 hC.2.2.1 hq3) mS_X12_in1 q_864 ⟨rfl, rfl⟩ ⟨Nat.le_of_ble_eq_true rfl, Nat.le_of_ble_eq_true rfl⟩ rfl hl.1 rfl (Nat.le_of_ble_eq_true rfl) dX12_isPaper_3 ⟨Nat.zero_le _, Nat.zero_le _⟩) (fun H locs hI => ?_)
  obtain ⟨hg4, hf⟩ := fm_gE hf
  exact fm_rz hC hI hr hlk hg4 hf dX12_isPaper_6
def m_X12_whyNoLayer (a1 : Int32) (σ : fm_M) : Option (Int32 × fm_M) := fm_b (m_X12_of1 a1 (0 : Int32) σ) fun r1 σ2 => (if r1 = (6 : Int32) then (some ((1 : Int32), σ2)) else (fm_b (m_X12_of1 a1 (3 : Int32) σ2) fun r4 σ5 => (if r4 = (1 : Int32) then (some ((4 : Int32), σ5)) else (some ((-1 : Int32), σ5)))))
set_option maxHeartbeats 4000000 in
set_option maxRecDepth 100000 in
theorem c_X12_whyNoLayer {l : Launch} {G : fm_G} (hJ : fm_J G) {a1 : Int32} {σ : fm_M} {o : Int32 × fm_M}  (hf : m_X12_whyNoLayer a1 σ = some o) : Met l yX12_whyNoLayer (fm_w yX12_whyNoLayer cX12_whyNoLayer 2 (some .int)) { frames := 1, cells := 0, slots := 0, locals := 22 } (va_Pc [.ref (G.2.1 96), .int a1] (fm_st G σ)) (fm_Qi G o) 0 0 (fm_A G) := by
  refine fm_mth (own := RX12) hJ rfl (by decide +kernel) (Nat.le_of_ble_eq_true rfl) ?_
  intro p e s m below meth c ls hC hr hlk hI hl
  have hx := hC.1.1
  have hb := hC.1.2.1
  have hown := hC.1.2.2.2.1
  have hts := hC.1.2.2.2.2
  have hl : lv_has ls 2 [(0, .ref (G.2.1 96)), (1, .int a1)] := hl
  rw [m_X12_whyNoLayer] at hf
  refine lv_aload_n hx hb dX12_whyNoLayer_0 rfl (lv_at hl 0 rfl) ?_
  refine lv_iload_n hx hb dX12_whyNoLayer_1 rfl (lv_at hl 1 rfl) ?_
  refine lv_iconst (v := (0 : Int32)) hx hb dX12_whyNoLayer_2 (by decide) ?_
  obtain ⟨r1, σ2, hq3, hf⟩ := fm_bE hf
  refine fm_ci hI (fm_runV (As := [.int a1, .int (0 : Int32)]) (rest := []) (rm := { frames := 0, cells := 0, slots := 0, locals := 0 }) hC hI (c_X12_of1 hC.2.2.1 hq3) mV_X12_of1 q_896 ⟨rfl, rfl⟩ ⟨Nat.le_of_ble_eq_true rfl, Nat.le_of_ble_eq_true rfl⟩ fc_96 rfl (by decide) rfl hl.1 rfl (Nat.le_of_ble_eq_true rfl) dX12_whyNoLayer_3 ⟨Nat.zero_le _, Nat.zero_le _⟩) (fun H locs hI => ?_)
  refine lv_bipush (v := (6 : Int32)) hx hb dX12_whyNoLayer_6 (by decide) ?_
  refine lv_icmp_ne (tgt := 15) hx hb dX12_whyNoLayer_8 (by decide) (fun hc => ?_) (fun hc => ?_)
  · have hf := fm_pF hf hc
    refine lv_aload_n hx hb dX12_whyNoLayer_15 rfl (lv_at hl 0 rfl) ?_
    refine lv_iload_n hx hb dX12_whyNoLayer_16 rfl (lv_at hl 1 rfl) ?_
    refine lv_iconst (v := (3 : Int32)) hx hb dX12_whyNoLayer_17 (by decide) ?_
    obtain ⟨r4, σ5, hq6, hf⟩ := fm_bE hf
    refine fm_ci hI (fm_runV (As := [.int a1, .int (3 : Int32)]) (rest := []) (rm := { frames := 0, cells := 0, slots := 0, locals := 0 }) hC hI (c_X12_of1 hC.2.2.1 hq6) mV_X12_of1 q_896 ⟨rfl, rfl⟩ ⟨Nat.le_of_ble_eq_true rfl, Nat.le_of_ble_eq_true rfl⟩ fc_96 rfl (by decide) rfl hl.1 rfl (Nat.le_of_ble_eq_true rfl) dX12_whyNoLayer_18 ⟨Nat.zero_le _, Nat.zero_le _⟩) (fun H locs hI => ?_)
    refine lv_iconst (v := (1 : Int32)) hx hb dX12_whyNoLayer_21 (by decide) ?_
    refine lv_icmp_ne (tgt := 29) hx hb dX12_whyNoLayer_22 (by decide) (fun hc => ?_) (fun hc => ?_)
    · have hf := fm_pF hf hc
      refine lv_iconst (v := (-1 : Int32)) hx hb dX12_whyNoLayer_29 (by decide) ?_
      exact fm_ri hC hI hr hlk hf dX12_whyNoLayer_30
    · have hf := fm_pT hf hc
      refine lv_iconst (v := (4 : Int32)) hx hb dX12_whyNoLayer_25 (by decide) ?_
      refine lv_goto (tgt := 30) hx hb dX12_whyNoLayer_26 (by decide) ?_
      exact fm_ri hC hI hr hlk hf dX12_whyNoLayer_30
  · have hf := fm_pT hf hc
    refine lv_iconst (v := (1 : Int32)) hx hb dX12_whyNoLayer_11 (by decide) ?_
    refine lv_goto (tgt := 30) hx hb dX12_whyNoLayer_12 (by decide) ?_
    exact fm_ri hC hI hr hlk hf dX12_whyNoLayer_30
def m_X12_wrap (a1 : Int32) (a2 : Int32) (σ : fm_M) : Option (Int32 × fm_M) := fm_b (m_X12_isPresent a1 σ) fun r1 σ2 => (fm_j (fun (v0_J4 : Int32) (σ_J4 : fm_M) => if v0_J4 < 0 then (fm_b (m_X12_addsLayer a1 a2 σ_J4) fun _u5 σ6 => (fm_b (m_X12_of1 a1 (0 : Int32) σ6) fun r8 σ9 => (some (r8, σ9)))) else (fm_b (m_X12_no v0_J4 σ_J4) fun r11 σ12 => (some (r11, σ12)))) (fun J4 => if r1 = 0 then (J4 (0 : Int32) σ2) else (fm_b (m_X12_isPaper a2 σ2) fun r14 σ15 => (if r14 = 0 then (J4 (0 : Int32) σ15) else (fm_b (m_X12_whyNoLayer a1 σ15) fun r17 σ18 => (J4 r17 σ18))))))
set_option maxHeartbeats 4000000 in
set_option maxRecDepth 100000 in
theorem c_X12_wrap {l : Launch} {G : fm_G} (hJ : fm_J G) {a1 : Int32} {a2 : Int32} {σ : fm_M} {o : Int32 × fm_M}  (hf : m_X12_wrap a1 a2 σ = some o) : Met l yX12_wrap (fm_w yX12_wrap cX12_wrap 4 (some .int)) { frames := 2, cells := 0, slots := 0, locals := 46 } (va_Pc [.ref (G.2.1 96), .int a1, .int a2] (fm_st G σ)) (fm_Qi G o) 0 0 (fm_A G) := by
  refine fm_mth (own := RX12) hJ rfl (by decide +kernel) (Nat.le_of_ble_eq_true rfl) ?_
  intro p e s m below meth c ls hC hr hlk hI hl
  have hx := hC.1.1
  have hb := hC.1.2.1
  have hown := hC.1.2.2.2.1
  have hts := hC.1.2.2.2.2
  have hl : lv_has ls 4 [(0, .ref (G.2.1 96)), (1, .int a1), (2, .int a2)] := hl
  rw [m_X12_wrap] at hf
  refine lv_aload_n hx hb dX12_wrap_0 rfl (lv_at hl 0 rfl) ?_
  refine lv_iload_n hx hb dX12_wrap_1 rfl (lv_at hl 1 rfl) ?_
  obtain ⟨r1, σ2, hq3, hf⟩ := fm_bE hf
  refine fm_ci hI (fm_runV (As := [.int a1]) (rest := []) (rm := { frames := 1, cells := 0, slots := 0, locals := 22 }) hC hI (c_X12_isPresent hC.2.2.1 hq3) mV_X12_isPresent q_904 ⟨rfl, rfl⟩ ⟨Nat.le_of_ble_eq_true rfl, Nat.le_of_ble_eq_true rfl⟩ fc_96 rfl (by decide) rfl hl.1 rfl (Nat.le_of_ble_eq_true rfl) dX12_wrap_2 ⟨Nat.zero_le _, Nat.zero_le _⟩) (fun H locs hI => ?_)
  obtain ⟨J4, eJ4, hf⟩ := fm_jE hf
  have hJ4 : ∀ (v0_J4 : Int32) (σ_J4 : fm_M) (H : Heap) (locs : List Loc) (ls : Array Slot), fm_I G σ_J4 s H locs → lv_has ls 4 [(0, .ref (G.2.1 96)), (1, .int a1), (2, .int a2)] → J4 v0_J4 σ_J4 = some o → W p l e { frames := 2, cells := 0, slots := 0, locals := 46 } s m ([.ref (G.2.1 96), .int a1, .int a2] : List Value).toArray below meth c H locs 0 0 (MQ below (fm_Qi G o) ([.ref (G.2.1 96), .int a1, .int a2] : List Value).toArray s 0 0 (fm_A G)) (F0 m 24 ls [.int v0_J4]) := by
    intro v0_J4 σ_J4 H locs ls hI hl hf
    subst eJ4
    refine lv_istore_n (lv' := [(3, .int v0_J4), (0, .ref (G.2.1 96)), (1, .int a1), (2, .int a2)]) hx hb dX12_wrap_24 rfl hl (Nat.le_of_ble_eq_true rfl) rfl (fun ls hl => ?_)
    refine lv_iload_n hx hb dX12_wrap_25 rfl (lv_at hl 0 rfl) ?_
    refine lv_if_lt (tgt := 35) hx hb dX12_wrap_26 (by decide) (fun hc => ?_) (fun hc => ?_)
    · have hf := fm_pT hf hc
      refine lv_aload_n hx hb dX12_wrap_35 rfl (lv_at hl 1 rfl) ?_
      refine lv_iload_n hx hb dX12_wrap_36 rfl (lv_at hl 2 rfl) ?_
      refine lv_iload_n hx hb dX12_wrap_37 rfl (lv_at hl 3 rfl) ?_
      obtain ⟨_u5, σ6, hq7, hf⟩ := fm_bE hf
      refine fm_cv hI (fm_runV (As := [.int a1, .int a2]) (rest := []) (rm := { frames := 1, cells := 0, slots := 0, locals := 23 }) hC hI (c_X12_addsLayer hC.2.2.1 hq7) mV_X12_addsLayer q_970 ⟨rfl, rfl⟩ ⟨Nat.le_of_ble_eq_true rfl, Nat.le_of_ble_eq_true rfl⟩ fc_96 rfl (by decide) rfl hl.1 rfl (Nat.le_of_ble_eq_true rfl) dX12_wrap_38 ⟨Nat.zero_le _, Nat.zero_le _⟩) (fun H locs hI => ?_)
      refine lv_aload_n hx hb dX12_wrap_41 rfl (lv_at hl 1 rfl) ?_
      refine lv_iload_n hx hb dX12_wrap_42 rfl (lv_at hl 2 rfl) ?_
      refine lv_iconst (v := (0 : Int32)) hx hb dX12_wrap_43 (by decide) ?_
      obtain ⟨r8, σ9, hq10, hf⟩ := fm_bE hf
      refine fm_ci hI (fm_runV (As := [.int a1, .int (0 : Int32)]) (rest := []) (rm := { frames := 0, cells := 0, slots := 0, locals := 0 }) hC hI (c_X12_of1 hC.2.2.1 hq10) mV_X12_of1 q_896 ⟨rfl, rfl⟩ ⟨Nat.le_of_ble_eq_true rfl, Nat.le_of_ble_eq_true rfl⟩ fc_96 rfl (by decide) rfl hl.1 rfl (Nat.le_of_ble_eq_true rfl) dX12_wrap_44 ⟨Nat.zero_le _, Nat.zero_le _⟩) (fun H locs hI => ?_)
      exact fm_ri hC hI hr hlk hf dX12_wrap_47
    · have hf := fm_pF hf hc
      refine lv_aload_n hx hb dX12_wrap_29 rfl (lv_at hl 1 rfl) ?_
      refine lv_iload_n hx hb dX12_wrap_30 rfl (lv_at hl 0 rfl) ?_
      obtain ⟨r11, σ12, hq13, hf⟩ := fm_bE hf
      refine fm_ci hI (fm_runV (As := [.int v0_J4]) (rest := []) (rm := { frames := 0, cells := 0, slots := 0, locals := 0 }) hC hI (c_X12_no hC.2.2.1 hq13) mV_X12_no q_867 ⟨rfl, rfl⟩ ⟨Nat.le_of_ble_eq_true rfl, Nat.le_of_ble_eq_true rfl⟩ fc_96 rfl (by decide) rfl hl.1 rfl (Nat.le_of_ble_eq_true rfl) dX12_wrap_31 ⟨Nat.zero_le _, Nat.zero_le _⟩) (fun H locs hI => ?_)
      exact fm_ri hC hI hr hlk hf dX12_wrap_34
  refine lv_if_eq (tgt := 23) hx hb dX12_wrap_5 (by decide) (fun hc => ?_) (fun hc => ?_)
  · have hf := fm_pT hf hc
    refine lv_iconst (v := (0 : Int32)) hx hb dX12_wrap_23 (by decide) ?_
    exact hJ4 (0 : Int32) σ2 _ _ _ hI (lv_sub hl [0, 1, 2] rfl) hf
  · have hf := fm_pF hf hc
    refine lv_iload_n hx hb dX12_wrap_8 rfl (lv_at hl 2 rfl) ?_
    obtain ⟨r14, σ15, hq16, hf⟩ := fm_bE hf
    refine fm_ci hI (fm_runS (As := [.int a2]) (rest := []) (rm := { frames := 1, cells := 0, slots := 0, locals := 22 }) hC hI (c_X12_isPaper hC.2.2.1 hq16) mS_X12_isPaper q_963 ⟨rfl, rfl⟩ ⟨Nat.le_of_ble_eq_true rfl, Nat.le_of_ble_eq_true rfl⟩ rfl hl.1 rfl (Nat.le_of_ble_eq_true rfl) dX12_wrap_9 ⟨Nat.zero_le _, Nat.zero_le _⟩) (fun H locs hI => ?_)
    refine lv_if_eq (tgt := 23) hx hb dX12_wrap_12 (by decide) (fun hc => ?_) (fun hc => ?_)
    · have hf := fm_pT hf hc
      refine lv_iconst (v := (0 : Int32)) hx hb dX12_wrap_23 (by decide) ?_
      exact hJ4 (0 : Int32) σ15 _ _ _ hI (lv_sub hl [0, 1, 2] rfl) hf
    · have hf := fm_pF hf hc
      refine lv_aload_n hx hb dX12_wrap_15 rfl (lv_at hl 0 rfl) ?_
      refine lv_iload_n hx hb dX12_wrap_16 rfl (lv_at hl 1 rfl) ?_
      obtain ⟨r17, σ18, hq19, hf⟩ := fm_bE hf
      refine fm_ci hI (fm_runV (As := [.int a1]) (rest := []) (rm := { frames := 1, cells := 0, slots := 0, locals := 22 }) hC hI (c_X12_whyNoLayer hC.2.2.1 hq19) mV_X12_whyNoLayer q_966 ⟨rfl, rfl⟩ ⟨Nat.le_of_ble_eq_true rfl, Nat.le_of_ble_eq_true rfl⟩ fc_96 rfl (by decide) rfl hl.1 rfl (Nat.le_of_ble_eq_true rfl) dX12_wrap_17 ⟨Nat.zero_le _, Nat.zero_le _⟩) (fun H locs hI => ?_)
      refine lv_goto (tgt := 24) hx hb dX12_wrap_20 (by decide) ?_
      exact hJ4 r17 σ18 _ _ _ hI (lv_sub hl [0, 1, 2] rfl) hf
def m_X12_unwrap (a1 : Int32) (σ : fm_M) : Option (Int32 × fm_M) := fm_b (m_X12_isPresent a1 σ) fun r1 σ2 => (if r1 = 0 then (fm_b (m_X12_no (0 : Int32) σ2) fun r13 σ14 => (some (r13, σ14))) else (fm_b (m_X12_of1 a1 (0 : Int32) σ2) fun r4 σ5 => (if r4 = 0 then (fm_b (m_X12_no (3 : Int32) σ5) fun r10 σ11 => (some (r10, σ11))) else (fm_b (m_X12_takesLayer a1 σ5) fun r7 σ8 => (some (r7, σ8))))))
set_option maxHeartbeats 4000000 in
set_option maxRecDepth 100000 in
theorem c_X12_unwrap {l : Launch} {G : fm_G} (hJ : fm_J G) {a1 : Int32} {σ : fm_M} {o : Int32 × fm_M}  (hf : m_X12_unwrap a1 σ = some o) : Met l yX12_unwrap (fm_w yX12_unwrap cX12_unwrap 2 (some .int)) { frames := 2, cells := 0, slots := 0, locals := 46 } (va_Pc [.ref (G.2.1 96), .int a1] (fm_st G σ)) (fm_Qi G o) 0 0 (fm_A G) := by
  refine fm_mth (own := RX12) hJ rfl (by decide +kernel) (Nat.le_of_ble_eq_true rfl) ?_
  intro p e s m below meth c ls hC hr hlk hI hl
  have hx := hC.1.1
  have hb := hC.1.2.1
  have hown := hC.1.2.2.2.1
  have hts := hC.1.2.2.2.2
  have hl : lv_has ls 2 [(0, .ref (G.2.1 96)), (1, .int a1)] := hl
  rw [m_X12_unwrap] at hf
  refine lv_aload_n hx hb dX12_unwrap_0 rfl (lv_at hl 0 rfl) ?_
  refine lv_iload_n hx hb dX12_unwrap_1 rfl (lv_at hl 1 rfl) ?_
  obtain ⟨r1, σ2, hq3, hf⟩ := fm_bE hf
  refine fm_ci hI (fm_runV (As := [.int a1]) (rest := []) (rm := { frames := 1, cells := 0, slots := 0, locals := 22 }) hC hI (c_X12_isPresent hC.2.2.1 hq3) mV_X12_isPresent q_904 ⟨rfl, rfl⟩ ⟨Nat.le_of_ble_eq_true rfl, Nat.le_of_ble_eq_true rfl⟩ fc_96 rfl (by decide) rfl hl.1 rfl (Nat.le_of_ble_eq_true rfl) dX12_unwrap_2 ⟨Nat.zero_le _, Nat.zero_le _⟩) (fun H locs hI => ?_)
  refine lv_if_ne (tgt := 14) hx hb dX12_unwrap_5 (by decide) (fun hc => ?_) (fun hc => ?_)
  · have hf := fm_pF hf hc
    refine lv_aload_n hx hb dX12_unwrap_14 rfl (lv_at hl 0 rfl) ?_
    refine lv_iload_n hx hb dX12_unwrap_15 rfl (lv_at hl 1 rfl) ?_
    refine lv_iconst (v := (0 : Int32)) hx hb dX12_unwrap_16 (by decide) ?_
    obtain ⟨r4, σ5, hq6, hf⟩ := fm_bE hf
    refine fm_ci hI (fm_runV (As := [.int a1, .int (0 : Int32)]) (rest := []) (rm := { frames := 0, cells := 0, slots := 0, locals := 0 }) hC hI (c_X12_of1 hC.2.2.1 hq6) mV_X12_of1 q_896 ⟨rfl, rfl⟩ ⟨Nat.le_of_ble_eq_true rfl, Nat.le_of_ble_eq_true rfl⟩ fc_96 rfl (by decide) rfl hl.1 rfl (Nat.le_of_ble_eq_true rfl) dX12_unwrap_17 ⟨Nat.zero_le _, Nat.zero_le _⟩) (fun H locs hI => ?_)
    refine lv_if_ne (tgt := 31) hx hb dX12_unwrap_20 (by decide) (fun hc => ?_) (fun hc => ?_)
    · have hf := fm_pF hf hc
      refine lv_aload_n hx hb dX12_unwrap_31 rfl (lv_at hl 0 rfl) ?_
      refine lv_iload_n hx hb dX12_unwrap_32 rfl (lv_at hl 1 rfl) ?_
      obtain ⟨r7, σ8, hq9, hf⟩ := fm_bE hf
      refine fm_ci hI (fm_runV (As := [.int a1]) (rest := []) (rm := { frames := 1, cells := 0, slots := 0, locals := 23 }) hC hI (c_X12_takesLayer hC.2.2.1 hq9) mV_X12_takesLayer q_978 ⟨rfl, rfl⟩ ⟨Nat.le_of_ble_eq_true rfl, Nat.le_of_ble_eq_true rfl⟩ fc_96 rfl (by decide) rfl hl.1 rfl (Nat.le_of_ble_eq_true rfl) dX12_unwrap_33 ⟨Nat.zero_le _, Nat.zero_le _⟩) (fun H locs hI => ?_)
      exact fm_ri hC hI hr hlk hf dX12_unwrap_36
    · have hf := fm_pT hf hc
      refine lv_aload_n hx hb dX12_unwrap_23 rfl (lv_at hl 0 rfl) ?_
      refine lv_iconst (v := (3 : Int32)) hx hb dX12_unwrap_24 (by decide) ?_
      obtain ⟨r10, σ11, hq12, hf⟩ := fm_bE hf
      refine fm_ci hI (fm_runV (As := [.int (3 : Int32)]) (rest := []) (rm := { frames := 0, cells := 0, slots := 0, locals := 0 }) hC hI (c_X12_no hC.2.2.1 hq12) mV_X12_no q_867 ⟨rfl, rfl⟩ ⟨Nat.le_of_ble_eq_true rfl, Nat.le_of_ble_eq_true rfl⟩ fc_96 rfl (by decide) rfl hl.1 rfl (Nat.le_of_ble_eq_true rfl) dX12_unwrap_25 ⟨Nat.zero_le _, Nat.zero_le _⟩) (fun H locs hI => ?_)
      refine lv_goto (tgt := 36) hx hb dX12_unwrap_28 (by decide) ?_
      exact fm_ri hC hI hr hlk hf dX12_unwrap_36
  · have hf := fm_pT hf hc
    refine lv_aload_n hx hb dX12_unwrap_8 rfl (lv_at hl 0 rfl) ?_
    refine lv_iconst (v := (0 : Int32)) hx hb dX12_unwrap_9 (by decide) ?_
    obtain ⟨r13, σ14, hq15, hf⟩ := fm_bE hf
    refine fm_ci hI (fm_runV (As := [.int (0 : Int32)]) (rest := []) (rm := { frames := 0, cells := 0, slots := 0, locals := 0 }) hC hI (c_X12_no hC.2.2.1 hq15) mV_X12_no q_867 ⟨rfl, rfl⟩ ⟨Nat.le_of_ble_eq_true rfl, Nat.le_of_ble_eq_true rfl⟩ fc_96 rfl (by decide) rfl hl.1 rfl (Nat.le_of_ble_eq_true rfl) dX12_unwrap_10 ⟨Nat.zero_le _, Nat.zero_le _⟩) (fun H locs hI => ?_)
    exact fm_ri hC hI hr hlk hf dX12_unwrap_13
def m_X12_set (a1 : Int32) (a2 : Int32) (a3 : Int32) (σ : fm_M) : Option (Int32 × fm_M) := fm_b (m_X12_isPresent a1 σ) fun r1 σ2 => (if r1 = 0 then (fm_b (m_X12_no (0 : Int32) σ2) fun r4 σ5 => (some (r4, σ5))) else (fm_b (m_X12_in1 a2 (1 : Int32) (2 : Int32) σ2) fun r7 σ8 => (if r7 = 0 then (fm_b (m_X12_no (0 : Int32) σ8) fun r10 σ11 => (some (r10, σ11))) else (fm_j (fun (v0_J13 : Int32) (σ_J13 : fm_M) => fm_b (m_X12_in1 a3 (0 : Int32) v0_J13 σ_J13) fun r14 σ15 => (if r14 = 0 then (fm_b (m_X12_no (0 : Int32) σ15) fun r23 σ24 => (some (r23, σ24))) else (fm_b (m_X12_of1 a1 a2 σ15) fun r17 σ18 => (fm_b (m_X12_lays1 a1 a2 a3 σ18) fun _u20 σ21 => (some (r17, σ21)))))) (fun J13 => if a2 = (1 : Int32) then (J13 (99 : Int32) σ8) else (fm_g (fm_in1 (1 : Int32) 96) (J13 ((σ8.1 97 (1 : Int32).toNatClampNeg) - (1 : Int32)) σ8)))))))
set_option maxHeartbeats 4000000 in
set_option maxRecDepth 100000 in
theorem c_X12_set {l : Launch} {G : fm_G} (hJ : fm_J G) {a1 : Int32} {a2 : Int32} {a3 : Int32} {σ : fm_M} {o : Int32 × fm_M}  (hf : m_X12_set a1 a2 a3 σ = some o) : Met l yX12_set (fm_w yX12_set cX12_set 5 (some .int)) { frames := 2, cells := 0, slots := 0, locals := 43 } (va_Pc [.ref (G.2.1 96), .int a1, .int a2, .int a3] (fm_st G σ)) (fm_Qi G o) 0 0 (fm_A G) := by
  refine fm_mth (own := RX12) hJ rfl (by decide +kernel) (Nat.le_of_ble_eq_true rfl) ?_
  intro p e s m below meth c ls hC hr hlk hI hl
  have hx := hC.1.1
  have hb := hC.1.2.1
  have hown := hC.1.2.2.2.1
  have hts := hC.1.2.2.2.2
  have hl : lv_has ls 5 [(0, .ref (G.2.1 96)), (1, .int a1), (2, .int a2), (3, .int a3)] := hl
  rw [m_X12_set] at hf
  refine lv_aload_n hx hb dX12_set_0 rfl (lv_at hl 0 rfl) ?_
  refine lv_iload_n hx hb dX12_set_1 rfl (lv_at hl 1 rfl) ?_
  obtain ⟨r1, σ2, hq3, hf⟩ := fm_bE hf
  refine fm_ci hI (fm_runV (As := [.int a1]) (rest := []) (rm := { frames := 1, cells := 0, slots := 0, locals := 22 }) hC hI (c_X12_isPresent hC.2.2.1 hq3) mV_X12_isPresent q_904 ⟨rfl, rfl⟩ ⟨Nat.le_of_ble_eq_true rfl, Nat.le_of_ble_eq_true rfl⟩ fc_96 rfl (by decide) rfl hl.1 rfl (Nat.le_of_ble_eq_true rfl) dX12_set_2 ⟨Nat.zero_le _, Nat.zero_le _⟩) (fun H locs hI => ?_)
  refine lv_if_eq (tgt := 43) hx hb dX12_set_5 (by decide) (fun hc => ?_) (fun hc => ?_)
  · have hf := fm_pT hf hc
    refine lv_aload_n hx hb dX12_set_43 rfl (lv_at hl 0 rfl) ?_
    refine lv_iconst (v := (0 : Int32)) hx hb dX12_set_44 (by decide) ?_
    obtain ⟨r4, σ5, hq6, hf⟩ := fm_bE hf
    refine fm_ci hI (fm_runV (As := [.int (0 : Int32)]) (rest := []) (rm := { frames := 0, cells := 0, slots := 0, locals := 0 }) hC hI (c_X12_no hC.2.2.1 hq6) mV_X12_no q_867 ⟨rfl, rfl⟩ ⟨Nat.le_of_ble_eq_true rfl, Nat.le_of_ble_eq_true rfl⟩ fc_96 rfl (by decide) rfl hl.1 rfl (Nat.le_of_ble_eq_true rfl) dX12_set_45 ⟨Nat.zero_le _, Nat.zero_le _⟩) (fun H locs hI => ?_)
    exact fm_ri hC hI hr hlk hf dX12_set_48
  · have hf := fm_pF hf hc
    refine lv_iload_n hx hb dX12_set_8 rfl (lv_at hl 2 rfl) ?_
    refine lv_iconst (v := (1 : Int32)) hx hb dX12_set_9 (by decide) ?_
    refine lv_iconst (v := (2 : Int32)) hx hb dX12_set_10 (by decide) ?_
    obtain ⟨r7, σ8, hq9, hf⟩ := fm_bE hf
    refine fm_ci hI (fm_runS (As := [.int a2, .int (1 : Int32), .int (2 : Int32)]) (rest := []) (rm := { frames := 0, cells := 0, slots := 0, locals := 0 }) hC hI (c_X12_in1 hC.2.2.1 hq9) mS_X12_in1 q_864 ⟨rfl, rfl⟩ ⟨Nat.le_of_ble_eq_true rfl, Nat.le_of_ble_eq_true rfl⟩ rfl hl.1 rfl (Nat.le_of_ble_eq_true rfl) dX12_set_11 ⟨Nat.zero_le _, Nat.zero_le _⟩) (fun H locs hI => ?_)
    refine lv_if_eq (tgt := 43) hx hb dX12_set_14 (by decide) (fun hc => ?_) (fun hc => ?_)
    · have hf := fm_pT hf hc
      refine lv_aload_n hx hb dX12_set_43 rfl (lv_at hl 0 rfl) ?_
      refine lv_iconst (v := (0 : Int32)) hx hb dX12_set_44 (by decide) ?_
      obtain ⟨r10, σ11, hq12, hf⟩ := fm_bE hf
      refine fm_ci hI (fm_runV (As := [.int (0 : Int32)]) (rest := []) (rm := { frames := 0, cells := 0, slots := 0, locals := 0 }) hC hI (c_X12_no hC.2.2.1 hq12) mV_X12_no q_867 ⟨rfl, rfl⟩ ⟨Nat.le_of_ble_eq_true rfl, Nat.le_of_ble_eq_true rfl⟩ fc_96 rfl (by decide) rfl hl.1 rfl (Nat.le_of_ble_eq_true rfl) dX12_set_45 ⟨Nat.zero_le _, Nat.zero_le _⟩) (fun H locs hI => ?_)
      exact fm_ri hC hI hr hlk hf dX12_set_48
    · have hf := fm_pF hf hc
      refine lv_iload_n hx hb dX12_set_17 rfl (lv_at hl 3 rfl) ?_
      refine lv_iconst (v := (0 : Int32)) hx hb dX12_set_18 (by decide) ?_
      refine lv_iload_n hx hb dX12_set_19 rfl (lv_at hl 2 rfl) ?_
      refine lv_iconst (v := (1 : Int32)) hx hb dX12_set_20 (by decide) ?_
      obtain ⟨J13, eJ13, hf⟩ := fm_jE hf
      have hJ13 : ∀ (v0_J13 : Int32) (σ_J13 : fm_M) (H : Heap) (locs : List Loc) (ls : Array Slot), fm_I G σ_J13 s H locs → lv_has ls 5 [(0, .ref (G.2.1 96)), (1, .int a1), (2, .int a2), (3, .int a3)] → J13 v0_J13 σ_J13 = some o → W p l e { frames := 2, cells := 0, slots := 0, locals := 43 } s m ([.ref (G.2.1 96), .int a1, .int a2, .int a3] : List Value).toArray below meth c H locs 0 0 (MQ below (fm_Qi G o) ([.ref (G.2.1 96), .int a1, .int a2, .int a3] : List Value).toArray s 0 0 (fm_A G)) (F0 m 37 ls [.int v0_J13, .int (0 : Int32), .int a3]) := by
        intro v0_J13 σ_J13 H locs ls hI hl hf
        subst eJ13
        obtain ⟨r14, σ15, hq16, hf⟩ := fm_bE hf
        refine fm_ci hI (fm_runS (As := [.int a3, .int (0 : Int32), .int v0_J13]) (rest := []) (rm := { frames := 0, cells := 0, slots := 0, locals := 0 }) hC hI (c_X12_in1 hC.2.2.1 hq16) mS_X12_in1 q_864 ⟨rfl, rfl⟩ ⟨Nat.le_of_ble_eq_true rfl, Nat.le_of_ble_eq_true rfl⟩ rfl hl.1 rfl (Nat.le_of_ble_eq_true rfl) dX12_set_37 ⟨Nat.zero_le _, Nat.zero_le _⟩) (fun H locs hI => ?_)
        refine lv_if_ne (tgt := 49) hx hb dX12_set_40 (by decide) (fun hc => ?_) (fun hc => ?_)
        · have hf := fm_pF hf hc
          refine lv_aload_n hx hb dX12_set_49 rfl (lv_at hl 0 rfl) ?_
          refine lv_iload_n hx hb dX12_set_50 rfl (lv_at hl 1 rfl) ?_
          refine lv_iload_n hx hb dX12_set_51 rfl (lv_at hl 2 rfl) ?_
          obtain ⟨r17, σ18, hq19, hf⟩ := fm_bE hf
          refine fm_ci hI (fm_runV (As := [.int a1, .int a2]) (rest := []) (rm := { frames := 0, cells := 0, slots := 0, locals := 0 }) hC hI (c_X12_of1 hC.2.2.1 hq19) mV_X12_of1 q_896 ⟨rfl, rfl⟩ ⟨Nat.le_of_ble_eq_true rfl, Nat.le_of_ble_eq_true rfl⟩ fc_96 rfl (by decide) rfl hl.1 rfl (Nat.le_of_ble_eq_true rfl) dX12_set_52 ⟨Nat.zero_le _, Nat.zero_le _⟩) (fun H locs hI => ?_)
          refine lv_istore (lv' := [(4, .int r17), (0, .ref (G.2.1 96)), (1, .int a1), (2, .int a2), (3, .int a3)]) hx hb dX12_set_55 hl (Nat.le_of_ble_eq_true rfl) rfl (fun ls hl => ?_)
          refine lv_aload_n hx hb dX12_set_57 rfl (lv_at hl 1 rfl) ?_
          refine lv_iload_n hx hb dX12_set_58 rfl (lv_at hl 2 rfl) ?_
          refine lv_iload_n hx hb dX12_set_59 rfl (lv_at hl 3 rfl) ?_
          refine lv_iload_n hx hb dX12_set_60 rfl (lv_at hl 4 rfl) ?_
          obtain ⟨_u20, σ21, hq22, hf⟩ := fm_bE hf
          refine fm_cv hI (fm_runV (As := [.int a1, .int a2, .int a3]) (rest := []) (rm := { frames := 0, cells := 0, slots := 0, locals := 0 }) hC hI (c_X12_lays1 hC.2.2.1 hq22) mV_X12_lays1 q_947 ⟨rfl, rfl⟩ ⟨Nat.le_of_ble_eq_true rfl, Nat.le_of_ble_eq_true rfl⟩ fc_96 rfl (by decide) rfl hl.1 rfl (Nat.le_of_ble_eq_true rfl) dX12_set_61 ⟨Nat.zero_le _, Nat.zero_le _⟩) (fun H locs hI => ?_)
          refine lv_iload hx hb dX12_set_64 (lv_at hl 0 rfl) ?_
          exact fm_ri hC hI hr hlk hf dX12_set_66
        · have hf := fm_pT hf hc
          refine lv_aload_n hx hb dX12_set_43 rfl (lv_at hl 0 rfl) ?_
          refine lv_iconst (v := (0 : Int32)) hx hb dX12_set_44 (by decide) ?_
          obtain ⟨r23, σ24, hq25, hf⟩ := fm_bE hf
          refine fm_ci hI (fm_runV (As := [.int (0 : Int32)]) (rest := []) (rm := { frames := 0, cells := 0, slots := 0, locals := 0 }) hC hI (c_X12_no hC.2.2.1 hq25) mV_X12_no q_867 ⟨rfl, rfl⟩ ⟨Nat.le_of_ble_eq_true rfl, Nat.le_of_ble_eq_true rfl⟩ fc_96 rfl (by decide) rfl hl.1 rfl (Nat.le_of_ble_eq_true rfl) dX12_set_45 ⟨Nat.zero_le _, Nat.zero_le _⟩) (fun H locs hI => ?_)
          exact fm_ri hC hI hr hlk hf dX12_set_48
      refine lv_icmp_ne (tgt := 29) hx hb dX12_set_21 (by decide) (fun hc => ?_) (fun hc => ?_)
      · have hf := fm_pF hf hc
        refine lv_aload_n hx hb dX12_set_29 rfl (lv_at hl 0 rfl) ?_
        refine fm_gr hC hI fd_X12_0 fc_96 fr_96_0 q_798 dX12_set_30 ?_
        refine lv_iconst (v := (1 : Int32)) hx hb dX12_set_33 (by decide) ?_
        obtain ⟨hg26, hf⟩ := fm_gE hf
        refine fm_iald hC hI fc_97 fl_97 hg26 dX12_set_34 ?_
        refine lv_iconst (v := (1 : Int32)) hx hb dX12_set_35 (by decide) ?_
        refine lv_isub hx hb dX12_set_36 ?_
        exact hJ13 ((σ8.1 97 (1 : Int32).toNatClampNeg) - (1 : Int32)) σ8 _ _ _ hI (lv_sub hl [0, 1, 2, 3] rfl) hf
      · have hf := fm_pT hf hc
        refine lv_bipush (v := (99 : Int32)) hx hb dX12_set_24 (by decide) ?_
        refine lv_goto (tgt := 37) hx hb dX12_set_26 (by decide) ?_
        exact hJ13 (99 : Int32) σ8 _ _ _ hI (lv_sub hl [0, 1, 2, 3] rfl) hf
def m_X12_foundOnes_4 (kc : Int32 → Int32 → fm_M → Option (Int32 × fm_M)) : Nat → Int32 → Int32 → fm_M → Option (Int32 × fm_M)
  | 0, _, _, _ => none
  | n + 1, z1, z2, σ => fm_g (fm_in1 (2 : Int32) 96) (if (σ.1 97 (2 : Int32).toNatClampNeg) ≤ z2 then (kc z1 z2 σ) else (fm_b (m_X12_of1 z2 (3 : Int32) σ) fun r2 σ3 => (m_X12_foundOnes_4 kc n (z1 ||| (r2 <<< (z2 &&& 31))) (z2 + (1 : Int32)) σ3)))
def m_X12_foundOnes  (σ : fm_M) : Option (Int32 × fm_M) := m_X12_foundOnes_4 (fun (x1_y5 : Int32) (x2_y5 : Int32) (σ_y5 : fm_M) => some (x1_y5, σ_y5)) fm_fu (0 : Int32) (0 : Int32) σ
set_option maxHeartbeats 4000000 in
set_option maxRecDepth 100000 in
theorem w_X12_foundOnes_4 {p : Program} {l : Launch} {e : Env} {s : State} {m : MethodId} {args : Array Value} {below : List Frame} {meth : Method} {c : Code} {G : fm_G} {o : Int32 × fm_M} {kc : Int32 → Int32 → fm_M → Option (Int32 × fm_M)} (hC : fm_C G p m c cX12_foundOnes 3 s args RX12) (hr : meth.sig.returnType = (some .int)) (hlk : meth.locks = false) (hk : ∀ (z1 : Int32) (z2 : Int32) (σ : fm_M) (H : Heap) (locs : List Loc) (ls : Array Slot), fm_I G σ s H locs → lv_has ls 3 [(0, .ref (G.2.1 96)), (1, .int z1), (2, .int z2)] → kc z1 z2 σ = some o → W p l e { frames := 1, cells := 0, slots := 0, locals := 22 } s m args below meth c H locs 0 0 (MQ below (fm_Qi G o) args s 0 0 (fm_A G)) (F0 m 31 ls [])) (n : Nat) : ∀ (z1 : Int32) (z2 : Int32) (σ : fm_M) (H : Heap) (locs : List Loc) (ls : Array Slot), fm_I G σ s H locs → lv_has ls 3 [(0, .ref (G.2.1 96)), (1, .int z1), (2, .int z2)] → m_X12_foundOnes_4 kc n z1 z2 σ = some o → W p l e { frames := 1, cells := 0, slots := 0, locals := 22 } s m args below meth c H locs 0 0 (MQ below (fm_Qi G o) args s 0 0 (fm_A G)) (F0 m 4 ls []) := by
  have hx := hC.1.1
  have hb := hC.1.2.1
  have hown := hC.1.2.2.2.1
  have hts := hC.1.2.2.2.2
  induction n with
  | zero =>
    intro z1 z2 σ H locs ls hI hl hf
    cases hf
  | succ n ih =>
    intro z1 z2 σ H locs ls hI hl hf
    rw [m_X12_foundOnes_4] at hf
    refine lv_iload_n hx hb dX12_foundOnes_4 rfl (lv_at hl 2 rfl) ?_
    refine lv_aload_n hx hb dX12_foundOnes_5 rfl (lv_at hl 0 rfl) ?_
    refine fm_gr hC hI fd_X12_0 fc_96 fr_96_0 q_798 dX12_foundOnes_6 ?_
    refine lv_iconst (v := (2 : Int32)) hx hb dX12_foundOnes_9 (by decide) ?_
    obtain ⟨hg1, hf⟩ := fm_gE hf
    refine fm_iald hC hI fc_97 fl_97 hg1 dX12_foundOnes_10 ?_
    refine lv_icmp_ge (tgt := 31) hx hb dX12_foundOnes_11 (by decide) (fun hc => ?_) (fun hc => ?_)
    · have hf := fm_pT hf hc
      exact hk z1 z2 σ _ _ _ hI (lv_sub hl [0, 1, 2] rfl) hf
    · have hf := fm_pF hf hc
      refine lv_iload_n hx hb dX12_foundOnes_14 rfl (lv_at hl 1 rfl) ?_
      refine lv_aload_n hx hb dX12_foundOnes_15 rfl (lv_at hl 0 rfl) ?_
      refine lv_iload_n hx hb dX12_foundOnes_16 rfl (lv_at hl 2 rfl) ?_
      refine lv_iconst (v := (3 : Int32)) hx hb dX12_foundOnes_17 (by decide) ?_
      obtain ⟨r2, σ3, hq4, hf⟩ := fm_bE hf
      refine fm_ci hI (fm_runV (As := [.int z2, .int (3 : Int32)]) (rest := [.int z1]) (rm := { frames := 0, cells := 0, slots := 0, locals := 0 }) hC hI (c_X12_of1 hC.2.2.1 hq4) mV_X12_of1 q_896 ⟨rfl, rfl⟩ ⟨Nat.le_of_ble_eq_true rfl, Nat.le_of_ble_eq_true rfl⟩ fc_96 rfl (by decide) rfl hl.1 rfl (Nat.le_of_ble_eq_true rfl) dX12_foundOnes_18 ⟨Nat.zero_le _, Nat.zero_le _⟩) (fun H locs hI => ?_)
      refine lv_iload_n hx hb dX12_foundOnes_21 rfl (lv_at hl 2 rfl) ?_
      refine lv_ishl hx hb dX12_foundOnes_22 ?_
      refine lv_ior hx hb dX12_foundOnes_23 ?_
      refine lv_istore_n (lv' := [(1, .int (z1 ||| (r2 <<< (z2 &&& 31)))), (0, .ref (G.2.1 96)), (2, .int z2)]) hx hb dX12_foundOnes_24 rfl hl (Nat.le_of_ble_eq_true rfl) rfl (fun ls hl => ?_)
      refine lv_iinc (v := (z2 + (1 : Int32))) (lv' := [(2, .int (z2 + (1 : Int32))), (1, .int (z1 ||| (r2 <<< (z2 &&& 31)))), (0, .ref (G.2.1 96))]) hx hb dX12_foundOnes_25 hl (k := 2) rfl rfl (Nat.le_of_ble_eq_true rfl) rfl (fun ls hl => ?_)
      refine lv_goto (tgt := 4) hx hb dX12_foundOnes_28 (by decide) ?_
      exact ih (z1 ||| (r2 <<< (z2 &&& 31))) (z2 + (1 : Int32)) σ3 _ _ _ hI (lv_sub hl [2, 1, 0] rfl) hf
set_option maxHeartbeats 4000000 in
set_option maxRecDepth 100000 in
theorem c_X12_foundOnes {l : Launch} {G : fm_G} (hJ : fm_J G) {σ : fm_M} {o : Int32 × fm_M}  (hf : m_X12_foundOnes  σ = some o) : Met l yX12_foundOnes (fm_w yX12_foundOnes cX12_foundOnes 3 (some .int)) { frames := 1, cells := 0, slots := 0, locals := 22 } (va_Pc [.ref (G.2.1 96)] (fm_st G σ)) (fm_Qi G o) 0 0 (fm_A G) := by
  refine fm_mth (own := RX12) hJ rfl (by decide +kernel) (Nat.le_of_ble_eq_true rfl) ?_
  intro p e s m below meth c ls hC hr hlk hI hl
  have hx := hC.1.1
  have hb := hC.1.2.1
  have hown := hC.1.2.2.2.1
  have hts := hC.1.2.2.2.2
  have hl : lv_has ls 3 [(0, .ref (G.2.1 96))] := hl
  rw [m_X12_foundOnes] at hf
  refine lv_iconst (v := (0 : Int32)) hx hb dX12_foundOnes_0 (by decide) ?_
  refine lv_istore_n (lv' := [(1, .int (0 : Int32)), (0, .ref (G.2.1 96))]) hx hb dX12_foundOnes_1 rfl hl (Nat.le_of_ble_eq_true rfl) rfl (fun ls hl => ?_)
  refine lv_iconst (v := (0 : Int32)) hx hb dX12_foundOnes_2 (by decide) ?_
  refine lv_istore_n (lv' := [(2, .int (0 : Int32)), (1, .int (0 : Int32)), (0, .ref (G.2.1 96))]) hx hb dX12_foundOnes_3 rfl hl (Nat.le_of_ble_eq_true rfl) rfl (fun ls hl => ?_)
  refine w_X12_foundOnes_4 hC hr hlk (fun x1_y5 x2_y5 σ_y5 H locs ls hI hl hf => ?_) fm_fu (0 : Int32) (0 : Int32) σ _ _ _ hI (lv_sub hl [2, 1, 0] rfl) hf
  refine lv_iload_n hx hb dX12_foundOnes_31 rfl (lv_at hl 1 rfl) ?_
  exact fm_ri hC hI hr hlk hf dX12_foundOnes_32
def m_X12_days (a1 : Int32) (σ : fm_M) : Option (Int32 × fm_M) := fm_b (m_X12_in1 a1 (1 : Int32) (60 : Int32) σ) fun r1 σ2 => (if r1 = 0 then (fm_b (m_X12_no (0 : Int32) σ2) fun r15 σ16 => (some (r15, σ16))) else (fm_g (fm_in1 (0 : Int32) 96) (if ((σ2.1 97 (0 : Int32).toNatClampNeg) + a1) ≤ (9999 : Int32) then (fm_b (m_X12_goes a1 σ2) fun _u5 σ6 => (fm_g (fm_in1 (2 : Int32) 96) (fm_b (m_X12_foundOnes  σ6) fun r9 σ10 => (some (((((1 : Int32) <<< ((σ6.1 97 (2 : Int32).toNatClampNeg) &&& 31)) - (1 : Int32)) &&& (r9 ^^^ (-1 : Int32))), σ10))))) else (fm_b (m_X12_no (4 : Int32) σ2) fun r12 σ13 => (some (r12, σ13))))))
set_option maxHeartbeats 4000000 in
set_option maxRecDepth 100000 in
theorem c_X12_days {l : Launch} {G : fm_G} (hJ : fm_J G) {a1 : Int32} {σ : fm_M} {o : Int32 × fm_M}  (hf : m_X12_days a1 σ = some o) : Met l yX12_days (fm_w yX12_days cX12_days 2 (some .int)) { frames := 6, cells := 0, slots := 0, locals := 136 } (va_Pc [.ref (G.2.1 96), .int a1] (fm_st G σ)) (fm_Qi G o) 0 0 (fm_A G) := by
  refine fm_mth (own := RX12) hJ rfl (by decide +kernel) (Nat.le_of_ble_eq_true rfl) ?_
  intro p e s m below meth c ls hC hr hlk hI hl
  have hx := hC.1.1
  have hb := hC.1.2.1
  have hown := hC.1.2.2.2.1
  have hts := hC.1.2.2.2.2
  have hl : lv_has ls 2 [(0, .ref (G.2.1 96)), (1, .int a1)] := hl
  rw [m_X12_days] at hf
  refine lv_iload_n hx hb dX12_days_0 rfl (lv_at hl 1 rfl) ?_
  refine lv_iconst (v := (1 : Int32)) hx hb dX12_days_1 (by decide) ?_
  refine lv_bipush (v := (60 : Int32)) hx hb dX12_days_2 (by decide) ?_
  obtain ⟨r1, σ2, hq3, hf⟩ := fm_bE hf
  refine fm_ci hI (fm_runS (As := [.int a1, .int (1 : Int32), .int (60 : Int32)]) (rest := []) (rm := { frames := 0, cells := 0, slots := 0, locals := 0 }) hC hI (c_X12_in1 hC.2.2.1 hq3) mS_X12_in1 q_864 ⟨rfl, rfl⟩ ⟨Nat.le_of_ble_eq_true rfl, Nat.le_of_ble_eq_true rfl⟩ rfl hl.1 rfl (Nat.le_of_ble_eq_true rfl) dX12_days_4 ⟨Nat.zero_le _, Nat.zero_le _⟩) (fun H locs hI => ?_)
  refine lv_if_ne (tgt := 16) hx hb dX12_days_7 (by decide) (fun hc => ?_) (fun hc => ?_)
  · have hf := fm_pF hf hc
    refine lv_aload_n hx hb dX12_days_16 rfl (lv_at hl 0 rfl) ?_
    refine fm_gr hC hI fd_X12_0 fc_96 fr_96_0 q_798 dX12_days_17 ?_
    refine lv_iconst (v := (0 : Int32)) hx hb dX12_days_20 (by decide) ?_
    obtain ⟨hg4, hf⟩ := fm_gE hf
    refine fm_iald hC hI fc_97 fl_97 hg4 dX12_days_21 ?_
    refine lv_iload_n hx hb dX12_days_22 rfl (lv_at hl 1 rfl) ?_
    refine lv_iadd hx hb dX12_days_23 ?_
    refine lv_sipush (v := (9999 : Int32)) hx hb dX12_days_24 (by decide) ?_
    refine lv_icmp_le (tgt := 36) hx hb dX12_days_27 (by decide) (fun hc => ?_) (fun hc => ?_)
    · have hf := fm_pT hf hc
      refine lv_aload_n hx hb dX12_days_36 rfl (lv_at hl 0 rfl) ?_
      refine lv_iload_n hx hb dX12_days_37 rfl (lv_at hl 1 rfl) ?_
      obtain ⟨_u5, σ6, hq7, hf⟩ := fm_bE hf
      refine fm_cv hI (fm_runV (As := [.int a1]) (rest := []) (rm := { frames := 5, cells := 0, slots := 0, locals := 114 }) hC hI (c_X12_goes hC.2.2.1 hq7) mV_X12_goes q_990 ⟨rfl, rfl⟩ ⟨Nat.le_of_ble_eq_true rfl, Nat.le_of_ble_eq_true rfl⟩ fc_96 rfl (by decide) rfl hl.1 rfl (Nat.le_of_ble_eq_true rfl) dX12_days_38 ⟨Nat.zero_le _, Nat.zero_le _⟩) (fun H locs hI => ?_)
      refine lv_iconst (v := (1 : Int32)) hx hb dX12_days_41 (by decide) ?_
      refine lv_aload_n hx hb dX12_days_42 rfl (lv_at hl 0 rfl) ?_
      refine fm_gr hC hI fd_X12_0 fc_96 fr_96_0 q_798 dX12_days_43 ?_
      refine lv_iconst (v := (2 : Int32)) hx hb dX12_days_46 (by decide) ?_
      obtain ⟨hg8, hf⟩ := fm_gE hf
      refine fm_iald hC hI fc_97 fl_97 hg8 dX12_days_47 ?_
      refine lv_ishl hx hb dX12_days_48 ?_
      refine lv_iconst (v := (1 : Int32)) hx hb dX12_days_49 (by decide) ?_
      refine lv_isub hx hb dX12_days_50 ?_
      refine lv_aload_n hx hb dX12_days_51 rfl (lv_at hl 0 rfl) ?_
      obtain ⟨r9, σ10, hq11, hf⟩ := fm_bE hf
      refine fm_ci hI (fm_runV (As := []) (rest := [.int (((1 : Int32) <<< ((σ6.1 97 (2 : Int32).toNatClampNeg) &&& 31)) - (1 : Int32))]) (rm := { frames := 1, cells := 0, slots := 0, locals := 22 }) hC hI (c_X12_foundOnes hC.2.2.1 hq11) mV_X12_foundOnes q_1014 ⟨rfl, rfl⟩ ⟨Nat.le_of_ble_eq_true rfl, Nat.le_of_ble_eq_true rfl⟩ fc_96 rfl (by decide) rfl hl.1 rfl (Nat.le_of_ble_eq_true rfl) dX12_days_52 ⟨Nat.zero_le _, Nat.zero_le _⟩) (fun H locs hI => ?_)
      refine lv_iconst (v := (-1 : Int32)) hx hb dX12_days_55 (by decide) ?_
      refine lv_ixor hx hb dX12_days_56 ?_
      refine lv_iand hx hb dX12_days_57 ?_
      exact fm_ri hC hI hr hlk hf dX12_days_58
    · have hf := fm_pF hf hc
      refine lv_aload_n hx hb dX12_days_30 rfl (lv_at hl 0 rfl) ?_
      refine lv_iconst (v := (4 : Int32)) hx hb dX12_days_31 (by decide) ?_
      obtain ⟨r12, σ13, hq14, hf⟩ := fm_bE hf
      refine fm_ci hI (fm_runV (As := [.int (4 : Int32)]) (rest := []) (rm := { frames := 0, cells := 0, slots := 0, locals := 0 }) hC hI (c_X12_no hC.2.2.1 hq14) mV_X12_no q_867 ⟨rfl, rfl⟩ ⟨Nat.le_of_ble_eq_true rfl, Nat.le_of_ble_eq_true rfl⟩ fc_96 rfl (by decide) rfl hl.1 rfl (Nat.le_of_ble_eq_true rfl) dX12_days_32 ⟨Nat.zero_le _, Nat.zero_le _⟩) (fun H locs hI => ?_)
      exact fm_ri hC hI hr hlk hf dX12_days_35
  · have hf := fm_pT hf hc
    refine lv_aload_n hx hb dX12_days_10 rfl (lv_at hl 0 rfl) ?_
    refine lv_iconst (v := (0 : Int32)) hx hb dX12_days_11 (by decide) ?_
    obtain ⟨r15, σ16, hq17, hf⟩ := fm_bE hf
    refine fm_ci hI (fm_runV (As := [.int (0 : Int32)]) (rest := []) (rm := { frames := 0, cells := 0, slots := 0, locals := 0 }) hC hI (c_X12_no hC.2.2.1 hq17) mV_X12_no q_867 ⟨rfl, rfl⟩ ⟨Nat.le_of_ble_eq_true rfl, Nat.le_of_ble_eq_true rfl⟩ fc_96 rfl (by decide) rfl hl.1 rfl (Nat.le_of_ble_eq_true rfl) dX12_days_12 ⟨Nat.zero_le _, Nat.zero_le _⟩) (fun H locs hI => ?_)
    exact fm_ri hC hI hr hlk hf dX12_days_15
def m_X12_allJoy_4 (kc : Int32 → Int32 → fm_M → Option (Int32 × fm_M)) : Nat → Int32 → Int32 → fm_M → Option (Int32 × fm_M)
  | 0, _, _, _ => none
  | n + 1, z1, z2, σ => fm_g (fm_in1 (1 : Int32) 96) (if (σ.1 97 (1 : Int32).toNatClampNeg) ≤ z2 then (kc z1 z2 σ) else (fm_b (m_X12_get z2 (1 : Int32) σ) fun r2 σ3 => (m_X12_allJoy_4 kc n (z1 + r2) (z2 + (1 : Int32)) σ3)))
def m_X12_allJoy  (σ : fm_M) : Option (Int32 × fm_M) := m_X12_allJoy_4 (fun (x1_y5 : Int32) (x2_y5 : Int32) (σ_y5 : fm_M) => some (x1_y5, σ_y5)) fm_fu (0 : Int32) (0 : Int32) σ
set_option maxHeartbeats 4000000 in
set_option maxRecDepth 100000 in
theorem w_X12_allJoy_4 {p : Program} {l : Launch} {e : Env} {s : State} {m : MethodId} {args : Array Value} {below : List Frame} {meth : Method} {c : Code} {G : fm_G} {o : Int32 × fm_M} {kc : Int32 → Int32 → fm_M → Option (Int32 × fm_M)} (hC : fm_C G p m c cX12_allJoy 3 s args RX12) (hr : meth.sig.returnType = (some .int)) (hlk : meth.locks = false) (hk : ∀ (z1 : Int32) (z2 : Int32) (σ : fm_M) (H : Heap) (locs : List Loc) (ls : Array Slot), fm_I G σ s H locs → lv_has ls 3 [(0, .ref (G.2.1 96)), (1, .int z1), (2, .int z2)] → kc z1 z2 σ = some o → W p l e { frames := 1, cells := 0, slots := 0, locals := 22 } s m args below meth c H locs 0 0 (MQ below (fm_Qi G o) args s 0 0 (fm_A G)) (F0 m 29 ls [])) (n : Nat) : ∀ (z1 : Int32) (z2 : Int32) (σ : fm_M) (H : Heap) (locs : List Loc) (ls : Array Slot), fm_I G σ s H locs → lv_has ls 3 [(0, .ref (G.2.1 96)), (1, .int z1), (2, .int z2)] → m_X12_allJoy_4 kc n z1 z2 σ = some o → W p l e { frames := 1, cells := 0, slots := 0, locals := 22 } s m args below meth c H locs 0 0 (MQ below (fm_Qi G o) args s 0 0 (fm_A G)) (F0 m 4 ls []) := by
  have hx := hC.1.1
  have hb := hC.1.2.1
  have hown := hC.1.2.2.2.1
  have hts := hC.1.2.2.2.2
  induction n with
  | zero =>
    intro z1 z2 σ H locs ls hI hl hf
    cases hf
  | succ n ih =>
    intro z1 z2 σ H locs ls hI hl hf
    rw [m_X12_allJoy_4] at hf
    refine lv_iload_n hx hb dX12_allJoy_4 rfl (lv_at hl 2 rfl) ?_
    refine lv_aload_n hx hb dX12_allJoy_5 rfl (lv_at hl 0 rfl) ?_
    refine fm_gr hC hI fd_X12_0 fc_96 fr_96_0 q_798 dX12_allJoy_6 ?_
    refine lv_iconst (v := (1 : Int32)) hx hb dX12_allJoy_9 (by decide) ?_
    obtain ⟨hg1, hf⟩ := fm_gE hf
    refine fm_iald hC hI fc_97 fl_97 hg1 dX12_allJoy_10 ?_
    refine lv_icmp_ge (tgt := 29) hx hb dX12_allJoy_11 (by decide) (fun hc => ?_) (fun hc => ?_)
    · have hf := fm_pT hf hc
      exact hk z1 z2 σ _ _ _ hI (lv_sub hl [0, 1, 2] rfl) hf
    · have hf := fm_pF hf hc
      refine lv_iload_n hx hb dX12_allJoy_14 rfl (lv_at hl 1 rfl) ?_
      refine lv_aload_n hx hb dX12_allJoy_15 rfl (lv_at hl 0 rfl) ?_
      refine lv_iload_n hx hb dX12_allJoy_16 rfl (lv_at hl 2 rfl) ?_
      refine lv_iconst (v := (1 : Int32)) hx hb dX12_allJoy_17 (by decide) ?_
      obtain ⟨r2, σ3, hq4, hf⟩ := fm_bE hf
      refine fm_ci hI (fm_runV (As := [.int z2, .int (1 : Int32)]) (rest := [.int z1]) (rm := { frames := 0, cells := 0, slots := 0, locals := 0 }) hC hI (c_X12_get hC.2.2.1 hq4) mV_X12_get q_888 ⟨rfl, rfl⟩ ⟨Nat.le_of_ble_eq_true rfl, Nat.le_of_ble_eq_true rfl⟩ fc_96 rfl (by decide) rfl hl.1 rfl (Nat.le_of_ble_eq_true rfl) dX12_allJoy_18 ⟨Nat.zero_le _, Nat.zero_le _⟩) (fun H locs hI => ?_)
      refine lv_iadd hx hb dX12_allJoy_21 ?_
      refine lv_istore_n (lv' := [(1, .int (z1 + r2)), (0, .ref (G.2.1 96)), (2, .int z2)]) hx hb dX12_allJoy_22 rfl hl (Nat.le_of_ble_eq_true rfl) rfl (fun ls hl => ?_)
      refine lv_iinc (v := (z2 + (1 : Int32))) (lv' := [(2, .int (z2 + (1 : Int32))), (1, .int (z1 + r2)), (0, .ref (G.2.1 96))]) hx hb dX12_allJoy_23 hl (k := 2) rfl rfl (Nat.le_of_ble_eq_true rfl) rfl (fun ls hl => ?_)
      refine lv_goto (tgt := 4) hx hb dX12_allJoy_26 (by decide) ?_
      exact ih (z1 + r2) (z2 + (1 : Int32)) σ3 _ _ _ hI (lv_sub hl [2, 1, 0] rfl) hf
set_option maxHeartbeats 4000000 in
set_option maxRecDepth 100000 in
theorem c_X12_allJoy {l : Launch} {G : fm_G} (hJ : fm_J G) {σ : fm_M} {o : Int32 × fm_M}  (hf : m_X12_allJoy  σ = some o) : Met l yX12_allJoy (fm_w yX12_allJoy cX12_allJoy 3 (some .int)) { frames := 1, cells := 0, slots := 0, locals := 22 } (va_Pc [.ref (G.2.1 96)] (fm_st G σ)) (fm_Qi G o) 0 0 (fm_A G) := by
  refine fm_mth (own := RX12) hJ rfl (by decide +kernel) (Nat.le_of_ble_eq_true rfl) ?_
  intro p e s m below meth c ls hC hr hlk hI hl
  have hx := hC.1.1
  have hb := hC.1.2.1
  have hown := hC.1.2.2.2.1
  have hts := hC.1.2.2.2.2
  have hl : lv_has ls 3 [(0, .ref (G.2.1 96))] := hl
  rw [m_X12_allJoy] at hf
  refine lv_iconst (v := (0 : Int32)) hx hb dX12_allJoy_0 (by decide) ?_
  refine lv_istore_n (lv' := [(1, .int (0 : Int32)), (0, .ref (G.2.1 96))]) hx hb dX12_allJoy_1 rfl hl (Nat.le_of_ble_eq_true rfl) rfl (fun ls hl => ?_)
  refine lv_iconst (v := (0 : Int32)) hx hb dX12_allJoy_2 (by decide) ?_
  refine lv_istore_n (lv' := [(2, .int (0 : Int32)), (1, .int (0 : Int32)), (0, .ref (G.2.1 96))]) hx hb dX12_allJoy_3 rfl hl (Nat.le_of_ble_eq_true rfl) rfl (fun ls hl => ?_)
  refine w_X12_allJoy_4 hC hr hlk (fun x1_y5 x2_y5 σ_y5 H locs ls hI hl hf => ?_) fm_fu (0 : Int32) (0 : Int32) σ _ _ _ hI (lv_sub hl [2, 1, 0] rfl) hf
  refine lv_iload_n hx hb dX12_allJoy_29 rfl (lv_at hl 1 rfl) ?_
  exact fm_ri hC hI hr hlk hf dX12_allJoy_30
def m_X12_allOf_5 (kc : Int32 → Int32 → Int32 → Int32 → fm_M → Option (Int32 × fm_M)) : Nat → Int32 → Int32 → Int32 → Int32 → fm_M → Option (Int32 × fm_M)
  | 0, _, _, _, _, _ => none
  | n + 1, z1, z2, z3, z4, σ => fm_g (fm_in1 (2 : Int32) 96) (if (σ.1 97 (2 : Int32).toNatClampNeg) ≤ z4 then (kc z1 z2 z3 z4 σ) else (if z2 = 0 then (fm_b (m_X12_of1 z4 z1 σ) fun r2 σ3 => (m_X12_allOf_5 kc n z1 z2 (z3 + r2) (z4 + (1 : Int32)) σ3)) else (fm_b (m_X12_of1 z4 (3 : Int32) σ) fun r5 σ6 => (if r5 = (1 : Int32) then (fm_b (m_X12_of1 z4 z1 σ6) fun r8 σ9 => (m_X12_allOf_5 kc n z1 z2 (z3 + r8) (z4 + (1 : Int32)) σ9)) else (m_X12_allOf_5 kc n z1 z2 (z3 + (0 : Int32)) (z4 + (1 : Int32)) σ6)))))
def m_X12_allOf (a1 : Int32) (a2 : Int32) (σ : fm_M) : Option (Int32 × fm_M) := m_X12_allOf_5 (fun (x1_y11 : Int32) (x2_y11 : Int32) (x3_y11 : Int32) (x4_y11 : Int32) (σ_y11 : fm_M) => some (x3_y11, σ_y11)) fm_fu a1 a2 (0 : Int32) (0 : Int32) σ
set_option maxHeartbeats 4000000 in
set_option maxRecDepth 100000 in
theorem w_X12_allOf_5 {p : Program} {l : Launch} {e : Env} {s : State} {m : MethodId} {args : Array Value} {below : List Frame} {meth : Method} {c : Code} {G : fm_G} {o : Int32 × fm_M} {kc : Int32 → Int32 → Int32 → Int32 → fm_M → Option (Int32 × fm_M)} (hC : fm_C G p m c cX12_allOf 5 s args RX12) (hr : meth.sig.returnType = (some .int)) (hlk : meth.locks = false) (hk : ∀ (z1 : Int32) (z2 : Int32) (z3 : Int32) (z4 : Int32) (σ : fm_M) (H : Heap) (locs : List Loc) (ls : Array Slot), fm_I G σ s H locs → lv_has ls 5 [(0, .ref (G.2.1 96)), (1, .int z1), (2, .int z2), (3, .int z3), (4, .int z4)] → kc z1 z2 z3 z4 σ = some o → W p l e { frames := 1, cells := 0, slots := 0, locals := 22 } s m args below meth c H locs 0 0 (MQ below (fm_Qi G o) args s 0 0 (fm_A G)) (F0 m 51 ls [])) (n : Nat) : ∀ (z1 : Int32) (z2 : Int32) (z3 : Int32) (z4 : Int32) (σ : fm_M) (H : Heap) (locs : List Loc) (ls : Array Slot), fm_I G σ s H locs → lv_has ls 5 [(0, .ref (G.2.1 96)), (1, .int z1), (2, .int z2), (3, .int z3), (4, .int z4)] → m_X12_allOf_5 kc n z1 z2 z3 z4 σ = some o → W p l e { frames := 1, cells := 0, slots := 0, locals := 22 } s m args below meth c H locs 0 0 (MQ below (fm_Qi G o) args s 0 0 (fm_A G)) (F0 m 5 ls []) := by
  have hx := hC.1.1
  have hb := hC.1.2.1
  have hown := hC.1.2.2.2.1
  have hts := hC.1.2.2.2.2
  induction n with
  | zero =>
    intro z1 z2 z3 z4 σ H locs ls hI hl hf
    cases hf
  | succ n ih =>
    intro z1 z2 z3 z4 σ H locs ls hI hl hf
    rw [m_X12_allOf_5] at hf
    refine lv_iload hx hb dX12_allOf_5 (lv_at hl 4 rfl) ?_
    refine lv_aload_n hx hb dX12_allOf_7 rfl (lv_at hl 0 rfl) ?_
    refine fm_gr hC hI fd_X12_0 fc_96 fr_96_0 q_798 dX12_allOf_8 ?_
    refine lv_iconst (v := (2 : Int32)) hx hb dX12_allOf_11 (by decide) ?_
    obtain ⟨hg1, hf⟩ := fm_gE hf
    refine fm_iald hC hI fc_97 fl_97 hg1 dX12_allOf_12 ?_
    refine lv_icmp_ge (tgt := 51) hx hb dX12_allOf_13 (by decide) (fun hc => ?_) (fun hc => ?_)
    · have hf := fm_pT hf hc
      exact hk z1 z2 z3 z4 σ _ _ _ hI (lv_sub hl [0, 1, 2, 3, 4] rfl) hf
    · have hf := fm_pF hf hc
      refine lv_iload_n hx hb dX12_allOf_16 rfl (lv_at hl 3 rfl) ?_
      refine lv_iload_n hx hb dX12_allOf_17 rfl (lv_at hl 2 rfl) ?_
      refine lv_if_eq (tgt := 32) hx hb dX12_allOf_18 (by decide) (fun hc => ?_) (fun hc => ?_)
      · have hf := fm_pT hf hc
        refine lv_aload_n hx hb dX12_allOf_32 rfl (lv_at hl 0 rfl) ?_
        refine lv_iload hx hb dX12_allOf_33 (lv_at hl 4 rfl) ?_
        refine lv_iload_n hx hb dX12_allOf_35 rfl (lv_at hl 1 rfl) ?_
        obtain ⟨r2, σ3, hq4, hf⟩ := fm_bE hf
        refine fm_ci hI (fm_runV (As := [.int z4, .int z1]) (rest := [.int z3]) (rm := { frames := 0, cells := 0, slots := 0, locals := 0 }) hC hI (c_X12_of1 hC.2.2.1 hq4) mV_X12_of1 q_896 ⟨rfl, rfl⟩ ⟨Nat.le_of_ble_eq_true rfl, Nat.le_of_ble_eq_true rfl⟩ fc_96 rfl (by decide) rfl hl.1 rfl (Nat.le_of_ble_eq_true rfl) dX12_allOf_36 ⟨Nat.zero_le _, Nat.zero_le _⟩) (fun H locs hI => ?_)
        refine lv_goto (tgt := 43) hx hb dX12_allOf_39 (by decide) ?_
        refine lv_iadd hx hb dX12_allOf_43 ?_
        refine lv_istore_n (lv' := [(3, .int (z3 + r2)), (0, .ref (G.2.1 96)), (1, .int z1), (2, .int z2), (4, .int z4)]) hx hb dX12_allOf_44 rfl hl (Nat.le_of_ble_eq_true rfl) rfl (fun ls hl => ?_)
        refine lv_iinc (v := (z4 + (1 : Int32))) (lv' := [(4, .int (z4 + (1 : Int32))), (3, .int (z3 + r2)), (0, .ref (G.2.1 96)), (1, .int z1), (2, .int z2)]) hx hb dX12_allOf_45 hl (k := 4) rfl rfl (Nat.le_of_ble_eq_true rfl) rfl (fun ls hl => ?_)
        refine lv_goto (tgt := 5) hx hb dX12_allOf_48 (by decide) ?_
        exact ih z1 z2 (z3 + r2) (z4 + (1 : Int32)) σ3 _ _ _ hI (lv_sub hl [2, 3, 4, 1, 0] rfl) hf
      · have hf := fm_pF hf hc
        refine lv_aload_n hx hb dX12_allOf_21 rfl (lv_at hl 0 rfl) ?_
        refine lv_iload hx hb dX12_allOf_22 (lv_at hl 4 rfl) ?_
        refine lv_iconst (v := (3 : Int32)) hx hb dX12_allOf_24 (by decide) ?_
        obtain ⟨r5, σ6, hq7, hf⟩ := fm_bE hf
        refine fm_ci hI (fm_runV (As := [.int z4, .int (3 : Int32)]) (rest := [.int z3]) (rm := { frames := 0, cells := 0, slots := 0, locals := 0 }) hC hI (c_X12_of1 hC.2.2.1 hq7) mV_X12_of1 q_896 ⟨rfl, rfl⟩ ⟨Nat.le_of_ble_eq_true rfl, Nat.le_of_ble_eq_true rfl⟩ fc_96 rfl (by decide) rfl hl.1 rfl (Nat.le_of_ble_eq_true rfl) dX12_allOf_25 ⟨Nat.zero_le _, Nat.zero_le _⟩) (fun H locs hI => ?_)
        refine lv_iconst (v := (1 : Int32)) hx hb dX12_allOf_28 (by decide) ?_
        refine lv_icmp_ne (tgt := 42) hx hb dX12_allOf_29 (by decide) (fun hc => ?_) (fun hc => ?_)
        · have hf := fm_pF hf hc
          refine lv_iconst (v := (0 : Int32)) hx hb dX12_allOf_42 (by decide) ?_
          refine lv_iadd hx hb dX12_allOf_43 ?_
          refine lv_istore_n (lv' := [(3, .int (z3 + (0 : Int32))), (0, .ref (G.2.1 96)), (1, .int z1), (2, .int z2), (4, .int z4)]) hx hb dX12_allOf_44 rfl hl (Nat.le_of_ble_eq_true rfl) rfl (fun ls hl => ?_)
          refine lv_iinc (v := (z4 + (1 : Int32))) (lv' := [(4, .int (z4 + (1 : Int32))), (3, .int (z3 + (0 : Int32))), (0, .ref (G.2.1 96)), (1, .int z1), (2, .int z2)]) hx hb dX12_allOf_45 hl (k := 4) rfl rfl (Nat.le_of_ble_eq_true rfl) rfl (fun ls hl => ?_)
          refine lv_goto (tgt := 5) hx hb dX12_allOf_48 (by decide) ?_
          exact ih z1 z2 (z3 + (0 : Int32)) (z4 + (1 : Int32)) σ6 _ _ _ hI (lv_sub hl [2, 3, 4, 1, 0] rfl) hf
        · have hf := fm_pT hf hc
          refine lv_aload_n hx hb dX12_allOf_32 rfl (lv_at hl 0 rfl) ?_
          refine lv_iload hx hb dX12_allOf_33 (lv_at hl 4 rfl) ?_
          refine lv_iload_n hx hb dX12_allOf_35 rfl (lv_at hl 1 rfl) ?_
          obtain ⟨r8, σ9, hq10, hf⟩ := fm_bE hf
          refine fm_ci hI (fm_runV (As := [.int z4, .int z1]) (rest := [.int z3]) (rm := { frames := 0, cells := 0, slots := 0, locals := 0 }) hC hI (c_X12_of1 hC.2.2.1 hq10) mV_X12_of1 q_896 ⟨rfl, rfl⟩ ⟨Nat.le_of_ble_eq_true rfl, Nat.le_of_ble_eq_true rfl⟩ fc_96 rfl (by decide) rfl hl.1 rfl (Nat.le_of_ble_eq_true rfl) dX12_allOf_36 ⟨Nat.zero_le _, Nat.zero_le _⟩) (fun H locs hI => ?_)
          refine lv_goto (tgt := 43) hx hb dX12_allOf_39 (by decide) ?_
          refine lv_iadd hx hb dX12_allOf_43 ?_
          refine lv_istore_n (lv' := [(3, .int (z3 + r8)), (0, .ref (G.2.1 96)), (1, .int z1), (2, .int z2), (4, .int z4)]) hx hb dX12_allOf_44 rfl hl (Nat.le_of_ble_eq_true rfl) rfl (fun ls hl => ?_)
          refine lv_iinc (v := (z4 + (1 : Int32))) (lv' := [(4, .int (z4 + (1 : Int32))), (3, .int (z3 + r8)), (0, .ref (G.2.1 96)), (1, .int z1), (2, .int z2)]) hx hb dX12_allOf_45 hl (k := 4) rfl rfl (Nat.le_of_ble_eq_true rfl) rfl (fun ls hl => ?_)
          refine lv_goto (tgt := 5) hx hb dX12_allOf_48 (by decide) ?_
          exact ih z1 z2 (z3 + r8) (z4 + (1 : Int32)) σ9 _ _ _ hI (lv_sub hl [2, 3, 4, 1, 0] rfl) hf
set_option maxHeartbeats 4000000 in
set_option maxRecDepth 100000 in
theorem c_X12_allOf {l : Launch} {G : fm_G} (hJ : fm_J G) {a1 : Int32} {a2 : Int32} {σ : fm_M} {o : Int32 × fm_M}  (hf : m_X12_allOf a1 a2 σ = some o) : Met l yX12_allOf (fm_w yX12_allOf cX12_allOf 5 (some .int)) { frames := 1, cells := 0, slots := 0, locals := 22 } (va_Pc [.ref (G.2.1 96), .int a1, .int a2] (fm_st G σ)) (fm_Qi G o) 0 0 (fm_A G) := by
  refine fm_mth (own := RX12) hJ rfl (by decide +kernel) (Nat.le_of_ble_eq_true rfl) ?_
  intro p e s m below meth c ls hC hr hlk hI hl
  have hx := hC.1.1
  have hb := hC.1.2.1
  have hown := hC.1.2.2.2.1
  have hts := hC.1.2.2.2.2
  have hl : lv_has ls 5 [(0, .ref (G.2.1 96)), (1, .int a1), (2, .int a2)] := hl
  rw [m_X12_allOf] at hf
  refine lv_iconst (v := (0 : Int32)) hx hb dX12_allOf_0 (by decide) ?_
  refine lv_istore_n (lv' := [(3, .int (0 : Int32)), (0, .ref (G.2.1 96)), (1, .int a1), (2, .int a2)]) hx hb dX12_allOf_1 rfl hl (Nat.le_of_ble_eq_true rfl) rfl (fun ls hl => ?_)
  refine lv_iconst (v := (0 : Int32)) hx hb dX12_allOf_2 (by decide) ?_
  refine lv_istore (lv' := [(4, .int (0 : Int32)), (3, .int (0 : Int32)), (0, .ref (G.2.1 96)), (1, .int a1), (2, .int a2)]) hx hb dX12_allOf_3 hl (Nat.le_of_ble_eq_true rfl) rfl (fun ls hl => ?_)
  refine w_X12_allOf_5 hC hr hlk (fun x1_y11 x2_y11 x3_y11 x4_y11 σ_y11 H locs ls hI hl hf => ?_) fm_fu a1 a2 (0 : Int32) (0 : Int32) σ _ _ _ hI (lv_sub hl [2, 3, 4, 1, 0] rfl) hf
  refine lv_iload_n hx hb dX12_allOf_51 rfl (lv_at hl 3 rfl) ?_
  exact fm_ri hC hI hr hlk hf dX12_allOf_52
def m_X12_now (a1 : Int32) (σ : fm_M) : Option (Int32 × fm_M) := if a1 = (0 : Int32) then (fm_g (fm_in1 (0 : Int32) 96) (some ((σ.1 97 (0 : Int32).toNatClampNeg), σ))) else (if a1 = (1 : Int32) then (fm_b (m_X12_allJoy  σ) fun r4 σ5 => (some (r4, σ5))) else (if a1 = (2 : Int32) then (fm_b (m_X12_foundOnes  σ) fun r8 σ9 => (some (r8, σ9))) else (if a1 = (3 : Int32) then (fm_b (m_X12_allOf (0 : Int32) (0 : Int32) σ) fun r12 σ13 => (some (r12, σ13))) else (if a1 = (4 : Int32) then (fm_b (m_X12_allOf (1 : Int32) (1 : Int32) σ) fun r16 σ17 => (some (r16, σ17))) else (fm_b (m_X12_no (0 : Int32) σ) fun r19 σ20 => (some (r19, σ20)))))))
set_option maxHeartbeats 4000000 in
set_option maxRecDepth 100000 in
theorem c_X12_now {l : Launch} {G : fm_G} (hJ : fm_J G) {a1 : Int32} {σ : fm_M} {o : Int32 × fm_M}  (hf : m_X12_now a1 σ = some o) : Met l yX12_now (fm_w yX12_now cX12_now 2 (some .int)) { frames := 2, cells := 0, slots := 0, locals := 46 } (va_Pc [.ref (G.2.1 96), .int a1] (fm_st G σ)) (fm_Qi G o) 0 0 (fm_A G) := by
  refine fm_mth (own := RX12) hJ rfl (by decide +kernel) (Nat.le_of_ble_eq_true rfl) ?_
  intro p e s m below meth c ls hC hr hlk hI hl
  have hx := hC.1.1
  have hb := hC.1.2.1
  have hown := hC.1.2.2.2.1
  have hts := hC.1.2.2.2.2
  have hl : lv_has ls 2 [(0, .ref (G.2.1 96)), (1, .int a1)] := hl
  rw [m_X12_now] at hf
  refine lv_iload_n hx hb dX12_now_0 rfl (lv_at hl 1 rfl) ?_
  by_cases hc1 : a1 = (0 : Int32)
  · have hf := fm_pT hf hc1
    refine lv_tableIn (off := 35) (tgt := 36) hx hb dX12_now_1 (by rw [hc1]; decide) (by rw [hc1]; decide) (by rw [hc1]; decide) (by decide) ?_
    refine lv_aload_n hx hb dX12_now_36 rfl (lv_at hl 0 rfl) ?_
    refine fm_gr hC hI fd_X12_0 fc_96 fr_96_0 q_798 dX12_now_37 ?_
    refine lv_iconst (v := (0 : Int32)) hx hb dX12_now_40 (by decide) ?_
    obtain ⟨hg2, hf⟩ := fm_gE hf
    refine fm_iald hC hI fc_97 fl_97 hg2 dX12_now_41 ?_
    exact fm_ri hC hI hr hlk hf dX12_now_42
  · have hf := fm_pF hf hc1
    by_cases hc3 : a1 = (1 : Int32)
    · have hf := fm_pT hf hc3
      refine lv_tableIn (off := 42) (tgt := 43) hx hb dX12_now_1 (by rw [hc3]; decide) (by rw [hc3]; decide) (by rw [hc3]; decide) (by decide) ?_
      refine lv_aload_n hx hb dX12_now_43 rfl (lv_at hl 0 rfl) ?_
      obtain ⟨r4, σ5, hq6, hf⟩ := fm_bE hf
      refine fm_ci hI (fm_runV (As := []) (rest := []) (rm := { frames := 1, cells := 0, slots := 0, locals := 22 }) hC hI (c_X12_allJoy hC.2.2.1 hq6) mV_X12_allJoy q_1022 ⟨rfl, rfl⟩ ⟨Nat.le_of_ble_eq_true rfl, Nat.le_of_ble_eq_true rfl⟩ fc_96 rfl (by decide) rfl hl.1 rfl (Nat.le_of_ble_eq_true rfl) dX12_now_44 ⟨Nat.zero_le _, Nat.zero_le _⟩) (fun H locs hI => ?_)
      exact fm_ri hC hI hr hlk hf dX12_now_47
    · have hf := fm_pF hf hc3
      by_cases hc7 : a1 = (2 : Int32)
      · have hf := fm_pT hf hc7
        refine lv_tableIn (off := 47) (tgt := 48) hx hb dX12_now_1 (by rw [hc7]; decide) (by rw [hc7]; decide) (by rw [hc7]; decide) (by decide) ?_
        refine lv_aload_n hx hb dX12_now_48 rfl (lv_at hl 0 rfl) ?_
        obtain ⟨r8, σ9, hq10, hf⟩ := fm_bE hf
        refine fm_ci hI (fm_runV (As := []) (rest := []) (rm := { frames := 1, cells := 0, slots := 0, locals := 22 }) hC hI (c_X12_foundOnes hC.2.2.1 hq10) mV_X12_foundOnes q_1014 ⟨rfl, rfl⟩ ⟨Nat.le_of_ble_eq_true rfl, Nat.le_of_ble_eq_true rfl⟩ fc_96 rfl (by decide) rfl hl.1 rfl (Nat.le_of_ble_eq_true rfl) dX12_now_49 ⟨Nat.zero_le _, Nat.zero_le _⟩) (fun H locs hI => ?_)
        exact fm_ri hC hI hr hlk hf dX12_now_52
      · have hf := fm_pF hf hc7
        by_cases hc11 : a1 = (3 : Int32)
        · have hf := fm_pT hf hc11
          refine lv_tableIn (off := 52) (tgt := 53) hx hb dX12_now_1 (by rw [hc11]; decide) (by rw [hc11]; decide) (by rw [hc11]; decide) (by decide) ?_
          refine lv_aload_n hx hb dX12_now_53 rfl (lv_at hl 0 rfl) ?_
          refine lv_iconst (v := (0 : Int32)) hx hb dX12_now_54 (by decide) ?_
          refine lv_iconst (v := (0 : Int32)) hx hb dX12_now_55 (by decide) ?_
          obtain ⟨r12, σ13, hq14, hf⟩ := fm_bE hf
          refine fm_ci hI (fm_runV (As := [.int (0 : Int32), .int (0 : Int32)]) (rest := []) (rm := { frames := 1, cells := 0, slots := 0, locals := 22 }) hC hI (c_X12_allOf hC.2.2.1 hq14) mV_X12_allOf q_1026 ⟨rfl, rfl⟩ ⟨Nat.le_of_ble_eq_true rfl, Nat.le_of_ble_eq_true rfl⟩ fc_96 rfl (by decide) rfl hl.1 rfl (Nat.le_of_ble_eq_true rfl) dX12_now_56 ⟨Nat.zero_le _, Nat.zero_le _⟩) (fun H locs hI => ?_)
          exact fm_ri hC hI hr hlk hf dX12_now_59
        · have hf := fm_pF hf hc11
          by_cases hc15 : a1 = (4 : Int32)
          · have hf := fm_pT hf hc15
            refine lv_tableIn (off := 59) (tgt := 60) hx hb dX12_now_1 (by rw [hc15]; decide) (by rw [hc15]; decide) (by rw [hc15]; decide) (by decide) ?_
            refine lv_aload_n hx hb dX12_now_60 rfl (lv_at hl 0 rfl) ?_
            refine lv_iconst (v := (1 : Int32)) hx hb dX12_now_61 (by decide) ?_
            refine lv_iconst (v := (1 : Int32)) hx hb dX12_now_62 (by decide) ?_
            obtain ⟨r16, σ17, hq18, hf⟩ := fm_bE hf
            refine fm_ci hI (fm_runV (As := [.int (1 : Int32), .int (1 : Int32)]) (rest := []) (rm := { frames := 1, cells := 0, slots := 0, locals := 22 }) hC hI (c_X12_allOf hC.2.2.1 hq18) mV_X12_allOf q_1026 ⟨rfl, rfl⟩ ⟨Nat.le_of_ble_eq_true rfl, Nat.le_of_ble_eq_true rfl⟩ fc_96 rfl (by decide) rfl hl.1 rfl (Nat.le_of_ble_eq_true rfl) dX12_now_63 ⟨Nat.zero_le _, Nat.zero_le _⟩) (fun H locs hI => ?_)
            exact fm_ri hC hI hr hlk hf dX12_now_66
          · have hf := fm_pF hf hc15
            have hsw : (a1 : Int32).toInt < 0 ∨ 4 < (a1 : Int32).toInt := by
              have t0 := fm_neI hc1
              rw [show ((0 : Int32)).toInt = 0 from by decide] at t0
              have t1 := fm_neI hc3
              rw [show ((1 : Int32)).toInt = 1 from by decide] at t1
              have t2 := fm_neI hc7
              rw [show ((2 : Int32)).toInt = 2 from by decide] at t2
              have t3 := fm_neI hc11
              rw [show ((3 : Int32)).toInt = 3 from by decide] at t3
              have t4 := fm_neI hc15
              rw [show ((4 : Int32)).toInt = 4 from by decide] at t4
              omega
            refine lv_tableOut (tgt := 67) hx hb dX12_now_1 hsw (by decide) ?_
            refine lv_aload_n hx hb dX12_now_67 rfl (lv_at hl 0 rfl) ?_
            refine lv_iconst (v := (0 : Int32)) hx hb dX12_now_68 (by decide) ?_
            obtain ⟨r19, σ20, hq21, hf⟩ := fm_bE hf
            refine fm_ci hI (fm_runV (As := [.int (0 : Int32)]) (rest := []) (rm := { frames := 0, cells := 0, slots := 0, locals := 0 }) hC hI (c_X12_no hC.2.2.1 hq21) mV_X12_no q_867 ⟨rfl, rfl⟩ ⟨Nat.le_of_ble_eq_true rfl, Nat.le_of_ble_eq_true rfl⟩ fc_96 rfl (by decide) rfl hl.1 rfl (Nat.le_of_ble_eq_true rfl) dX12_now_69 ⟨Nat.zero_le _, Nat.zero_le _⟩) (fun H locs hI => ?_)
            exact fm_ri hC hI hr hlk hf dX12_now_72
def m_X12_isAhead (a0 : Int32) (σ : fm_M) : Option (Int32 × fm_M) := fm_b (m_X12_in1 a0 (0 : Int32) (60 : Int32) σ) fun r1 σ2 => (fm_g (fm_bz r1) (some (r1, σ2)))
set_option maxHeartbeats 4000000 in
set_option maxRecDepth 100000 in
theorem c_X12_isAhead {l : Launch} {G : fm_G} (hJ : fm_J G) {a0 : Int32} {σ : fm_M} {o : Int32 × fm_M}  (hf : m_X12_isAhead a0 σ = some o) : Met l yX12_isAhead (fm_w yX12_isAhead cX12_isAhead 1 (some .boolean)) { frames := 1, cells := 0, slots := 0, locals := 22 } (va_Pc [.int a0] (fm_st G σ)) (fm_Qi G o) 0 0 (fm_A G) := by
  refine fm_mth (own := RX12) hJ rfl (by decide +kernel) (Nat.le_of_ble_eq_true rfl) ?_
  intro p e s m below meth c ls hC hr hlk hI hl
  have hx := hC.1.1
  have hb := hC.1.2.1
  have hown := hC.1.2.2.2.1
  have hts := hC.1.2.2.2.2
  have hl : lv_has ls 1 [(0, .int a0)] := hl
  rw [m_X12_isAhead] at hf
  refine lv_iload_n hx hb dX12_isAhead_0 rfl (lv_at hl 0 rfl) ?_
  refine lv_iconst (v := (0 : Int32)) hx hb dX12_isAhead_1 (by decide) ?_
  refine lv_bipush (v := (60 : Int32)) hx hb dX12_isAhead_2 (by decide) ?_
  obtain ⟨r1, σ2, hq3, hf⟩ := fm_bE hf
  refine fm_ci hI (fm_runS (As := [.int a0, .int (0 : Int32), .int (60 : Int32)]) (rest := []) (rm := { frames := 0, cells := 0, slots := 0, locals := 0 }) hC hI (c_X12_in1 hC.2.2.1 hq3) mS_X12_in1 q_864 ⟨rfl, rfl⟩ ⟨Nat.le_of_ble_eq_true rfl, Nat.le_of_ble_eq_true rfl⟩ rfl hl.1 rfl (Nat.le_of_ble_eq_true rfl) dX12_isAhead_4 ⟨Nat.zero_le _, Nat.zero_le _⟩) (fun H locs hI => ?_)
  obtain ⟨hg4, hf⟩ := fm_gE hf
  exact fm_rz hC hI hr hlk hg4 hf dX12_isAhead_7
def m_X12_on (a1 : Int32) (a2 : Int32) (a3 : Int32) (σ : fm_M) : Option (Int32 × fm_M) := fm_b (m_X12_isPresent a1 σ) fun r1 σ2 => (if r1 = 0 then (fm_b (m_X12_no (0 : Int32) σ2) fun r4 σ5 => (some (r4, σ5))) else (fm_b (m_X12_isAhead a2 σ2) fun r7 σ8 => (if r7 = 0 then (fm_b (m_X12_no (0 : Int32) σ8) fun r10 σ11 => (some (r10, σ11))) else (fm_b (m_X12_in1 a3 (0 : Int32) (3 : Int32) σ8) fun r13 σ14 => (if r13 = 0 then (fm_b (m_X12_no (0 : Int32) σ14) fun r16 σ17 => (some (r16, σ17))) else (if a3 = (1 : Int32) then (fm_b (m_X12_no (0 : Int32) σ14) fun r31 σ32 => (some (r31, σ32))) else (fm_b (m_X12_setsAside  σ14) fun _u19 σ20 => (fm_b (m_X12_goes a2 σ20) fun _u22 σ23 => (fm_b (m_X12_of1 a1 a3 σ23) fun r25 σ26 => (fm_b (m_X12_laysBack  σ26) fun _u28 σ29 => (some (r25, σ29))))))))))))
set_option maxHeartbeats 4000000 in
set_option maxRecDepth 100000 in
theorem c_X12_on {l : Launch} {G : fm_G} (hJ : fm_J G) {a1 : Int32} {a2 : Int32} {a3 : Int32} {σ : fm_M} {o : Int32 × fm_M}  (hf : m_X12_on a1 a2 a3 σ = some o) : Met l yX12_on (fm_w yX12_on cX12_on 5 (some .int)) { frames := 6, cells := 0, slots := 0, locals := 136 } (va_Pc [.ref (G.2.1 96), .int a1, .int a2, .int a3] (fm_st G σ)) (fm_Qi G o) 0 0 (fm_A G) := by
  refine fm_mth (own := RX12) hJ rfl (by decide +kernel) (Nat.le_of_ble_eq_true rfl) ?_
  intro p e s m below meth c ls hC hr hlk hI hl
  have hx := hC.1.1
  have hb := hC.1.2.1
  have hown := hC.1.2.2.2.1
  have hts := hC.1.2.2.2.2
  have hl : lv_has ls 5 [(0, .ref (G.2.1 96)), (1, .int a1), (2, .int a2), (3, .int a3)] := hl
  rw [m_X12_on] at hf
  refine lv_aload_n hx hb dX12_on_0 rfl (lv_at hl 0 rfl) ?_
  refine lv_iload_n hx hb dX12_on_1 rfl (lv_at hl 1 rfl) ?_
  obtain ⟨r1, σ2, hq3, hf⟩ := fm_bE hf
  refine fm_ci hI (fm_runV (As := [.int a1]) (rest := []) (rm := { frames := 1, cells := 0, slots := 0, locals := 22 }) hC hI (c_X12_isPresent hC.2.2.1 hq3) mV_X12_isPresent q_904 ⟨rfl, rfl⟩ ⟨Nat.le_of_ble_eq_true rfl, Nat.le_of_ble_eq_true rfl⟩ fc_96 rfl (by decide) rfl hl.1 rfl (Nat.le_of_ble_eq_true rfl) dX12_on_2 ⟨Nat.zero_le _, Nat.zero_le _⟩) (fun H locs hI => ?_)
  refine lv_if_eq (tgt := 29) hx hb dX12_on_5 (by decide) (fun hc => ?_) (fun hc => ?_)
  · have hf := fm_pT hf hc
    refine lv_aload_n hx hb dX12_on_29 rfl (lv_at hl 0 rfl) ?_
    refine lv_iconst (v := (0 : Int32)) hx hb dX12_on_30 (by decide) ?_
    obtain ⟨r4, σ5, hq6, hf⟩ := fm_bE hf
    refine fm_ci hI (fm_runV (As := [.int (0 : Int32)]) (rest := []) (rm := { frames := 0, cells := 0, slots := 0, locals := 0 }) hC hI (c_X12_no hC.2.2.1 hq6) mV_X12_no q_867 ⟨rfl, rfl⟩ ⟨Nat.le_of_ble_eq_true rfl, Nat.le_of_ble_eq_true rfl⟩ fc_96 rfl (by decide) rfl hl.1 rfl (Nat.le_of_ble_eq_true rfl) dX12_on_31 ⟨Nat.zero_le _, Nat.zero_le _⟩) (fun H locs hI => ?_)
    exact fm_ri hC hI hr hlk hf dX12_on_34
  · have hf := fm_pF hf hc
    refine lv_iload_n hx hb dX12_on_8 rfl (lv_at hl 2 rfl) ?_
    obtain ⟨r7, σ8, hq9, hf⟩ := fm_bE hf
    refine fm_ci hI (fm_runS (As := [.int a2]) (rest := []) (rm := { frames := 1, cells := 0, slots := 0, locals := 22 }) hC hI (c_X12_isAhead hC.2.2.1 hq9) mS_X12_isAhead q_1034 ⟨rfl, rfl⟩ ⟨Nat.le_of_ble_eq_true rfl, Nat.le_of_ble_eq_true rfl⟩ rfl hl.1 rfl (Nat.le_of_ble_eq_true rfl) dX12_on_9 ⟨Nat.zero_le _, Nat.zero_le _⟩) (fun H locs hI => ?_)
    refine lv_if_eq (tgt := 29) hx hb dX12_on_12 (by decide) (fun hc => ?_) (fun hc => ?_)
    · have hf := fm_pT hf hc
      refine lv_aload_n hx hb dX12_on_29 rfl (lv_at hl 0 rfl) ?_
      refine lv_iconst (v := (0 : Int32)) hx hb dX12_on_30 (by decide) ?_
      obtain ⟨r10, σ11, hq12, hf⟩ := fm_bE hf
      refine fm_ci hI (fm_runV (As := [.int (0 : Int32)]) (rest := []) (rm := { frames := 0, cells := 0, slots := 0, locals := 0 }) hC hI (c_X12_no hC.2.2.1 hq12) mV_X12_no q_867 ⟨rfl, rfl⟩ ⟨Nat.le_of_ble_eq_true rfl, Nat.le_of_ble_eq_true rfl⟩ fc_96 rfl (by decide) rfl hl.1 rfl (Nat.le_of_ble_eq_true rfl) dX12_on_31 ⟨Nat.zero_le _, Nat.zero_le _⟩) (fun H locs hI => ?_)
      exact fm_ri hC hI hr hlk hf dX12_on_34
    · have hf := fm_pF hf hc
      refine lv_iload_n hx hb dX12_on_15 rfl (lv_at hl 3 rfl) ?_
      refine lv_iconst (v := (0 : Int32)) hx hb dX12_on_16 (by decide) ?_
      refine lv_iconst (v := (3 : Int32)) hx hb dX12_on_17 (by decide) ?_
      obtain ⟨r13, σ14, hq15, hf⟩ := fm_bE hf
      refine fm_ci hI (fm_runS (As := [.int a3, .int (0 : Int32), .int (3 : Int32)]) (rest := []) (rm := { frames := 0, cells := 0, slots := 0, locals := 0 }) hC hI (c_X12_in1 hC.2.2.1 hq15) mS_X12_in1 q_864 ⟨rfl, rfl⟩ ⟨Nat.le_of_ble_eq_true rfl, Nat.le_of_ble_eq_true rfl⟩ rfl hl.1 rfl (Nat.le_of_ble_eq_true rfl) dX12_on_18 ⟨Nat.zero_le _, Nat.zero_le _⟩) (fun H locs hI => ?_)
      refine lv_if_eq (tgt := 29) hx hb dX12_on_21 (by decide) (fun hc => ?_) (fun hc => ?_)
      · have hf := fm_pT hf hc
        refine lv_aload_n hx hb dX12_on_29 rfl (lv_at hl 0 rfl) ?_
        refine lv_iconst (v := (0 : Int32)) hx hb dX12_on_30 (by decide) ?_
        obtain ⟨r16, σ17, hq18, hf⟩ := fm_bE hf
        refine fm_ci hI (fm_runV (As := [.int (0 : Int32)]) (rest := []) (rm := { frames := 0, cells := 0, slots := 0, locals := 0 }) hC hI (c_X12_no hC.2.2.1 hq18) mV_X12_no q_867 ⟨rfl, rfl⟩ ⟨Nat.le_of_ble_eq_true rfl, Nat.le_of_ble_eq_true rfl⟩ fc_96 rfl (by decide) rfl hl.1 rfl (Nat.le_of_ble_eq_true rfl) dX12_on_31 ⟨Nat.zero_le _, Nat.zero_le _⟩) (fun H locs hI => ?_)
        exact fm_ri hC hI hr hlk hf dX12_on_34
      · have hf := fm_pF hf hc
        refine lv_iload_n hx hb dX12_on_24 rfl (lv_at hl 3 rfl) ?_
        refine lv_iconst (v := (1 : Int32)) hx hb dX12_on_25 (by decide) ?_
        refine lv_icmp_ne (tgt := 35) hx hb dX12_on_26 (by decide) (fun hc => ?_) (fun hc => ?_)
        · have hf := fm_pF hf hc
          refine lv_aload_n hx hb dX12_on_35 rfl (lv_at hl 0 rfl) ?_
          obtain ⟨_u19, σ20, hq21, hf⟩ := fm_bE hf
          refine fm_cv hI (fm_runV (As := []) (rest := []) (rm := { frames := 0, cells := 0, slots := 0, locals := 0 }) hC hI (c_X12_setsAside hC.2.2.1 hq21) mV_X12_setsAside q_1037 ⟨rfl, rfl⟩ ⟨Nat.le_of_ble_eq_true rfl, Nat.le_of_ble_eq_true rfl⟩ fc_96 rfl (by decide) rfl hl.1 rfl (Nat.le_of_ble_eq_true rfl) dX12_on_36 ⟨Nat.zero_le _, Nat.zero_le _⟩) (fun H locs hI => ?_)
          refine lv_aload_n hx hb dX12_on_39 rfl (lv_at hl 0 rfl) ?_
          refine lv_iload_n hx hb dX12_on_40 rfl (lv_at hl 2 rfl) ?_
          obtain ⟨_u22, σ23, hq24, hf⟩ := fm_bE hf
          refine fm_cv hI (fm_runV (As := [.int a2]) (rest := []) (rm := { frames := 5, cells := 0, slots := 0, locals := 114 }) hC hI (c_X12_goes hC.2.2.1 hq24) mV_X12_goes q_990 ⟨rfl, rfl⟩ ⟨Nat.le_of_ble_eq_true rfl, Nat.le_of_ble_eq_true rfl⟩ fc_96 rfl (by decide) rfl hl.1 rfl (Nat.le_of_ble_eq_true rfl) dX12_on_41 ⟨Nat.zero_le _, Nat.zero_le _⟩) (fun H locs hI => ?_)
          refine lv_aload_n hx hb dX12_on_44 rfl (lv_at hl 0 rfl) ?_
          refine lv_iload_n hx hb dX12_on_45 rfl (lv_at hl 1 rfl) ?_
          refine lv_iload_n hx hb dX12_on_46 rfl (lv_at hl 3 rfl) ?_
          obtain ⟨r25, σ26, hq27, hf⟩ := fm_bE hf
          refine fm_ci hI (fm_runV (As := [.int a1, .int a3]) (rest := []) (rm := { frames := 0, cells := 0, slots := 0, locals := 0 }) hC hI (c_X12_of1 hC.2.2.1 hq27) mV_X12_of1 q_896 ⟨rfl, rfl⟩ ⟨Nat.le_of_ble_eq_true rfl, Nat.le_of_ble_eq_true rfl⟩ fc_96 rfl (by decide) rfl hl.1 rfl (Nat.le_of_ble_eq_true rfl) dX12_on_47 ⟨Nat.zero_le _, Nat.zero_le _⟩) (fun H locs hI => ?_)
          refine lv_istore (lv' := [(4, .int r25), (0, .ref (G.2.1 96)), (1, .int a1), (2, .int a2), (3, .int a3)]) hx hb dX12_on_50 hl (Nat.le_of_ble_eq_true rfl) rfl (fun ls hl => ?_)
          refine lv_aload_n hx hb dX12_on_52 rfl (lv_at hl 1 rfl) ?_
          obtain ⟨_u28, σ29, hq30, hf⟩ := fm_bE hf
          refine fm_cv hI (fm_runV (As := []) (rest := []) (rm := { frames := 0, cells := 0, slots := 0, locals := 0 }) hC hI (c_X12_laysBack hC.2.2.1 hq30) mV_X12_laysBack q_1041 ⟨rfl, rfl⟩ ⟨Nat.le_of_ble_eq_true rfl, Nat.le_of_ble_eq_true rfl⟩ fc_96 rfl (by decide) rfl hl.1 rfl (Nat.le_of_ble_eq_true rfl) dX12_on_53 ⟨Nat.zero_le _, Nat.zero_le _⟩) (fun H locs hI => ?_)
          refine lv_iload hx hb dX12_on_56 (lv_at hl 0 rfl) ?_
          exact fm_ri hC hI hr hlk hf dX12_on_58
        · have hf := fm_pT hf hc
          refine lv_aload_n hx hb dX12_on_29 rfl (lv_at hl 0 rfl) ?_
          refine lv_iconst (v := (0 : Int32)) hx hb dX12_on_30 (by decide) ?_
          obtain ⟨r31, σ32, hq33, hf⟩ := fm_bE hf
          refine fm_ci hI (fm_runV (As := [.int (0 : Int32)]) (rest := []) (rm := { frames := 0, cells := 0, slots := 0, locals := 0 }) hC hI (c_X12_no hC.2.2.1 hq33) mV_X12_no q_867 ⟨rfl, rfl⟩ ⟨Nat.le_of_ble_eq_true rfl, Nat.le_of_ble_eq_true rfl⟩ fc_96 rfl (by decide) rfl hl.1 rfl (Nat.le_of_ble_eq_true rfl) dX12_on_31 ⟨Nat.zero_le _, Nat.zero_le _⟩) (fun H locs hI => ?_)
          exact fm_ri hC hI hr hlk hf dX12_on_34
def m_X12_joyOn (a1 : Int32) (a2 : Int32) (σ : fm_M) : Option (Int32 × fm_M) := fm_b (m_X12_isPerson a1 σ) fun r1 σ2 => (if r1 = 0 then (fm_b (m_X12_no (0 : Int32) σ2) fun r4 σ5 => (some (r4, σ5))) else (fm_b (m_X12_isAhead a2 σ2) fun r7 σ8 => (if r7 = 0 then (fm_b (m_X12_no (0 : Int32) σ8) fun r22 σ23 => (some (r22, σ23))) else (fm_b (m_X12_setsAside  σ8) fun _u10 σ11 => (fm_b (m_X12_goes a2 σ11) fun _u13 σ14 => (fm_b (m_X12_get a1 (1 : Int32) σ14) fun r16 σ17 => (fm_b (m_X12_laysBack  σ17) fun _u19 σ20 => (some (r16, σ20)))))))))
set_option maxHeartbeats 4000000 in
set_option maxRecDepth 100000 in
theorem c_X12_joyOn {l : Launch} {G : fm_G} (hJ : fm_J G) {a1 : Int32} {a2 : Int32} {σ : fm_M} {o : Int32 × fm_M}  (hf : m_X12_joyOn a1 a2 σ = some o) : Met l yX12_joyOn (fm_w yX12_joyOn cX12_joyOn 4 (some .int)) { frames := 6, cells := 0, slots := 0, locals := 136 } (va_Pc [.ref (G.2.1 96), .int a1, .int a2] (fm_st G σ)) (fm_Qi G o) 0 0 (fm_A G) := by
  refine fm_mth (own := RX12) hJ rfl (by decide +kernel) (Nat.le_of_ble_eq_true rfl) ?_
  intro p e s m below meth c ls hC hr hlk hI hl
  have hx := hC.1.1
  have hb := hC.1.2.1
  have hown := hC.1.2.2.2.1
  have hts := hC.1.2.2.2.2
  have hl : lv_has ls 4 [(0, .ref (G.2.1 96)), (1, .int a1), (2, .int a2)] := hl
  rw [m_X12_joyOn] at hf
  refine lv_aload_n hx hb dX12_joyOn_0 rfl (lv_at hl 0 rfl) ?_
  refine lv_iload_n hx hb dX12_joyOn_1 rfl (lv_at hl 1 rfl) ?_
  obtain ⟨r1, σ2, hq3, hf⟩ := fm_bE hf
  refine fm_ci hI (fm_runV (As := [.int a1]) (rest := []) (rm := { frames := 1, cells := 0, slots := 0, locals := 22 }) hC hI (c_X12_isPerson hC.2.2.1 hq3) mV_X12_isPerson q_884 ⟨rfl, rfl⟩ ⟨Nat.le_of_ble_eq_true rfl, Nat.le_of_ble_eq_true rfl⟩ fc_96 rfl (by decide) rfl hl.1 rfl (Nat.le_of_ble_eq_true rfl) dX12_joyOn_2 ⟨Nat.zero_le _, Nat.zero_le _⟩) (fun H locs hI => ?_)
  refine lv_if_eq (tgt := 15) hx hb dX12_joyOn_5 (by decide) (fun hc => ?_) (fun hc => ?_)
  · have hf := fm_pT hf hc
    refine lv_aload_n hx hb dX12_joyOn_15 rfl (lv_at hl 0 rfl) ?_
    refine lv_iconst (v := (0 : Int32)) hx hb dX12_joyOn_16 (by decide) ?_
    obtain ⟨r4, σ5, hq6, hf⟩ := fm_bE hf
    refine fm_ci hI (fm_runV (As := [.int (0 : Int32)]) (rest := []) (rm := { frames := 0, cells := 0, slots := 0, locals := 0 }) hC hI (c_X12_no hC.2.2.1 hq6) mV_X12_no q_867 ⟨rfl, rfl⟩ ⟨Nat.le_of_ble_eq_true rfl, Nat.le_of_ble_eq_true rfl⟩ fc_96 rfl (by decide) rfl hl.1 rfl (Nat.le_of_ble_eq_true rfl) dX12_joyOn_17 ⟨Nat.zero_le _, Nat.zero_le _⟩) (fun H locs hI => ?_)
    exact fm_ri hC hI hr hlk hf dX12_joyOn_20
  · have hf := fm_pF hf hc
    refine lv_iload_n hx hb dX12_joyOn_8 rfl (lv_at hl 2 rfl) ?_
    obtain ⟨r7, σ8, hq9, hf⟩ := fm_bE hf
    refine fm_ci hI (fm_runS (As := [.int a2]) (rest := []) (rm := { frames := 1, cells := 0, slots := 0, locals := 22 }) hC hI (c_X12_isAhead hC.2.2.1 hq9) mS_X12_isAhead q_1034 ⟨rfl, rfl⟩ ⟨Nat.le_of_ble_eq_true rfl, Nat.le_of_ble_eq_true rfl⟩ rfl hl.1 rfl (Nat.le_of_ble_eq_true rfl) dX12_joyOn_9 ⟨Nat.zero_le _, Nat.zero_le _⟩) (fun H locs hI => ?_)
    refine lv_if_ne (tgt := 21) hx hb dX12_joyOn_12 (by decide) (fun hc => ?_) (fun hc => ?_)
    · have hf := fm_pF hf hc
      refine lv_aload_n hx hb dX12_joyOn_21 rfl (lv_at hl 0 rfl) ?_
      obtain ⟨_u10, σ11, hq12, hf⟩ := fm_bE hf
      refine fm_cv hI (fm_runV (As := []) (rest := []) (rm := { frames := 0, cells := 0, slots := 0, locals := 0 }) hC hI (c_X12_setsAside hC.2.2.1 hq12) mV_X12_setsAside q_1037 ⟨rfl, rfl⟩ ⟨Nat.le_of_ble_eq_true rfl, Nat.le_of_ble_eq_true rfl⟩ fc_96 rfl (by decide) rfl hl.1 rfl (Nat.le_of_ble_eq_true rfl) dX12_joyOn_22 ⟨Nat.zero_le _, Nat.zero_le _⟩) (fun H locs hI => ?_)
      refine lv_aload_n hx hb dX12_joyOn_25 rfl (lv_at hl 0 rfl) ?_
      refine lv_iload_n hx hb dX12_joyOn_26 rfl (lv_at hl 2 rfl) ?_
      obtain ⟨_u13, σ14, hq15, hf⟩ := fm_bE hf
      refine fm_cv hI (fm_runV (As := [.int a2]) (rest := []) (rm := { frames := 5, cells := 0, slots := 0, locals := 114 }) hC hI (c_X12_goes hC.2.2.1 hq15) mV_X12_goes q_990 ⟨rfl, rfl⟩ ⟨Nat.le_of_ble_eq_true rfl, Nat.le_of_ble_eq_true rfl⟩ fc_96 rfl (by decide) rfl hl.1 rfl (Nat.le_of_ble_eq_true rfl) dX12_joyOn_27 ⟨Nat.zero_le _, Nat.zero_le _⟩) (fun H locs hI => ?_)
      refine lv_aload_n hx hb dX12_joyOn_30 rfl (lv_at hl 0 rfl) ?_
      refine lv_iload_n hx hb dX12_joyOn_31 rfl (lv_at hl 1 rfl) ?_
      refine lv_iconst (v := (1 : Int32)) hx hb dX12_joyOn_32 (by decide) ?_
      obtain ⟨r16, σ17, hq18, hf⟩ := fm_bE hf
      refine fm_ci hI (fm_runV (As := [.int a1, .int (1 : Int32)]) (rest := []) (rm := { frames := 0, cells := 0, slots := 0, locals := 0 }) hC hI (c_X12_get hC.2.2.1 hq18) mV_X12_get q_888 ⟨rfl, rfl⟩ ⟨Nat.le_of_ble_eq_true rfl, Nat.le_of_ble_eq_true rfl⟩ fc_96 rfl (by decide) rfl hl.1 rfl (Nat.le_of_ble_eq_true rfl) dX12_joyOn_33 ⟨Nat.zero_le _, Nat.zero_le _⟩) (fun H locs hI => ?_)
      refine lv_istore_n (lv' := [(3, .int r16), (0, .ref (G.2.1 96)), (1, .int a1), (2, .int a2)]) hx hb dX12_joyOn_36 rfl hl (Nat.le_of_ble_eq_true rfl) rfl (fun ls hl => ?_)
      refine lv_aload_n hx hb dX12_joyOn_37 rfl (lv_at hl 1 rfl) ?_
      obtain ⟨_u19, σ20, hq21, hf⟩ := fm_bE hf
      refine fm_cv hI (fm_runV (As := []) (rest := []) (rm := { frames := 0, cells := 0, slots := 0, locals := 0 }) hC hI (c_X12_laysBack hC.2.2.1 hq21) mV_X12_laysBack q_1041 ⟨rfl, rfl⟩ ⟨Nat.le_of_ble_eq_true rfl, Nat.le_of_ble_eq_true rfl⟩ fc_96 rfl (by decide) rfl hl.1 rfl (Nat.le_of_ble_eq_true rfl) dX12_joyOn_38 ⟨Nat.zero_le _, Nat.zero_le _⟩) (fun H locs hI => ?_)
      refine lv_iload_n hx hb dX12_joyOn_41 rfl (lv_at hl 0 rfl) ?_
      exact fm_ri hC hI hr hlk hf dX12_joyOn_42
    · have hf := fm_pT hf hc
      refine lv_aload_n hx hb dX12_joyOn_15 rfl (lv_at hl 0 rfl) ?_
      refine lv_iconst (v := (0 : Int32)) hx hb dX12_joyOn_16 (by decide) ?_
      obtain ⟨r22, σ23, hq24, hf⟩ := fm_bE hf
      refine fm_ci hI (fm_runV (As := [.int (0 : Int32)]) (rest := []) (rm := { frames := 0, cells := 0, slots := 0, locals := 0 }) hC hI (c_X12_no hC.2.2.1 hq24) mV_X12_no q_867 ⟨rfl, rfl⟩ ⟨Nat.le_of_ble_eq_true rfl, Nat.le_of_ble_eq_true rfl⟩ fc_96 rfl (by decide) rfl hl.1 rfl (Nat.le_of_ble_eq_true rfl) dX12_joyOn_17 ⟨Nat.zero_le _, Nat.zero_le _⟩) (fun H locs hI => ?_)
      exact fm_ri hC hI hr hlk hf dX12_joyOn_20
def m_X12_firstBy_7 (kc : Int32 → Int32 → Int32 → Int32 → fm_M → Option (Int32 × fm_M)) : Nat → Int32 → Int32 → Int32 → Int32 → fm_M → Option (Int32 × fm_M)
  | 0, _, _, _, _, _ => none
  | n + 1, z1, z2, z3, z4, σ => if (60 : Int32) < z4 then (kc z1 z2 z3 z4 σ) else (fm_b (m_X12_of1 z1 z2 σ) fun r4 σ5 => (if r4 = z3 then (kc z1 z2 z3 z4 σ5) else (fm_b (m_X12_day  σ5) fun _u7 σ8 => (m_X12_firstBy_7 kc n z1 z2 z3 (z4 + (1 : Int32)) σ8))))
def m_X12_firstBy (a1 : Int32) (a2 : Int32) (a3 : Int32) (σ : fm_M) : Option (Int32 × fm_M) := fm_b (m_X12_setsAside  σ) fun _u1 σ2 => (m_X12_firstBy_7 (fun (x1_y10 : Int32) (x2_y10 : Int32) (x3_y10 : Int32) (x4_y10 : Int32) (σ_y10 : fm_M) => fm_b (m_X12_laysBack  σ_y10) fun _u11 σ12 => (if x4_y10 ≤ (60 : Int32) then (some (x4_y10, σ12)) else (fm_b (m_X12_no (3 : Int32) σ12) fun r14 σ15 => (some (r14, σ15))))) fm_fu a1 a2 a3 (0 : Int32) σ2)
set_option maxHeartbeats 4000000 in
set_option maxRecDepth 100000 in
theorem w_X12_firstBy_7 {p : Program} {l : Launch} {e : Env} {s : State} {m : MethodId} {args : Array Value} {below : List Frame} {meth : Method} {c : Code} {G : fm_G} {o : Int32 × fm_M} {kc : Int32 → Int32 → Int32 → Int32 → fm_M → Option (Int32 × fm_M)} (hC : fm_C G p m c cX12_firstBy 5 s args RX12) (hr : meth.sig.returnType = (some .int)) (hlk : meth.locks = false) (hk : ∀ (z1 : Int32) (z2 : Int32) (z3 : Int32) (z4 : Int32) (σ : fm_M) (H : Heap) (locs : List Loc) (ls : Array Slot), fm_I G σ s H locs → lv_has ls 5 [(0, .ref (G.2.1 96)), (1, .int z1), (2, .int z2), (3, .int z3), (4, .int z4)] → kc z1 z2 z3 z4 σ = some o → W p l e { frames := 5, cells := 0, slots := 0, locals := 114 } s m args below meth c H locs 0 0 (MQ below (fm_Qi G o) args s 0 0 (fm_A G)) (F0 m 34 ls [])) (n : Nat) : ∀ (z1 : Int32) (z2 : Int32) (z3 : Int32) (z4 : Int32) (σ : fm_M) (H : Heap) (locs : List Loc) (ls : Array Slot), fm_I G σ s H locs → lv_has ls 5 [(0, .ref (G.2.1 96)), (1, .int z1), (2, .int z2), (3, .int z3), (4, .int z4)] → m_X12_firstBy_7 kc n z1 z2 z3 z4 σ = some o → W p l e { frames := 5, cells := 0, slots := 0, locals := 114 } s m args below meth c H locs 0 0 (MQ below (fm_Qi G o) args s 0 0 (fm_A G)) (F0 m 7 ls []) := by
  have hx := hC.1.1
  have hb := hC.1.2.1
  have hown := hC.1.2.2.2.1
  have hts := hC.1.2.2.2.2
  induction n with
  | zero =>
    intro z1 z2 z3 z4 σ H locs ls hI hl hf
    cases hf
  | succ n ih =>
    intro z1 z2 z3 z4 σ H locs ls hI hl hf
    rw [m_X12_firstBy_7] at hf
    refine lv_iload hx hb dX12_firstBy_7 (lv_at hl 4 rfl) ?_
    refine lv_bipush (v := (60 : Int32)) hx hb dX12_firstBy_9 (by decide) ?_
    refine lv_icmp_gt (tgt := 34) hx hb dX12_firstBy_11 (by decide) (fun hc => ?_) (fun hc => ?_)
    · have hf := fm_pT hf hc
      exact hk z1 z2 z3 z4 σ _ _ _ hI (lv_sub hl [0, 1, 2, 3, 4] rfl) hf
    · have hf := fm_pF hf hc
      refine lv_aload_n hx hb dX12_firstBy_14 rfl (lv_at hl 0 rfl) ?_
      refine lv_iload_n hx hb dX12_firstBy_15 rfl (lv_at hl 1 rfl) ?_
      refine lv_iload_n hx hb dX12_firstBy_16 rfl (lv_at hl 2 rfl) ?_
      obtain ⟨r4, σ5, hq6, hf⟩ := fm_bE hf
      refine fm_ci hI (fm_runV (As := [.int z1, .int z2]) (rest := []) (rm := { frames := 0, cells := 0, slots := 0, locals := 0 }) hC hI (c_X12_of1 hC.2.2.1 hq6) mV_X12_of1 q_896 ⟨rfl, rfl⟩ ⟨Nat.le_of_ble_eq_true rfl, Nat.le_of_ble_eq_true rfl⟩ fc_96 rfl (by decide) rfl hl.1 rfl (Nat.le_of_ble_eq_true rfl) dX12_firstBy_17 ⟨Nat.zero_le _, Nat.zero_le _⟩) (fun H locs hI => ?_)
      refine lv_iload_n hx hb dX12_firstBy_20 rfl (lv_at hl 3 rfl) ?_
      refine lv_icmp_eq (tgt := 34) hx hb dX12_firstBy_21 (by decide) (fun hc => ?_) (fun hc => ?_)
      · have hf := fm_pT hf hc
        exact hk z1 z2 z3 z4 σ5 _ _ _ hI (lv_sub hl [0, 1, 2, 3, 4] rfl) hf
      · have hf := fm_pF hf hc
        refine lv_aload_n hx hb dX12_firstBy_24 rfl (lv_at hl 0 rfl) ?_
        obtain ⟨_u7, σ8, hq9, hf⟩ := fm_bE hf
        refine fm_cv hI (fm_runV (As := []) (rest := []) (rm := { frames := 4, cells := 0, slots := 0, locals := 92 }) hC hI (c_X12_day hC.2.2.1 hq9) mV_X12_day q_994 ⟨rfl, rfl⟩ ⟨Nat.le_of_ble_eq_true rfl, Nat.le_of_ble_eq_true rfl⟩ fc_96 rfl (by decide) rfl hl.1 rfl (Nat.le_of_ble_eq_true rfl) dX12_firstBy_25 ⟨Nat.zero_le _, Nat.zero_le _⟩) (fun H locs hI => ?_)
        refine lv_iinc (v := (z4 + (1 : Int32))) (lv' := [(4, .int (z4 + (1 : Int32))), (0, .ref (G.2.1 96)), (1, .int z1), (2, .int z2), (3, .int z3)]) hx hb dX12_firstBy_28 hl (k := 4) rfl rfl (Nat.le_of_ble_eq_true rfl) rfl (fun ls hl => ?_)
        refine lv_goto (tgt := 7) hx hb dX12_firstBy_31 (by decide) ?_
        exact ih z1 z2 z3 (z4 + (1 : Int32)) σ8 _ _ _ hI (lv_sub hl [1, 2, 3, 4, 0] rfl) hf
set_option maxHeartbeats 4000000 in
set_option maxRecDepth 100000 in
theorem c_X12_firstBy {l : Launch} {G : fm_G} (hJ : fm_J G) {a1 : Int32} {a2 : Int32} {a3 : Int32} {σ : fm_M} {o : Int32 × fm_M}  (hf : m_X12_firstBy a1 a2 a3 σ = some o) : Met l yX12_firstBy (fm_w yX12_firstBy cX12_firstBy 5 (some .int)) { frames := 5, cells := 0, slots := 0, locals := 114 } (va_Pc [.ref (G.2.1 96), .int a1, .int a2, .int a3] (fm_st G σ)) (fm_Qi G o) 0 0 (fm_A G) := by
  refine fm_mth (own := RX12) hJ rfl (by decide +kernel) (Nat.le_of_ble_eq_true rfl) ?_
  intro p e s m below meth c ls hC hr hlk hI hl
  have hx := hC.1.1
  have hb := hC.1.2.1
  have hown := hC.1.2.2.2.1
  have hts := hC.1.2.2.2.2
  have hl : lv_has ls 5 [(0, .ref (G.2.1 96)), (1, .int a1), (2, .int a2), (3, .int a3)] := hl
  rw [m_X12_firstBy] at hf
  refine lv_aload_n hx hb dX12_firstBy_0 rfl (lv_at hl 0 rfl) ?_
  obtain ⟨_u1, σ2, hq3, hf⟩ := fm_bE hf
  refine fm_cv hI (fm_runV (As := []) (rest := []) (rm := { frames := 0, cells := 0, slots := 0, locals := 0 }) hC hI (c_X12_setsAside hC.2.2.1 hq3) mV_X12_setsAside q_1037 ⟨rfl, rfl⟩ ⟨Nat.le_of_ble_eq_true rfl, Nat.le_of_ble_eq_true rfl⟩ fc_96 rfl (by decide) rfl hl.1 rfl (Nat.le_of_ble_eq_true rfl) dX12_firstBy_1 ⟨Nat.zero_le _, Nat.zero_le _⟩) (fun H locs hI => ?_)
  refine lv_iconst (v := (0 : Int32)) hx hb dX12_firstBy_4 (by decide) ?_
  refine lv_istore (lv' := [(4, .int (0 : Int32)), (0, .ref (G.2.1 96)), (1, .int a1), (2, .int a2), (3, .int a3)]) hx hb dX12_firstBy_5 hl (Nat.le_of_ble_eq_true rfl) rfl (fun ls hl => ?_)
  refine w_X12_firstBy_7 hC hr hlk (fun x1_y10 x2_y10 x3_y10 x4_y10 σ_y10 H locs ls hI hl hf => ?_) fm_fu a1 a2 a3 (0 : Int32) σ2 _ _ _ hI (lv_sub hl [1, 2, 3, 4, 0] rfl) hf
  refine lv_aload_n hx hb dX12_firstBy_34 rfl (lv_at hl 0 rfl) ?_
  obtain ⟨_u11, σ12, hq13, hf⟩ := fm_bE hf
  refine fm_cv hI (fm_runV (As := []) (rest := []) (rm := { frames := 0, cells := 0, slots := 0, locals := 0 }) hC hI (c_X12_laysBack hC.2.2.1 hq13) mV_X12_laysBack q_1041 ⟨rfl, rfl⟩ ⟨Nat.le_of_ble_eq_true rfl, Nat.le_of_ble_eq_true rfl⟩ fc_96 rfl (by decide) rfl hl.1 rfl (Nat.le_of_ble_eq_true rfl) dX12_firstBy_35 ⟨Nat.zero_le _, Nat.zero_le _⟩) (fun H locs hI => ?_)
  refine lv_iload hx hb dX12_firstBy_38 (lv_at hl 4 rfl) ?_
  refine lv_bipush (v := (60 : Int32)) hx hb dX12_firstBy_40 (by decide) ?_
  refine lv_icmp_le (tgt := 53) hx hb dX12_firstBy_42 (by decide) (fun hc => ?_) (fun hc => ?_)
  · have hf := fm_pT hf hc
    refine lv_iload hx hb dX12_firstBy_53 (lv_at hl 4 rfl) ?_
    exact fm_ri hC hI hr hlk hf dX12_firstBy_55
  · have hf := fm_pF hf hc
    refine lv_aload_n hx hb dX12_firstBy_45 rfl (lv_at hl 0 rfl) ?_
    refine lv_iconst (v := (3 : Int32)) hx hb dX12_firstBy_46 (by decide) ?_
    obtain ⟨r14, σ15, hq16, hf⟩ := fm_bE hf
    refine fm_ci hI (fm_runV (As := [.int (3 : Int32)]) (rest := []) (rm := { frames := 0, cells := 0, slots := 0, locals := 0 }) hC hI (c_X12_no hC.2.2.1 hq16) mV_X12_no q_867 ⟨rfl, rfl⟩ ⟨Nat.le_of_ble_eq_true rfl, Nat.le_of_ble_eq_true rfl⟩ fc_96 rfl (by decide) rfl hl.1 rfl (Nat.le_of_ble_eq_true rfl) dX12_firstBy_47 ⟨Nat.zero_le _, Nat.zero_le _⟩) (fun H locs hI => ?_)
    refine lv_goto (tgt := 55) hx hb dX12_firstBy_50 (by decide) ?_
    exact fm_ri hC hI hr hlk hf dX12_firstBy_55
def m_X12_found (a1 : Int32) (σ : fm_M) : Option (Int32 × fm_M) := fm_b (m_X12_isPresent a1 σ) fun r1 σ2 => (if r1 = 0 then (fm_b (m_X12_no (0 : Int32) σ2) fun r4 σ5 => (some (r4, σ5))) else (fm_b (m_X12_firstBy a1 (3 : Int32) (1 : Int32) σ2) fun r7 σ8 => (some (r7, σ8))))
set_option maxHeartbeats 4000000 in
set_option maxRecDepth 100000 in
theorem c_X12_found {l : Launch} {G : fm_G} (hJ : fm_J G) {a1 : Int32} {σ : fm_M} {o : Int32 × fm_M}  (hf : m_X12_found a1 σ = some o) : Met l yX12_found (fm_w yX12_found cX12_found 2 (some .int)) { frames := 6, cells := 0, slots := 0, locals := 138 } (va_Pc [.ref (G.2.1 96), .int a1] (fm_st G σ)) (fm_Qi G o) 0 0 (fm_A G) := by
  refine fm_mth (own := RX12) hJ rfl (by decide +kernel) (Nat.le_of_ble_eq_true rfl) ?_
  intro p e s m below meth c ls hC hr hlk hI hl
  have hx := hC.1.1
  have hb := hC.1.2.1
  have hown := hC.1.2.2.2.1
  have hts := hC.1.2.2.2.2
  have hl : lv_has ls 2 [(0, .ref (G.2.1 96)), (1, .int a1)] := hl
  rw [m_X12_found] at hf
  refine lv_aload_n hx hb dX12_found_0 rfl (lv_at hl 0 rfl) ?_
  refine lv_iload_n hx hb dX12_found_1 rfl (lv_at hl 1 rfl) ?_
  obtain ⟨r1, σ2, hq3, hf⟩ := fm_bE hf
  refine fm_ci hI (fm_runV (As := [.int a1]) (rest := []) (rm := { frames := 1, cells := 0, slots := 0, locals := 22 }) hC hI (c_X12_isPresent hC.2.2.1 hq3) mV_X12_isPresent q_904 ⟨rfl, rfl⟩ ⟨Nat.le_of_ble_eq_true rfl, Nat.le_of_ble_eq_true rfl⟩ fc_96 rfl (by decide) rfl hl.1 rfl (Nat.le_of_ble_eq_true rfl) dX12_found_2 ⟨Nat.zero_le _, Nat.zero_le _⟩) (fun H locs hI => ?_)
  refine lv_if_eq (tgt := 18) hx hb dX12_found_5 (by decide) (fun hc => ?_) (fun hc => ?_)
  · have hf := fm_pT hf hc
    refine lv_aload_n hx hb dX12_found_18 rfl (lv_at hl 0 rfl) ?_
    refine lv_iconst (v := (0 : Int32)) hx hb dX12_found_19 (by decide) ?_
    obtain ⟨r4, σ5, hq6, hf⟩ := fm_bE hf
    refine fm_ci hI (fm_runV (As := [.int (0 : Int32)]) (rest := []) (rm := { frames := 0, cells := 0, slots := 0, locals := 0 }) hC hI (c_X12_no hC.2.2.1 hq6) mV_X12_no q_867 ⟨rfl, rfl⟩ ⟨Nat.le_of_ble_eq_true rfl, Nat.le_of_ble_eq_true rfl⟩ fc_96 rfl (by decide) rfl hl.1 rfl (Nat.le_of_ble_eq_true rfl) dX12_found_20 ⟨Nat.zero_le _, Nat.zero_le _⟩) (fun H locs hI => ?_)
    exact fm_ri hC hI hr hlk hf dX12_found_23
  · have hf := fm_pF hf hc
    refine lv_aload_n hx hb dX12_found_8 rfl (lv_at hl 0 rfl) ?_
    refine lv_iload_n hx hb dX12_found_9 rfl (lv_at hl 1 rfl) ?_
    refine lv_iconst (v := (3 : Int32)) hx hb dX12_found_10 (by decide) ?_
    refine lv_iconst (v := (1 : Int32)) hx hb dX12_found_11 (by decide) ?_
    obtain ⟨r7, σ8, hq9, hf⟩ := fm_bE hf
    refine fm_ci hI (fm_runV (As := [.int a1, .int (3 : Int32), .int (1 : Int32)]) (rest := []) (rm := { frames := 5, cells := 0, slots := 0, locals := 114 }) hC hI (c_X12_firstBy hC.2.2.1 hq9) mV_X12_firstBy q_1053 ⟨rfl, rfl⟩ ⟨Nat.le_of_ble_eq_true rfl, Nat.le_of_ble_eq_true rfl⟩ fc_96 rfl (by decide) rfl hl.1 rfl (Nat.le_of_ble_eq_true rfl) dX12_found_12 ⟨Nat.zero_le _, Nat.zero_le _⟩) (fun H locs hI => ?_)
    refine lv_goto (tgt := 23) hx hb dX12_found_15 (by decide) ?_
    exact fm_ri hC hI hr hlk hf dX12_found_23
def m_X12_comes (a1 : Int32) (a2 : Int32) (σ : fm_M) : Option (Int32 × fm_M) := fm_b (m_X12_isPresent a1 σ) fun r1 σ2 => (if r1 = 0 then (fm_b (m_X12_no (0 : Int32) σ2) fun r4 σ5 => (some (r4, σ5))) else (fm_b (m_X12_isPerson a2 σ2) fun r7 σ8 => (if r7 = 0 then (fm_b (m_X12_no (0 : Int32) σ8) fun r10 σ11 => (some (r10, σ11))) else (fm_b (m_X12_firstBy a1 (2 : Int32) a2 σ8) fun r13 σ14 => (some (r13, σ14))))))
set_option maxHeartbeats 4000000 in
set_option maxRecDepth 100000 in
theorem c_X12_comes {l : Launch} {G : fm_G} (hJ : fm_J G) {a1 : Int32} {a2 : Int32} {σ : fm_M} {o : Int32 × fm_M}  (hf : m_X12_comes a1 a2 σ = some o) : Met l yX12_comes (fm_w yX12_comes cX12_comes 3 (some .int)) { frames := 6, cells := 0, slots := 0, locals := 138 } (va_Pc [.ref (G.2.1 96), .int a1, .int a2] (fm_st G σ)) (fm_Qi G o) 0 0 (fm_A G) := by
  refine fm_mth (own := RX12) hJ rfl (by decide +kernel) (Nat.le_of_ble_eq_true rfl) ?_
  intro p e s m below meth c ls hC hr hlk hI hl
  have hx := hC.1.1
  have hb := hC.1.2.1
  have hown := hC.1.2.2.2.1
  have hts := hC.1.2.2.2.2
  have hl : lv_has ls 3 [(0, .ref (G.2.1 96)), (1, .int a1), (2, .int a2)] := hl
  rw [m_X12_comes] at hf
  refine lv_aload_n hx hb dX12_comes_0 rfl (lv_at hl 0 rfl) ?_
  refine lv_iload_n hx hb dX12_comes_1 rfl (lv_at hl 1 rfl) ?_
  obtain ⟨r1, σ2, hq3, hf⟩ := fm_bE hf
  refine fm_ci hI (fm_runV (As := [.int a1]) (rest := []) (rm := { frames := 1, cells := 0, slots := 0, locals := 22 }) hC hI (c_X12_isPresent hC.2.2.1 hq3) mV_X12_isPresent q_904 ⟨rfl, rfl⟩ ⟨Nat.le_of_ble_eq_true rfl, Nat.le_of_ble_eq_true rfl⟩ fc_96 rfl (by decide) rfl hl.1 rfl (Nat.le_of_ble_eq_true rfl) dX12_comes_2 ⟨Nat.zero_le _, Nat.zero_le _⟩) (fun H locs hI => ?_)
  refine lv_if_eq (tgt := 26) hx hb dX12_comes_5 (by decide) (fun hc => ?_) (fun hc => ?_)
  · have hf := fm_pT hf hc
    refine lv_aload_n hx hb dX12_comes_26 rfl (lv_at hl 0 rfl) ?_
    refine lv_iconst (v := (0 : Int32)) hx hb dX12_comes_27 (by decide) ?_
    obtain ⟨r4, σ5, hq6, hf⟩ := fm_bE hf
    refine fm_ci hI (fm_runV (As := [.int (0 : Int32)]) (rest := []) (rm := { frames := 0, cells := 0, slots := 0, locals := 0 }) hC hI (c_X12_no hC.2.2.1 hq6) mV_X12_no q_867 ⟨rfl, rfl⟩ ⟨Nat.le_of_ble_eq_true rfl, Nat.le_of_ble_eq_true rfl⟩ fc_96 rfl (by decide) rfl hl.1 rfl (Nat.le_of_ble_eq_true rfl) dX12_comes_28 ⟨Nat.zero_le _, Nat.zero_le _⟩) (fun H locs hI => ?_)
    exact fm_ri hC hI hr hlk hf dX12_comes_31
  · have hf := fm_pF hf hc
    refine lv_aload_n hx hb dX12_comes_8 rfl (lv_at hl 0 rfl) ?_
    refine lv_iload_n hx hb dX12_comes_9 rfl (lv_at hl 2 rfl) ?_
    obtain ⟨r7, σ8, hq9, hf⟩ := fm_bE hf
    refine fm_ci hI (fm_runV (As := [.int a2]) (rest := []) (rm := { frames := 1, cells := 0, slots := 0, locals := 22 }) hC hI (c_X12_isPerson hC.2.2.1 hq9) mV_X12_isPerson q_884 ⟨rfl, rfl⟩ ⟨Nat.le_of_ble_eq_true rfl, Nat.le_of_ble_eq_true rfl⟩ fc_96 rfl (by decide) rfl hl.1 rfl (Nat.le_of_ble_eq_true rfl) dX12_comes_10 ⟨Nat.zero_le _, Nat.zero_le _⟩) (fun H locs hI => ?_)
    refine lv_if_eq (tgt := 26) hx hb dX12_comes_13 (by decide) (fun hc => ?_) (fun hc => ?_)
    · have hf := fm_pT hf hc
      refine lv_aload_n hx hb dX12_comes_26 rfl (lv_at hl 0 rfl) ?_
      refine lv_iconst (v := (0 : Int32)) hx hb dX12_comes_27 (by decide) ?_
      obtain ⟨r10, σ11, hq12, hf⟩ := fm_bE hf
      refine fm_ci hI (fm_runV (As := [.int (0 : Int32)]) (rest := []) (rm := { frames := 0, cells := 0, slots := 0, locals := 0 }) hC hI (c_X12_no hC.2.2.1 hq12) mV_X12_no q_867 ⟨rfl, rfl⟩ ⟨Nat.le_of_ble_eq_true rfl, Nat.le_of_ble_eq_true rfl⟩ fc_96 rfl (by decide) rfl hl.1 rfl (Nat.le_of_ble_eq_true rfl) dX12_comes_28 ⟨Nat.zero_le _, Nat.zero_le _⟩) (fun H locs hI => ?_)
      exact fm_ri hC hI hr hlk hf dX12_comes_31
    · have hf := fm_pF hf hc
      refine lv_aload_n hx hb dX12_comes_16 rfl (lv_at hl 0 rfl) ?_
      refine lv_iload_n hx hb dX12_comes_17 rfl (lv_at hl 1 rfl) ?_
      refine lv_iconst (v := (2 : Int32)) hx hb dX12_comes_18 (by decide) ?_
      refine lv_iload_n hx hb dX12_comes_19 rfl (lv_at hl 2 rfl) ?_
      obtain ⟨r13, σ14, hq15, hf⟩ := fm_bE hf
      refine fm_ci hI (fm_runV (As := [.int a1, .int (2 : Int32), .int a2]) (rest := []) (rm := { frames := 5, cells := 0, slots := 0, locals := 114 }) hC hI (c_X12_firstBy hC.2.2.1 hq15) mV_X12_firstBy q_1053 ⟨rfl, rfl⟩ ⟨Nat.le_of_ble_eq_true rfl, Nat.le_of_ble_eq_true rfl⟩ fc_96 rfl (by decide) rfl hl.1 rfl (Nat.le_of_ble_eq_true rfl) dX12_comes_20 ⟨Nat.zero_le _, Nat.zero_le _⟩) (fun H locs hI => ?_)
      refine lv_goto (tgt := 31) hx hb dX12_comes_23 (by decide) ?_
      exact fm_ri hC hI hr hlk hf dX12_comes_31
def m_X12_isSoon (a0 : Int32) (σ : fm_M) : Option (Int32 × fm_M) := fm_b (m_X12_in1 a0 (1 : Int32) (30 : Int32) σ) fun r1 σ2 => (fm_g (fm_bz r1) (some (r1, σ2)))
set_option maxHeartbeats 4000000 in
set_option maxRecDepth 100000 in
theorem c_X12_isSoon {l : Launch} {G : fm_G} (hJ : fm_J G) {a0 : Int32} {σ : fm_M} {o : Int32 × fm_M}  (hf : m_X12_isSoon a0 σ = some o) : Met l yX12_isSoon (fm_w yX12_isSoon cX12_isSoon 1 (some .boolean)) { frames := 1, cells := 0, slots := 0, locals := 22 } (va_Pc [.int a0] (fm_st G σ)) (fm_Qi G o) 0 0 (fm_A G) := by
  refine fm_mth (own := RX12) hJ rfl (by decide +kernel) (Nat.le_of_ble_eq_true rfl) ?_
  intro p e s m below meth c ls hC hr hlk hI hl
  have hx := hC.1.1
  have hb := hC.1.2.1
  have hown := hC.1.2.2.2.1
  have hts := hC.1.2.2.2.2
  have hl : lv_has ls 1 [(0, .int a0)] := hl
  rw [m_X12_isSoon] at hf
  refine lv_iload_n hx hb dX12_isSoon_0 rfl (lv_at hl 0 rfl) ?_
  refine lv_iconst (v := (1 : Int32)) hx hb dX12_isSoon_1 (by decide) ?_
  refine lv_bipush (v := (30 : Int32)) hx hb dX12_isSoon_2 (by decide) ?_
  obtain ⟨r1, σ2, hq3, hf⟩ := fm_bE hf
  refine fm_ci hI (fm_runS (As := [.int a0, .int (1 : Int32), .int (30 : Int32)]) (rest := []) (rm := { frames := 0, cells := 0, slots := 0, locals := 0 }) hC hI (c_X12_in1 hC.2.2.1 hq3) mS_X12_in1 q_864 ⟨rfl, rfl⟩ ⟨Nat.le_of_ble_eq_true rfl, Nat.le_of_ble_eq_true rfl⟩ rfl hl.1 rfl (Nat.le_of_ble_eq_true rfl) dX12_isSoon_4 ⟨Nat.zero_le _, Nat.zero_le _⟩) (fun H locs hI => ?_)
  obtain ⟨hg4, hf⟩ := fm_gE hf
  exact fm_rz hC hI hr hlk hg4 hf dX12_isSoon_7
def m_X12_joyThen (a1 : Int32) (a2 : Int32) (σ : fm_M) : Option (Int32 × fm_M) := fm_b (m_X12_goes a2 σ) fun _u1 σ2 => (fm_j (fun (v0_J4 : Int32) (σ_J4 : fm_M) => fm_b (m_X12_laysBack  σ_J4) fun _u5 σ6 => (some (v0_J4, σ6))) (fun J4 => if 0 ≤ a1 then (fm_b (m_X12_get a1 (1 : Int32) σ2) fun r8 σ9 => (J4 r8 σ9)) else (fm_b (m_X12_allJoy  σ2) fun r11 σ12 => (J4 r11 σ12))))
set_option maxHeartbeats 4000000 in
set_option maxRecDepth 100000 in
theorem c_X12_joyThen {l : Launch} {G : fm_G} (hJ : fm_J G) {a1 : Int32} {a2 : Int32} {σ : fm_M} {o : Int32 × fm_M}  (hf : m_X12_joyThen a1 a2 σ = some o) : Met l yX12_joyThen (fm_w yX12_joyThen cX12_joyThen 4 (some .int)) { frames := 6, cells := 0, slots := 0, locals := 136 } (va_Pc [.ref (G.2.1 96), .int a1, .int a2] (fm_st G σ)) (fm_Qi G o) 0 0 (fm_A G) := by
  refine fm_mth (own := RX12) hJ rfl (by decide +kernel) (Nat.le_of_ble_eq_true rfl) ?_
  intro p e s m below meth c ls hC hr hlk hI hl
  have hx := hC.1.1
  have hb := hC.1.2.1
  have hown := hC.1.2.2.2.1
  have hts := hC.1.2.2.2.2
  have hl : lv_has ls 4 [(0, .ref (G.2.1 96)), (1, .int a1), (2, .int a2)] := hl
  rw [m_X12_joyThen] at hf
  refine lv_aload_n hx hb dX12_joyThen_0 rfl (lv_at hl 0 rfl) ?_
  refine lv_iload_n hx hb dX12_joyThen_1 rfl (lv_at hl 2 rfl) ?_
  obtain ⟨_u1, σ2, hq3, hf⟩ := fm_bE hf
  refine fm_cv hI (fm_runV (As := [.int a2]) (rest := []) (rm := { frames := 5, cells := 0, slots := 0, locals := 114 }) hC hI (c_X12_goes hC.2.2.1 hq3) mV_X12_goes q_990 ⟨rfl, rfl⟩ ⟨Nat.le_of_ble_eq_true rfl, Nat.le_of_ble_eq_true rfl⟩ fc_96 rfl (by decide) rfl hl.1 rfl (Nat.le_of_ble_eq_true rfl) dX12_joyThen_2 ⟨Nat.zero_le _, Nat.zero_le _⟩) (fun H locs hI => ?_)
  refine lv_iload_n hx hb dX12_joyThen_5 rfl (lv_at hl 1 rfl) ?_
  obtain ⟨J4, eJ4, hf⟩ := fm_jE hf
  have hJ4 : ∀ (v0_J4 : Int32) (σ_J4 : fm_M) (H : Heap) (locs : List Loc) (ls : Array Slot), fm_I G σ_J4 s H locs → lv_has ls 4 [(0, .ref (G.2.1 96))] → J4 v0_J4 σ_J4 = some o → W p l e { frames := 6, cells := 0, slots := 0, locals := 136 } s m ([.ref (G.2.1 96), .int a1, .int a2] : List Value).toArray below meth c H locs 0 0 (MQ below (fm_Qi G o) ([.ref (G.2.1 96), .int a1, .int a2] : List Value).toArray s 0 0 (fm_A G)) (F0 m 22 ls [.int v0_J4]) := by
    intro v0_J4 σ_J4 H locs ls hI hl hf
    subst eJ4
    refine lv_istore_n (lv' := [(3, .int v0_J4), (0, .ref (G.2.1 96))]) hx hb dX12_joyThen_22 rfl hl (Nat.le_of_ble_eq_true rfl) rfl (fun ls hl => ?_)
    refine lv_aload_n hx hb dX12_joyThen_23 rfl (lv_at hl 1 rfl) ?_
    obtain ⟨_u5, σ6, hq7, hf⟩ := fm_bE hf
    refine fm_cv hI (fm_runV (As := []) (rest := []) (rm := { frames := 0, cells := 0, slots := 0, locals := 0 }) hC hI (c_X12_laysBack hC.2.2.1 hq7) mV_X12_laysBack q_1041 ⟨rfl, rfl⟩ ⟨Nat.le_of_ble_eq_true rfl, Nat.le_of_ble_eq_true rfl⟩ fc_96 rfl (by decide) rfl hl.1 rfl (Nat.le_of_ble_eq_true rfl) dX12_joyThen_24 ⟨Nat.zero_le _, Nat.zero_le _⟩) (fun H locs hI => ?_)
    refine lv_iload_n hx hb dX12_joyThen_27 rfl (lv_at hl 0 rfl) ?_
    exact fm_ri hC hI hr hlk hf dX12_joyThen_28
  refine lv_if_ge (tgt := 16) hx hb dX12_joyThen_6 (by decide) (fun hc => ?_) (fun hc => ?_)
  · have hf := fm_pT hf hc
    refine lv_aload_n hx hb dX12_joyThen_16 rfl (lv_at hl 0 rfl) ?_
    refine lv_iload_n hx hb dX12_joyThen_17 rfl (lv_at hl 1 rfl) ?_
    refine lv_iconst (v := (1 : Int32)) hx hb dX12_joyThen_18 (by decide) ?_
    obtain ⟨r8, σ9, hq10, hf⟩ := fm_bE hf
    refine fm_ci hI (fm_runV (As := [.int a1, .int (1 : Int32)]) (rest := []) (rm := { frames := 0, cells := 0, slots := 0, locals := 0 }) hC hI (c_X12_get hC.2.2.1 hq10) mV_X12_get q_888 ⟨rfl, rfl⟩ ⟨Nat.le_of_ble_eq_true rfl, Nat.le_of_ble_eq_true rfl⟩ fc_96 rfl (by decide) rfl hl.1 rfl (Nat.le_of_ble_eq_true rfl) dX12_joyThen_19 ⟨Nat.zero_le _, Nat.zero_le _⟩) (fun H locs hI => ?_)
    exact hJ4 r8 σ9 _ _ _ hI (lv_sub hl [0] rfl) hf
  · have hf := fm_pF hf hc
    refine lv_aload_n hx hb dX12_joyThen_9 rfl (lv_at hl 0 rfl) ?_
    obtain ⟨r11, σ12, hq13, hf⟩ := fm_bE hf
    refine fm_ci hI (fm_runV (As := []) (rest := []) (rm := { frames := 1, cells := 0, slots := 0, locals := 22 }) hC hI (c_X12_allJoy hC.2.2.1 hq13) mV_X12_allJoy q_1022 ⟨rfl, rfl⟩ ⟨Nat.le_of_ble_eq_true rfl, Nat.le_of_ble_eq_true rfl⟩ fc_96 rfl (by decide) rfl hl.1 rfl (Nat.le_of_ble_eq_true rfl) dX12_joyThen_10 ⟨Nat.zero_le _, Nat.zero_le _⟩) (fun H locs hI => ?_)
    refine lv_goto (tgt := 22) hx hb dX12_joyThen_13 (by decide) ?_
    exact hJ4 r11 σ12 _ _ _ hI (lv_sub hl [0] rfl) hf
def m_X12_best_44 (kc : Int32 → Int32 → Int32 → Int32 → Int32 → fm_M → Option (Int32 × fm_M)) : Nat → Int32 → Int32 → Int32 → Int32 → Int32 → fm_M → Option (Int32 × fm_M)
  | 0, _, _, _, _, _, _ => none
  | n + 1, z1, z2, z4, z5, z6, σ => if (4 : Int32) ≤ z6 then (kc z1 z2 z4 z5 z6 σ) else (fm_b (m_X12_setsAside  σ) fun _u5 σ6 => (fm_b (m_X12_addsLayer z1 z6 σ6) fun _u8 σ9 => (fm_b (m_X12_joyThen (-1 : Int32) z2 σ9) fun r11 σ12 => (fm_j (fun (v0_J14 : Int32) (σ_J14 : fm_M) => if r11 ≤ z5 then (m_X12_best_44 kc n z1 z2 v0_J14 z5 (z6 + (1 : Int32)) σ_J14) else (m_X12_best_44 kc n z1 z2 v0_J14 r11 (z6 + (1 : Int32)) σ_J14)) (fun J14 => if r11 ≤ z5 then (J14 z4 σ12) else (J14 z6 σ12))))))
def m_X12_best (a1 : Int32) (a2 : Int32) (σ : fm_M) : Option (Int32 × fm_M) := fm_b (m_X12_isPresent a1 σ) fun r1 σ2 => (fm_j (fun (v0_J4 : Int32) (σ_J4 : fm_M) => if v0_J4 < 0 then (m_X12_best_44 (fun (x1_y15 : Int32) (x2_y15 : Int32) (x4_y15 : Int32) (x5_y15 : Int32) (x6_y15 : Int32) (σ_y15 : fm_M) => some (x4_y15, σ_y15)) fm_fu a1 a2 (0 : Int32) (-1 : Int32) (0 : Int32) σ_J4) else (fm_b (m_X12_no v0_J4 σ_J4) fun r16 σ17 => (some (r16, σ17)))) (fun J4 => if r1 = 0 then (J4 (0 : Int32) σ2) else (fm_b (m_X12_isSoon a2 σ2) fun r19 σ20 => (if r19 = 0 then (J4 (0 : Int32) σ20) else (fm_b (m_X12_whyNoLayer a1 σ20) fun r22 σ23 => (J4 r22 σ23))))))
set_option maxHeartbeats 4000000 in
set_option maxRecDepth 100000 in
theorem w_X12_best_44 {p : Program} {l : Launch} {e : Env} {s : State} {m : MethodId} {args : Array Value} {below : List Frame} {meth : Method} {c : Code} {G : fm_G} {o : Int32 × fm_M} {kc : Int32 → Int32 → Int32 → Int32 → Int32 → fm_M → Option (Int32 × fm_M)} (hC : fm_C G p m c cX12_best 8 s args RX12) (hr : meth.sig.returnType = (some .int)) (hlk : meth.locks = false) (hk : ∀ (z1 : Int32) (z2 : Int32) (z4 : Int32) (z5 : Int32) (z6 : Int32) (σ : fm_M) (H : Heap) (locs : List Loc) (ls : Array Slot), fm_I G σ s H locs → lv_has ls 8 [(0, .ref (G.2.1 96)), (1, .int z1), (2, .int z2), (4, .int z4), (5, .int z5), (6, .int z6)] → kc z1 z2 z4 z5 z6 σ = some o → W p l e { frames := 7, cells := 0, slots := 0, locals := 159 } s m args below meth c H locs 0 0 (MQ below (fm_Qi G o) args s 0 0 (fm_A G)) (F0 m 107 ls [])) (n : Nat) : ∀ (z1 : Int32) (z2 : Int32) (z4 : Int32) (z5 : Int32) (z6 : Int32) (σ : fm_M) (H : Heap) (locs : List Loc) (ls : Array Slot), fm_I G σ s H locs → lv_has ls 8 [(0, .ref (G.2.1 96)), (1, .int z1), (2, .int z2), (4, .int z4), (5, .int z5), (6, .int z6)] → m_X12_best_44 kc n z1 z2 z4 z5 z6 σ = some o → W p l e { frames := 7, cells := 0, slots := 0, locals := 159 } s m args below meth c H locs 0 0 (MQ below (fm_Qi G o) args s 0 0 (fm_A G)) (F0 m 44 ls []) := by
  have hx := hC.1.1
  have hb := hC.1.2.1
  have hown := hC.1.2.2.2.1
  have hts := hC.1.2.2.2.2
  induction n with
  | zero =>
    intro z1 z2 z4 z5 z6 σ H locs ls hI hl hf
    cases hf
  | succ n ih =>
    intro z1 z2 z4 z5 z6 σ H locs ls hI hl hf
    rw [m_X12_best_44] at hf
    refine lv_iload hx hb dX12_best_44 (lv_at hl 5 rfl) ?_
    refine lv_iconst (v := (4 : Int32)) hx hb dX12_best_46 (by decide) ?_
    refine lv_icmp_ge (tgt := 107) hx hb dX12_best_47 (by decide) (fun hc => ?_) (fun hc => ?_)
    · have hf := fm_pT hf hc
      exact hk z1 z2 z4 z5 z6 σ _ _ _ hI (lv_sub hl [0, 1, 2, 3, 4, 5] rfl) hf
    · have hf := fm_pF hf hc
      refine lv_aload_n hx hb dX12_best_50 rfl (lv_at hl 0 rfl) ?_
      obtain ⟨_u5, σ6, hq7, hf⟩ := fm_bE hf
      refine fm_cv hI (fm_runV (As := []) (rest := []) (rm := { frames := 0, cells := 0, slots := 0, locals := 0 }) hC hI (c_X12_setsAside hC.2.2.1 hq7) mV_X12_setsAside q_1037 ⟨rfl, rfl⟩ ⟨Nat.le_of_ble_eq_true rfl, Nat.le_of_ble_eq_true rfl⟩ fc_96 rfl (by decide) rfl hl.1 rfl (Nat.le_of_ble_eq_true rfl) dX12_best_51 ⟨Nat.zero_le _, Nat.zero_le _⟩) (fun H locs hI => ?_)
      refine lv_aload_n hx hb dX12_best_54 rfl (lv_at hl 0 rfl) ?_
      refine lv_iload_n hx hb dX12_best_55 rfl (lv_at hl 1 rfl) ?_
      refine lv_iload hx hb dX12_best_56 (lv_at hl 5 rfl) ?_
      obtain ⟨_u8, σ9, hq10, hf⟩ := fm_bE hf
      refine fm_cv hI (fm_runV (As := [.int z1, .int z6]) (rest := []) (rm := { frames := 1, cells := 0, slots := 0, locals := 23 }) hC hI (c_X12_addsLayer hC.2.2.1 hq10) mV_X12_addsLayer q_970 ⟨rfl, rfl⟩ ⟨Nat.le_of_ble_eq_true rfl, Nat.le_of_ble_eq_true rfl⟩ fc_96 rfl (by decide) rfl hl.1 rfl (Nat.le_of_ble_eq_true rfl) dX12_best_58 ⟨Nat.zero_le _, Nat.zero_le _⟩) (fun H locs hI => ?_)
      refine lv_aload_n hx hb dX12_best_61 rfl (lv_at hl 0 rfl) ?_
      refine lv_iconst (v := (-1 : Int32)) hx hb dX12_best_62 (by decide) ?_
      refine lv_iload_n hx hb dX12_best_63 rfl (lv_at hl 2 rfl) ?_
      obtain ⟨r11, σ12, hq13, hf⟩ := fm_bE hf
      refine fm_ci hI (fm_runV (As := [.int (-1 : Int32), .int z2]) (rest := []) (rm := { frames := 6, cells := 0, slots := 0, locals := 136 }) hC hI (c_X12_joyThen hC.2.2.1 hq13) mV_X12_joyThen q_1068 ⟨rfl, rfl⟩ ⟨Nat.le_of_ble_eq_true rfl, Nat.le_of_ble_eq_true rfl⟩ fc_96 rfl (by decide) rfl hl.1 rfl (Nat.le_of_ble_eq_true rfl) dX12_best_64 ⟨Nat.zero_le _, Nat.zero_le _⟩) (fun H locs hI => ?_)
      refine lv_istore (lv' := [(7, .int r11), (0, .ref (G.2.1 96)), (1, .int z1), (2, .int z2), (4, .int z4), (5, .int z5), (6, .int z6)]) hx hb dX12_best_67 hl (Nat.le_of_ble_eq_true rfl) rfl (fun ls hl => ?_)
      refine lv_iload hx hb dX12_best_69 (lv_at hl 0 rfl) ?_
      refine lv_iload hx hb dX12_best_71 (lv_at hl 5 rfl) ?_
      obtain ⟨J14, eJ14, hf⟩ := fm_jE hf
      have hJ14 : ∀ (v0_J14 : Int32) (σ_J14 : fm_M) (H : Heap) (locs : List Loc) (ls : Array Slot), fm_I G σ_J14 s H locs → lv_has ls 8 [(0, .ref (G.2.1 96)), (1, .int z1), (2, .int z2), (5, .int z5), (6, .int z6), (7, .int r11)] → J14 v0_J14 σ_J14 = some o → W p l e { frames := 7, cells := 0, slots := 0, locals := 159 } s m args below meth c H locs 0 0 (MQ below (fm_Qi G o) args s 0 0 (fm_A G)) (F0 m 83 ls [.int v0_J14]) := by
        intro v0_J14 σ_J14 H locs ls hI hl hf
        subst eJ14
        refine lv_istore (lv' := [(4, .int v0_J14), (0, .ref (G.2.1 96)), (1, .int z1), (2, .int z2), (5, .int z5), (6, .int z6), (7, .int r11)]) hx hb dX12_best_83 hl (Nat.le_of_ble_eq_true rfl) rfl (fun ls hl => ?_)
        refine lv_iload hx hb dX12_best_85 (lv_at hl 6 rfl) ?_
        refine lv_iload hx hb dX12_best_87 (lv_at hl 4 rfl) ?_
        refine lv_icmp_le (tgt := 97) hx hb dX12_best_89 (by decide) (fun hc => ?_) (fun hc => ?_)
        · have hf := fm_pT hf hc
          refine lv_iload hx hb dX12_best_97 (lv_at hl 4 rfl) ?_
          refine lv_istore (lv' := [(5, .int z5), (4, .int v0_J14), (0, .ref (G.2.1 96)), (1, .int z1), (2, .int z2), (6, .int z6), (7, .int r11)]) hx hb dX12_best_99 hl (Nat.le_of_ble_eq_true rfl) rfl (fun ls hl => ?_)
          refine lv_iinc (v := (z6 + (1 : Int32))) (lv' := [(6, .int (z6 + (1 : Int32))), (5, .int z5), (4, .int v0_J14), (0, .ref (G.2.1 96)), (1, .int z1), (2, .int z2), (7, .int r11)]) hx hb dX12_best_101 hl (k := 5) rfl rfl (Nat.le_of_ble_eq_true rfl) rfl (fun ls hl => ?_)
          refine lv_goto (tgt := 44) hx hb dX12_best_104 (by decide) ?_
          exact ih z1 z2 v0_J14 z5 (z6 + (1 : Int32)) σ_J14 _ _ _ hI (lv_sub hl [3, 4, 5, 2, 1, 0] rfl) hf
        · have hf := fm_pF hf hc
          refine lv_iload hx hb dX12_best_92 (lv_at hl 6 rfl) ?_
          refine lv_goto (tgt := 99) hx hb dX12_best_94 (by decide) ?_
          refine lv_istore (lv' := [(5, .int r11), (4, .int v0_J14), (0, .ref (G.2.1 96)), (1, .int z1), (2, .int z2), (6, .int z6), (7, .int r11)]) hx hb dX12_best_99 hl (Nat.le_of_ble_eq_true rfl) rfl (fun ls hl => ?_)
          refine lv_iinc (v := (z6 + (1 : Int32))) (lv' := [(6, .int (z6 + (1 : Int32))), (5, .int r11), (4, .int v0_J14), (0, .ref (G.2.1 96)), (1, .int z1), (2, .int z2), (7, .int r11)]) hx hb dX12_best_101 hl (k := 5) rfl rfl (Nat.le_of_ble_eq_true rfl) rfl (fun ls hl => ?_)
          refine lv_goto (tgt := 44) hx hb dX12_best_104 (by decide) ?_
          exact ih z1 z2 v0_J14 r11 (z6 + (1 : Int32)) σ_J14 _ _ _ hI (lv_sub hl [3, 4, 5, 2, 1, 0] rfl) hf
      refine lv_icmp_le (tgt := 81) hx hb dX12_best_73 (by decide) (fun hc => ?_) (fun hc => ?_)
      · have hf := fm_pT hf hc
        refine lv_iload hx hb dX12_best_81 (lv_at hl 4 rfl) ?_
        exact hJ14 z4 σ12 _ _ _ hI (lv_sub hl [1, 2, 3, 5, 6, 0] rfl) hf
      · have hf := fm_pF hf hc
        refine lv_iload hx hb dX12_best_76 (lv_at hl 6 rfl) ?_
        refine lv_goto (tgt := 83) hx hb dX12_best_78 (by decide) ?_
        exact hJ14 z6 σ12 _ _ _ hI (lv_sub hl [1, 2, 3, 5, 6, 0] rfl) hf
set_option maxHeartbeats 4000000 in
set_option maxRecDepth 100000 in
theorem c_X12_best {l : Launch} {G : fm_G} (hJ : fm_J G) {a1 : Int32} {a2 : Int32} {σ : fm_M} {o : Int32 × fm_M}  (hf : m_X12_best a1 a2 σ = some o) : Met l yX12_best (fm_w yX12_best cX12_best 8 (some .int)) { frames := 7, cells := 0, slots := 0, locals := 159 } (va_Pc [.ref (G.2.1 96), .int a1, .int a2] (fm_st G σ)) (fm_Qi G o) 0 0 (fm_A G) := by
  refine fm_mth (own := RX12) hJ rfl (by decide +kernel) (Nat.le_of_ble_eq_true rfl) ?_
  intro p e s m below meth c ls hC hr hlk hI hl
  have hx := hC.1.1
  have hb := hC.1.2.1
  have hown := hC.1.2.2.2.1
  have hts := hC.1.2.2.2.2
  have hl : lv_has ls 8 [(0, .ref (G.2.1 96)), (1, .int a1), (2, .int a2)] := hl
  rw [m_X12_best] at hf
  refine lv_aload_n hx hb dX12_best_0 rfl (lv_at hl 0 rfl) ?_
  refine lv_iload_n hx hb dX12_best_1 rfl (lv_at hl 1 rfl) ?_
  obtain ⟨r1, σ2, hq3, hf⟩ := fm_bE hf
  refine fm_ci hI (fm_runV (As := [.int a1]) (rest := []) (rm := { frames := 1, cells := 0, slots := 0, locals := 22 }) hC hI (c_X12_isPresent hC.2.2.1 hq3) mV_X12_isPresent q_904 ⟨rfl, rfl⟩ ⟨Nat.le_of_ble_eq_true rfl, Nat.le_of_ble_eq_true rfl⟩ fc_96 rfl (by decide) rfl hl.1 rfl (Nat.le_of_ble_eq_true rfl) dX12_best_2 ⟨Nat.zero_le _, Nat.zero_le _⟩) (fun H locs hI => ?_)
  obtain ⟨J4, eJ4, hf⟩ := fm_jE hf
  have hJ4 : ∀ (v0_J4 : Int32) (σ_J4 : fm_M) (H : Heap) (locs : List Loc) (ls : Array Slot), fm_I G σ_J4 s H locs → lv_has ls 8 [(0, .ref (G.2.1 96)), (1, .int a1), (2, .int a2)] → J4 v0_J4 σ_J4 = some o → W p l e { frames := 7, cells := 0, slots := 0, locals := 159 } s m ([.ref (G.2.1 96), .int a1, .int a2] : List Value).toArray below meth c H locs 0 0 (MQ below (fm_Qi G o) ([.ref (G.2.1 96), .int a1, .int a2] : List Value).toArray s 0 0 (fm_A G)) (F0 m 24 ls [.int v0_J4]) := by
    intro v0_J4 σ_J4 H locs ls hI hl hf
    subst eJ4
    refine lv_istore_n (lv' := [(3, .int v0_J4), (0, .ref (G.2.1 96)), (1, .int a1), (2, .int a2)]) hx hb dX12_best_24 rfl hl (Nat.le_of_ble_eq_true rfl) rfl (fun ls hl => ?_)
    refine lv_iload_n hx hb dX12_best_25 rfl (lv_at hl 0 rfl) ?_
    refine lv_if_lt (tgt := 35) hx hb dX12_best_26 (by decide) (fun hc => ?_) (fun hc => ?_)
    · have hf := fm_pT hf hc
      refine lv_iconst (v := (0 : Int32)) hx hb dX12_best_35 (by decide) ?_
      refine lv_istore (lv' := [(4, .int (0 : Int32)), (3, .int v0_J4), (0, .ref (G.2.1 96)), (1, .int a1), (2, .int a2)]) hx hb dX12_best_36 hl (Nat.le_of_ble_eq_true rfl) rfl (fun ls hl => ?_)
      refine lv_iconst (v := (-1 : Int32)) hx hb dX12_best_38 (by decide) ?_
      refine lv_istore (lv' := [(5, .int (-1 : Int32)), (4, .int (0 : Int32)), (3, .int v0_J4), (0, .ref (G.2.1 96)), (1, .int a1), (2, .int a2)]) hx hb dX12_best_39 hl (Nat.le_of_ble_eq_true rfl) rfl (fun ls hl => ?_)
      refine lv_iconst (v := (0 : Int32)) hx hb dX12_best_41 (by decide) ?_
      refine lv_istore (lv' := [(6, .int (0 : Int32)), (5, .int (-1 : Int32)), (4, .int (0 : Int32)), (3, .int v0_J4), (0, .ref (G.2.1 96)), (1, .int a1), (2, .int a2)]) hx hb dX12_best_42 hl (Nat.le_of_ble_eq_true rfl) rfl (fun ls hl => ?_)
      refine w_X12_best_44 hC hr hlk (fun x1_y15 x2_y15 x4_y15 x5_y15 x6_y15 σ_y15 H locs ls hI hl hf => ?_) fm_fu a1 a2 (0 : Int32) (-1 : Int32) (0 : Int32) σ_J4 _ _ _ hI (lv_sub hl [4, 5, 6, 2, 1, 0] rfl) hf
      refine lv_iload hx hb dX12_best_107 (lv_at hl 3 rfl) ?_
      exact fm_ri hC hI hr hlk hf dX12_best_109
    · have hf := fm_pF hf hc
      refine lv_aload_n hx hb dX12_best_29 rfl (lv_at hl 1 rfl) ?_
      refine lv_iload_n hx hb dX12_best_30 rfl (lv_at hl 0 rfl) ?_
      obtain ⟨r16, σ17, hq18, hf⟩ := fm_bE hf
      refine fm_ci hI (fm_runV (As := [.int v0_J4]) (rest := []) (rm := { frames := 0, cells := 0, slots := 0, locals := 0 }) hC hI (c_X12_no hC.2.2.1 hq18) mV_X12_no q_867 ⟨rfl, rfl⟩ ⟨Nat.le_of_ble_eq_true rfl, Nat.le_of_ble_eq_true rfl⟩ fc_96 rfl (by decide) rfl hl.1 rfl (Nat.le_of_ble_eq_true rfl) dX12_best_31 ⟨Nat.zero_le _, Nat.zero_le _⟩) (fun H locs hI => ?_)
      exact fm_ri hC hI hr hlk hf dX12_best_34
  refine lv_if_eq (tgt := 23) hx hb dX12_best_5 (by decide) (fun hc => ?_) (fun hc => ?_)
  · have hf := fm_pT hf hc
    refine lv_iconst (v := (0 : Int32)) hx hb dX12_best_23 (by decide) ?_
    exact hJ4 (0 : Int32) σ2 _ _ _ hI (lv_sub hl [0, 1, 2] rfl) hf
  · have hf := fm_pF hf hc
    refine lv_iload_n hx hb dX12_best_8 rfl (lv_at hl 2 rfl) ?_
    obtain ⟨r19, σ20, hq21, hf⟩ := fm_bE hf
    refine fm_ci hI (fm_runS (As := [.int a2]) (rest := []) (rm := { frames := 1, cells := 0, slots := 0, locals := 22 }) hC hI (c_X12_isSoon hC.2.2.1 hq21) mS_X12_isSoon q_1065 ⟨rfl, rfl⟩ ⟨Nat.le_of_ble_eq_true rfl, Nat.le_of_ble_eq_true rfl⟩ rfl hl.1 rfl (Nat.le_of_ble_eq_true rfl) dX12_best_9 ⟨Nat.zero_le _, Nat.zero_le _⟩) (fun H locs hI => ?_)
    refine lv_if_eq (tgt := 23) hx hb dX12_best_12 (by decide) (fun hc => ?_) (fun hc => ?_)
    · have hf := fm_pT hf hc
      refine lv_iconst (v := (0 : Int32)) hx hb dX12_best_23 (by decide) ?_
      exact hJ4 (0 : Int32) σ20 _ _ _ hI (lv_sub hl [0, 1, 2] rfl) hf
    · have hf := fm_pF hf hc
      refine lv_aload_n hx hb dX12_best_15 rfl (lv_at hl 0 rfl) ?_
      refine lv_iload_n hx hb dX12_best_16 rfl (lv_at hl 1 rfl) ?_
      obtain ⟨r22, σ23, hq24, hf⟩ := fm_bE hf
      refine fm_ci hI (fm_runV (As := [.int a1]) (rest := []) (rm := { frames := 1, cells := 0, slots := 0, locals := 22 }) hC hI (c_X12_whyNoLayer hC.2.2.1 hq24) mV_X12_whyNoLayer q_966 ⟨rfl, rfl⟩ ⟨Nat.le_of_ble_eq_true rfl, Nat.le_of_ble_eq_true rfl⟩ fc_96 rfl (by decide) rfl hl.1 rfl (Nat.le_of_ble_eq_true rfl) dX12_best_17 ⟨Nat.zero_le _, Nat.zero_le _⟩) (fun H locs hI => ?_)
      refine lv_goto (tgt := 24) hx hb dX12_best_20 (by decide) ?_
      exact hJ4 r22 σ23 _ _ _ hI (lv_sub hl [0, 1, 2] rfl) hf
def m_X12_give_29 (kc : Int32 → Int32 → Int32 → Int32 → Int32 → fm_M → Option (Int32 × fm_M)) : Nat → Int32 → Int32 → Int32 → Int32 → Int32 → fm_M → Option (Int32 × fm_M)
  | 0, _, _, _, _, _, _ => none
  | n + 1, z1, z2, z3, z4, z5, σ => fm_g (fm_in1 (1 : Int32) 96) (if (σ.1 97 (1 : Int32).toNatClampNeg) ≤ z5 then (kc z1 z2 z3 z4 z5 σ) else (fm_b (m_X12_setsAside  σ) fun _u11 σ12 => (fm_b (m_X12_lays1 z1 (2 : Int32) z5 σ12) fun _u14 σ15 => (fm_b (m_X12_joyThen (-1 : Int32) z2 σ15) fun r17 σ18 => (fm_j (fun (v0_J20 : Int32) (σ_J20 : fm_M) => if r17 ≤ z4 then (m_X12_give_29 kc n z1 z2 v0_J20 z4 (z5 + (1 : Int32)) σ_J20) else (m_X12_give_29 kc n z1 z2 v0_J20 r17 (z5 + (1 : Int32)) σ_J20)) (fun J20 => if r17 ≤ z4 then (J20 z3 σ18) else (J20 z5 σ18)))))))
def m_X12_give (a1 : Int32) (a2 : Int32) (σ : fm_M) : Option (Int32 × fm_M) := fm_b (m_X12_isPresent a1 σ) fun r1 σ2 => (if r1 = 0 then (fm_b (m_X12_no (0 : Int32) σ2) fun r4 σ5 => (some (r4, σ5))) else (fm_b (m_X12_isSoon a2 σ2) fun r7 σ8 => (if r7 = 0 then (fm_b (m_X12_no (0 : Int32) σ8) fun r22 σ23 => (some (r22, σ23))) else (m_X12_give_29 (fun (x1_y21 : Int32) (x2_y21 : Int32) (x3_y21 : Int32) (x4_y21 : Int32) (x5_y21 : Int32) (σ_y21 : fm_M) => some (x3_y21, σ_y21)) fm_fu a1 a2 (0 : Int32) (-1 : Int32) (0 : Int32) σ8))))
set_option maxHeartbeats 4000000 in
set_option maxRecDepth 100000 in
theorem w_X12_give_29 {p : Program} {l : Launch} {e : Env} {s : State} {m : MethodId} {args : Array Value} {below : List Frame} {meth : Method} {c : Code} {G : fm_G} {o : Int32 × fm_M} {kc : Int32 → Int32 → Int32 → Int32 → Int32 → fm_M → Option (Int32 × fm_M)} (hC : fm_C G p m c cX12_give 7 s args RX12) (hr : meth.sig.returnType = (some .int)) (hlk : meth.locks = false) (hk : ∀ (z1 : Int32) (z2 : Int32) (z3 : Int32) (z4 : Int32) (z5 : Int32) (σ : fm_M) (H : Heap) (locs : List Loc) (ls : Array Slot), fm_I G σ s H locs → lv_has ls 7 [(0, .ref (G.2.1 96)), (1, .int z1), (2, .int z2), (3, .int z3), (4, .int z4), (5, .int z5)] → kc z1 z2 z3 z4 z5 σ = some o → W p l e { frames := 7, cells := 0, slots := 0, locals := 159 } s m args below meth c H locs 0 0 (MQ below (fm_Qi G o) args s 0 0 (fm_A G)) (F0 m 96 ls [])) (n : Nat) : ∀ (z1 : Int32) (z2 : Int32) (z3 : Int32) (z4 : Int32) (z5 : Int32) (σ : fm_M) (H : Heap) (locs : List Loc) (ls : Array Slot), fm_I G σ s H locs → lv_has ls 7 [(0, .ref (G.2.1 96)), (1, .int z1), (2, .int z2), (3, .int z3), (4, .int z4), (5, .int z5)] → m_X12_give_29 kc n z1 z2 z3 z4 z5 σ = some o → W p l e { frames := 7, cells := 0, slots := 0, locals := 159 } s m args below meth c H locs 0 0 (MQ below (fm_Qi G o) args s 0 0 (fm_A G)) (F0 m 29 ls []) := by
  have hx := hC.1.1
  have hb := hC.1.2.1
  have hown := hC.1.2.2.2.1
  have hts := hC.1.2.2.2.2
  induction n with
  | zero =>
    intro z1 z2 z3 z4 z5 σ H locs ls hI hl hf
    cases hf
  | succ n ih =>
    intro z1 z2 z3 z4 z5 σ H locs ls hI hl hf
    rw [m_X12_give_29] at hf
    refine lv_iload hx hb dX12_give_29 (lv_at hl 5 rfl) ?_
    refine lv_aload_n hx hb dX12_give_31 rfl (lv_at hl 0 rfl) ?_
    refine fm_gr hC hI fd_X12_0 fc_96 fr_96_0 q_798 dX12_give_32 ?_
    refine lv_iconst (v := (1 : Int32)) hx hb dX12_give_35 (by decide) ?_
    obtain ⟨hg10, hf⟩ := fm_gE hf
    refine fm_iald hC hI fc_97 fl_97 hg10 dX12_give_36 ?_
    refine lv_icmp_ge (tgt := 96) hx hb dX12_give_37 (by decide) (fun hc => ?_) (fun hc => ?_)
    · have hf := fm_pT hf hc
      exact hk z1 z2 z3 z4 z5 σ _ _ _ hI (lv_sub hl [0, 1, 2, 3, 4, 5] rfl) hf
    · have hf := fm_pF hf hc
      refine lv_aload_n hx hb dX12_give_40 rfl (lv_at hl 0 rfl) ?_
      obtain ⟨_u11, σ12, hq13, hf⟩ := fm_bE hf
      refine fm_cv hI (fm_runV (As := []) (rest := []) (rm := { frames := 0, cells := 0, slots := 0, locals := 0 }) hC hI (c_X12_setsAside hC.2.2.1 hq13) mV_X12_setsAside q_1037 ⟨rfl, rfl⟩ ⟨Nat.le_of_ble_eq_true rfl, Nat.le_of_ble_eq_true rfl⟩ fc_96 rfl (by decide) rfl hl.1 rfl (Nat.le_of_ble_eq_true rfl) dX12_give_41 ⟨Nat.zero_le _, Nat.zero_le _⟩) (fun H locs hI => ?_)
      refine lv_aload_n hx hb dX12_give_44 rfl (lv_at hl 0 rfl) ?_
      refine lv_iload_n hx hb dX12_give_45 rfl (lv_at hl 1 rfl) ?_
      refine lv_iconst (v := (2 : Int32)) hx hb dX12_give_46 (by decide) ?_
      refine lv_iload hx hb dX12_give_47 (lv_at hl 5 rfl) ?_
      obtain ⟨_u14, σ15, hq16, hf⟩ := fm_bE hf
      refine fm_cv hI (fm_runV (As := [.int z1, .int (2 : Int32), .int z5]) (rest := []) (rm := { frames := 0, cells := 0, slots := 0, locals := 0 }) hC hI (c_X12_lays1 hC.2.2.1 hq16) mV_X12_lays1 q_947 ⟨rfl, rfl⟩ ⟨Nat.le_of_ble_eq_true rfl, Nat.le_of_ble_eq_true rfl⟩ fc_96 rfl (by decide) rfl hl.1 rfl (Nat.le_of_ble_eq_true rfl) dX12_give_49 ⟨Nat.zero_le _, Nat.zero_le _⟩) (fun H locs hI => ?_)
      refine lv_aload_n hx hb dX12_give_52 rfl (lv_at hl 0 rfl) ?_
      refine lv_iconst (v := (-1 : Int32)) hx hb dX12_give_53 (by decide) ?_
      refine lv_iload_n hx hb dX12_give_54 rfl (lv_at hl 2 rfl) ?_
      obtain ⟨r17, σ18, hq19, hf⟩ := fm_bE hf
      refine fm_ci hI (fm_runV (As := [.int (-1 : Int32), .int z2]) (rest := []) (rm := { frames := 6, cells := 0, slots := 0, locals := 136 }) hC hI (c_X12_joyThen hC.2.2.1 hq19) mV_X12_joyThen q_1068 ⟨rfl, rfl⟩ ⟨Nat.le_of_ble_eq_true rfl, Nat.le_of_ble_eq_true rfl⟩ fc_96 rfl (by decide) rfl hl.1 rfl (Nat.le_of_ble_eq_true rfl) dX12_give_55 ⟨Nat.zero_le _, Nat.zero_le _⟩) (fun H locs hI => ?_)
      refine lv_istore (lv' := [(6, .int r17), (0, .ref (G.2.1 96)), (1, .int z1), (2, .int z2), (3, .int z3), (4, .int z4), (5, .int z5)]) hx hb dX12_give_58 hl (Nat.le_of_ble_eq_true rfl) rfl (fun ls hl => ?_)
      refine lv_iload hx hb dX12_give_60 (lv_at hl 0 rfl) ?_
      refine lv_iload hx hb dX12_give_62 (lv_at hl 5 rfl) ?_
      obtain ⟨J20, eJ20, hf⟩ := fm_jE hf
      have hJ20 : ∀ (v0_J20 : Int32) (σ_J20 : fm_M) (H : Heap) (locs : List Loc) (ls : Array Slot), fm_I G σ_J20 s H locs → lv_has ls 7 [(0, .ref (G.2.1 96)), (1, .int z1), (2, .int z2), (4, .int z4), (5, .int z5), (6, .int r17)] → J20 v0_J20 σ_J20 = some o → W p l e { frames := 7, cells := 0, slots := 0, locals := 159 } s m args below meth c H locs 0 0 (MQ below (fm_Qi G o) args s 0 0 (fm_A G)) (F0 m 73 ls [.int v0_J20]) := by
        intro v0_J20 σ_J20 H locs ls hI hl hf
        subst eJ20
        refine lv_istore_n (lv' := [(3, .int v0_J20), (0, .ref (G.2.1 96)), (1, .int z1), (2, .int z2), (4, .int z4), (5, .int z5), (6, .int r17)]) hx hb dX12_give_73 rfl hl (Nat.le_of_ble_eq_true rfl) rfl (fun ls hl => ?_)
        refine lv_iload hx hb dX12_give_74 (lv_at hl 6 rfl) ?_
        refine lv_iload hx hb dX12_give_76 (lv_at hl 4 rfl) ?_
        refine lv_icmp_le (tgt := 86) hx hb dX12_give_78 (by decide) (fun hc => ?_) (fun hc => ?_)
        · have hf := fm_pT hf hc
          refine lv_iload hx hb dX12_give_86 (lv_at hl 4 rfl) ?_
          refine lv_istore (lv' := [(4, .int z4), (3, .int v0_J20), (0, .ref (G.2.1 96)), (1, .int z1), (2, .int z2), (5, .int z5), (6, .int r17)]) hx hb dX12_give_88 hl (Nat.le_of_ble_eq_true rfl) rfl (fun ls hl => ?_)
          refine lv_iinc (v := (z5 + (1 : Int32))) (lv' := [(5, .int (z5 + (1 : Int32))), (4, .int z4), (3, .int v0_J20), (0, .ref (G.2.1 96)), (1, .int z1), (2, .int z2), (6, .int r17)]) hx hb dX12_give_90 hl (k := 5) rfl rfl (Nat.le_of_ble_eq_true rfl) rfl (fun ls hl => ?_)
          refine lv_goto (tgt := 29) hx hb dX12_give_93 (by decide) ?_
          exact ih z1 z2 v0_J20 z4 (z5 + (1 : Int32)) σ_J20 _ _ _ hI (lv_sub hl [3, 4, 5, 2, 1, 0] rfl) hf
        · have hf := fm_pF hf hc
          refine lv_iload hx hb dX12_give_81 (lv_at hl 6 rfl) ?_
          refine lv_goto (tgt := 88) hx hb dX12_give_83 (by decide) ?_
          refine lv_istore (lv' := [(4, .int r17), (3, .int v0_J20), (0, .ref (G.2.1 96)), (1, .int z1), (2, .int z2), (5, .int z5), (6, .int r17)]) hx hb dX12_give_88 hl (Nat.le_of_ble_eq_true rfl) rfl (fun ls hl => ?_)
          refine lv_iinc (v := (z5 + (1 : Int32))) (lv' := [(5, .int (z5 + (1 : Int32))), (4, .int r17), (3, .int v0_J20), (0, .ref (G.2.1 96)), (1, .int z1), (2, .int z2), (6, .int r17)]) hx hb dX12_give_90 hl (k := 5) rfl rfl (Nat.le_of_ble_eq_true rfl) rfl (fun ls hl => ?_)
          refine lv_goto (tgt := 29) hx hb dX12_give_93 (by decide) ?_
          exact ih z1 z2 v0_J20 r17 (z5 + (1 : Int32)) σ_J20 _ _ _ hI (lv_sub hl [3, 4, 5, 2, 1, 0] rfl) hf
      refine lv_icmp_le (tgt := 72) hx hb dX12_give_64 (by decide) (fun hc => ?_) (fun hc => ?_)
      · have hf := fm_pT hf hc
        refine lv_iload_n hx hb dX12_give_72 rfl (lv_at hl 4 rfl) ?_
        exact hJ20 z3 σ18 _ _ _ hI (lv_sub hl [1, 2, 3, 5, 6, 0] rfl) hf
      · have hf := fm_pF hf hc
        refine lv_iload hx hb dX12_give_67 (lv_at hl 6 rfl) ?_
        refine lv_goto (tgt := 73) hx hb dX12_give_69 (by decide) ?_
        exact hJ20 z5 σ18 _ _ _ hI (lv_sub hl [1, 2, 3, 5, 6, 0] rfl) hf
set_option maxHeartbeats 4000000 in
set_option maxRecDepth 100000 in
theorem c_X12_give {l : Launch} {G : fm_G} (hJ : fm_J G) {a1 : Int32} {a2 : Int32} {σ : fm_M} {o : Int32 × fm_M}  (hf : m_X12_give a1 a2 σ = some o) : Met l yX12_give (fm_w yX12_give cX12_give 7 (some .int)) { frames := 7, cells := 0, slots := 0, locals := 159 } (va_Pc [.ref (G.2.1 96), .int a1, .int a2] (fm_st G σ)) (fm_Qi G o) 0 0 (fm_A G) := by
  refine fm_mth (own := RX12) hJ rfl (by decide +kernel) (Nat.le_of_ble_eq_true rfl) ?_
  intro p e s m below meth c ls hC hr hlk hI hl
  have hx := hC.1.1
  have hb := hC.1.2.1
  have hown := hC.1.2.2.2.1
  have hts := hC.1.2.2.2.2
  have hl : lv_has ls 7 [(0, .ref (G.2.1 96)), (1, .int a1), (2, .int a2)] := hl
  rw [m_X12_give] at hf
  refine lv_aload_n hx hb dX12_give_0 rfl (lv_at hl 0 rfl) ?_
  refine lv_iload_n hx hb dX12_give_1 rfl (lv_at hl 1 rfl) ?_
  obtain ⟨r1, σ2, hq3, hf⟩ := fm_bE hf
  refine fm_ci hI (fm_runV (As := [.int a1]) (rest := []) (rm := { frames := 1, cells := 0, slots := 0, locals := 22 }) hC hI (c_X12_isPresent hC.2.2.1 hq3) mV_X12_isPresent q_904 ⟨rfl, rfl⟩ ⟨Nat.le_of_ble_eq_true rfl, Nat.le_of_ble_eq_true rfl⟩ fc_96 rfl (by decide) rfl hl.1 rfl (Nat.le_of_ble_eq_true rfl) dX12_give_2 ⟨Nat.zero_le _, Nat.zero_le _⟩) (fun H locs hI => ?_)
  refine lv_if_eq (tgt := 15) hx hb dX12_give_5 (by decide) (fun hc => ?_) (fun hc => ?_)
  · have hf := fm_pT hf hc
    refine lv_aload_n hx hb dX12_give_15 rfl (lv_at hl 0 rfl) ?_
    refine lv_iconst (v := (0 : Int32)) hx hb dX12_give_16 (by decide) ?_
    obtain ⟨r4, σ5, hq6, hf⟩ := fm_bE hf
    refine fm_ci hI (fm_runV (As := [.int (0 : Int32)]) (rest := []) (rm := { frames := 0, cells := 0, slots := 0, locals := 0 }) hC hI (c_X12_no hC.2.2.1 hq6) mV_X12_no q_867 ⟨rfl, rfl⟩ ⟨Nat.le_of_ble_eq_true rfl, Nat.le_of_ble_eq_true rfl⟩ fc_96 rfl (by decide) rfl hl.1 rfl (Nat.le_of_ble_eq_true rfl) dX12_give_17 ⟨Nat.zero_le _, Nat.zero_le _⟩) (fun H locs hI => ?_)
    exact fm_ri hC hI hr hlk hf dX12_give_20
  · have hf := fm_pF hf hc
    refine lv_iload_n hx hb dX12_give_8 rfl (lv_at hl 2 rfl) ?_
    obtain ⟨r7, σ8, hq9, hf⟩ := fm_bE hf
    refine fm_ci hI (fm_runS (As := [.int a2]) (rest := []) (rm := { frames := 1, cells := 0, slots := 0, locals := 22 }) hC hI (c_X12_isSoon hC.2.2.1 hq9) mS_X12_isSoon q_1065 ⟨rfl, rfl⟩ ⟨Nat.le_of_ble_eq_true rfl, Nat.le_of_ble_eq_true rfl⟩ rfl hl.1 rfl (Nat.le_of_ble_eq_true rfl) dX12_give_9 ⟨Nat.zero_le _, Nat.zero_le _⟩) (fun H locs hI => ?_)
    refine lv_if_ne (tgt := 21) hx hb dX12_give_12 (by decide) (fun hc => ?_) (fun hc => ?_)
    · have hf := fm_pF hf hc
      refine lv_iconst (v := (0 : Int32)) hx hb dX12_give_21 (by decide) ?_
      refine lv_istore_n (lv' := [(3, .int (0 : Int32)), (0, .ref (G.2.1 96)), (1, .int a1), (2, .int a2)]) hx hb dX12_give_22 rfl hl (Nat.le_of_ble_eq_true rfl) rfl (fun ls hl => ?_)
      refine lv_iconst (v := (-1 : Int32)) hx hb dX12_give_23 (by decide) ?_
      refine lv_istore (lv' := [(4, .int (-1 : Int32)), (3, .int (0 : Int32)), (0, .ref (G.2.1 96)), (1, .int a1), (2, .int a2)]) hx hb dX12_give_24 hl (Nat.le_of_ble_eq_true rfl) rfl (fun ls hl => ?_)
      refine lv_iconst (v := (0 : Int32)) hx hb dX12_give_26 (by decide) ?_
      refine lv_istore (lv' := [(5, .int (0 : Int32)), (4, .int (-1 : Int32)), (3, .int (0 : Int32)), (0, .ref (G.2.1 96)), (1, .int a1), (2, .int a2)]) hx hb dX12_give_27 hl (Nat.le_of_ble_eq_true rfl) rfl (fun ls hl => ?_)
      refine w_X12_give_29 hC hr hlk (fun x1_y21 x2_y21 x3_y21 x4_y21 x5_y21 σ_y21 H locs ls hI hl hf => ?_) fm_fu a1 a2 (0 : Int32) (-1 : Int32) (0 : Int32) σ8 _ _ _ hI (lv_sub hl [3, 4, 5, 2, 1, 0] rfl) hf
      refine lv_iload_n hx hb dX12_give_96 rfl (lv_at hl 3 rfl) ?_
      exact fm_ri hC hI hr hlk hf dX12_give_97
    · have hf := fm_pT hf hc
      refine lv_aload_n hx hb dX12_give_15 rfl (lv_at hl 0 rfl) ?_
      refine lv_iconst (v := (0 : Int32)) hx hb dX12_give_16 (by decide) ?_
      obtain ⟨r22, σ23, hq24, hf⟩ := fm_bE hf
      refine fm_ci hI (fm_runV (As := [.int (0 : Int32)]) (rest := []) (rm := { frames := 0, cells := 0, slots := 0, locals := 0 }) hC hI (c_X12_no hC.2.2.1 hq24) mV_X12_no q_867 ⟨rfl, rfl⟩ ⟨Nat.le_of_ble_eq_true rfl, Nat.le_of_ble_eq_true rfl⟩ fc_96 rfl (by decide) rfl hl.1 rfl (Nat.le_of_ble_eq_true rfl) dX12_give_17 ⟨Nat.zero_le _, Nat.zero_le _⟩) (fun H locs hI => ?_)
      exact fm_ri hC hI hr hlk hf dX12_give_20
