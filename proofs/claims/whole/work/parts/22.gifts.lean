def m_X11_joy (a1 : Int32) (a2 : Int32) (σ : fm_M) : Option (Int32 × fm_M) := fm_b (m_X11_isPerson a1 σ) fun r1 σ2 => (if r1 = 0 then (fm_b (m_X11_tell (-1000000001 : Int32) σ2) fun r4 σ5 => (some (r4, σ5))) else (fm_b (m_X11_within a2 (0 : Int32) (9999 : Int32) σ2) fun r7 σ8 => (if r7 = 0 then (fm_b (m_X11_tell (-1000000001 : Int32) σ8) fun r14 σ15 => (some (r14, σ15))) else (fm_g (fm_in1 a1 6) (fm_g (fm_in1 a1 6) (fm_let (fm_sI σ8 (8 + 2 + a1.toNatClampNeg) 1 a2) fun σ12 => (some ((σ8.1 (8 + 2 + a1.toNatClampNeg) 1), σ12))))))))
set_option maxHeartbeats 4000000 in
set_option maxRecDepth 100000 in
theorem c_X11_joy {l : Launch} {G : fm_G} (hJ : fm_J G) {a1 : Int32} {a2 : Int32} {σ : fm_M} {o : Int32 × fm_M}  (hf : m_X11_joy a1 a2 σ = some o) : Met l yX11_joy (fm_w yX11_joy cX11_joy 4 (some .int)) { frames := 2, cells := 0, slots := 0, locals := 44 } (va_Pc [.ref (G.2.1 0), .int a1, .int a2] (fm_st G σ)) (fm_Qi G o) 0 0 (fm_A G) := by
  refine fm_mth (own := RX11) hJ rfl (by decide +kernel) (Nat.le_of_ble_eq_true rfl) ?_
  intro p e s m below meth c ls hC hr hlk hI hl
  have hx := hC.1.1
  have hb := hC.1.2.1
  have hown := hC.1.2.2.2.1
  have hts := hC.1.2.2.2.2
  have hl : lv_has ls 4 [(0, .ref (G.2.1 0)), (1, .int a1), (2, .int a2)] := hl
  rw [m_X11_joy] at hf
  refine lv_aload_n hx hb dX11_joy_0 rfl (lv_at hl 0 rfl) ?_
  refine lv_iload_n hx hb dX11_joy_1 rfl (lv_at hl 1 rfl) ?_
  obtain ⟨r1, σ2, hq3, hf⟩ := fm_bE hf
  refine fm_ci hI (fm_runV (As := [.int a1]) (rest := []) (rm := { frames := 1, cells := 0, slots := 0, locals := 22 }) hC hI (c_X11_isPerson hC.2.2.1 hq3) mV_X11_isPerson q_254 ⟨rfl, rfl⟩ ⟨Nat.le_of_ble_eq_true rfl, Nat.le_of_ble_eq_true rfl⟩ fc_0 rfl (by decide) rfl hl.1 rfl (Nat.le_of_ble_eq_true rfl) dX11_joy_2 ⟨Nat.zero_le _, Nat.zero_le _⟩) (fun H locs hI => ?_)
  refine lv_if_eq (tgt := 19) hx hb dX11_joy_5 (by decide) (fun hc => ?_) (fun hc => ?_)
  · have hf := fm_pT hf hc
    refine lv_aload_n hx hb dX11_joy_19 rfl (lv_at hl 0 rfl) ?_
    refine lv_ldc (v := (-1000000001 : Int32)) hx hb hown (hts _ q_240) dX11_joy_20 ?_
    obtain ⟨r4, σ5, hq6, hf⟩ := fm_bE hf
    refine fm_ci hI (fm_runV (As := [.int (-1000000001 : Int32)]) (rest := []) (rm := { frames := 1, cells := 0, slots := 0, locals := 22 }) hC hI (c_X11_tell hC.2.2.1 hq6) mV_X11_tell q_241 ⟨rfl, rfl⟩ ⟨Nat.le_of_ble_eq_true rfl, Nat.le_of_ble_eq_true rfl⟩ fc_0 rfl (by decide) rfl hl.1 rfl (Nat.le_of_ble_eq_true rfl) dX11_joy_22 ⟨Nat.zero_le _, Nat.zero_le _⟩) (fun H locs hI => ?_)
    exact fm_ri hC hI hr hlk hf dX11_joy_25
  · have hf := fm_pF hf hc
    refine lv_iload_n hx hb dX11_joy_8 rfl (lv_at hl 2 rfl) ?_
    refine lv_iconst (v := (0 : Int32)) hx hb dX11_joy_9 (by decide) ?_
    refine lv_sipush (v := (9999 : Int32)) hx hb dX11_joy_10 (by decide) ?_
    obtain ⟨r7, σ8, hq9, hf⟩ := fm_bE hf
    refine fm_ci hI (fm_runS (As := [.int a2, .int (0 : Int32), .int (9999 : Int32)]) (rest := []) (rm := { frames := 0, cells := 0, slots := 0, locals := 0 }) hC hI (c_X11_within hC.2.2.1 hq9) mS_X11_within q_237 ⟨rfl, rfl⟩ ⟨Nat.le_of_ble_eq_true rfl, Nat.le_of_ble_eq_true rfl⟩ rfl hl.1 rfl (Nat.le_of_ble_eq_true rfl) dX11_joy_13 ⟨Nat.zero_le _, Nat.zero_le _⟩) (fun H locs hI => ?_)
    refine lv_if_ne (tgt := 26) hx hb dX11_joy_16 (by decide) (fun hc => ?_) (fun hc => ?_)
    · have hf := fm_pF hf hc
      refine lv_aload_n hx hb dX11_joy_26 rfl (lv_at hl 0 rfl) ?_
      refine fm_gr hC hI fd_X11_0 fc_0 fr_0_0 q_205 dX11_joy_27 ?_
      refine fm_gr hC hI fd_X10_1 fc_8 fr_8_1 q_133 dX11_joy_30 ?_
      refine lv_iload_n hx hb dX11_joy_33 rfl (lv_at hl 1 rfl) ?_
      obtain ⟨hg10, hf⟩ := fm_gE hf
      refine fm_aald (t0 := 4) hC hI fc_9 (by decide) (by decide) rfl fl_9 hg10 (fm_T3 (x := a1) fc_8 hg10).2 dX11_joy_34 ?_
      refine fm_gi hC hI fd_X5_1 (fm_T3 (x := a1) fc_8 hg10).1 q_93 dX11_joy_35 ?_
      refine lv_istore_n (lv' := [(3, .int (σ8.1 (8 + 2 + a1.toNatClampNeg) 1)), (0, .ref (G.2.1 0)), (1, .int a1), (2, .int a2)]) hx hb dX11_joy_38 rfl hl (Nat.le_of_ble_eq_true rfl) rfl (fun ls hl => ?_)
      refine lv_aload_n hx hb dX11_joy_39 rfl (lv_at hl 1 rfl) ?_
      refine fm_gr hC hI fd_X11_0 fc_0 fr_0_0 q_205 dX11_joy_40 ?_
      refine fm_gr hC hI fd_X10_1 fc_8 fr_8_1 q_133 dX11_joy_43 ?_
      refine lv_iload_n hx hb dX11_joy_46 rfl (lv_at hl 2 rfl) ?_
      obtain ⟨hg11, hf⟩ := fm_gE hf
      refine fm_aald (t0 := 4) hC hI fc_9 (by decide) (by decide) rfl fl_9 hg11 (fm_T3 (x := a1) fc_8 hg11).2 dX11_joy_47 ?_
      refine lv_iload_n hx hb dX11_joy_48 rfl (lv_at hl 3 rfl) ?_
      obtain ⟨σ12, e13, hf⟩ := fm_letE hf
      refine fm_pi hC hI fp_X5_1 (fm_T3 (x := a1) fc_8 hg11).1 ⟨rfl, rfl⟩ e13 q_93 dX11_joy_49 (fun H locs hI => ?_)
      refine lv_iload_n hx hb dX11_joy_52 rfl (lv_at hl 0 rfl) ?_
      exact fm_ri hC hI hr hlk hf dX11_joy_53
    · have hf := fm_pT hf hc
      refine lv_aload_n hx hb dX11_joy_19 rfl (lv_at hl 0 rfl) ?_
      refine lv_ldc (v := (-1000000001 : Int32)) hx hb hown (hts _ q_240) dX11_joy_20 ?_
      obtain ⟨r14, σ15, hq16, hf⟩ := fm_bE hf
      refine fm_ci hI (fm_runV (As := [.int (-1000000001 : Int32)]) (rest := []) (rm := { frames := 1, cells := 0, slots := 0, locals := 22 }) hC hI (c_X11_tell hC.2.2.1 hq16) mV_X11_tell q_241 ⟨rfl, rfl⟩ ⟨Nat.le_of_ble_eq_true rfl, Nat.le_of_ble_eq_true rfl⟩ fc_0 rfl (by decide) rfl hl.1 rfl (Nat.le_of_ble_eq_true rfl) dX11_joy_22 ⟨Nat.zero_le _, Nat.zero_le _⟩) (fun H locs hI => ?_)
      exact fm_ri hC hI hr hlk hf dX11_joy_25
def m_X11_turn (a1 : Int32) (a2 : Int32) (σ : fm_M) : Option (Int32 × fm_M) := fm_b (m_X11_isPerson a1 σ) fun r1 σ2 => (if r1 = 0 then (fm_b (m_X11_tell (-1000000001 : Int32) σ2) fun r4 σ5 => (some (r4, σ5))) else (fm_b (m_X11_isKind a2 σ2) fun r7 σ8 => (if r7 = 0 then (fm_b (m_X11_tell (-1000000001 : Int32) σ8) fun r14 σ15 => (some (r14, σ15))) else (fm_g (fm_in1 a1 6) (fm_g (fm_in1 a1 6) (fm_let (fm_sI σ8 (8 + 2 + a1.toNatClampNeg) 0 a2) fun σ12 => (some ((σ8.1 (8 + 2 + a1.toNatClampNeg) 0), σ12))))))))
set_option maxHeartbeats 4000000 in
set_option maxRecDepth 100000 in
theorem c_X11_turn {l : Launch} {G : fm_G} (hJ : fm_J G) {a1 : Int32} {a2 : Int32} {σ : fm_M} {o : Int32 × fm_M}  (hf : m_X11_turn a1 a2 σ = some o) : Met l yX11_turn (fm_w yX11_turn cX11_turn 4 (some .int)) { frames := 2, cells := 0, slots := 0, locals := 44 } (va_Pc [.ref (G.2.1 0), .int a1, .int a2] (fm_st G σ)) (fm_Qi G o) 0 0 (fm_A G) := by
  refine fm_mth (own := RX11) hJ rfl (by decide +kernel) (Nat.le_of_ble_eq_true rfl) ?_
  intro p e s m below meth c ls hC hr hlk hI hl
  have hx := hC.1.1
  have hb := hC.1.2.1
  have hown := hC.1.2.2.2.1
  have hts := hC.1.2.2.2.2
  have hl : lv_has ls 4 [(0, .ref (G.2.1 0)), (1, .int a1), (2, .int a2)] := hl
  rw [m_X11_turn] at hf
  refine lv_aload_n hx hb dX11_turn_0 rfl (lv_at hl 0 rfl) ?_
  refine lv_iload_n hx hb dX11_turn_1 rfl (lv_at hl 1 rfl) ?_
  obtain ⟨r1, σ2, hq3, hf⟩ := fm_bE hf
  refine fm_ci hI (fm_runV (As := [.int a1]) (rest := []) (rm := { frames := 1, cells := 0, slots := 0, locals := 22 }) hC hI (c_X11_isPerson hC.2.2.1 hq3) mV_X11_isPerson q_254 ⟨rfl, rfl⟩ ⟨Nat.le_of_ble_eq_true rfl, Nat.le_of_ble_eq_true rfl⟩ fc_0 rfl (by decide) rfl hl.1 rfl (Nat.le_of_ble_eq_true rfl) dX11_turn_2 ⟨Nat.zero_le _, Nat.zero_le _⟩) (fun H locs hI => ?_)
  refine lv_if_eq (tgt := 15) hx hb dX11_turn_5 (by decide) (fun hc => ?_) (fun hc => ?_)
  · have hf := fm_pT hf hc
    refine lv_aload_n hx hb dX11_turn_15 rfl (lv_at hl 0 rfl) ?_
    refine lv_ldc (v := (-1000000001 : Int32)) hx hb hown (hts _ q_240) dX11_turn_16 ?_
    obtain ⟨r4, σ5, hq6, hf⟩ := fm_bE hf
    refine fm_ci hI (fm_runV (As := [.int (-1000000001 : Int32)]) (rest := []) (rm := { frames := 1, cells := 0, slots := 0, locals := 22 }) hC hI (c_X11_tell hC.2.2.1 hq6) mV_X11_tell q_241 ⟨rfl, rfl⟩ ⟨Nat.le_of_ble_eq_true rfl, Nat.le_of_ble_eq_true rfl⟩ fc_0 rfl (by decide) rfl hl.1 rfl (Nat.le_of_ble_eq_true rfl) dX11_turn_18 ⟨Nat.zero_le _, Nat.zero_le _⟩) (fun H locs hI => ?_)
    exact fm_ri hC hI hr hlk hf dX11_turn_21
  · have hf := fm_pF hf hc
    refine lv_iload_n hx hb dX11_turn_8 rfl (lv_at hl 2 rfl) ?_
    obtain ⟨r7, σ8, hq9, hf⟩ := fm_bE hf
    refine fm_ci hI (fm_runS (As := [.int a2]) (rest := []) (rm := { frames := 1, cells := 0, slots := 0, locals := 22 }) hC hI (c_X11_isKind hC.2.2.1 hq9) mS_X11_isKind q_234 ⟨rfl, rfl⟩ ⟨Nat.le_of_ble_eq_true rfl, Nat.le_of_ble_eq_true rfl⟩ rfl hl.1 rfl (Nat.le_of_ble_eq_true rfl) dX11_turn_9 ⟨Nat.zero_le _, Nat.zero_le _⟩) (fun H locs hI => ?_)
    refine lv_if_ne (tgt := 22) hx hb dX11_turn_12 (by decide) (fun hc => ?_) (fun hc => ?_)
    · have hf := fm_pF hf hc
      refine lv_aload_n hx hb dX11_turn_22 rfl (lv_at hl 0 rfl) ?_
      refine fm_gr hC hI fd_X11_0 fc_0 fr_0_0 q_205 dX11_turn_23 ?_
      refine fm_gr hC hI fd_X10_1 fc_8 fr_8_1 q_133 dX11_turn_26 ?_
      refine lv_iload_n hx hb dX11_turn_29 rfl (lv_at hl 1 rfl) ?_
      obtain ⟨hg10, hf⟩ := fm_gE hf
      refine fm_aald (t0 := 4) hC hI fc_9 (by decide) (by decide) rfl fl_9 hg10 (fm_T3 (x := a1) fc_8 hg10).2 dX11_turn_30 ?_
      refine fm_gi hC hI fd_X5_0 (fm_T3 (x := a1) fc_8 hg10).1 q_90 dX11_turn_31 ?_
      refine lv_istore_n (lv' := [(3, .int (σ8.1 (8 + 2 + a1.toNatClampNeg) 0)), (0, .ref (G.2.1 0)), (1, .int a1), (2, .int a2)]) hx hb dX11_turn_34 rfl hl (Nat.le_of_ble_eq_true rfl) rfl (fun ls hl => ?_)
      refine lv_aload_n hx hb dX11_turn_35 rfl (lv_at hl 1 rfl) ?_
      refine fm_gr hC hI fd_X11_0 fc_0 fr_0_0 q_205 dX11_turn_36 ?_
      refine fm_gr hC hI fd_X10_1 fc_8 fr_8_1 q_133 dX11_turn_39 ?_
      refine lv_iload_n hx hb dX11_turn_42 rfl (lv_at hl 2 rfl) ?_
      obtain ⟨hg11, hf⟩ := fm_gE hf
      refine fm_aald (t0 := 4) hC hI fc_9 (by decide) (by decide) rfl fl_9 hg11 (fm_T3 (x := a1) fc_8 hg11).2 dX11_turn_43 ?_
      refine lv_iload_n hx hb dX11_turn_44 rfl (lv_at hl 3 rfl) ?_
      obtain ⟨σ12, e13, hf⟩ := fm_letE hf
      refine fm_pi hC hI fp_X5_0 (fm_T3 (x := a1) fc_8 hg11).1 ⟨rfl, rfl⟩ e13 q_90 dX11_turn_45 (fun H locs hI => ?_)
      refine lv_iload_n hx hb dX11_turn_48 rfl (lv_at hl 0 rfl) ?_
      exact fm_ri hC hI hr hlk hf dX11_turn_49
    · have hf := fm_pT hf hc
      refine lv_aload_n hx hb dX11_turn_15 rfl (lv_at hl 0 rfl) ?_
      refine lv_ldc (v := (-1000000001 : Int32)) hx hb hown (hts _ q_240) dX11_turn_16 ?_
      obtain ⟨r14, σ15, hq16, hf⟩ := fm_bE hf
      refine fm_ci hI (fm_runV (As := [.int (-1000000001 : Int32)]) (rest := []) (rm := { frames := 1, cells := 0, slots := 0, locals := 22 }) hC hI (c_X11_tell hC.2.2.1 hq16) mV_X11_tell q_241 ⟨rfl, rfl⟩ ⟨Nat.le_of_ble_eq_true rfl, Nat.le_of_ble_eq_true rfl⟩ fc_0 rfl (by decide) rfl hl.1 rfl (Nat.le_of_ble_eq_true rfl) dX11_turn_18 ⟨Nat.zero_le _, Nat.zero_le _⟩) (fun H locs hI => ?_)
      exact fm_ri hC hI hr hlk hf dX11_turn_21
def m_X11_isOf (a0 : Nat) (a1 : Int32) (σ : fm_M) : Option (Int32 × fm_M) := if a1 = (0 : Int32) then (some ((1 : Int32), σ)) else (if a1 = (1 : Int32) then (fm_g (fm_bz (if a0 ∈ ([3, 7] : List Nat) then (1 : Int32) else 0)) (some ((if a0 ∈ ([3, 7] : List Nat) then (1 : Int32) else 0), σ))) else (if a1 = (2 : Int32) then (fm_g (fm_bz (if a0 ∈ ([4, 6] : List Nat) then (1 : Int32) else 0)) (some ((if a0 ∈ ([4, 6] : List Nat) then (1 : Int32) else 0), σ))) else (if a1 = (3 : Int32) then (fm_g (fm_bz (if a0 ∈ ([5] : List Nat) then (1 : Int32) else 0)) (some ((if a0 ∈ ([5] : List Nat) then (1 : Int32) else 0), σ))) else (if a1 = (4 : Int32) then (fm_g (fm_bz (if a0 ∈ ([6] : List Nat) then (1 : Int32) else 0)) (some ((if a0 ∈ ([6] : List Nat) then (1 : Int32) else 0), σ))) else (fm_g (fm_bz (if a0 ∈ ([7] : List Nat) then (1 : Int32) else 0)) (some ((if a0 ∈ ([7] : List Nat) then (1 : Int32) else 0), σ)))))))
set_option maxHeartbeats 4000000 in
set_option maxRecDepth 100000 in
theorem c_X11_isOf {l : Launch} {G : fm_G} (hJ : fm_J G) {a0 : Nat} {a1 : Int32} {σ : fm_M} {o : Int32 × fm_M} (h0 : fm_man a0) (hf : m_X11_isOf a0 a1 σ = some o) : Met l yX11_isOf (fm_w yX11_isOf cX11_isOf 2 (some .boolean)) { frames := 0, cells := 0, slots := 0, locals := 0 } (va_Pc [.ref (G.2.1 a0), .int a1] (fm_st G σ)) (fm_Qi G o) 0 0 (fm_A G) := by
  refine fm_mth (own := RX11) hJ rfl (by decide +kernel) (Nat.le_of_ble_eq_true rfl) ?_
  intro p e s m below meth c ls hC hr hlk hI hl
  have hx := hC.1.1
  have hb := hC.1.2.1
  have hown := hC.1.2.2.2.1
  have hts := hC.1.2.2.2.2
  have hl : lv_has ls 2 [(0, .ref (G.2.1 a0)), (1, .int a1)] := hl
  rw [m_X11_isOf] at hf
  refine lv_iload_n hx hb dX11_isOf_0 rfl (lv_at hl 1 rfl) ?_
  by_cases hc1 : a1 = (0 : Int32)
  · have hf := fm_pT hf hc1
    refine lv_tableIn (off := 35) (tgt := 36) hx hb dX11_isOf_1 (by rw [hc1]; decide) (by rw [hc1]; decide) (by rw [hc1]; decide) (by decide) ?_
    refine lv_iconst (v := (1 : Int32)) hx hb dX11_isOf_36 (by decide) ?_
    exact fm_rz hC hI hr hlk (by decide) hf dX11_isOf_37
  · have hf := fm_pF hf hc1
    by_cases hc2 : a1 = (1 : Int32)
    · have hf := fm_pT hf hc2
      refine lv_tableIn (off := 37) (tgt := 38) hx hb dX11_isOf_1 (by rw [hc2]; decide) (by rw [hc2]; decide) (by rw [hc2]; decide) (by decide) ?_
      refine lv_aload_n hx hb dX11_isOf_38 rfl (lv_at hl 0 rfl) ?_
      refine fm_inst [3, 7] hC hI h0 q_40 (ix_Aunt h0) dX11_isOf_39 ?_
      obtain ⟨hg3, hf⟩ := fm_gE hf
      exact fm_rz hC hI hr hlk hg3 hf dX11_isOf_42
    · have hf := fm_pF hf hc2
      by_cases hc4 : a1 = (2 : Int32)
      · have hf := fm_pT hf hc4
        refine lv_tableIn (off := 42) (tgt := 43) hx hb dX11_isOf_1 (by rw [hc4]; decide) (by rw [hc4]; decide) (by rw [hc4]; decide) (by decide) ?_
        refine lv_aload_n hx hb dX11_isOf_43 rfl (lv_at hl 0 rfl) ?_
        refine fm_inst [4, 6] hC hI h0 q_47 (ix_Child h0) dX11_isOf_44 ?_
        obtain ⟨hg5, hf⟩ := fm_gE hf
        exact fm_rz hC hI hr hlk hg5 hf dX11_isOf_47
      · have hf := fm_pF hf hc4
        by_cases hc6 : a1 = (3 : Int32)
        · have hf := fm_pT hf hc6
          refine lv_tableIn (off := 47) (tgt := 48) hx hb dX11_isOf_1 (by rw [hc6]; decide) (by rw [hc6]; decide) (by rw [hc6]; decide) (by decide) ?_
          refine lv_aload_n hx hb dX11_isOf_48 rfl (lv_at hl 0 rfl) ?_
          refine fm_inst [5] hC hI h0 q_54 (ix_Poor h0) dX11_isOf_49 ?_
          obtain ⟨hg7, hf⟩ := fm_gE hf
          exact fm_rz hC hI hr hlk hg7 hf dX11_isOf_52
        · have hf := fm_pF hf hc6
          by_cases hc8 : a1 = (4 : Int32)
          · have hf := fm_pT hf hc8
            refine lv_tableIn (off := 52) (tgt := 53) hx hb dX11_isOf_1 (by rw [hc8]; decide) (by rw [hc8]; decide) (by rw [hc8]; decide) (by decide) ?_
            refine lv_aload_n hx hb dX11_isOf_53 rfl (lv_at hl 0 rfl) ?_
            refine fm_inst [6] hC hI h0 q_61 (ix_Girl h0) dX11_isOf_54 ?_
            obtain ⟨hg9, hf⟩ := fm_gE hf
            exact fm_rz hC hI hr hlk hg9 hf dX11_isOf_57
          · have hf := fm_pF hf hc8
            have hsw : (a1 : Int32).toInt < 0 ∨ 4 < (a1 : Int32).toInt := by
              have t0 := fm_neI hc1
              rw [show ((0 : Int32)).toInt = 0 from by decide] at t0
              have t1 := fm_neI hc2
              rw [show ((1 : Int32)).toInt = 1 from by decide] at t1
              have t2 := fm_neI hc4
              rw [show ((2 : Int32)).toInt = 2 from by decide] at t2
              have t3 := fm_neI hc6
              rw [show ((3 : Int32)).toInt = 3 from by decide] at t3
              have t4 := fm_neI hc8
              rw [show ((4 : Int32)).toInt = 4 from by decide] at t4
              omega
            refine lv_tableOut (tgt := 58) hx hb dX11_isOf_1 hsw (by decide) ?_
            refine lv_aload_n hx hb dX11_isOf_58 rfl (lv_at hl 0 rfl) ?_
            refine fm_inst [7] hC hI h0 q_68 (ix_Clerk h0) dX11_isOf_59 ?_
            obtain ⟨hg10, hf⟩ := fm_gE hf
            exact fm_rz hC hI hr hlk hg10 hf dX11_isOf_62
def m_X11_as (a1 : Int32) (a2 : Int32) (σ : fm_M) : Option (Int32 × fm_M) := fm_b (m_X11_isPerson a1 σ) fun r1 σ2 => (if r1 = 0 then (fm_b (m_X11_tell (-1000000001 : Int32) σ2) fun r4 σ5 => (some (r4, σ5))) else (fm_b (m_X11_isKind a2 σ2) fun r7 σ8 => (if r7 = 0 then (fm_b (m_X11_tell (-1000000001 : Int32) σ8) fun r21 σ22 => (some (r21, σ22))) else (fm_b (m_X10_mannerOf 8 a1 σ8) fun r10 σ11 => (fm_b (m_X11_isOf r10 a2 σ11) fun r14 σ15 => (if r14 = 0 then (fm_b (m_X11_tell (-1000000003 : Int32) σ15) fun r18 σ19 => (some (r18, σ19))) else (fm_g (fm_in1 a1 6) (some ((σ15.1 (8 + 2 + a1.toNatClampNeg) 1), σ15)))))))))
set_option maxHeartbeats 4000000 in
set_option maxRecDepth 100000 in
theorem c_X11_as {l : Launch} {G : fm_G} (hJ : fm_J G) {a1 : Int32} {a2 : Int32} {σ : fm_M} {o : Int32 × fm_M}  (hf : m_X11_as a1 a2 σ = some o) : Met l yX11_as (fm_w yX11_as cX11_as 3 (some .int)) { frames := 2, cells := 0, slots := 0, locals := 44 } (va_Pc [.ref (G.2.1 0), .int a1, .int a2] (fm_st G σ)) (fm_Qi G o) 0 0 (fm_A G) := by
  refine fm_mth (own := RX11) hJ rfl (by decide +kernel) (Nat.le_of_ble_eq_true rfl) ?_
  intro p e s m below meth c ls hC hr hlk hI hl
  have hx := hC.1.1
  have hb := hC.1.2.1
  have hown := hC.1.2.2.2.1
  have hts := hC.1.2.2.2.2
  have hl : lv_has ls 3 [(0, .ref (G.2.1 0)), (1, .int a1), (2, .int a2)] := hl
  rw [m_X11_as] at hf
  refine lv_aload_n hx hb dX11_as_0 rfl (lv_at hl 0 rfl) ?_
  refine lv_iload_n hx hb dX11_as_1 rfl (lv_at hl 1 rfl) ?_
  obtain ⟨r1, σ2, hq3, hf⟩ := fm_bE hf
  refine fm_ci hI (fm_runV (As := [.int a1]) (rest := []) (rm := { frames := 1, cells := 0, slots := 0, locals := 22 }) hC hI (c_X11_isPerson hC.2.2.1 hq3) mV_X11_isPerson q_254 ⟨rfl, rfl⟩ ⟨Nat.le_of_ble_eq_true rfl, Nat.le_of_ble_eq_true rfl⟩ fc_0 rfl (by decide) rfl hl.1 rfl (Nat.le_of_ble_eq_true rfl) dX11_as_2 ⟨Nat.zero_le _, Nat.zero_le _⟩) (fun H locs hI => ?_)
  refine lv_if_eq (tgt := 15) hx hb dX11_as_5 (by decide) (fun hc => ?_) (fun hc => ?_)
  · have hf := fm_pT hf hc
    refine lv_aload_n hx hb dX11_as_15 rfl (lv_at hl 0 rfl) ?_
    refine lv_ldc (v := (-1000000001 : Int32)) hx hb hown (hts _ q_240) dX11_as_16 ?_
    obtain ⟨r4, σ5, hq6, hf⟩ := fm_bE hf
    refine fm_ci hI (fm_runV (As := [.int (-1000000001 : Int32)]) (rest := []) (rm := { frames := 1, cells := 0, slots := 0, locals := 22 }) hC hI (c_X11_tell hC.2.2.1 hq6) mV_X11_tell q_241 ⟨rfl, rfl⟩ ⟨Nat.le_of_ble_eq_true rfl, Nat.le_of_ble_eq_true rfl⟩ fc_0 rfl (by decide) rfl hl.1 rfl (Nat.le_of_ble_eq_true rfl) dX11_as_18 ⟨Nat.zero_le _, Nat.zero_le _⟩) (fun H locs hI => ?_)
    exact fm_ri hC hI hr hlk hf dX11_as_21
  · have hf := fm_pF hf hc
    refine lv_iload_n hx hb dX11_as_8 rfl (lv_at hl 2 rfl) ?_
    obtain ⟨r7, σ8, hq9, hf⟩ := fm_bE hf
    refine fm_ci hI (fm_runS (As := [.int a2]) (rest := []) (rm := { frames := 1, cells := 0, slots := 0, locals := 22 }) hC hI (c_X11_isKind hC.2.2.1 hq9) mS_X11_isKind q_234 ⟨rfl, rfl⟩ ⟨Nat.le_of_ble_eq_true rfl, Nat.le_of_ble_eq_true rfl⟩ rfl hl.1 rfl (Nat.le_of_ble_eq_true rfl) dX11_as_9 ⟨Nat.zero_le _, Nat.zero_le _⟩) (fun H locs hI => ?_)
    refine lv_if_ne (tgt := 22) hx hb dX11_as_12 (by decide) (fun hc => ?_) (fun hc => ?_)
    · have hf := fm_pF hf hc
      refine lv_aload_n hx hb dX11_as_22 rfl (lv_at hl 0 rfl) ?_
      refine fm_gr hC hI fd_X11_0 fc_0 fr_0_0 q_205 dX11_as_23 ?_
      refine lv_iload_n hx hb dX11_as_26 rfl (lv_at hl 1 rfl) ?_
      obtain ⟨r10, σ11, hq12, hf⟩ := fm_bE hf
      refine fm_cr hI (fm_runV (As := [.int a1]) (rest := []) (rm := { frames := 0, cells := 0, slots := 0, locals := 0 }) hC hI (c_X10_mannerOf hC.2.2.1 fc_8 hq12) mV_X10_mannerOf q_278 ⟨rfl, rfl⟩ ⟨Nat.le_of_ble_eq_true rfl, Nat.le_of_ble_eq_true rfl⟩ fc_8 rfl (by decide) rfl hl.1 rfl (Nat.le_of_ble_eq_true rfl) dX11_as_27 ⟨Nat.zero_le _, Nat.zero_le _⟩) (fun H locs hI => ?_)
      have hm13 := man_X10_mannerOf hq12
      refine lv_iload_n hx hb dX11_as_30 rfl (lv_at hl 2 rfl) ?_
      obtain ⟨r14, σ15, hq16, hf⟩ := fm_bE hf
      refine fm_ci hI (fm_runS (As := [.ref (G.2.1 r10), .int a2]) (rest := []) (rm := { frames := 0, cells := 0, slots := 0, locals := 0 }) hC hI (c_X11_isOf hC.2.2.1 hm13 hq16) mS_X11_isOf q_399 ⟨rfl, rfl⟩ ⟨Nat.le_of_ble_eq_true rfl, Nat.le_of_ble_eq_true rfl⟩ rfl hl.1 rfl (Nat.le_of_ble_eq_true rfl) dX11_as_31 ⟨Nat.zero_le _, Nat.zero_le _⟩) (fun H locs hI => ?_)
      refine lv_if_ne (tgt := 44) hx hb dX11_as_34 (by decide) (fun hc => ?_) (fun hc => ?_)
      · have hf := fm_pF hf hc
        refine lv_aload_n hx hb dX11_as_44 rfl (lv_at hl 0 rfl) ?_
        refine fm_gr hC hI fd_X11_0 fc_0 fr_0_0 q_205 dX11_as_45 ?_
        refine fm_gr hC hI fd_X10_1 fc_8 fr_8_1 q_133 dX11_as_48 ?_
        refine lv_iload_n hx hb dX11_as_51 rfl (lv_at hl 1 rfl) ?_
        obtain ⟨hg17, hf⟩ := fm_gE hf
        refine fm_aald (t0 := 4) hC hI fc_9 (by decide) (by decide) rfl fl_9 hg17 (fm_T3 (x := a1) fc_8 hg17).2 dX11_as_52 ?_
        refine fm_gi hC hI fd_X5_1 (fm_T3 (x := a1) fc_8 hg17).1 q_93 dX11_as_53 ?_
        exact fm_ri hC hI hr hlk hf dX11_as_56
      · have hf := fm_pT hf hc
        refine lv_aload_n hx hb dX11_as_37 rfl (lv_at hl 0 rfl) ?_
        refine lv_ldc (v := (-1000000003 : Int32)) hx hb hown (hts _ q_402) dX11_as_38 ?_
        obtain ⟨r18, σ19, hq20, hf⟩ := fm_bE hf
        refine fm_ci hI (fm_runV (As := [.int (-1000000003 : Int32)]) (rest := []) (rm := { frames := 1, cells := 0, slots := 0, locals := 22 }) hC hI (c_X11_tell hC.2.2.1 hq20) mV_X11_tell q_241 ⟨rfl, rfl⟩ ⟨Nat.le_of_ble_eq_true rfl, Nat.le_of_ble_eq_true rfl⟩ fc_0 rfl (by decide) rfl hl.1 rfl (Nat.le_of_ble_eq_true rfl) dX11_as_40 ⟨Nat.zero_le _, Nat.zero_le _⟩) (fun H locs hI => ?_)
        exact fm_ri hC hI hr hlk hf dX11_as_43
    · have hf := fm_pT hf hc
      refine lv_aload_n hx hb dX11_as_15 rfl (lv_at hl 0 rfl) ?_
      refine lv_ldc (v := (-1000000001 : Int32)) hx hb hown (hts _ q_240) dX11_as_16 ?_
      obtain ⟨r21, σ22, hq23, hf⟩ := fm_bE hf
      refine fm_ci hI (fm_runV (As := [.int (-1000000001 : Int32)]) (rest := []) (rm := { frames := 1, cells := 0, slots := 0, locals := 22 }) hC hI (c_X11_tell hC.2.2.1 hq23) mV_X11_tell q_241 ⟨rfl, rfl⟩ ⟨Nat.le_of_ble_eq_true rfl, Nat.le_of_ble_eq_true rfl⟩ fc_0 rfl (by decide) rfl hl.1 rfl (Nat.le_of_ble_eq_true rfl) dX11_as_18 ⟨Nat.zero_le _, Nat.zero_le _⟩) (fun H locs hI => ?_)
      exact fm_ri hC hI hr hlk hf dX11_as_21
def m_X11_isThing (a0 : Int32) (σ : fm_M) : Option (Int32 × fm_M) := fm_b (m_X11_within a0 (0 : Int32) (99 : Int32) σ) fun r1 σ2 => (fm_g (fm_bz r1) (some (r1, σ2)))
set_option maxHeartbeats 4000000 in
set_option maxRecDepth 100000 in
theorem c_X11_isThing {l : Launch} {G : fm_G} (hJ : fm_J G) {a0 : Int32} {σ : fm_M} {o : Int32 × fm_M}  (hf : m_X11_isThing a0 σ = some o) : Met l yX11_isThing (fm_w yX11_isThing cX11_isThing 1 (some .boolean)) { frames := 1, cells := 0, slots := 0, locals := 22 } (va_Pc [.int a0] (fm_st G σ)) (fm_Qi G o) 0 0 (fm_A G) := by
  refine fm_mth (own := RX11) hJ rfl (by decide +kernel) (Nat.le_of_ble_eq_true rfl) ?_
  intro p e s m below meth c ls hC hr hlk hI hl
  have hx := hC.1.1
  have hb := hC.1.2.1
  have hown := hC.1.2.2.2.1
  have hts := hC.1.2.2.2.2
  have hl : lv_has ls 1 [(0, .int a0)] := hl
  rw [m_X11_isThing] at hf
  refine lv_iload_n hx hb dX11_isThing_0 rfl (lv_at hl 0 rfl) ?_
  refine lv_iconst (v := (0 : Int32)) hx hb dX11_isThing_1 (by decide) ?_
  refine lv_bipush (v := (99 : Int32)) hx hb dX11_isThing_2 (by decide) ?_
  obtain ⟨r1, σ2, hq3, hf⟩ := fm_bE hf
  refine fm_ci hI (fm_runS (As := [.int a0, .int (0 : Int32), .int (99 : Int32)]) (rest := []) (rm := { frames := 0, cells := 0, slots := 0, locals := 0 }) hC hI (c_X11_within hC.2.2.1 hq3) mS_X11_within q_237 ⟨rfl, rfl⟩ ⟨Nat.le_of_ble_eq_true rfl, Nat.le_of_ble_eq_true rfl⟩ rfl hl.1 rfl (Nat.le_of_ble_eq_true rfl) dX11_isThing_4 ⟨Nat.zero_le _, Nat.zero_le _⟩) (fun H locs hI => ?_)
  obtain ⟨hg4, hf⟩ := fm_gE hf
  exact fm_rz hC hI hr hlk hg4 hf dX11_isThing_7
def m_X11_present (a1 : Int32) (a2 : Int32) (σ : fm_M) : Option (Int32 × fm_M) := fm_b (m_X11_isPerson a1 σ) fun r1 σ2 => (if r1 = 0 then (fm_b (m_X11_tell (-1000000001 : Int32) σ2) fun r4 σ5 => (some (r4, σ5))) else (fm_b (m_X11_isThing a2 σ2) fun r7 σ8 => (if r7 = 0 then (fm_b (m_X11_tell (-1000000001 : Int32) σ8) fun r16 σ17 => (some (r16, σ17))) else (if (σ8.1 8 5) < (8 : Int32) then (fm_b (m_X10_addPresent 8 a1 a2 σ8) fun r10 σ11 => (some (r10, σ11))) else (fm_b (m_X11_tell (-1000000002 : Int32) σ8) fun r13 σ14 => (some (r13, σ14)))))))
set_option maxHeartbeats 4000000 in
set_option maxRecDepth 100000 in
theorem c_X11_present {l : Launch} {G : fm_G} (hJ : fm_J G) {a1 : Int32} {a2 : Int32} {σ : fm_M} {o : Int32 × fm_M}  (hf : m_X11_present a1 a2 σ = some o) : Met l yX11_present (fm_w yX11_present cX11_present 3 (some .int)) { frames := 2, cells := 0, slots := 0, locals := 44 } (va_Pc [.ref (G.2.1 0), .int a1, .int a2] (fm_st G σ)) (fm_Qi G o) 0 0 (fm_A G) := by
  refine fm_mth (own := RX11) hJ rfl (by decide +kernel) (Nat.le_of_ble_eq_true rfl) ?_
  intro p e s m below meth c ls hC hr hlk hI hl
  have hx := hC.1.1
  have hb := hC.1.2.1
  have hown := hC.1.2.2.2.1
  have hts := hC.1.2.2.2.2
  have hl : lv_has ls 3 [(0, .ref (G.2.1 0)), (1, .int a1), (2, .int a2)] := hl
  rw [m_X11_present] at hf
  refine lv_aload_n hx hb dX11_present_0 rfl (lv_at hl 0 rfl) ?_
  refine lv_iload_n hx hb dX11_present_1 rfl (lv_at hl 1 rfl) ?_
  obtain ⟨r1, σ2, hq3, hf⟩ := fm_bE hf
  refine fm_ci hI (fm_runV (As := [.int a1]) (rest := []) (rm := { frames := 1, cells := 0, slots := 0, locals := 22 }) hC hI (c_X11_isPerson hC.2.2.1 hq3) mV_X11_isPerson q_254 ⟨rfl, rfl⟩ ⟨Nat.le_of_ble_eq_true rfl, Nat.le_of_ble_eq_true rfl⟩ fc_0 rfl (by decide) rfl hl.1 rfl (Nat.le_of_ble_eq_true rfl) dX11_present_2 ⟨Nat.zero_le _, Nat.zero_le _⟩) (fun H locs hI => ?_)
  refine lv_if_eq (tgt := 15) hx hb dX11_present_5 (by decide) (fun hc => ?_) (fun hc => ?_)
  · have hf := fm_pT hf hc
    refine lv_aload_n hx hb dX11_present_15 rfl (lv_at hl 0 rfl) ?_
    refine lv_ldc (v := (-1000000001 : Int32)) hx hb hown (hts _ q_240) dX11_present_16 ?_
    obtain ⟨r4, σ5, hq6, hf⟩ := fm_bE hf
    refine fm_ci hI (fm_runV (As := [.int (-1000000001 : Int32)]) (rest := []) (rm := { frames := 1, cells := 0, slots := 0, locals := 22 }) hC hI (c_X11_tell hC.2.2.1 hq6) mV_X11_tell q_241 ⟨rfl, rfl⟩ ⟨Nat.le_of_ble_eq_true rfl, Nat.le_of_ble_eq_true rfl⟩ fc_0 rfl (by decide) rfl hl.1 rfl (Nat.le_of_ble_eq_true rfl) dX11_present_18 ⟨Nat.zero_le _, Nat.zero_le _⟩) (fun H locs hI => ?_)
    exact fm_ri hC hI hr hlk hf dX11_present_21
  · have hf := fm_pF hf hc
    refine lv_iload_n hx hb dX11_present_8 rfl (lv_at hl 2 rfl) ?_
    obtain ⟨r7, σ8, hq9, hf⟩ := fm_bE hf
    refine fm_ci hI (fm_runS (As := [.int a2]) (rest := []) (rm := { frames := 1, cells := 0, slots := 0, locals := 22 }) hC hI (c_X11_isThing hC.2.2.1 hq9) mS_X11_isThing q_407 ⟨rfl, rfl⟩ ⟨Nat.le_of_ble_eq_true rfl, Nat.le_of_ble_eq_true rfl⟩ rfl hl.1 rfl (Nat.le_of_ble_eq_true rfl) dX11_present_9 ⟨Nat.zero_le _, Nat.zero_le _⟩) (fun H locs hI => ?_)
    refine lv_if_ne (tgt := 22) hx hb dX11_present_12 (by decide) (fun hc => ?_) (fun hc => ?_)
    · have hf := fm_pF hf hc
      refine lv_aload_n hx hb dX11_present_22 rfl (lv_at hl 0 rfl) ?_
      refine fm_gr hC hI fd_X11_0 fc_0 fr_0_0 q_205 dX11_present_23 ?_
      refine fm_gi hC hI fd_X10_5 fc_8 q_144 dX11_present_26 ?_
      refine lv_bipush (v := (8 : Int32)) hx hb dX11_present_29 (by decide) ?_
      refine lv_icmp_lt (tgt := 41) hx hb dX11_present_31 (by decide) (fun hc => ?_) (fun hc => ?_)
      · have hf := fm_pT hf hc
        refine lv_aload_n hx hb dX11_present_41 rfl (lv_at hl 0 rfl) ?_
        refine fm_gr hC hI fd_X11_0 fc_0 fr_0_0 q_205 dX11_present_42 ?_
        refine lv_iload_n hx hb dX11_present_45 rfl (lv_at hl 1 rfl) ?_
        refine lv_iload_n hx hb dX11_present_46 rfl (lv_at hl 2 rfl) ?_
        obtain ⟨r10, σ11, hq12, hf⟩ := fm_bE hf
        refine fm_ci hI (fm_runV (As := [.int a1, .int a2]) (rest := []) (rm := { frames := 1, cells := 0, slots := 0, locals := 22 }) hC hI (c_X10_addPresent hC.2.2.1 fc_8 hq12) mV_X10_addPresent q_410 ⟨rfl, rfl⟩ ⟨Nat.le_of_ble_eq_true rfl, Nat.le_of_ble_eq_true rfl⟩ fc_8 rfl (by decide) rfl hl.1 rfl (Nat.le_of_ble_eq_true rfl) dX11_present_47 ⟨Nat.zero_le _, Nat.zero_le _⟩) (fun H locs hI => ?_)
        exact fm_ri hC hI hr hlk hf dX11_present_50
      · have hf := fm_pF hf hc
        refine lv_aload_n hx hb dX11_present_34 rfl (lv_at hl 0 rfl) ?_
        refine lv_ldc (v := (-1000000002 : Int32)) hx hb hown (hts _ q_245) dX11_present_35 ?_
        obtain ⟨r13, σ14, hq15, hf⟩ := fm_bE hf
        refine fm_ci hI (fm_runV (As := [.int (-1000000002 : Int32)]) (rest := []) (rm := { frames := 1, cells := 0, slots := 0, locals := 22 }) hC hI (c_X11_tell hC.2.2.1 hq15) mV_X11_tell q_241 ⟨rfl, rfl⟩ ⟨Nat.le_of_ble_eq_true rfl, Nat.le_of_ble_eq_true rfl⟩ fc_0 rfl (by decide) rfl hl.1 rfl (Nat.le_of_ble_eq_true rfl) dX11_present_37 ⟨Nat.zero_le _, Nat.zero_le _⟩) (fun H locs hI => ?_)
        exact fm_ri hC hI hr hlk hf dX11_present_40
    · have hf := fm_pT hf hc
      refine lv_aload_n hx hb dX11_present_15 rfl (lv_at hl 0 rfl) ?_
      refine lv_ldc (v := (-1000000001 : Int32)) hx hb hown (hts _ q_240) dX11_present_16 ?_
      obtain ⟨r16, σ17, hq18, hf⟩ := fm_bE hf
      refine fm_ci hI (fm_runV (As := [.int (-1000000001 : Int32)]) (rest := []) (rm := { frames := 1, cells := 0, slots := 0, locals := 22 }) hC hI (c_X11_tell hC.2.2.1 hq18) mV_X11_tell q_241 ⟨rfl, rfl⟩ ⟨Nat.le_of_ble_eq_true rfl, Nat.le_of_ble_eq_true rfl⟩ fc_0 rfl (by decide) rfl hl.1 rfl (Nat.le_of_ble_eq_true rfl) dX11_present_18 ⟨Nat.zero_le _, Nat.zero_le _⟩) (fun H locs hI => ?_)
      exact fm_ri hC hI hr hlk hf dX11_present_21
def m_X11_presentOf (a1 : Int32) (a2 : Int32) (σ : fm_M) : Option (Int32 × fm_M) := fm_b (m_X11_isPresent a1 σ) fun r1 σ2 => (if r1 = 0 then (fm_b (m_X11_tell (-1000000001 : Int32) σ2) fun r4 σ5 => (some (r4, σ5))) else (fm_b (m_X11_within a2 (0 : Int32) (3 : Int32) σ2) fun r7 σ8 => (if r7 = 0 then (fm_b (m_X11_tell (-1000000001 : Int32) σ8) fun r14 σ15 => (some (r14, σ15))) else (fm_g (fm_in1 a1 8) (fm_b (m_X7_tells (8 + 9 + 2 * a1.toNatClampNeg) a2 σ8) fun r11 σ12 => (some (r11, σ12)))))))
set_option maxHeartbeats 4000000 in
set_option maxRecDepth 100000 in
theorem c_X11_presentOf {l : Launch} {G : fm_G} (hJ : fm_J G) {a1 : Int32} {a2 : Int32} {σ : fm_M} {o : Int32 × fm_M}  (hf : m_X11_presentOf a1 a2 σ = some o) : Met l yX11_presentOf (fm_w yX11_presentOf cX11_presentOf 3 (some .int)) { frames := 2, cells := 0, slots := 0, locals := 44 } (va_Pc [.ref (G.2.1 0), .int a1, .int a2] (fm_st G σ)) (fm_Qi G o) 0 0 (fm_A G) := by
  refine fm_mth (own := RX11) hJ rfl (by decide +kernel) (Nat.le_of_ble_eq_true rfl) ?_
  intro p e s m below meth c ls hC hr hlk hI hl
  have hx := hC.1.1
  have hb := hC.1.2.1
  have hown := hC.1.2.2.2.1
  have hts := hC.1.2.2.2.2
  have hl : lv_has ls 3 [(0, .ref (G.2.1 0)), (1, .int a1), (2, .int a2)] := hl
  rw [m_X11_presentOf] at hf
  refine lv_aload_n hx hb dX11_presentOf_0 rfl (lv_at hl 0 rfl) ?_
  refine lv_iload_n hx hb dX11_presentOf_1 rfl (lv_at hl 1 rfl) ?_
  obtain ⟨r1, σ2, hq3, hf⟩ := fm_bE hf
  refine fm_ci hI (fm_runV (As := [.int a1]) (rest := []) (rm := { frames := 1, cells := 0, slots := 0, locals := 22 }) hC hI (c_X11_isPresent hC.2.2.1 hq3) mV_X11_isPresent q_274 ⟨rfl, rfl⟩ ⟨Nat.le_of_ble_eq_true rfl, Nat.le_of_ble_eq_true rfl⟩ fc_0 rfl (by decide) rfl hl.1 rfl (Nat.le_of_ble_eq_true rfl) dX11_presentOf_2 ⟨Nat.zero_le _, Nat.zero_le _⟩) (fun H locs hI => ?_)
  refine lv_if_eq (tgt := 17) hx hb dX11_presentOf_5 (by decide) (fun hc => ?_) (fun hc => ?_)
  · have hf := fm_pT hf hc
    refine lv_aload_n hx hb dX11_presentOf_17 rfl (lv_at hl 0 rfl) ?_
    refine lv_ldc (v := (-1000000001 : Int32)) hx hb hown (hts _ q_240) dX11_presentOf_18 ?_
    obtain ⟨r4, σ5, hq6, hf⟩ := fm_bE hf
    refine fm_ci hI (fm_runV (As := [.int (-1000000001 : Int32)]) (rest := []) (rm := { frames := 1, cells := 0, slots := 0, locals := 22 }) hC hI (c_X11_tell hC.2.2.1 hq6) mV_X11_tell q_241 ⟨rfl, rfl⟩ ⟨Nat.le_of_ble_eq_true rfl, Nat.le_of_ble_eq_true rfl⟩ fc_0 rfl (by decide) rfl hl.1 rfl (Nat.le_of_ble_eq_true rfl) dX11_presentOf_20 ⟨Nat.zero_le _, Nat.zero_le _⟩) (fun H locs hI => ?_)
    exact fm_ri hC hI hr hlk hf dX11_presentOf_23
  · have hf := fm_pF hf hc
    refine lv_iload_n hx hb dX11_presentOf_8 rfl (lv_at hl 2 rfl) ?_
    refine lv_iconst (v := (0 : Int32)) hx hb dX11_presentOf_9 (by decide) ?_
    refine lv_iconst (v := (3 : Int32)) hx hb dX11_presentOf_10 (by decide) ?_
    obtain ⟨r7, σ8, hq9, hf⟩ := fm_bE hf
    refine fm_ci hI (fm_runS (As := [.int a2, .int (0 : Int32), .int (3 : Int32)]) (rest := []) (rm := { frames := 0, cells := 0, slots := 0, locals := 0 }) hC hI (c_X11_within hC.2.2.1 hq9) mS_X11_within q_237 ⟨rfl, rfl⟩ ⟨Nat.le_of_ble_eq_true rfl, Nat.le_of_ble_eq_true rfl⟩ rfl hl.1 rfl (Nat.le_of_ble_eq_true rfl) dX11_presentOf_11 ⟨Nat.zero_le _, Nat.zero_le _⟩) (fun H locs hI => ?_)
    refine lv_if_ne (tgt := 24) hx hb dX11_presentOf_14 (by decide) (fun hc => ?_) (fun hc => ?_)
    · have hf := fm_pF hf hc
      refine lv_aload_n hx hb dX11_presentOf_24 rfl (lv_at hl 0 rfl) ?_
      refine fm_gr hC hI fd_X11_0 fc_0 fr_0_0 q_205 dX11_presentOf_25 ?_
      refine fm_gr hC hI fd_X10_2 fc_8 fr_8_2 q_135 dX11_presentOf_28 ?_
      refine lv_iload_n hx hb dX11_presentOf_31 rfl (lv_at hl 1 rfl) ?_
      obtain ⟨hg10, hf⟩ := fm_gE hf
      refine fm_aald (t0 := 5) hC hI fc_16 (by decide) (by decide) rfl fl_16 hg10 (fm_T4 (x := a1) fc_8 hg10).2 dX11_presentOf_32 ?_
      refine lv_iload_n hx hb dX11_presentOf_33 rfl (lv_at hl 2 rfl) ?_
      obtain ⟨r11, σ12, hq13, hf⟩ := fm_bE hf
      refine fm_ci hI (fm_runV (As := [.int a2]) (rest := []) (rm := { frames := 0, cells := 0, slots := 0, locals := 0 }) hC hI (c_X7_tells hC.2.2.1 (fm_T4 (x := a1) fc_8 hg10).1 hq13) mV_X7_tells q_422 ⟨rfl, rfl⟩ ⟨Nat.le_of_ble_eq_true rfl, Nat.le_of_ble_eq_true rfl⟩ (fm_T4 (x := a1) fc_8 hg10).1 rfl (by decide) rfl hl.1 rfl (Nat.le_of_ble_eq_true rfl) dX11_presentOf_34 ⟨Nat.zero_le _, Nat.zero_le _⟩) (fun H locs hI => ?_)
      exact fm_ri hC hI hr hlk hf dX11_presentOf_37
    · have hf := fm_pT hf hc
      refine lv_aload_n hx hb dX11_presentOf_17 rfl (lv_at hl 0 rfl) ?_
      refine lv_ldc (v := (-1000000001 : Int32)) hx hb hown (hts _ q_240) dX11_presentOf_18 ?_
      obtain ⟨r14, σ15, hq16, hf⟩ := fm_bE hf
      refine fm_ci hI (fm_runV (As := [.int (-1000000001 : Int32)]) (rest := []) (rm := { frames := 1, cells := 0, slots := 0, locals := 22 }) hC hI (c_X11_tell hC.2.2.1 hq16) mV_X11_tell q_241 ⟨rfl, rfl⟩ ⟨Nat.le_of_ble_eq_true rfl, Nat.le_of_ble_eq_true rfl⟩ fc_0 rfl (by decide) rfl hl.1 rfl (Nat.le_of_ble_eq_true rfl) dX11_presentOf_20 ⟨Nat.zero_le _, Nat.zero_le _⟩) (fun H locs hI => ?_)
      exact fm_ri hC hI hr hlk hf dX11_presentOf_23
def m_X11_paper (a1 : Int32) (a2 : Int32) (σ : fm_M) : Option (Int32 × fm_M) := fm_b (m_X11_isPresent a1 σ) fun r1 σ2 => (if r1 = 0 then (fm_b (m_X11_tell (-1000000001 : Int32) σ2) fun r4 σ5 => (some (r4, σ5))) else (if 0 ≤ a2 then (fm_g (fm_in1 a1 8) (if a2 < (σ2.1 (8 + 9 + 2 * a1.toNatClampNeg) 1) then (fm_b (m_X7_paperAt (8 + 9 + 2 * a1.toNatClampNeg) a2 σ2) fun r8 σ9 => (some (r8, σ9))) else (fm_b (m_X11_tell (-1000000004 : Int32) σ2) fun r11 σ12 => (some (r11, σ12))))) else (fm_b (m_X11_tell (-1000000001 : Int32) σ2) fun r14 σ15 => (some (r14, σ15)))))
set_option maxHeartbeats 4000000 in
set_option maxRecDepth 100000 in
theorem c_X11_paper {l : Launch} {G : fm_G} (hJ : fm_J G) {a1 : Int32} {a2 : Int32} {σ : fm_M} {o : Int32 × fm_M}  (hf : m_X11_paper a1 a2 σ = some o) : Met l yX11_paper (fm_w yX11_paper cX11_paper 4 (some .int)) { frames := 2, cells := 0, slots := 0, locals := 44 } (va_Pc [.ref (G.2.1 0), .int a1, .int a2] (fm_st G σ)) (fm_Qi G o) 0 0 (fm_A G) := by
  refine fm_mth (own := RX11) hJ rfl (by decide +kernel) (Nat.le_of_ble_eq_true rfl) ?_
  intro p e s m below meth c ls hC hr hlk hI hl
  have hx := hC.1.1
  have hb := hC.1.2.1
  have hown := hC.1.2.2.2.1
  have hts := hC.1.2.2.2.2
  have hl : lv_has ls 4 [(0, .ref (G.2.1 0)), (1, .int a1), (2, .int a2)] := hl
  rw [m_X11_paper] at hf
  refine lv_aload_n hx hb dX11_paper_0 rfl (lv_at hl 0 rfl) ?_
  refine lv_iload_n hx hb dX11_paper_1 rfl (lv_at hl 1 rfl) ?_
  obtain ⟨r1, σ2, hq3, hf⟩ := fm_bE hf
  refine fm_ci hI (fm_runV (As := [.int a1]) (rest := []) (rm := { frames := 1, cells := 0, slots := 0, locals := 22 }) hC hI (c_X11_isPresent hC.2.2.1 hq3) mV_X11_isPresent q_274 ⟨rfl, rfl⟩ ⟨Nat.le_of_ble_eq_true rfl, Nat.le_of_ble_eq_true rfl⟩ fc_0 rfl (by decide) rfl hl.1 rfl (Nat.le_of_ble_eq_true rfl) dX11_paper_2 ⟨Nat.zero_le _, Nat.zero_le _⟩) (fun H locs hI => ?_)
  refine lv_if_eq (tgt := 12) hx hb dX11_paper_5 (by decide) (fun hc => ?_) (fun hc => ?_)
  · have hf := fm_pT hf hc
    refine lv_aload_n hx hb dX11_paper_12 rfl (lv_at hl 0 rfl) ?_
    refine lv_ldc (v := (-1000000001 : Int32)) hx hb hown (hts _ q_240) dX11_paper_13 ?_
    obtain ⟨r4, σ5, hq6, hf⟩ := fm_bE hf
    refine fm_ci hI (fm_runV (As := [.int (-1000000001 : Int32)]) (rest := []) (rm := { frames := 1, cells := 0, slots := 0, locals := 22 }) hC hI (c_X11_tell hC.2.2.1 hq6) mV_X11_tell q_241 ⟨rfl, rfl⟩ ⟨Nat.le_of_ble_eq_true rfl, Nat.le_of_ble_eq_true rfl⟩ fc_0 rfl (by decide) rfl hl.1 rfl (Nat.le_of_ble_eq_true rfl) dX11_paper_15 ⟨Nat.zero_le _, Nat.zero_le _⟩) (fun H locs hI => ?_)
    exact fm_ri hC hI hr hlk hf dX11_paper_18
  · have hf := fm_pF hf hc
    refine lv_iload_n hx hb dX11_paper_8 rfl (lv_at hl 2 rfl) ?_
    refine lv_if_ge (tgt := 19) hx hb dX11_paper_9 (by decide) (fun hc => ?_) (fun hc => ?_)
    · have hf := fm_pT hf hc
      refine lv_aload_n hx hb dX11_paper_19 rfl (lv_at hl 0 rfl) ?_
      refine fm_gr hC hI fd_X11_0 fc_0 fr_0_0 q_205 dX11_paper_20 ?_
      refine fm_gr hC hI fd_X10_2 fc_8 fr_8_2 q_135 dX11_paper_23 ?_
      refine lv_iload_n hx hb dX11_paper_26 rfl (lv_at hl 1 rfl) ?_
      obtain ⟨hg7, hf⟩ := fm_gE hf
      refine fm_aald (t0 := 5) hC hI fc_16 (by decide) (by decide) rfl fl_16 hg7 (fm_T4 (x := a1) fc_8 hg7).2 dX11_paper_27 ?_
      refine lv_astore_n (lv' := [(3, .ref (G.2.1 (8 + 9 + 2 * a1.toNatClampNeg))), (0, .ref (G.2.1 0)), (1, .int a1), (2, .int a2)]) hx hb dX11_paper_28 rfl hl (Nat.le_of_ble_eq_true rfl) rfl (fun ls hl => ?_)
      refine lv_iload_n hx hb dX11_paper_29 rfl (lv_at hl 3 rfl) ?_
      refine lv_aload_n hx hb dX11_paper_30 rfl (lv_at hl 0 rfl) ?_
      refine fm_gi hC hI fd_X7_1 (fm_T4 (x := a1) fc_8 hg7).1 q_108 dX11_paper_31 ?_
      refine lv_icmp_lt (tgt := 44) hx hb dX11_paper_34 (by decide) (fun hc => ?_) (fun hc => ?_)
      · have hf := fm_pT hf hc
        refine lv_aload_n hx hb dX11_paper_44 rfl (lv_at hl 0 rfl) ?_
        refine lv_iload_n hx hb dX11_paper_45 rfl (lv_at hl 3 rfl) ?_
        obtain ⟨r8, σ9, hq10, hf⟩ := fm_bE hf
        refine fm_ci hI (fm_runV (As := [.int a2]) (rest := []) (rm := { frames := 0, cells := 0, slots := 0, locals := 0 }) hC hI (c_X7_paperAt hC.2.2.1 (fm_T4 (x := a1) fc_8 hg7).1 hq10) mV_X7_paperAt q_430 ⟨rfl, rfl⟩ ⟨Nat.le_of_ble_eq_true rfl, Nat.le_of_ble_eq_true rfl⟩ (fm_T4 (x := a1) fc_8 hg7).1 rfl (by decide) rfl hl.1 rfl (Nat.le_of_ble_eq_true rfl) dX11_paper_46 ⟨Nat.zero_le _, Nat.zero_le _⟩) (fun H locs hI => ?_)
        exact fm_ri hC hI hr hlk hf dX11_paper_49
      · have hf := fm_pF hf hc
        refine lv_aload_n hx hb dX11_paper_37 rfl (lv_at hl 1 rfl) ?_
        refine lv_ldc (v := (-1000000004 : Int32)) hx hb hown (hts _ q_282) dX11_paper_38 ?_
        obtain ⟨r11, σ12, hq13, hf⟩ := fm_bE hf
        refine fm_ci hI (fm_runV (As := [.int (-1000000004 : Int32)]) (rest := []) (rm := { frames := 1, cells := 0, slots := 0, locals := 22 }) hC hI (c_X11_tell hC.2.2.1 hq13) mV_X11_tell q_241 ⟨rfl, rfl⟩ ⟨Nat.le_of_ble_eq_true rfl, Nat.le_of_ble_eq_true rfl⟩ fc_0 rfl (by decide) rfl hl.1 rfl (Nat.le_of_ble_eq_true rfl) dX11_paper_40 ⟨Nat.zero_le _, Nat.zero_le _⟩) (fun H locs hI => ?_)
        exact fm_ri hC hI hr hlk hf dX11_paper_43
    · have hf := fm_pF hf hc
      refine lv_aload_n hx hb dX11_paper_12 rfl (lv_at hl 0 rfl) ?_
      refine lv_ldc (v := (-1000000001 : Int32)) hx hb hown (hts _ q_240) dX11_paper_13 ?_
      obtain ⟨r14, σ15, hq16, hf⟩ := fm_bE hf
      refine fm_ci hI (fm_runV (As := [.int (-1000000001 : Int32)]) (rest := []) (rm := { frames := 1, cells := 0, slots := 0, locals := 22 }) hC hI (c_X11_tell hC.2.2.1 hq16) mV_X11_tell q_241 ⟨rfl, rfl⟩ ⟨Nat.le_of_ble_eq_true rfl, Nat.le_of_ble_eq_true rfl⟩ fc_0 rfl (by decide) rfl hl.1 rfl (Nat.le_of_ble_eq_true rfl) dX11_paper_15 ⟨Nat.zero_le _, Nat.zero_le _⟩) (fun H locs hI => ?_)
      exact fm_ri hC hI hr hlk hf dX11_paper_18
def m_X11_isPaper (a0 : Int32) (σ : fm_M) : Option (Int32 × fm_M) := fm_b (m_X11_within a0 (0 : Int32) (3 : Int32) σ) fun r1 σ2 => (fm_g (fm_bz r1) (some (r1, σ2)))
set_option maxHeartbeats 4000000 in
set_option maxRecDepth 100000 in
theorem c_X11_isPaper {l : Launch} {G : fm_G} (hJ : fm_J G) {a0 : Int32} {σ : fm_M} {o : Int32 × fm_M}  (hf : m_X11_isPaper a0 σ = some o) : Met l yX11_isPaper (fm_w yX11_isPaper cX11_isPaper 1 (some .boolean)) { frames := 1, cells := 0, slots := 0, locals := 22 } (va_Pc [.int a0] (fm_st G σ)) (fm_Qi G o) 0 0 (fm_A G) := by
  refine fm_mth (own := RX11) hJ rfl (by decide +kernel) (Nat.le_of_ble_eq_true rfl) ?_
  intro p e s m below meth c ls hC hr hlk hI hl
  have hx := hC.1.1
  have hb := hC.1.2.1
  have hown := hC.1.2.2.2.1
  have hts := hC.1.2.2.2.2
  have hl : lv_has ls 1 [(0, .int a0)] := hl
  rw [m_X11_isPaper] at hf
  refine lv_iload_n hx hb dX11_isPaper_0 rfl (lv_at hl 0 rfl) ?_
  refine lv_iconst (v := (0 : Int32)) hx hb dX11_isPaper_1 (by decide) ?_
  refine lv_iconst (v := (3 : Int32)) hx hb dX11_isPaper_2 (by decide) ?_
  obtain ⟨r1, σ2, hq3, hf⟩ := fm_bE hf
  refine fm_ci hI (fm_runS (As := [.int a0, .int (0 : Int32), .int (3 : Int32)]) (rest := []) (rm := { frames := 0, cells := 0, slots := 0, locals := 0 }) hC hI (c_X11_within hC.2.2.1 hq3) mS_X11_within q_237 ⟨rfl, rfl⟩ ⟨Nat.le_of_ble_eq_true rfl, Nat.le_of_ble_eq_true rfl⟩ rfl hl.1 rfl (Nat.le_of_ble_eq_true rfl) dX11_isPaper_3 ⟨Nat.zero_le _, Nat.zero_le _⟩) (fun H locs hI => ?_)
  obtain ⟨hg4, hf⟩ := fm_gE hf
  exact fm_rz hC hI hr hlk hg4 hf dX11_isPaper_6
def m_X11_wrap (a1 : Int32) (a2 : Int32) (σ : fm_M) : Option (Int32 × fm_M) := fm_b (m_X11_isPresent a1 σ) fun r1 σ2 => (if r1 = 0 then (fm_b (m_X11_tell (-1000000001 : Int32) σ2) fun r4 σ5 => (some (r4, σ5))) else (fm_b (m_X11_isPaper a2 σ2) fun r7 σ8 => (if r7 = 0 then (fm_b (m_X11_tell (-1000000001 : Int32) σ8) fun r20 σ21 => (some (r20, σ21))) else (fm_g (fm_in1 a1 8) (if (σ8.1 (8 + 9 + 2 * a1.toNatClampNeg) 1) < (6 : Int32) then (if (σ8.1 (8 + 9 + 2 * a1.toNatClampNeg) 4) = 0 then (fm_b (m_X7_layAbout (8 + 9 + 2 * a1.toNatClampNeg) a2 σ8) fun _u11 σ12 => (some ((σ12.1 (8 + 9 + 2 * a1.toNatClampNeg) 1), σ12))) else (fm_b (m_X11_tell (-1000000005 : Int32) σ8) fun r14 σ15 => (some (r14, σ15)))) else (fm_b (m_X11_tell (-1000000002 : Int32) σ8) fun r17 σ18 => (some (r17, σ18))))))))
set_option maxHeartbeats 4000000 in
set_option maxRecDepth 100000 in
theorem c_X11_wrap {l : Launch} {G : fm_G} (hJ : fm_J G) {a1 : Int32} {a2 : Int32} {σ : fm_M} {o : Int32 × fm_M}  (hf : m_X11_wrap a1 a2 σ = some o) : Met l yX11_wrap (fm_w yX11_wrap cX11_wrap 4 (some .int)) { frames := 2, cells := 0, slots := 0, locals := 44 } (va_Pc [.ref (G.2.1 0), .int a1, .int a2] (fm_st G σ)) (fm_Qi G o) 0 0 (fm_A G) := by
  refine fm_mth (own := RX11) hJ rfl (by decide +kernel) (Nat.le_of_ble_eq_true rfl) ?_
  intro p e s m below meth c ls hC hr hlk hI hl
  have hx := hC.1.1
  have hb := hC.1.2.1
  have hown := hC.1.2.2.2.1
  have hts := hC.1.2.2.2.2
  have hl : lv_has ls 4 [(0, .ref (G.2.1 0)), (1, .int a1), (2, .int a2)] := hl
  rw [m_X11_wrap] at hf
  refine lv_aload_n hx hb dX11_wrap_0 rfl (lv_at hl 0 rfl) ?_
  refine lv_iload_n hx hb dX11_wrap_1 rfl (lv_at hl 1 rfl) ?_
  obtain ⟨r1, σ2, hq3, hf⟩ := fm_bE hf
  refine fm_ci hI (fm_runV (As := [.int a1]) (rest := []) (rm := { frames := 1, cells := 0, slots := 0, locals := 22 }) hC hI (c_X11_isPresent hC.2.2.1 hq3) mV_X11_isPresent q_274 ⟨rfl, rfl⟩ ⟨Nat.le_of_ble_eq_true rfl, Nat.le_of_ble_eq_true rfl⟩ fc_0 rfl (by decide) rfl hl.1 rfl (Nat.le_of_ble_eq_true rfl) dX11_wrap_2 ⟨Nat.zero_le _, Nat.zero_le _⟩) (fun H locs hI => ?_)
  refine lv_if_eq (tgt := 15) hx hb dX11_wrap_5 (by decide) (fun hc => ?_) (fun hc => ?_)
  · have hf := fm_pT hf hc
    refine lv_aload_n hx hb dX11_wrap_15 rfl (lv_at hl 0 rfl) ?_
    refine lv_ldc (v := (-1000000001 : Int32)) hx hb hown (hts _ q_240) dX11_wrap_16 ?_
    obtain ⟨r4, σ5, hq6, hf⟩ := fm_bE hf
    refine fm_ci hI (fm_runV (As := [.int (-1000000001 : Int32)]) (rest := []) (rm := { frames := 1, cells := 0, slots := 0, locals := 22 }) hC hI (c_X11_tell hC.2.2.1 hq6) mV_X11_tell q_241 ⟨rfl, rfl⟩ ⟨Nat.le_of_ble_eq_true rfl, Nat.le_of_ble_eq_true rfl⟩ fc_0 rfl (by decide) rfl hl.1 rfl (Nat.le_of_ble_eq_true rfl) dX11_wrap_18 ⟨Nat.zero_le _, Nat.zero_le _⟩) (fun H locs hI => ?_)
    exact fm_ri hC hI hr hlk hf dX11_wrap_21
  · have hf := fm_pF hf hc
    refine lv_iload_n hx hb dX11_wrap_8 rfl (lv_at hl 2 rfl) ?_
    obtain ⟨r7, σ8, hq9, hf⟩ := fm_bE hf
    refine fm_ci hI (fm_runS (As := [.int a2]) (rest := []) (rm := { frames := 1, cells := 0, slots := 0, locals := 22 }) hC hI (c_X11_isPaper hC.2.2.1 hq9) mS_X11_isPaper q_435 ⟨rfl, rfl⟩ ⟨Nat.le_of_ble_eq_true rfl, Nat.le_of_ble_eq_true rfl⟩ rfl hl.1 rfl (Nat.le_of_ble_eq_true rfl) dX11_wrap_9 ⟨Nat.zero_le _, Nat.zero_le _⟩) (fun H locs hI => ?_)
    refine lv_if_ne (tgt := 22) hx hb dX11_wrap_12 (by decide) (fun hc => ?_) (fun hc => ?_)
    · have hf := fm_pF hf hc
      refine lv_aload_n hx hb dX11_wrap_22 rfl (lv_at hl 0 rfl) ?_
      refine fm_gr hC hI fd_X11_0 fc_0 fr_0_0 q_205 dX11_wrap_23 ?_
      refine fm_gr hC hI fd_X10_2 fc_8 fr_8_2 q_135 dX11_wrap_26 ?_
      refine lv_iload_n hx hb dX11_wrap_29 rfl (lv_at hl 1 rfl) ?_
      obtain ⟨hg10, hf⟩ := fm_gE hf
      refine fm_aald (t0 := 5) hC hI fc_16 (by decide) (by decide) rfl fl_16 hg10 (fm_T4 (x := a1) fc_8 hg10).2 dX11_wrap_30 ?_
      refine lv_astore_n (lv' := [(3, .ref (G.2.1 (8 + 9 + 2 * a1.toNatClampNeg))), (0, .ref (G.2.1 0)), (1, .int a1), (2, .int a2)]) hx hb dX11_wrap_31 rfl hl (Nat.le_of_ble_eq_true rfl) rfl (fun ls hl => ?_)
      refine lv_aload_n hx hb dX11_wrap_32 rfl (lv_at hl 0 rfl) ?_
      refine fm_gi hC hI fd_X7_1 (fm_T4 (x := a1) fc_8 hg10).1 q_108 dX11_wrap_33 ?_
      refine lv_bipush (v := (6 : Int32)) hx hb dX11_wrap_36 (by decide) ?_
      refine lv_icmp_lt (tgt := 48) hx hb dX11_wrap_38 (by decide) (fun hc => ?_) (fun hc => ?_)
      · have hf := fm_pT hf hc
        refine lv_aload_n hx hb dX11_wrap_48 rfl (lv_at hl 0 rfl) ?_
        refine fm_gi hC hI fd_X7_4 (fm_T4 (x := a1) fc_8 hg10).1 q_118 dX11_wrap_49 ?_
        refine lv_if_eq (tgt := 62) hx hb dX11_wrap_52 (by decide) (fun hc => ?_) (fun hc => ?_)
        · have hf := fm_pT hf hc
          refine lv_aload_n hx hb dX11_wrap_62 rfl (lv_at hl 0 rfl) ?_
          refine lv_iload_n hx hb dX11_wrap_63 rfl (lv_at hl 3 rfl) ?_
          obtain ⟨_u11, σ12, hq13, hf⟩ := fm_bE hf
          refine fm_cv hI (fm_runV (As := [.int a2]) (rest := []) (rm := { frames := 0, cells := 0, slots := 0, locals := 0 }) hC hI (c_X7_layAbout hC.2.2.1 (fm_T4 (x := a1) fc_8 hg10).1 hq13) mV_X7_layAbout q_439 ⟨rfl, rfl⟩ ⟨Nat.le_of_ble_eq_true rfl, Nat.le_of_ble_eq_true rfl⟩ (fm_T4 (x := a1) fc_8 hg10).1 rfl (by decide) rfl hl.1 rfl (Nat.le_of_ble_eq_true rfl) dX11_wrap_64 ⟨Nat.zero_le _, Nat.zero_le _⟩) (fun H locs hI => ?_)
          refine lv_aload_n hx hb dX11_wrap_67 rfl (lv_at hl 0 rfl) ?_
          refine fm_gi hC hI fd_X7_1 (fm_T4 (x := a1) fc_8 hg10).1 q_108 dX11_wrap_68 ?_
          exact fm_ri hC hI hr hlk hf dX11_wrap_71
        · have hf := fm_pF hf hc
          refine lv_aload_n hx hb dX11_wrap_55 rfl (lv_at hl 1 rfl) ?_
          refine lv_ldc (v := (-1000000005 : Int32)) hx hb hown (hts _ q_438) dX11_wrap_56 ?_
          obtain ⟨r14, σ15, hq16, hf⟩ := fm_bE hf
          refine fm_ci hI (fm_runV (As := [.int (-1000000005 : Int32)]) (rest := []) (rm := { frames := 1, cells := 0, slots := 0, locals := 22 }) hC hI (c_X11_tell hC.2.2.1 hq16) mV_X11_tell q_241 ⟨rfl, rfl⟩ ⟨Nat.le_of_ble_eq_true rfl, Nat.le_of_ble_eq_true rfl⟩ fc_0 rfl (by decide) rfl hl.1 rfl (Nat.le_of_ble_eq_true rfl) dX11_wrap_58 ⟨Nat.zero_le _, Nat.zero_le _⟩) (fun H locs hI => ?_)
          exact fm_ri hC hI hr hlk hf dX11_wrap_61
      · have hf := fm_pF hf hc
        refine lv_aload_n hx hb dX11_wrap_41 rfl (lv_at hl 1 rfl) ?_
        refine lv_ldc (v := (-1000000002 : Int32)) hx hb hown (hts _ q_245) dX11_wrap_42 ?_
        obtain ⟨r17, σ18, hq19, hf⟩ := fm_bE hf
        refine fm_ci hI (fm_runV (As := [.int (-1000000002 : Int32)]) (rest := []) (rm := { frames := 1, cells := 0, slots := 0, locals := 22 }) hC hI (c_X11_tell hC.2.2.1 hq19) mV_X11_tell q_241 ⟨rfl, rfl⟩ ⟨Nat.le_of_ble_eq_true rfl, Nat.le_of_ble_eq_true rfl⟩ fc_0 rfl (by decide) rfl hl.1 rfl (Nat.le_of_ble_eq_true rfl) dX11_wrap_44 ⟨Nat.zero_le _, Nat.zero_le _⟩) (fun H locs hI => ?_)
        exact fm_ri hC hI hr hlk hf dX11_wrap_47
    · have hf := fm_pT hf hc
      refine lv_aload_n hx hb dX11_wrap_15 rfl (lv_at hl 0 rfl) ?_
      refine lv_ldc (v := (-1000000001 : Int32)) hx hb hown (hts _ q_240) dX11_wrap_16 ?_
      obtain ⟨r20, σ21, hq22, hf⟩ := fm_bE hf
      refine fm_ci hI (fm_runV (As := [.int (-1000000001 : Int32)]) (rest := []) (rm := { frames := 1, cells := 0, slots := 0, locals := 22 }) hC hI (c_X11_tell hC.2.2.1 hq22) mV_X11_tell q_241 ⟨rfl, rfl⟩ ⟨Nat.le_of_ble_eq_true rfl, Nat.le_of_ble_eq_true rfl⟩ fc_0 rfl (by decide) rfl hl.1 rfl (Nat.le_of_ble_eq_true rfl) dX11_wrap_18 ⟨Nat.zero_le _, Nat.zero_le _⟩) (fun H locs hI => ?_)
      exact fm_ri hC hI hr hlk hf dX11_wrap_21
def m_X11_unwrap (a1 : Int32) (σ : fm_M) : Option (Int32 × fm_M) := fm_b (m_X11_isPresent a1 σ) fun r1 σ2 => (if r1 = 0 then (fm_b (m_X11_tell (-1000000001 : Int32) σ2) fun r12 σ13 => (some (r12, σ13))) else (fm_g (fm_in1 a1 8) (if (σ2.1 (8 + 9 + 2 * a1.toNatClampNeg) 1) = 0 then (fm_b (m_X11_tell (-1000000004 : Int32) σ2) fun r9 σ10 => (some (r9, σ10))) else (fm_g (fm_in1 a1 8) (fm_b (m_X7_takeOff (8 + 9 + 2 * a1.toNatClampNeg) σ2) fun r6 σ7 => (some (r6, σ7)))))))
set_option maxHeartbeats 4000000 in
set_option maxRecDepth 100000 in
theorem c_X11_unwrap {l : Launch} {G : fm_G} (hJ : fm_J G) {a1 : Int32} {σ : fm_M} {o : Int32 × fm_M}  (hf : m_X11_unwrap a1 σ = some o) : Met l yX11_unwrap (fm_w yX11_unwrap cX11_unwrap 2 (some .int)) { frames := 3, cells := 0, slots := 0, locals := 62 } (va_Pc [.ref (G.2.1 0), .int a1] (fm_st G σ)) (fm_Qi G o) 0 0 (fm_A G) := by
  refine fm_mth (own := RX11) hJ rfl (by decide +kernel) (Nat.le_of_ble_eq_true rfl) ?_
  intro p e s m below meth c ls hC hr hlk hI hl
  have hx := hC.1.1
  have hb := hC.1.2.1
  have hown := hC.1.2.2.2.1
  have hts := hC.1.2.2.2.2
  have hl : lv_has ls 2 [(0, .ref (G.2.1 0)), (1, .int a1)] := hl
  rw [m_X11_unwrap] at hf
  refine lv_aload_n hx hb dX11_unwrap_0 rfl (lv_at hl 0 rfl) ?_
  refine lv_iload_n hx hb dX11_unwrap_1 rfl (lv_at hl 1 rfl) ?_
  obtain ⟨r1, σ2, hq3, hf⟩ := fm_bE hf
  refine fm_ci hI (fm_runV (As := [.int a1]) (rest := []) (rm := { frames := 1, cells := 0, slots := 0, locals := 22 }) hC hI (c_X11_isPresent hC.2.2.1 hq3) mV_X11_isPresent q_274 ⟨rfl, rfl⟩ ⟨Nat.le_of_ble_eq_true rfl, Nat.le_of_ble_eq_true rfl⟩ fc_0 rfl (by decide) rfl hl.1 rfl (Nat.le_of_ble_eq_true rfl) dX11_unwrap_2 ⟨Nat.zero_le _, Nat.zero_le _⟩) (fun H locs hI => ?_)
  refine lv_if_ne (tgt := 15) hx hb dX11_unwrap_5 (by decide) (fun hc => ?_) (fun hc => ?_)
  · have hf := fm_pF hf hc
    refine lv_aload_n hx hb dX11_unwrap_15 rfl (lv_at hl 0 rfl) ?_
    refine fm_gr hC hI fd_X11_0 fc_0 fr_0_0 q_205 dX11_unwrap_16 ?_
    refine fm_gr hC hI fd_X10_2 fc_8 fr_8_2 q_135 dX11_unwrap_19 ?_
    refine lv_iload_n hx hb dX11_unwrap_22 rfl (lv_at hl 1 rfl) ?_
    obtain ⟨hg4, hf⟩ := fm_gE hf
    refine fm_aald (t0 := 5) hC hI fc_16 (by decide) (by decide) rfl fl_16 hg4 (fm_T4 (x := a1) fc_8 hg4).2 dX11_unwrap_23 ?_
    refine fm_gi hC hI fd_X7_1 (fm_T4 (x := a1) fc_8 hg4).1 q_108 dX11_unwrap_24 ?_
    refine lv_if_ne (tgt := 37) hx hb dX11_unwrap_27 (by decide) (fun hc => ?_) (fun hc => ?_)
    · have hf := fm_pF hf hc
      refine lv_aload_n hx hb dX11_unwrap_37 rfl (lv_at hl 0 rfl) ?_
      refine fm_gr hC hI fd_X11_0 fc_0 fr_0_0 q_205 dX11_unwrap_38 ?_
      refine fm_gr hC hI fd_X10_2 fc_8 fr_8_2 q_135 dX11_unwrap_41 ?_
      refine lv_iload_n hx hb dX11_unwrap_44 rfl (lv_at hl 1 rfl) ?_
      obtain ⟨hg5, hf⟩ := fm_gE hf
      refine fm_aald (t0 := 5) hC hI fc_16 (by decide) (by decide) rfl fl_16 hg5 (fm_T4 (x := a1) fc_8 hg5).2 dX11_unwrap_45 ?_
      obtain ⟨r6, σ7, hq8, hf⟩ := fm_bE hf
      refine fm_ci hI (fm_runV (As := []) (rest := []) (rm := { frames := 2, cells := 0, slots := 0, locals := 41 }) hC hI (c_X7_takeOff hC.2.2.1 (fm_T4 (x := a1) fc_8 hg5).1 hq8) mV_X7_takeOff q_447 ⟨rfl, rfl⟩ ⟨Nat.le_of_ble_eq_true rfl, Nat.le_of_ble_eq_true rfl⟩ (fm_T4 (x := a1) fc_8 hg5).1 rfl (by decide) rfl hl.1 rfl (Nat.le_of_ble_eq_true rfl) dX11_unwrap_46 ⟨Nat.zero_le _, Nat.zero_le _⟩) (fun H locs hI => ?_)
      exact fm_ri hC hI hr hlk hf dX11_unwrap_49
    · have hf := fm_pT hf hc
      refine lv_aload_n hx hb dX11_unwrap_30 rfl (lv_at hl 0 rfl) ?_
      refine lv_ldc (v := (-1000000004 : Int32)) hx hb hown (hts _ q_282) dX11_unwrap_31 ?_
      obtain ⟨r9, σ10, hq11, hf⟩ := fm_bE hf
      refine fm_ci hI (fm_runV (As := [.int (-1000000004 : Int32)]) (rest := []) (rm := { frames := 1, cells := 0, slots := 0, locals := 22 }) hC hI (c_X11_tell hC.2.2.1 hq11) mV_X11_tell q_241 ⟨rfl, rfl⟩ ⟨Nat.le_of_ble_eq_true rfl, Nat.le_of_ble_eq_true rfl⟩ fc_0 rfl (by decide) rfl hl.1 rfl (Nat.le_of_ble_eq_true rfl) dX11_unwrap_33 ⟨Nat.zero_le _, Nat.zero_le _⟩) (fun H locs hI => ?_)
      exact fm_ri hC hI hr hlk hf dX11_unwrap_36
  · have hf := fm_pT hf hc
    refine lv_aload_n hx hb dX11_unwrap_8 rfl (lv_at hl 0 rfl) ?_
    refine lv_ldc (v := (-1000000001 : Int32)) hx hb hown (hts _ q_240) dX11_unwrap_9 ?_
    obtain ⟨r12, σ13, hq14, hf⟩ := fm_bE hf
    refine fm_ci hI (fm_runV (As := [.int (-1000000001 : Int32)]) (rest := []) (rm := { frames := 1, cells := 0, slots := 0, locals := 22 }) hC hI (c_X11_tell hC.2.2.1 hq14) mV_X11_tell q_241 ⟨rfl, rfl⟩ ⟨Nat.le_of_ble_eq_true rfl, Nat.le_of_ble_eq_true rfl⟩ fc_0 rfl (by decide) rfl hl.1 rfl (Nat.le_of_ble_eq_true rfl) dX11_unwrap_11 ⟨Nat.zero_le _, Nat.zero_le _⟩) (fun H locs hI => ?_)
    exact fm_ri hC hI hr hlk hf dX11_unwrap_14
def m_X11_set (a1 : Int32) (a2 : Int32) (a3 : Int32) (σ : fm_M) : Option (Int32 × fm_M) := fm_b (m_X11_isPresent a1 σ) fun r1 σ2 => (if r1 = 0 then (fm_b (m_X11_tell (-1000000001 : Int32) σ2) fun r32 σ33 => (some (r32, σ33))) else (fm_g (fm_in1 a1 8) (if a2 = (1 : Int32) then (fm_b (m_X11_isThing a3 σ2) fun r16 σ17 => (if r16 = 0 then (if a2 = (2 : Int32) then (fm_b (m_X11_isPerson a3 σ17) fun r22 σ23 => (if r22 = 0 then (fm_b (m_X11_tell (-1000000001 : Int32) σ23) fun r25 σ26 => (some (r25, σ26))) else (fm_let (fm_sI σ23 (8 + 9 + 2 * a1.toNatClampNeg) 3 a3) fun σ28 => (some ((σ23.1 (8 + 9 + 2 * a1.toNatClampNeg) 3), σ28))))) else (fm_b (m_X11_tell (-1000000001 : Int32) σ17) fun r19 σ20 => (some (r19, σ20)))) else (fm_let (fm_sI σ17 (8 + 9 + 2 * a1.toNatClampNeg) 2 a3) fun σ30 => (some ((σ17.1 (8 + 9 + 2 * a1.toNatClampNeg) 2), σ30))))) else (if a2 = (2 : Int32) then (fm_b (m_X11_isPerson a3 σ2) fun r8 σ9 => (if r8 = 0 then (fm_b (m_X11_tell (-1000000001 : Int32) σ9) fun r11 σ12 => (some (r11, σ12))) else (fm_let (fm_sI σ9 (8 + 9 + 2 * a1.toNatClampNeg) 3 a3) fun σ14 => (some ((σ9.1 (8 + 9 + 2 * a1.toNatClampNeg) 3), σ14))))) else (fm_b (m_X11_tell (-1000000001 : Int32) σ2) fun r5 σ6 => (some (r5, σ6)))))))
set_option maxHeartbeats 4000000 in
set_option maxRecDepth 100000 in
theorem c_X11_set {l : Launch} {G : fm_G} (hJ : fm_J G) {a1 : Int32} {a2 : Int32} {a3 : Int32} {σ : fm_M} {o : Int32 × fm_M}  (hf : m_X11_set a1 a2 a3 σ = some o) : Met l yX11_set (fm_w yX11_set cX11_set 6 (some .int)) { frames := 2, cells := 0, slots := 0, locals := 44 } (va_Pc [.ref (G.2.1 0), .int a1, .int a2, .int a3] (fm_st G σ)) (fm_Qi G o) 0 0 (fm_A G) := by
  refine fm_mth (own := RX11) hJ rfl (by decide +kernel) (Nat.le_of_ble_eq_true rfl) ?_
  intro p e s m below meth c ls hC hr hlk hI hl
  have hx := hC.1.1
  have hb := hC.1.2.1
  have hown := hC.1.2.2.2.1
  have hts := hC.1.2.2.2.2
  have hl : lv_has ls 6 [(0, .ref (G.2.1 0)), (1, .int a1), (2, .int a2), (3, .int a3)] := hl
  rw [m_X11_set] at hf
  refine lv_aload_n hx hb dX11_set_0 rfl (lv_at hl 0 rfl) ?_
  refine lv_iload_n hx hb dX11_set_1 rfl (lv_at hl 1 rfl) ?_
  obtain ⟨r1, σ2, hq3, hf⟩ := fm_bE hf
  refine fm_ci hI (fm_runV (As := [.int a1]) (rest := []) (rm := { frames := 1, cells := 0, slots := 0, locals := 22 }) hC hI (c_X11_isPresent hC.2.2.1 hq3) mV_X11_isPresent q_274 ⟨rfl, rfl⟩ ⟨Nat.le_of_ble_eq_true rfl, Nat.le_of_ble_eq_true rfl⟩ fc_0 rfl (by decide) rfl hl.1 rfl (Nat.le_of_ble_eq_true rfl) dX11_set_2 ⟨Nat.zero_le _, Nat.zero_le _⟩) (fun H locs hI => ?_)
  refine lv_if_ne (tgt := 15) hx hb dX11_set_5 (by decide) (fun hc => ?_) (fun hc => ?_)
  · have hf := fm_pF hf hc
    refine lv_aload_n hx hb dX11_set_15 rfl (lv_at hl 0 rfl) ?_
    refine fm_gr hC hI fd_X11_0 fc_0 fr_0_0 q_205 dX11_set_16 ?_
    refine fm_gr hC hI fd_X10_2 fc_8 fr_8_2 q_135 dX11_set_19 ?_
    refine lv_iload_n hx hb dX11_set_22 rfl (lv_at hl 1 rfl) ?_
    obtain ⟨hg4, hf⟩ := fm_gE hf
    refine fm_aald (t0 := 5) hC hI fc_16 (by decide) (by decide) rfl fl_16 hg4 (fm_T4 (x := a1) fc_8 hg4).2 dX11_set_23 ?_
    refine lv_astore (lv' := [(4, .ref (G.2.1 (8 + 9 + 2 * a1.toNatClampNeg))), (0, .ref (G.2.1 0)), (1, .int a1), (2, .int a2), (3, .int a3)]) hx hb dX11_set_24 hl (Nat.le_of_ble_eq_true rfl) rfl (fun ls hl => ?_)
    refine lv_iload_n hx hb dX11_set_26 rfl (lv_at hl 3 rfl) ?_
    refine lv_iconst (v := (1 : Int32)) hx hb dX11_set_27 (by decide) ?_
    refine lv_icmp_ne (tgt := 54) hx hb dX11_set_28 (by decide) (fun hc => ?_) (fun hc => ?_)
    · have hf := fm_pF hf hc
      refine lv_iload_n hx hb dX11_set_54 rfl (lv_at hl 3 rfl) ?_
      refine lv_iconst (v := (2 : Int32)) hx hb dX11_set_55 (by decide) ?_
      refine lv_icmp_ne (tgt := 83) hx hb dX11_set_56 (by decide) (fun hc => ?_) (fun hc => ?_)
      · have hf := fm_pF hf hc
        refine lv_aload_n hx hb dX11_set_83 rfl (lv_at hl 1 rfl) ?_
        refine lv_ldc (v := (-1000000001 : Int32)) hx hb hown (hts _ q_240) dX11_set_84 ?_
        obtain ⟨r5, σ6, hq7, hf⟩ := fm_bE hf
        refine fm_ci hI (fm_runV (As := [.int (-1000000001 : Int32)]) (rest := []) (rm := { frames := 1, cells := 0, slots := 0, locals := 22 }) hC hI (c_X11_tell hC.2.2.1 hq7) mV_X11_tell q_241 ⟨rfl, rfl⟩ ⟨Nat.le_of_ble_eq_true rfl, Nat.le_of_ble_eq_true rfl⟩ fc_0 rfl (by decide) rfl hl.1 rfl (Nat.le_of_ble_eq_true rfl) dX11_set_86 ⟨Nat.zero_le _, Nat.zero_le _⟩) (fun H locs hI => ?_)
        exact fm_ri hC hI hr hlk hf dX11_set_89
      · have hf := fm_pT hf hc
        refine lv_aload_n hx hb dX11_set_59 rfl (lv_at hl 1 rfl) ?_
        refine lv_iload_n hx hb dX11_set_60 rfl (lv_at hl 4 rfl) ?_
        obtain ⟨r8, σ9, hq10, hf⟩ := fm_bE hf
        refine fm_ci hI (fm_runV (As := [.int a3]) (rest := []) (rm := { frames := 1, cells := 0, slots := 0, locals := 22 }) hC hI (c_X11_isPerson hC.2.2.1 hq10) mV_X11_isPerson q_254 ⟨rfl, rfl⟩ ⟨Nat.le_of_ble_eq_true rfl, Nat.le_of_ble_eq_true rfl⟩ fc_0 rfl (by decide) rfl hl.1 rfl (Nat.le_of_ble_eq_true rfl) dX11_set_61 ⟨Nat.zero_le _, Nat.zero_le _⟩) (fun H locs hI => ?_)
        refine lv_if_eq (tgt := 83) hx hb dX11_set_64 (by decide) (fun hc => ?_) (fun hc => ?_)
        · have hf := fm_pT hf hc
          refine lv_aload_n hx hb dX11_set_83 rfl (lv_at hl 1 rfl) ?_
          refine lv_ldc (v := (-1000000001 : Int32)) hx hb hown (hts _ q_240) dX11_set_84 ?_
          obtain ⟨r11, σ12, hq13, hf⟩ := fm_bE hf
          refine fm_ci hI (fm_runV (As := [.int (-1000000001 : Int32)]) (rest := []) (rm := { frames := 1, cells := 0, slots := 0, locals := 22 }) hC hI (c_X11_tell hC.2.2.1 hq13) mV_X11_tell q_241 ⟨rfl, rfl⟩ ⟨Nat.le_of_ble_eq_true rfl, Nat.le_of_ble_eq_true rfl⟩ fc_0 rfl (by decide) rfl hl.1 rfl (Nat.le_of_ble_eq_true rfl) dX11_set_86 ⟨Nat.zero_le _, Nat.zero_le _⟩) (fun H locs hI => ?_)
          exact fm_ri hC hI hr hlk hf dX11_set_89
        · have hf := fm_pF hf hc
          refine lv_aload hx hb dX11_set_67 (lv_at hl 0 rfl) ?_
          refine fm_gi hC hI fd_X7_3 (fm_T4 (x := a1) fc_8 hg4).1 q_115 dX11_set_69 ?_
          refine lv_istore (lv' := [(5, .int (σ9.1 (8 + 9 + 2 * a1.toNatClampNeg) 3)), (4, .ref (G.2.1 (8 + 9 + 2 * a1.toNatClampNeg))), (0, .ref (G.2.1 0)), (1, .int a1), (2, .int a2), (3, .int a3)]) hx hb dX11_set_72 hl (Nat.le_of_ble_eq_true rfl) rfl (fun ls hl => ?_)
          refine lv_aload hx hb dX11_set_74 (lv_at hl 1 rfl) ?_
          refine lv_iload_n hx hb dX11_set_76 rfl (lv_at hl 5 rfl) ?_
          obtain ⟨σ14, e15, hf⟩ := fm_letE hf
          refine fm_pi hC hI fp_X7_3 (fm_T4 (x := a1) fc_8 hg4).1 ⟨rfl, rfl⟩ e15 q_115 dX11_set_77 (fun H locs hI => ?_)
          refine lv_iload hx hb dX11_set_80 (lv_at hl 0 rfl) ?_
          exact fm_ri hC hI hr hlk hf dX11_set_82
    · have hf := fm_pT hf hc
      refine lv_iload_n hx hb dX11_set_31 rfl (lv_at hl 4 rfl) ?_
      obtain ⟨r16, σ17, hq18, hf⟩ := fm_bE hf
      refine fm_ci hI (fm_runS (As := [.int a3]) (rest := []) (rm := { frames := 1, cells := 0, slots := 0, locals := 22 }) hC hI (c_X11_isThing hC.2.2.1 hq18) mS_X11_isThing q_407 ⟨rfl, rfl⟩ ⟨Nat.le_of_ble_eq_true rfl, Nat.le_of_ble_eq_true rfl⟩ rfl hl.1 rfl (Nat.le_of_ble_eq_true rfl) dX11_set_32 ⟨Nat.zero_le _, Nat.zero_le _⟩) (fun H locs hI => ?_)
      refine lv_if_eq (tgt := 54) hx hb dX11_set_35 (by decide) (fun hc => ?_) (fun hc => ?_)
      · have hf := fm_pT hf hc
        refine lv_iload_n hx hb dX11_set_54 rfl (lv_at hl 3 rfl) ?_
        refine lv_iconst (v := (2 : Int32)) hx hb dX11_set_55 (by decide) ?_
        refine lv_icmp_ne (tgt := 83) hx hb dX11_set_56 (by decide) (fun hc => ?_) (fun hc => ?_)
        · have hf := fm_pF hf hc
          refine lv_aload_n hx hb dX11_set_83 rfl (lv_at hl 1 rfl) ?_
          refine lv_ldc (v := (-1000000001 : Int32)) hx hb hown (hts _ q_240) dX11_set_84 ?_
          obtain ⟨r19, σ20, hq21, hf⟩ := fm_bE hf
          refine fm_ci hI (fm_runV (As := [.int (-1000000001 : Int32)]) (rest := []) (rm := { frames := 1, cells := 0, slots := 0, locals := 22 }) hC hI (c_X11_tell hC.2.2.1 hq21) mV_X11_tell q_241 ⟨rfl, rfl⟩ ⟨Nat.le_of_ble_eq_true rfl, Nat.le_of_ble_eq_true rfl⟩ fc_0 rfl (by decide) rfl hl.1 rfl (Nat.le_of_ble_eq_true rfl) dX11_set_86 ⟨Nat.zero_le _, Nat.zero_le _⟩) (fun H locs hI => ?_)
          exact fm_ri hC hI hr hlk hf dX11_set_89
        · have hf := fm_pT hf hc
          refine lv_aload_n hx hb dX11_set_59 rfl (lv_at hl 1 rfl) ?_
          refine lv_iload_n hx hb dX11_set_60 rfl (lv_at hl 4 rfl) ?_
          obtain ⟨r22, σ23, hq24, hf⟩ := fm_bE hf
          refine fm_ci hI (fm_runV (As := [.int a3]) (rest := []) (rm := { frames := 1, cells := 0, slots := 0, locals := 22 }) hC hI (c_X11_isPerson hC.2.2.1 hq24) mV_X11_isPerson q_254 ⟨rfl, rfl⟩ ⟨Nat.le_of_ble_eq_true rfl, Nat.le_of_ble_eq_true rfl⟩ fc_0 rfl (by decide) rfl hl.1 rfl (Nat.le_of_ble_eq_true rfl) dX11_set_61 ⟨Nat.zero_le _, Nat.zero_le _⟩) (fun H locs hI => ?_)
          refine lv_if_eq (tgt := 83) hx hb dX11_set_64 (by decide) (fun hc => ?_) (fun hc => ?_)
          · have hf := fm_pT hf hc
            refine lv_aload_n hx hb dX11_set_83 rfl (lv_at hl 1 rfl) ?_
            refine lv_ldc (v := (-1000000001 : Int32)) hx hb hown (hts _ q_240) dX11_set_84 ?_
            obtain ⟨r25, σ26, hq27, hf⟩ := fm_bE hf
            refine fm_ci hI (fm_runV (As := [.int (-1000000001 : Int32)]) (rest := []) (rm := { frames := 1, cells := 0, slots := 0, locals := 22 }) hC hI (c_X11_tell hC.2.2.1 hq27) mV_X11_tell q_241 ⟨rfl, rfl⟩ ⟨Nat.le_of_ble_eq_true rfl, Nat.le_of_ble_eq_true rfl⟩ fc_0 rfl (by decide) rfl hl.1 rfl (Nat.le_of_ble_eq_true rfl) dX11_set_86 ⟨Nat.zero_le _, Nat.zero_le _⟩) (fun H locs hI => ?_)
            exact fm_ri hC hI hr hlk hf dX11_set_89
          · have hf := fm_pF hf hc
            refine lv_aload hx hb dX11_set_67 (lv_at hl 0 rfl) ?_
            refine fm_gi hC hI fd_X7_3 (fm_T4 (x := a1) fc_8 hg4).1 q_115 dX11_set_69 ?_
            refine lv_istore (lv' := [(5, .int (σ23.1 (8 + 9 + 2 * a1.toNatClampNeg) 3)), (4, .ref (G.2.1 (8 + 9 + 2 * a1.toNatClampNeg))), (0, .ref (G.2.1 0)), (1, .int a1), (2, .int a2), (3, .int a3)]) hx hb dX11_set_72 hl (Nat.le_of_ble_eq_true rfl) rfl (fun ls hl => ?_)
            refine lv_aload hx hb dX11_set_74 (lv_at hl 1 rfl) ?_
            refine lv_iload_n hx hb dX11_set_76 rfl (lv_at hl 5 rfl) ?_
            obtain ⟨σ28, e29, hf⟩ := fm_letE hf
            refine fm_pi hC hI fp_X7_3 (fm_T4 (x := a1) fc_8 hg4).1 ⟨rfl, rfl⟩ e29 q_115 dX11_set_77 (fun H locs hI => ?_)
            refine lv_iload hx hb dX11_set_80 (lv_at hl 0 rfl) ?_
            exact fm_ri hC hI hr hlk hf dX11_set_82
      · have hf := fm_pF hf hc
        refine lv_aload hx hb dX11_set_38 (lv_at hl 0 rfl) ?_
        refine fm_gi hC hI fd_X7_2 (fm_T4 (x := a1) fc_8 hg4).1 q_111 dX11_set_40 ?_
        refine lv_istore (lv' := [(5, .int (σ17.1 (8 + 9 + 2 * a1.toNatClampNeg) 2)), (4, .ref (G.2.1 (8 + 9 + 2 * a1.toNatClampNeg))), (0, .ref (G.2.1 0)), (1, .int a1), (2, .int a2), (3, .int a3)]) hx hb dX11_set_43 hl (Nat.le_of_ble_eq_true rfl) rfl (fun ls hl => ?_)
        refine lv_aload hx hb dX11_set_45 (lv_at hl 1 rfl) ?_
        refine lv_iload_n hx hb dX11_set_47 rfl (lv_at hl 5 rfl) ?_
        obtain ⟨σ30, e31, hf⟩ := fm_letE hf
        refine fm_pi hC hI fp_X7_2 (fm_T4 (x := a1) fc_8 hg4).1 ⟨rfl, rfl⟩ e31 q_111 dX11_set_48 (fun H locs hI => ?_)
        refine lv_iload hx hb dX11_set_51 (lv_at hl 0 rfl) ?_
        exact fm_ri hC hI hr hlk hf dX11_set_53
  · have hf := fm_pT hf hc
    refine lv_aload_n hx hb dX11_set_8 rfl (lv_at hl 0 rfl) ?_
    refine lv_ldc (v := (-1000000001 : Int32)) hx hb hown (hts _ q_240) dX11_set_9 ?_
    obtain ⟨r32, σ33, hq34, hf⟩ := fm_bE hf
    refine fm_ci hI (fm_runV (As := [.int (-1000000001 : Int32)]) (rest := []) (rm := { frames := 1, cells := 0, slots := 0, locals := 22 }) hC hI (c_X11_tell hC.2.2.1 hq34) mV_X11_tell q_241 ⟨rfl, rfl⟩ ⟨Nat.le_of_ble_eq_true rfl, Nat.le_of_ble_eq_true rfl⟩ fc_0 rfl (by decide) rfl hl.1 rfl (Nat.le_of_ble_eq_true rfl) dX11_set_11 ⟨Nat.zero_le _, Nat.zero_le _⟩) (fun H locs hI => ?_)
    exact fm_ri hC hI hr hlk hf dX11_set_14
def m_X11_days (a1 : Int32) (σ : fm_M) : Option (Int32 × fm_M) := fm_b (m_X11_within a1 (1 : Int32) (60 : Int32) σ) fun r1 σ2 => (if r1 = 0 then (fm_b (m_X11_tell (-1000000001 : Int32) σ2) fun r13 σ14 => (some (r13, σ14))) else (if ((σ2.1 8 3) + a1) ≤ (9999 : Int32) then (fm_b (m_X10_goOn 8 a1 σ2) fun _u4 σ5 => (fm_b (m_X10_unopened 8 σ5) fun r7 σ8 => (some (r7, σ8)))) else (fm_b (m_X11_tell (-1000000005 : Int32) σ2) fun r10 σ11 => (some (r10, σ11)))))
set_option maxHeartbeats 4000000 in
set_option maxRecDepth 100000 in
theorem c_X11_days {l : Launch} {G : fm_G} (hJ : fm_J G) {a1 : Int32} {σ : fm_M} {o : Int32 × fm_M}  (hf : m_X11_days a1 σ = some o) : Met l yX11_days (fm_w yX11_days cX11_days 2 (some .int)) { frames := 6, cells := 0, slots := 0, locals := 140 } (va_Pc [.ref (G.2.1 0), .int a1] (fm_st G σ)) (fm_Qi G o) 0 0 (fm_A G) := by
  refine fm_mth (own := RX11) hJ rfl (by decide +kernel) (Nat.le_of_ble_eq_true rfl) ?_
  intro p e s m below meth c ls hC hr hlk hI hl
  have hx := hC.1.1
  have hb := hC.1.2.1
  have hown := hC.1.2.2.2.1
  have hts := hC.1.2.2.2.2
  have hl : lv_has ls 2 [(0, .ref (G.2.1 0)), (1, .int a1)] := hl
  rw [m_X11_days] at hf
  refine lv_iload_n hx hb dX11_days_0 rfl (lv_at hl 1 rfl) ?_
  refine lv_iconst (v := (1 : Int32)) hx hb dX11_days_1 (by decide) ?_
  refine lv_bipush (v := (60 : Int32)) hx hb dX11_days_2 (by decide) ?_
  obtain ⟨r1, σ2, hq3, hf⟩ := fm_bE hf
  refine fm_ci hI (fm_runS (As := [.int a1, .int (1 : Int32), .int (60 : Int32)]) (rest := []) (rm := { frames := 0, cells := 0, slots := 0, locals := 0 }) hC hI (c_X11_within hC.2.2.1 hq3) mS_X11_within q_237 ⟨rfl, rfl⟩ ⟨Nat.le_of_ble_eq_true rfl, Nat.le_of_ble_eq_true rfl⟩ rfl hl.1 rfl (Nat.le_of_ble_eq_true rfl) dX11_days_4 ⟨Nat.zero_le _, Nat.zero_le _⟩) (fun H locs hI => ?_)
  refine lv_if_ne (tgt := 17) hx hb dX11_days_7 (by decide) (fun hc => ?_) (fun hc => ?_)
  · have hf := fm_pF hf hc
    refine lv_aload_n hx hb dX11_days_17 rfl (lv_at hl 0 rfl) ?_
    refine fm_gr hC hI fd_X11_0 fc_0 fr_0_0 q_205 dX11_days_18 ?_
    refine fm_gi hC hI fd_X10_3 fc_8 q_138 dX11_days_21 ?_
    refine lv_iload_n hx hb dX11_days_24 rfl (lv_at hl 1 rfl) ?_
    refine lv_iadd hx hb dX11_days_25 ?_
    refine lv_sipush (v := (9999 : Int32)) hx hb dX11_days_26 (by decide) ?_
    refine lv_icmp_le (tgt := 39) hx hb dX11_days_29 (by decide) (fun hc => ?_) (fun hc => ?_)
    · have hf := fm_pT hf hc
      refine lv_aload_n hx hb dX11_days_39 rfl (lv_at hl 0 rfl) ?_
      refine fm_gr hC hI fd_X11_0 fc_0 fr_0_0 q_205 dX11_days_40 ?_
      refine lv_iload_n hx hb dX11_days_43 rfl (lv_at hl 1 rfl) ?_
      obtain ⟨_u4, σ5, hq6, hf⟩ := fm_bE hf
      refine fm_cv hI (fm_runV (As := [.int a1]) (rest := []) (rm := { frames := 5, cells := 0, slots := 0, locals := 118 }) hC hI (c_X10_goOn hC.2.2.1 fc_8 hq6) mV_X10_goOn q_460 ⟨rfl, rfl⟩ ⟨Nat.le_of_ble_eq_true rfl, Nat.le_of_ble_eq_true rfl⟩ fc_8 rfl (by decide) rfl hl.1 rfl (Nat.le_of_ble_eq_true rfl) dX11_days_44 ⟨Nat.zero_le _, Nat.zero_le _⟩) (fun H locs hI => ?_)
      refine lv_aload_n hx hb dX11_days_47 rfl (lv_at hl 0 rfl) ?_
      refine fm_gr hC hI fd_X11_0 fc_0 fr_0_0 q_205 dX11_days_48 ?_
      obtain ⟨r7, σ8, hq9, hf⟩ := fm_bE hf
      refine fm_ci hI (fm_runV (As := []) (rest := []) (rm := { frames := 1, cells := 0, slots := 0, locals := 22 }) hC hI (c_X10_unopened hC.2.2.1 fc_8 hq9) mV_X10_unopened q_262 ⟨rfl, rfl⟩ ⟨Nat.le_of_ble_eq_true rfl, Nat.le_of_ble_eq_true rfl⟩ fc_8 rfl (by decide) rfl hl.1 rfl (Nat.le_of_ble_eq_true rfl) dX11_days_51 ⟨Nat.zero_le _, Nat.zero_le _⟩) (fun H locs hI => ?_)
      exact fm_ri hC hI hr hlk hf dX11_days_54
    · have hf := fm_pF hf hc
      refine lv_aload_n hx hb dX11_days_32 rfl (lv_at hl 0 rfl) ?_
      refine lv_ldc (v := (-1000000005 : Int32)) hx hb hown (hts _ q_438) dX11_days_33 ?_
      obtain ⟨r10, σ11, hq12, hf⟩ := fm_bE hf
      refine fm_ci hI (fm_runV (As := [.int (-1000000005 : Int32)]) (rest := []) (rm := { frames := 1, cells := 0, slots := 0, locals := 22 }) hC hI (c_X11_tell hC.2.2.1 hq12) mV_X11_tell q_241 ⟨rfl, rfl⟩ ⟨Nat.le_of_ble_eq_true rfl, Nat.le_of_ble_eq_true rfl⟩ fc_0 rfl (by decide) rfl hl.1 rfl (Nat.le_of_ble_eq_true rfl) dX11_days_35 ⟨Nat.zero_le _, Nat.zero_le _⟩) (fun H locs hI => ?_)
      exact fm_ri hC hI hr hlk hf dX11_days_38
  · have hf := fm_pT hf hc
    refine lv_aload_n hx hb dX11_days_10 rfl (lv_at hl 0 rfl) ?_
    refine lv_ldc (v := (-1000000001 : Int32)) hx hb hown (hts _ q_240) dX11_days_11 ?_
    obtain ⟨r13, σ14, hq15, hf⟩ := fm_bE hf
    refine fm_ci hI (fm_runV (As := [.int (-1000000001 : Int32)]) (rest := []) (rm := { frames := 1, cells := 0, slots := 0, locals := 22 }) hC hI (c_X11_tell hC.2.2.1 hq15) mV_X11_tell q_241 ⟨rfl, rfl⟩ ⟨Nat.le_of_ble_eq_true rfl, Nat.le_of_ble_eq_true rfl⟩ fc_0 rfl (by decide) rfl hl.1 rfl (Nat.le_of_ble_eq_true rfl) dX11_days_13 ⟨Nat.zero_le _, Nat.zero_le _⟩) (fun H locs hI => ?_)
    exact fm_ri hC hI hr hlk hf dX11_days_16
def m_X11_now (a1 : Int32) (σ : fm_M) : Option (Int32 × fm_M) := if a1 = (0 : Int32) then (some ((σ.1 8 3), σ)) else (if a1 = (1 : Int32) then (fm_b (m_X10_joyOfAll 8 σ) fun r3 σ4 => (some (r3, σ4))) else (if a1 = (2 : Int32) then (fm_b (m_X10_opened 8 σ) fun r7 σ8 => (some (r7, σ8))) else (if a1 = (3 : Int32) then (fm_b (m_X10_layersOfAll 8 σ) fun r11 σ12 => (some (r11, σ12))) else (if a1 = (4 : Int32) then (fm_b (m_X10_thingsFound 8 σ) fun r15 σ16 => (some (r15, σ16))) else (fm_b (m_X11_tell (-1000000001 : Int32) σ) fun r18 σ19 => (some (r18, σ19)))))))
set_option maxHeartbeats 4000000 in
set_option maxRecDepth 100000 in
theorem c_X11_now {l : Launch} {G : fm_G} (hJ : fm_J G) {a1 : Int32} {σ : fm_M} {o : Int32 × fm_M}  (hf : m_X11_now a1 σ = some o) : Met l yX11_now (fm_w yX11_now cX11_now 2 (some .int)) { frames := 2, cells := 0, slots := 0, locals := 44 } (va_Pc [.ref (G.2.1 0), .int a1] (fm_st G σ)) (fm_Qi G o) 0 0 (fm_A G) := by
  refine fm_mth (own := RX11) hJ rfl (by decide +kernel) (Nat.le_of_ble_eq_true rfl) ?_
  intro p e s m below meth c ls hC hr hlk hI hl
  have hx := hC.1.1
  have hb := hC.1.2.1
  have hown := hC.1.2.2.2.1
  have hts := hC.1.2.2.2.2
  have hl : lv_has ls 2 [(0, .ref (G.2.1 0)), (1, .int a1)] := hl
  rw [m_X11_now] at hf
  refine lv_iload_n hx hb dX11_now_0 rfl (lv_at hl 1 rfl) ?_
  by_cases hc1 : a1 = (0 : Int32)
  · have hf := fm_pT hf hc1
    refine lv_tableIn (off := 35) (tgt := 36) hx hb dX11_now_1 (by rw [hc1]; decide) (by rw [hc1]; decide) (by rw [hc1]; decide) (by decide) ?_
    refine lv_aload_n hx hb dX11_now_36 rfl (lv_at hl 0 rfl) ?_
    refine fm_gr hC hI fd_X11_0 fc_0 fr_0_0 q_205 dX11_now_37 ?_
    refine fm_gi hC hI fd_X10_3 fc_8 q_138 dX11_now_40 ?_
    exact fm_ri hC hI hr hlk hf dX11_now_43
  · have hf := fm_pF hf hc1
    by_cases hc2 : a1 = (1 : Int32)
    · have hf := fm_pT hf hc2
      refine lv_tableIn (off := 43) (tgt := 44) hx hb dX11_now_1 (by rw [hc2]; decide) (by rw [hc2]; decide) (by rw [hc2]; decide) (by decide) ?_
      refine lv_aload_n hx hb dX11_now_44 rfl (lv_at hl 0 rfl) ?_
      refine fm_gr hC hI fd_X11_0 fc_0 fr_0_0 q_205 dX11_now_45 ?_
      obtain ⟨r3, σ4, hq5, hf⟩ := fm_bE hf
      refine fm_ci hI (fm_runV (As := []) (rest := []) (rm := { frames := 0, cells := 0, slots := 0, locals := 0 }) hC hI (c_X10_joyOfAll hC.2.2.1 fc_8 hq5) mV_X10_joyOfAll q_491 ⟨rfl, rfl⟩ ⟨Nat.le_of_ble_eq_true rfl, Nat.le_of_ble_eq_true rfl⟩ fc_8 rfl (by decide) rfl hl.1 rfl (Nat.le_of_ble_eq_true rfl) dX11_now_48 ⟨Nat.zero_le _, Nat.zero_le _⟩) (fun H locs hI => ?_)
      exact fm_ri hC hI hr hlk hf dX11_now_51
    · have hf := fm_pF hf hc2
      by_cases hc6 : a1 = (2 : Int32)
      · have hf := fm_pT hf hc6
        refine lv_tableIn (off := 51) (tgt := 52) hx hb dX11_now_1 (by rw [hc6]; decide) (by rw [hc6]; decide) (by rw [hc6]; decide) (by decide) ?_
        refine lv_aload_n hx hb dX11_now_52 rfl (lv_at hl 0 rfl) ?_
        refine fm_gr hC hI fd_X11_0 fc_0 fr_0_0 q_205 dX11_now_53 ?_
        obtain ⟨r7, σ8, hq9, hf⟩ := fm_bE hf
        refine fm_ci hI (fm_runV (As := []) (rest := []) (rm := { frames := 0, cells := 0, slots := 0, locals := 0 }) hC hI (c_X10_opened hC.2.2.1 fc_8 hq9) mV_X10_opened q_495 ⟨rfl, rfl⟩ ⟨Nat.le_of_ble_eq_true rfl, Nat.le_of_ble_eq_true rfl⟩ fc_8 rfl (by decide) rfl hl.1 rfl (Nat.le_of_ble_eq_true rfl) dX11_now_56 ⟨Nat.zero_le _, Nat.zero_le _⟩) (fun H locs hI => ?_)
        exact fm_ri hC hI hr hlk hf dX11_now_59
      · have hf := fm_pF hf hc6
        by_cases hc10 : a1 = (3 : Int32)
        · have hf := fm_pT hf hc10
          refine lv_tableIn (off := 59) (tgt := 60) hx hb dX11_now_1 (by rw [hc10]; decide) (by rw [hc10]; decide) (by rw [hc10]; decide) (by decide) ?_
          refine lv_aload_n hx hb dX11_now_60 rfl (lv_at hl 0 rfl) ?_
          refine fm_gr hC hI fd_X11_0 fc_0 fr_0_0 q_205 dX11_now_61 ?_
          obtain ⟨r11, σ12, hq13, hf⟩ := fm_bE hf
          refine fm_ci hI (fm_runV (As := []) (rest := []) (rm := { frames := 0, cells := 0, slots := 0, locals := 0 }) hC hI (c_X10_layersOfAll hC.2.2.1 fc_8 hq13) mV_X10_layersOfAll q_496 ⟨rfl, rfl⟩ ⟨Nat.le_of_ble_eq_true rfl, Nat.le_of_ble_eq_true rfl⟩ fc_8 rfl (by decide) rfl hl.1 rfl (Nat.le_of_ble_eq_true rfl) dX11_now_64 ⟨Nat.zero_le _, Nat.zero_le _⟩) (fun H locs hI => ?_)
          exact fm_ri hC hI hr hlk hf dX11_now_67
        · have hf := fm_pF hf hc10
          by_cases hc14 : a1 = (4 : Int32)
          · have hf := fm_pT hf hc14
            refine lv_tableIn (off := 67) (tgt := 68) hx hb dX11_now_1 (by rw [hc14]; decide) (by rw [hc14]; decide) (by rw [hc14]; decide) (by decide) ?_
            refine lv_aload_n hx hb dX11_now_68 rfl (lv_at hl 0 rfl) ?_
            refine fm_gr hC hI fd_X11_0 fc_0 fr_0_0 q_205 dX11_now_69 ?_
            obtain ⟨r15, σ16, hq17, hf⟩ := fm_bE hf
            refine fm_ci hI (fm_runV (As := []) (rest := []) (rm := { frames := 0, cells := 0, slots := 0, locals := 0 }) hC hI (c_X10_thingsFound hC.2.2.1 fc_8 hq17) mV_X10_thingsFound q_500 ⟨rfl, rfl⟩ ⟨Nat.le_of_ble_eq_true rfl, Nat.le_of_ble_eq_true rfl⟩ fc_8 rfl (by decide) rfl hl.1 rfl (Nat.le_of_ble_eq_true rfl) dX11_now_72 ⟨Nat.zero_le _, Nat.zero_le _⟩) (fun H locs hI => ?_)
            exact fm_ri hC hI hr hlk hf dX11_now_75
          · have hf := fm_pF hf hc14
            have hsw : (a1 : Int32).toInt < 0 ∨ 4 < (a1 : Int32).toInt := by
              have t0 := fm_neI hc1
              rw [show ((0 : Int32)).toInt = 0 from by decide] at t0
              have t1 := fm_neI hc2
              rw [show ((1 : Int32)).toInt = 1 from by decide] at t1
              have t2 := fm_neI hc6
              rw [show ((2 : Int32)).toInt = 2 from by decide] at t2
              have t3 := fm_neI hc10
              rw [show ((3 : Int32)).toInt = 3 from by decide] at t3
              have t4 := fm_neI hc14
              rw [show ((4 : Int32)).toInt = 4 from by decide] at t4
              omega
            refine lv_tableOut (tgt := 76) hx hb dX11_now_1 hsw (by decide) ?_
            refine lv_aload_n hx hb dX11_now_76 rfl (lv_at hl 0 rfl) ?_
            refine lv_ldc (v := (-1000000001 : Int32)) hx hb hown (hts _ q_240) dX11_now_77 ?_
            obtain ⟨r18, σ19, hq20, hf⟩ := fm_bE hf
            refine fm_ci hI (fm_runV (As := [.int (-1000000001 : Int32)]) (rest := []) (rm := { frames := 1, cells := 0, slots := 0, locals := 22 }) hC hI (c_X11_tell hC.2.2.1 hq20) mV_X11_tell q_241 ⟨rfl, rfl⟩ ⟨Nat.le_of_ble_eq_true rfl, Nat.le_of_ble_eq_true rfl⟩ fc_0 rfl (by decide) rfl hl.1 rfl (Nat.le_of_ble_eq_true rfl) dX11_now_79 ⟨Nat.zero_le _, Nat.zero_le _⟩) (fun H locs hI => ?_)
            exact fm_ri hC hI hr hlk hf dX11_now_82
def m_X11_startTrial  (σ : fm_M) : Option (Unit × fm_M) := fm_b (m_X10_become 58 8 σ) fun _u1 σ2 => (some ((), σ2))
set_option maxHeartbeats 4000000 in
set_option maxRecDepth 100000 in
theorem c_X11_startTrial {l : Launch} {G : fm_G} (hJ : fm_J G) {σ : fm_M} {o : Unit × fm_M}  (hf : m_X11_startTrial  σ = some o) : Met l yX11_startTrial (fm_w yX11_startTrial cX11_startTrial 1 none) { frames := 2, cells := 0, slots := 0, locals := 44 } (va_Pc [.ref (G.2.1 0)] (fm_st G σ)) (fm_Qv G o) 0 0 (fm_A G) := by
  refine fm_mth (own := RX11) hJ rfl (by decide +kernel) (Nat.le_of_ble_eq_true rfl) ?_
  intro p e s m below meth c ls hC hr hlk hI hl
  have hx := hC.1.1
  have hb := hC.1.2.1
  have hown := hC.1.2.2.2.1
  have hts := hC.1.2.2.2.2
  have hl : lv_has ls 1 [(0, .ref (G.2.1 0))] := hl
  rw [m_X11_startTrial] at hf
  refine lv_aload_n hx hb dX11_startTrial_0 rfl (lv_at hl 0 rfl) ?_
  refine fm_gr hC hI fd_X11_2 fc_0 fr_0_2 q_207 dX11_startTrial_1 ?_
  refine lv_aload_n hx hb dX11_startTrial_4 rfl (lv_at hl 0 rfl) ?_
  refine fm_gr hC hI fd_X11_0 fc_0 fr_0_0 q_205 dX11_startTrial_5 ?_
  obtain ⟨_u1, σ2, hq3, hf⟩ := fm_bE hf
  refine fm_cv hI (fm_runV (As := [.ref (G.2.1 8)]) (rest := []) (rm := { frames := 1, cells := 0, slots := 0, locals := 22 }) hC hI (c_X10_become hC.2.2.1 fc_58 fc_8 hq3) mV_X10_become q_512 ⟨rfl, rfl⟩ ⟨Nat.le_of_ble_eq_true rfl, Nat.le_of_ble_eq_true rfl⟩ fc_58 rfl (by decide) rfl hl.1 rfl (Nat.le_of_ble_eq_true rfl) dX11_startTrial_8 ⟨Nat.zero_le _, Nat.zero_le _⟩) (fun H locs hI => ?_)
  exact fm_rv hC hI hr hlk hf dX11_startTrial_11
def m_X11_on (a1 : Int32) (a2 : Int32) (a3 : Int32) (σ : fm_M) : Option (Int32 × fm_M) := fm_b (m_X11_isPresent a1 σ) fun r1 σ2 => (if r1 = 0 then (fm_b (m_X11_tell (-1000000001 : Int32) σ2) fun r4 σ5 => (some (r4, σ5))) else (fm_b (m_X11_within a2 (0 : Int32) (60 : Int32) σ2) fun r7 σ8 => (if r7 = 0 then (fm_b (m_X11_tell (-1000000001 : Int32) σ8) fun r10 σ11 => (some (r10, σ11))) else (fm_b (m_X11_within a3 (0 : Int32) (3 : Int32) σ8) fun r13 σ14 => (if r13 = 0 then (fm_b (m_X11_tell (-1000000001 : Int32) σ14) fun r16 σ17 => (some (r16, σ17))) else (if a3 = (1 : Int32) then (fm_b (m_X11_tell (-1000000001 : Int32) σ14) fun r29 σ30 => (some (r29, σ30))) else (fm_b (m_X11_startTrial  σ14) fun _u19 σ20 => (fm_b (m_X10_goOn 58 a2 σ20) fun _u22 σ23 => (fm_g (fm_in1 a1 8) (fm_b (m_X7_tells (58 + 9 + 2 * a1.toNatClampNeg) a3 σ23) fun r26 σ27 => (some (r26, σ27))))))))))))
set_option maxHeartbeats 4000000 in
set_option maxRecDepth 100000 in
theorem c_X11_on {l : Launch} {G : fm_G} (hJ : fm_J G) {a1 : Int32} {a2 : Int32} {a3 : Int32} {σ : fm_M} {o : Int32 × fm_M}  (hf : m_X11_on a1 a2 a3 σ = some o) : Met l yX11_on (fm_w yX11_on cX11_on 4 (some .int)) { frames := 6, cells := 0, slots := 0, locals := 140 } (va_Pc [.ref (G.2.1 0), .int a1, .int a2, .int a3] (fm_st G σ)) (fm_Qi G o) 0 0 (fm_A G) := by
  refine fm_mth (own := RX11) hJ rfl (by decide +kernel) (Nat.le_of_ble_eq_true rfl) ?_
  intro p e s m below meth c ls hC hr hlk hI hl
  have hx := hC.1.1
  have hb := hC.1.2.1
  have hown := hC.1.2.2.2.1
  have hts := hC.1.2.2.2.2
  have hl : lv_has ls 4 [(0, .ref (G.2.1 0)), (1, .int a1), (2, .int a2), (3, .int a3)] := hl
  rw [m_X11_on] at hf
  refine lv_aload_n hx hb dX11_on_0 rfl (lv_at hl 0 rfl) ?_
  refine lv_iload_n hx hb dX11_on_1 rfl (lv_at hl 1 rfl) ?_
  obtain ⟨r1, σ2, hq3, hf⟩ := fm_bE hf
  refine fm_ci hI (fm_runV (As := [.int a1]) (rest := []) (rm := { frames := 1, cells := 0, slots := 0, locals := 22 }) hC hI (c_X11_isPresent hC.2.2.1 hq3) mV_X11_isPresent q_274 ⟨rfl, rfl⟩ ⟨Nat.le_of_ble_eq_true rfl, Nat.le_of_ble_eq_true rfl⟩ fc_0 rfl (by decide) rfl hl.1 rfl (Nat.le_of_ble_eq_true rfl) dX11_on_2 ⟨Nat.zero_le _, Nat.zero_le _⟩) (fun H locs hI => ?_)
  refine lv_if_eq (tgt := 32) hx hb dX11_on_5 (by decide) (fun hc => ?_) (fun hc => ?_)
  · have hf := fm_pT hf hc
    refine lv_aload_n hx hb dX11_on_32 rfl (lv_at hl 0 rfl) ?_
    refine lv_ldc (v := (-1000000001 : Int32)) hx hb hown (hts _ q_240) dX11_on_33 ?_
    obtain ⟨r4, σ5, hq6, hf⟩ := fm_bE hf
    refine fm_ci hI (fm_runV (As := [.int (-1000000001 : Int32)]) (rest := []) (rm := { frames := 1, cells := 0, slots := 0, locals := 22 }) hC hI (c_X11_tell hC.2.2.1 hq6) mV_X11_tell q_241 ⟨rfl, rfl⟩ ⟨Nat.le_of_ble_eq_true rfl, Nat.le_of_ble_eq_true rfl⟩ fc_0 rfl (by decide) rfl hl.1 rfl (Nat.le_of_ble_eq_true rfl) dX11_on_35 ⟨Nat.zero_le _, Nat.zero_le _⟩) (fun H locs hI => ?_)
    exact fm_ri hC hI hr hlk hf dX11_on_38
  · have hf := fm_pF hf hc
    refine lv_iload_n hx hb dX11_on_8 rfl (lv_at hl 2 rfl) ?_
    refine lv_iconst (v := (0 : Int32)) hx hb dX11_on_9 (by decide) ?_
    refine lv_bipush (v := (60 : Int32)) hx hb dX11_on_10 (by decide) ?_
    obtain ⟨r7, σ8, hq9, hf⟩ := fm_bE hf
    refine fm_ci hI (fm_runS (As := [.int a2, .int (0 : Int32), .int (60 : Int32)]) (rest := []) (rm := { frames := 0, cells := 0, slots := 0, locals := 0 }) hC hI (c_X11_within hC.2.2.1 hq9) mS_X11_within q_237 ⟨rfl, rfl⟩ ⟨Nat.le_of_ble_eq_true rfl, Nat.le_of_ble_eq_true rfl⟩ rfl hl.1 rfl (Nat.le_of_ble_eq_true rfl) dX11_on_12 ⟨Nat.zero_le _, Nat.zero_le _⟩) (fun H locs hI => ?_)
    refine lv_if_eq (tgt := 32) hx hb dX11_on_15 (by decide) (fun hc => ?_) (fun hc => ?_)
    · have hf := fm_pT hf hc
      refine lv_aload_n hx hb dX11_on_32 rfl (lv_at hl 0 rfl) ?_
      refine lv_ldc (v := (-1000000001 : Int32)) hx hb hown (hts _ q_240) dX11_on_33 ?_
      obtain ⟨r10, σ11, hq12, hf⟩ := fm_bE hf
      refine fm_ci hI (fm_runV (As := [.int (-1000000001 : Int32)]) (rest := []) (rm := { frames := 1, cells := 0, slots := 0, locals := 22 }) hC hI (c_X11_tell hC.2.2.1 hq12) mV_X11_tell q_241 ⟨rfl, rfl⟩ ⟨Nat.le_of_ble_eq_true rfl, Nat.le_of_ble_eq_true rfl⟩ fc_0 rfl (by decide) rfl hl.1 rfl (Nat.le_of_ble_eq_true rfl) dX11_on_35 ⟨Nat.zero_le _, Nat.zero_le _⟩) (fun H locs hI => ?_)
      exact fm_ri hC hI hr hlk hf dX11_on_38
    · have hf := fm_pF hf hc
      refine lv_iload_n hx hb dX11_on_18 rfl (lv_at hl 3 rfl) ?_
      refine lv_iconst (v := (0 : Int32)) hx hb dX11_on_19 (by decide) ?_
      refine lv_iconst (v := (3 : Int32)) hx hb dX11_on_20 (by decide) ?_
      obtain ⟨r13, σ14, hq15, hf⟩ := fm_bE hf
      refine fm_ci hI (fm_runS (As := [.int a3, .int (0 : Int32), .int (3 : Int32)]) (rest := []) (rm := { frames := 0, cells := 0, slots := 0, locals := 0 }) hC hI (c_X11_within hC.2.2.1 hq15) mS_X11_within q_237 ⟨rfl, rfl⟩ ⟨Nat.le_of_ble_eq_true rfl, Nat.le_of_ble_eq_true rfl⟩ rfl hl.1 rfl (Nat.le_of_ble_eq_true rfl) dX11_on_21 ⟨Nat.zero_le _, Nat.zero_le _⟩) (fun H locs hI => ?_)
      refine lv_if_eq (tgt := 32) hx hb dX11_on_24 (by decide) (fun hc => ?_) (fun hc => ?_)
      · have hf := fm_pT hf hc
        refine lv_aload_n hx hb dX11_on_32 rfl (lv_at hl 0 rfl) ?_
        refine lv_ldc (v := (-1000000001 : Int32)) hx hb hown (hts _ q_240) dX11_on_33 ?_
        obtain ⟨r16, σ17, hq18, hf⟩ := fm_bE hf
        refine fm_ci hI (fm_runV (As := [.int (-1000000001 : Int32)]) (rest := []) (rm := { frames := 1, cells := 0, slots := 0, locals := 22 }) hC hI (c_X11_tell hC.2.2.1 hq18) mV_X11_tell q_241 ⟨rfl, rfl⟩ ⟨Nat.le_of_ble_eq_true rfl, Nat.le_of_ble_eq_true rfl⟩ fc_0 rfl (by decide) rfl hl.1 rfl (Nat.le_of_ble_eq_true rfl) dX11_on_35 ⟨Nat.zero_le _, Nat.zero_le _⟩) (fun H locs hI => ?_)
        exact fm_ri hC hI hr hlk hf dX11_on_38
      · have hf := fm_pF hf hc
        refine lv_iload_n hx hb dX11_on_27 rfl (lv_at hl 3 rfl) ?_
        refine lv_iconst (v := (1 : Int32)) hx hb dX11_on_28 (by decide) ?_
        refine lv_icmp_ne (tgt := 39) hx hb dX11_on_29 (by decide) (fun hc => ?_) (fun hc => ?_)
        · have hf := fm_pF hf hc
          refine lv_aload_n hx hb dX11_on_39 rfl (lv_at hl 0 rfl) ?_
          obtain ⟨_u19, σ20, hq21, hf⟩ := fm_bE hf
          refine fm_cv hI (fm_runV (As := []) (rest := []) (rm := { frames := 2, cells := 0, slots := 0, locals := 44 }) hC hI (c_X11_startTrial hC.2.2.1 hq21) mV_X11_startTrial q_508 ⟨rfl, rfl⟩ ⟨Nat.le_of_ble_eq_true rfl, Nat.le_of_ble_eq_true rfl⟩ fc_0 rfl (by decide) rfl hl.1 rfl (Nat.le_of_ble_eq_true rfl) dX11_on_40 ⟨Nat.zero_le _, Nat.zero_le _⟩) (fun H locs hI => ?_)
          refine lv_aload_n hx hb dX11_on_43 rfl (lv_at hl 0 rfl) ?_
          refine fm_gr hC hI fd_X11_2 fc_0 fr_0_2 q_207 dX11_on_44 ?_
          refine lv_iload_n hx hb dX11_on_47 rfl (lv_at hl 2 rfl) ?_
          obtain ⟨_u22, σ23, hq24, hf⟩ := fm_bE hf
          refine fm_cv hI (fm_runV (As := [.int a2]) (rest := []) (rm := { frames := 5, cells := 0, slots := 0, locals := 118 }) hC hI (c_X10_goOn hC.2.2.1 fc_58 hq24) mV_X10_goOn q_460 ⟨rfl, rfl⟩ ⟨Nat.le_of_ble_eq_true rfl, Nat.le_of_ble_eq_true rfl⟩ fc_58 rfl (by decide) rfl hl.1 rfl (Nat.le_of_ble_eq_true rfl) dX11_on_48 ⟨Nat.zero_le _, Nat.zero_le _⟩) (fun H locs hI => ?_)
          refine lv_aload_n hx hb dX11_on_51 rfl (lv_at hl 0 rfl) ?_
          refine fm_gr hC hI fd_X11_2 fc_0 fr_0_2 q_207 dX11_on_52 ?_
          refine fm_gr hC hI fd_X10_2 fc_58 fr_58_2 q_135 dX11_on_55 ?_
          refine lv_iload_n hx hb dX11_on_58 rfl (lv_at hl 1 rfl) ?_
          obtain ⟨hg25, hf⟩ := fm_gE hf
          refine fm_aald (t0 := 5) hC hI fc_66 (by decide) (by decide) rfl fl_66 hg25 (fm_T4 (x := a1) fc_58 hg25).2 dX11_on_59 ?_
          refine lv_iload_n hx hb dX11_on_60 rfl (lv_at hl 3 rfl) ?_
          obtain ⟨r26, σ27, hq28, hf⟩ := fm_bE hf
          refine fm_ci hI (fm_runV (As := [.int a3]) (rest := []) (rm := { frames := 0, cells := 0, slots := 0, locals := 0 }) hC hI (c_X7_tells hC.2.2.1 (fm_T4 (x := a1) fc_58 hg25).1 hq28) mV_X7_tells q_422 ⟨rfl, rfl⟩ ⟨Nat.le_of_ble_eq_true rfl, Nat.le_of_ble_eq_true rfl⟩ (fm_T4 (x := a1) fc_58 hg25).1 rfl (by decide) rfl hl.1 rfl (Nat.le_of_ble_eq_true rfl) dX11_on_61 ⟨Nat.zero_le _, Nat.zero_le _⟩) (fun H locs hI => ?_)
          exact fm_ri hC hI hr hlk hf dX11_on_64
        · have hf := fm_pT hf hc
          refine lv_aload_n hx hb dX11_on_32 rfl (lv_at hl 0 rfl) ?_
          refine lv_ldc (v := (-1000000001 : Int32)) hx hb hown (hts _ q_240) dX11_on_33 ?_
          obtain ⟨r29, σ30, hq31, hf⟩ := fm_bE hf
          refine fm_ci hI (fm_runV (As := [.int (-1000000001 : Int32)]) (rest := []) (rm := { frames := 1, cells := 0, slots := 0, locals := 22 }) hC hI (c_X11_tell hC.2.2.1 hq31) mV_X11_tell q_241 ⟨rfl, rfl⟩ ⟨Nat.le_of_ble_eq_true rfl, Nat.le_of_ble_eq_true rfl⟩ fc_0 rfl (by decide) rfl hl.1 rfl (Nat.le_of_ble_eq_true rfl) dX11_on_35 ⟨Nat.zero_le _, Nat.zero_le _⟩) (fun H locs hI => ?_)
          exact fm_ri hC hI hr hlk hf dX11_on_38
def m_X11_joyOn (a1 : Int32) (a2 : Int32) (σ : fm_M) : Option (Int32 × fm_M) := fm_b (m_X11_isPerson a1 σ) fun r1 σ2 => (if r1 = 0 then (fm_b (m_X11_tell (-1000000001 : Int32) σ2) fun r4 σ5 => (some (r4, σ5))) else (fm_b (m_X11_within a2 (0 : Int32) (60 : Int32) σ2) fun r7 σ8 => (if r7 = 0 then (fm_b (m_X11_tell (-1000000001 : Int32) σ8) fun r17 σ18 => (some (r17, σ18))) else (fm_b (m_X11_startTrial  σ8) fun _u10 σ11 => (fm_b (m_X10_goOn 58 a2 σ11) fun _u13 σ14 => (fm_g (fm_in1 a1 6) (some ((σ14.1 (58 + 2 + a1.toNatClampNeg) 1), σ14))))))))
set_option maxHeartbeats 4000000 in
set_option maxRecDepth 100000 in
theorem c_X11_joyOn {l : Launch} {G : fm_G} (hJ : fm_J G) {a1 : Int32} {a2 : Int32} {σ : fm_M} {o : Int32 × fm_M}  (hf : m_X11_joyOn a1 a2 σ = some o) : Met l yX11_joyOn (fm_w yX11_joyOn cX11_joyOn 3 (some .int)) { frames := 6, cells := 0, slots := 0, locals := 140 } (va_Pc [.ref (G.2.1 0), .int a1, .int a2] (fm_st G σ)) (fm_Qi G o) 0 0 (fm_A G) := by
  refine fm_mth (own := RX11) hJ rfl (by decide +kernel) (Nat.le_of_ble_eq_true rfl) ?_
  intro p e s m below meth c ls hC hr hlk hI hl
  have hx := hC.1.1
  have hb := hC.1.2.1
  have hown := hC.1.2.2.2.1
  have hts := hC.1.2.2.2.2
  have hl : lv_has ls 3 [(0, .ref (G.2.1 0)), (1, .int a1), (2, .int a2)] := hl
  rw [m_X11_joyOn] at hf
  refine lv_aload_n hx hb dX11_joyOn_0 rfl (lv_at hl 0 rfl) ?_
  refine lv_iload_n hx hb dX11_joyOn_1 rfl (lv_at hl 1 rfl) ?_
  obtain ⟨r1, σ2, hq3, hf⟩ := fm_bE hf
  refine fm_ci hI (fm_runV (As := [.int a1]) (rest := []) (rm := { frames := 1, cells := 0, slots := 0, locals := 22 }) hC hI (c_X11_isPerson hC.2.2.1 hq3) mV_X11_isPerson q_254 ⟨rfl, rfl⟩ ⟨Nat.le_of_ble_eq_true rfl, Nat.le_of_ble_eq_true rfl⟩ fc_0 rfl (by decide) rfl hl.1 rfl (Nat.le_of_ble_eq_true rfl) dX11_joyOn_2 ⟨Nat.zero_le _, Nat.zero_le _⟩) (fun H locs hI => ?_)
  refine lv_if_eq (tgt := 18) hx hb dX11_joyOn_5 (by decide) (fun hc => ?_) (fun hc => ?_)
  · have hf := fm_pT hf hc
    refine lv_aload_n hx hb dX11_joyOn_18 rfl (lv_at hl 0 rfl) ?_
    refine lv_ldc (v := (-1000000001 : Int32)) hx hb hown (hts _ q_240) dX11_joyOn_19 ?_
    obtain ⟨r4, σ5, hq6, hf⟩ := fm_bE hf
    refine fm_ci hI (fm_runV (As := [.int (-1000000001 : Int32)]) (rest := []) (rm := { frames := 1, cells := 0, slots := 0, locals := 22 }) hC hI (c_X11_tell hC.2.2.1 hq6) mV_X11_tell q_241 ⟨rfl, rfl⟩ ⟨Nat.le_of_ble_eq_true rfl, Nat.le_of_ble_eq_true rfl⟩ fc_0 rfl (by decide) rfl hl.1 rfl (Nat.le_of_ble_eq_true rfl) dX11_joyOn_21 ⟨Nat.zero_le _, Nat.zero_le _⟩) (fun H locs hI => ?_)
    exact fm_ri hC hI hr hlk hf dX11_joyOn_24
  · have hf := fm_pF hf hc
    refine lv_iload_n hx hb dX11_joyOn_8 rfl (lv_at hl 2 rfl) ?_
    refine lv_iconst (v := (0 : Int32)) hx hb dX11_joyOn_9 (by decide) ?_
    refine lv_bipush (v := (60 : Int32)) hx hb dX11_joyOn_10 (by decide) ?_
    obtain ⟨r7, σ8, hq9, hf⟩ := fm_bE hf
    refine fm_ci hI (fm_runS (As := [.int a2, .int (0 : Int32), .int (60 : Int32)]) (rest := []) (rm := { frames := 0, cells := 0, slots := 0, locals := 0 }) hC hI (c_X11_within hC.2.2.1 hq9) mS_X11_within q_237 ⟨rfl, rfl⟩ ⟨Nat.le_of_ble_eq_true rfl, Nat.le_of_ble_eq_true rfl⟩ rfl hl.1 rfl (Nat.le_of_ble_eq_true rfl) dX11_joyOn_12 ⟨Nat.zero_le _, Nat.zero_le _⟩) (fun H locs hI => ?_)
    refine lv_if_ne (tgt := 25) hx hb dX11_joyOn_15 (by decide) (fun hc => ?_) (fun hc => ?_)
    · have hf := fm_pF hf hc
      refine lv_aload_n hx hb dX11_joyOn_25 rfl (lv_at hl 0 rfl) ?_
      obtain ⟨_u10, σ11, hq12, hf⟩ := fm_bE hf
      refine fm_cv hI (fm_runV (As := []) (rest := []) (rm := { frames := 2, cells := 0, slots := 0, locals := 44 }) hC hI (c_X11_startTrial hC.2.2.1 hq12) mV_X11_startTrial q_508 ⟨rfl, rfl⟩ ⟨Nat.le_of_ble_eq_true rfl, Nat.le_of_ble_eq_true rfl⟩ fc_0 rfl (by decide) rfl hl.1 rfl (Nat.le_of_ble_eq_true rfl) dX11_joyOn_26 ⟨Nat.zero_le _, Nat.zero_le _⟩) (fun H locs hI => ?_)
      refine lv_aload_n hx hb dX11_joyOn_29 rfl (lv_at hl 0 rfl) ?_
      refine fm_gr hC hI fd_X11_2 fc_0 fr_0_2 q_207 dX11_joyOn_30 ?_
      refine lv_iload_n hx hb dX11_joyOn_33 rfl (lv_at hl 2 rfl) ?_
      obtain ⟨_u13, σ14, hq15, hf⟩ := fm_bE hf
      refine fm_cv hI (fm_runV (As := [.int a2]) (rest := []) (rm := { frames := 5, cells := 0, slots := 0, locals := 118 }) hC hI (c_X10_goOn hC.2.2.1 fc_58 hq15) mV_X10_goOn q_460 ⟨rfl, rfl⟩ ⟨Nat.le_of_ble_eq_true rfl, Nat.le_of_ble_eq_true rfl⟩ fc_58 rfl (by decide) rfl hl.1 rfl (Nat.le_of_ble_eq_true rfl) dX11_joyOn_34 ⟨Nat.zero_le _, Nat.zero_le _⟩) (fun H locs hI => ?_)
      refine lv_aload_n hx hb dX11_joyOn_37 rfl (lv_at hl 0 rfl) ?_
      refine fm_gr hC hI fd_X11_2 fc_0 fr_0_2 q_207 dX11_joyOn_38 ?_
      refine fm_gr hC hI fd_X10_1 fc_58 fr_58_1 q_133 dX11_joyOn_41 ?_
      refine lv_iload_n hx hb dX11_joyOn_44 rfl (lv_at hl 1 rfl) ?_
      obtain ⟨hg16, hf⟩ := fm_gE hf
      refine fm_aald (t0 := 4) hC hI fc_59 (by decide) (by decide) rfl fl_59 hg16 (fm_T3 (x := a1) fc_58 hg16).2 dX11_joyOn_45 ?_
      refine fm_gi hC hI fd_X5_1 (fm_T3 (x := a1) fc_58 hg16).1 q_93 dX11_joyOn_46 ?_
      exact fm_ri hC hI hr hlk hf dX11_joyOn_49
    · have hf := fm_pT hf hc
      refine lv_aload_n hx hb dX11_joyOn_18 rfl (lv_at hl 0 rfl) ?_
      refine lv_ldc (v := (-1000000001 : Int32)) hx hb hown (hts _ q_240) dX11_joyOn_19 ?_
      obtain ⟨r17, σ18, hq19, hf⟩ := fm_bE hf
      refine fm_ci hI (fm_runV (As := [.int (-1000000001 : Int32)]) (rest := []) (rm := { frames := 1, cells := 0, slots := 0, locals := 22 }) hC hI (c_X11_tell hC.2.2.1 hq19) mV_X11_tell q_241 ⟨rfl, rfl⟩ ⟨Nat.le_of_ble_eq_true rfl, Nat.le_of_ble_eq_true rfl⟩ fc_0 rfl (by decide) rfl hl.1 rfl (Nat.le_of_ble_eq_true rfl) dX11_joyOn_21 ⟨Nat.zero_le _, Nat.zero_le _⟩) (fun H locs hI => ?_)
      exact fm_ri hC hI hr hlk hf dX11_joyOn_24
def m_X11_found_21 (kc : Int32 → Int32 → fm_M → Option (Int32 × fm_M)) : Nat → Int32 → Int32 → fm_M → Option (Int32 × fm_M)
  | 0, _, _, _ => none
  | n + 1, z1, z2, σ => if (60 : Int32) < z2 then (kc z1 z2 σ) else (fm_g (fm_in1 z1 8) (if (σ.1 (58 + 9 + 2 * z1.toNatClampNeg) 4) = 0 then (fm_b (m_X10_oneDay 58 σ) fun _u8 σ9 => (m_X11_found_21 kc n z1 (z2 + (1 : Int32)) σ9)) else (some (z2, σ))))
def m_X11_found (a1 : Int32) (σ : fm_M) : Option (Int32 × fm_M) := fm_b (m_X11_isPresent a1 σ) fun r1 σ2 => (if r1 = 0 then (fm_b (m_X11_tell (-1000000001 : Int32) σ2) fun r15 σ16 => (some (r15, σ16))) else (fm_b (m_X11_startTrial  σ2) fun _u4 σ5 => (m_X11_found_21 (fun (x1_y11 : Int32) (x2_y11 : Int32) (σ_y11 : fm_M) => fm_b (m_X11_tell (-1000000004 : Int32) σ_y11) fun r12 σ13 => (some (r12, σ13))) fm_fu a1 (0 : Int32) σ5)))
set_option maxHeartbeats 4000000 in
set_option maxRecDepth 100000 in
theorem w_X11_found_21 {p : Program} {l : Launch} {e : Env} {s : State} {m : MethodId} {args : Array Value} {below : List Frame} {meth : Method} {c : Code} {G : fm_G} {o : Int32 × fm_M} {kc : Int32 → Int32 → fm_M → Option (Int32 × fm_M)} (hC : fm_C G p m c cX11_found 3 s args RX11) (hr : meth.sig.returnType = (some .int)) (hlk : meth.locks = false) (hk : ∀ (z1 : Int32) (z2 : Int32) (σ : fm_M) (H : Heap) (locs : List Loc) (ls : Array Slot), fm_I G σ s H locs → lv_has ls 3 [(0, .ref (G.2.1 0)), (1, .int z1), (2, .int z2)] → kc z1 z2 σ = some o → W p l e { frames := 5, cells := 0, slots := 0, locals := 118 } s m args below meth c H locs 0 0 (MQ below (fm_Qi G o) args s 0 0 (fm_A G)) (F0 m 57 ls [])) (n : Nat) : ∀ (z1 : Int32) (z2 : Int32) (σ : fm_M) (H : Heap) (locs : List Loc) (ls : Array Slot), fm_I G σ s H locs → lv_has ls 3 [(0, .ref (G.2.1 0)), (1, .int z1), (2, .int z2)] → m_X11_found_21 kc n z1 z2 σ = some o → W p l e { frames := 5, cells := 0, slots := 0, locals := 118 } s m args below meth c H locs 0 0 (MQ below (fm_Qi G o) args s 0 0 (fm_A G)) (F0 m 21 ls []) := by
  have hx := hC.1.1
  have hb := hC.1.2.1
  have hown := hC.1.2.2.2.1
  have hts := hC.1.2.2.2.2
  induction n with
  | zero =>
    intro z1 z2 σ H locs ls hI hl hf
    cases hf
  | succ n ih =>
    intro z1 z2 σ H locs ls hI hl hf
    rw [m_X11_found_21] at hf
    refine lv_iload_n hx hb dX11_found_21 rfl (lv_at hl 2 rfl) ?_
    refine lv_bipush (v := (60 : Int32)) hx hb dX11_found_22 (by decide) ?_
    refine lv_icmp_gt (tgt := 57) hx hb dX11_found_24 (by decide) (fun hc => ?_) (fun hc => ?_)
    · have hf := fm_pT hf hc
      exact hk z1 z2 σ _ _ _ hI (lv_sub hl [0, 1, 2] rfl) hf
    · have hf := fm_pF hf hc
      refine lv_aload_n hx hb dX11_found_27 rfl (lv_at hl 0 rfl) ?_
      refine fm_gr hC hI fd_X11_2 fc_0 fr_0_2 q_207 dX11_found_28 ?_
      refine fm_gr hC hI fd_X10_2 fc_58 fr_58_2 q_135 dX11_found_31 ?_
      refine lv_iload_n hx hb dX11_found_34 rfl (lv_at hl 1 rfl) ?_
      obtain ⟨hg7, hf⟩ := fm_gE hf
      refine fm_aald (t0 := 5) hC hI fc_66 (by decide) (by decide) rfl fl_66 hg7 (fm_T4 (x := z1) fc_58 hg7).2 dX11_found_35 ?_
      refine fm_gi hC hI fd_X7_4 (fm_T4 (x := z1) fc_58 hg7).1 q_118 dX11_found_36 ?_
      refine lv_if_eq (tgt := 44) hx hb dX11_found_39 (by decide) (fun hc => ?_) (fun hc => ?_)
      · have hf := fm_pT hf hc
        refine lv_aload_n hx hb dX11_found_44 rfl (lv_at hl 0 rfl) ?_
        refine fm_gr hC hI fd_X11_2 fc_0 fr_0_2 q_207 dX11_found_45 ?_
        obtain ⟨_u8, σ9, hq10, hf⟩ := fm_bE hf
        refine fm_cv hI (fm_runV (As := []) (rest := []) (rm := { frames := 4, cells := 0, slots := 0, locals := 94 }) hC hI (c_X10_oneDay hC.2.2.1 fc_58 hq10) mV_X10_oneDay q_532 ⟨rfl, rfl⟩ ⟨Nat.le_of_ble_eq_true rfl, Nat.le_of_ble_eq_true rfl⟩ fc_58 rfl (by decide) rfl hl.1 rfl (Nat.le_of_ble_eq_true rfl) dX11_found_48 ⟨Nat.zero_le _, Nat.zero_le _⟩) (fun H locs hI => ?_)
        refine lv_iinc (v := (z2 + (1 : Int32))) (lv' := [(2, .int (z2 + (1 : Int32))), (0, .ref (G.2.1 0)), (1, .int z1)]) hx hb dX11_found_51 hl (k := 2) rfl rfl (Nat.le_of_ble_eq_true rfl) rfl (fun ls hl => ?_)
        refine lv_goto (tgt := 21) hx hb dX11_found_54 (by decide) ?_
        exact ih z1 (z2 + (1 : Int32)) σ9 _ _ _ hI (lv_sub hl [1, 2, 0] rfl) hf
      · have hf := fm_pF hf hc
        refine lv_iload_n hx hb dX11_found_42 rfl (lv_at hl 2 rfl) ?_
        exact fm_ri hC hI hr hlk hf dX11_found_43
set_option maxHeartbeats 4000000 in
set_option maxRecDepth 100000 in
theorem c_X11_found {l : Launch} {G : fm_G} (hJ : fm_J G) {a1 : Int32} {σ : fm_M} {o : Int32 × fm_M}  (hf : m_X11_found a1 σ = some o) : Met l yX11_found (fm_w yX11_found cX11_found 3 (some .int)) { frames := 5, cells := 0, slots := 0, locals := 118 } (va_Pc [.ref (G.2.1 0), .int a1] (fm_st G σ)) (fm_Qi G o) 0 0 (fm_A G) := by
  refine fm_mth (own := RX11) hJ rfl (by decide +kernel) (Nat.le_of_ble_eq_true rfl) ?_
  intro p e s m below meth c ls hC hr hlk hI hl
  have hx := hC.1.1
  have hb := hC.1.2.1
  have hown := hC.1.2.2.2.1
  have hts := hC.1.2.2.2.2
  have hl : lv_has ls 3 [(0, .ref (G.2.1 0)), (1, .int a1)] := hl
  rw [m_X11_found] at hf
  refine lv_aload_n hx hb dX11_found_0 rfl (lv_at hl 0 rfl) ?_
  refine lv_iload_n hx hb dX11_found_1 rfl (lv_at hl 1 rfl) ?_
  obtain ⟨r1, σ2, hq3, hf⟩ := fm_bE hf
  refine fm_ci hI (fm_runV (As := [.int a1]) (rest := []) (rm := { frames := 1, cells := 0, slots := 0, locals := 22 }) hC hI (c_X11_isPresent hC.2.2.1 hq3) mV_X11_isPresent q_274 ⟨rfl, rfl⟩ ⟨Nat.le_of_ble_eq_true rfl, Nat.le_of_ble_eq_true rfl⟩ fc_0 rfl (by decide) rfl hl.1 rfl (Nat.le_of_ble_eq_true rfl) dX11_found_2 ⟨Nat.zero_le _, Nat.zero_le _⟩) (fun H locs hI => ?_)
  refine lv_if_ne (tgt := 15) hx hb dX11_found_5 (by decide) (fun hc => ?_) (fun hc => ?_)
  · have hf := fm_pF hf hc
    refine lv_aload_n hx hb dX11_found_15 rfl (lv_at hl 0 rfl) ?_
    obtain ⟨_u4, σ5, hq6, hf⟩ := fm_bE hf
    refine fm_cv hI (fm_runV (As := []) (rest := []) (rm := { frames := 2, cells := 0, slots := 0, locals := 44 }) hC hI (c_X11_startTrial hC.2.2.1 hq6) mV_X11_startTrial q_508 ⟨rfl, rfl⟩ ⟨Nat.le_of_ble_eq_true rfl, Nat.le_of_ble_eq_true rfl⟩ fc_0 rfl (by decide) rfl hl.1 rfl (Nat.le_of_ble_eq_true rfl) dX11_found_16 ⟨Nat.zero_le _, Nat.zero_le _⟩) (fun H locs hI => ?_)
    refine lv_iconst (v := (0 : Int32)) hx hb dX11_found_19 (by decide) ?_
    refine lv_istore_n (lv' := [(2, .int (0 : Int32)), (0, .ref (G.2.1 0)), (1, .int a1)]) hx hb dX11_found_20 rfl hl (Nat.le_of_ble_eq_true rfl) rfl (fun ls hl => ?_)
    refine w_X11_found_21 hC hr hlk (fun x1_y11 x2_y11 σ_y11 H locs ls hI hl hf => ?_) fm_fu a1 (0 : Int32) σ5 _ _ _ hI (lv_sub hl [1, 2, 0] rfl) hf
    refine lv_aload_n hx hb dX11_found_57 rfl (lv_at hl 0 rfl) ?_
    refine lv_ldc (v := (-1000000004 : Int32)) hx hb hown (hts _ q_282) dX11_found_58 ?_
    obtain ⟨r12, σ13, hq14, hf⟩ := fm_bE hf
    refine fm_ci hI (fm_runV (As := [.int (-1000000004 : Int32)]) (rest := []) (rm := { frames := 1, cells := 0, slots := 0, locals := 22 }) hC hI (c_X11_tell hC.2.2.1 hq14) mV_X11_tell q_241 ⟨rfl, rfl⟩ ⟨Nat.le_of_ble_eq_true rfl, Nat.le_of_ble_eq_true rfl⟩ fc_0 rfl (by decide) rfl hl.1 rfl (Nat.le_of_ble_eq_true rfl) dX11_found_60 ⟨Nat.zero_le _, Nat.zero_le _⟩) (fun H locs hI => ?_)
    exact fm_ri hC hI hr hlk hf dX11_found_63
  · have hf := fm_pT hf hc
    refine lv_aload_n hx hb dX11_found_8 rfl (lv_at hl 0 rfl) ?_
    refine lv_ldc (v := (-1000000001 : Int32)) hx hb hown (hts _ q_240) dX11_found_9 ?_
    obtain ⟨r15, σ16, hq17, hf⟩ := fm_bE hf
    refine fm_ci hI (fm_runV (As := [.int (-1000000001 : Int32)]) (rest := []) (rm := { frames := 1, cells := 0, slots := 0, locals := 22 }) hC hI (c_X11_tell hC.2.2.1 hq17) mV_X11_tell q_241 ⟨rfl, rfl⟩ ⟨Nat.le_of_ble_eq_true rfl, Nat.le_of_ble_eq_true rfl⟩ fc_0 rfl (by decide) rfl hl.1 rfl (Nat.le_of_ble_eq_true rfl) dX11_found_11 ⟨Nat.zero_le _, Nat.zero_le _⟩) (fun H locs hI => ?_)
    exact fm_ri hC hI hr hlk hf dX11_found_14
def m_X11_comes_29 (kc : Int32 → Int32 → Int32 → fm_M → Option (Int32 × fm_M)) : Nat → Int32 → Int32 → Int32 → fm_M → Option (Int32 × fm_M)
  | 0, _, _, _, _ => none
  | n + 1, z1, z2, z3, σ => if (60 : Int32) < z3 then (kc z1 z2 z3 σ) else (fm_g (fm_in1 z1 8) (if (σ.1 (58 + 9 + 2 * z1.toNatClampNeg) 3) = z2 then (some (z3, σ)) else (fm_b (m_X10_oneDay 58 σ) fun _u14 σ15 => (m_X11_comes_29 kc n z1 z2 (z3 + (1 : Int32)) σ15))))
def m_X11_comes (a1 : Int32) (a2 : Int32) (σ : fm_M) : Option (Int32 × fm_M) := fm_b (m_X11_isPresent a1 σ) fun r1 σ2 => (if r1 = 0 then (fm_b (m_X11_tell (-1000000001 : Int32) σ2) fun r4 σ5 => (some (r4, σ5))) else (fm_b (m_X11_isPerson a2 σ2) fun r7 σ8 => (if r7 = 0 then (fm_b (m_X11_tell (-1000000001 : Int32) σ8) fun r21 σ22 => (some (r21, σ22))) else (fm_b (m_X11_startTrial  σ8) fun _u10 σ11 => (m_X11_comes_29 (fun (x1_y17 : Int32) (x2_y17 : Int32) (x3_y17 : Int32) (σ_y17 : fm_M) => fm_b (m_X11_tell (-1000000004 : Int32) σ_y17) fun r18 σ19 => (some (r18, σ19))) fm_fu a1 a2 (0 : Int32) σ11)))))
set_option maxHeartbeats 4000000 in
set_option maxRecDepth 100000 in
theorem w_X11_comes_29 {p : Program} {l : Launch} {e : Env} {s : State} {m : MethodId} {args : Array Value} {below : List Frame} {meth : Method} {c : Code} {G : fm_G} {o : Int32 × fm_M} {kc : Int32 → Int32 → Int32 → fm_M → Option (Int32 × fm_M)} (hC : fm_C G p m c cX11_comes 4 s args RX11) (hr : meth.sig.returnType = (some .int)) (hlk : meth.locks = false) (hk : ∀ (z1 : Int32) (z2 : Int32) (z3 : Int32) (σ : fm_M) (H : Heap) (locs : List Loc) (ls : Array Slot), fm_I G σ s H locs → lv_has ls 4 [(0, .ref (G.2.1 0)), (1, .int z1), (2, .int z2), (3, .int z3)] → kc z1 z2 z3 σ = some o → W p l e { frames := 5, cells := 0, slots := 0, locals := 118 } s m args below meth c H locs 0 0 (MQ below (fm_Qi G o) args s 0 0 (fm_A G)) (F0 m 66 ls [])) (n : Nat) : ∀ (z1 : Int32) (z2 : Int32) (z3 : Int32) (σ : fm_M) (H : Heap) (locs : List Loc) (ls : Array Slot), fm_I G σ s H locs → lv_has ls 4 [(0, .ref (G.2.1 0)), (1, .int z1), (2, .int z2), (3, .int z3)] → m_X11_comes_29 kc n z1 z2 z3 σ = some o → W p l e { frames := 5, cells := 0, slots := 0, locals := 118 } s m args below meth c H locs 0 0 (MQ below (fm_Qi G o) args s 0 0 (fm_A G)) (F0 m 29 ls []) := by
  have hx := hC.1.1
  have hb := hC.1.2.1
  have hown := hC.1.2.2.2.1
  have hts := hC.1.2.2.2.2
  induction n with
  | zero =>
    intro z1 z2 z3 σ H locs ls hI hl hf
    cases hf
  | succ n ih =>
    intro z1 z2 z3 σ H locs ls hI hl hf
    rw [m_X11_comes_29] at hf
    refine lv_iload_n hx hb dX11_comes_29 rfl (lv_at hl 3 rfl) ?_
    refine lv_bipush (v := (60 : Int32)) hx hb dX11_comes_30 (by decide) ?_
    refine lv_icmp_gt (tgt := 66) hx hb dX11_comes_32 (by decide) (fun hc => ?_) (fun hc => ?_)
    · have hf := fm_pT hf hc
      exact hk z1 z2 z3 σ _ _ _ hI (lv_sub hl [0, 1, 2, 3] rfl) hf
    · have hf := fm_pF hf hc
      refine lv_aload_n hx hb dX11_comes_35 rfl (lv_at hl 0 rfl) ?_
      refine fm_gr hC hI fd_X11_2 fc_0 fr_0_2 q_207 dX11_comes_36 ?_
      refine fm_gr hC hI fd_X10_2 fc_58 fr_58_2 q_135 dX11_comes_39 ?_
      refine lv_iload_n hx hb dX11_comes_42 rfl (lv_at hl 1 rfl) ?_
      obtain ⟨hg13, hf⟩ := fm_gE hf
      refine fm_aald (t0 := 5) hC hI fc_66 (by decide) (by decide) rfl fl_66 hg13 (fm_T4 (x := z1) fc_58 hg13).2 dX11_comes_43 ?_
      refine fm_gi hC hI fd_X7_3 (fm_T4 (x := z1) fc_58 hg13).1 q_115 dX11_comes_44 ?_
      refine lv_iload_n hx hb dX11_comes_47 rfl (lv_at hl 2 rfl) ?_
      refine lv_icmp_ne (tgt := 53) hx hb dX11_comes_48 (by decide) (fun hc => ?_) (fun hc => ?_)
      · have hf := fm_pF hf hc
        refine lv_aload_n hx hb dX11_comes_53 rfl (lv_at hl 0 rfl) ?_
        refine fm_gr hC hI fd_X11_2 fc_0 fr_0_2 q_207 dX11_comes_54 ?_
        obtain ⟨_u14, σ15, hq16, hf⟩ := fm_bE hf
        refine fm_cv hI (fm_runV (As := []) (rest := []) (rm := { frames := 4, cells := 0, slots := 0, locals := 94 }) hC hI (c_X10_oneDay hC.2.2.1 fc_58 hq16) mV_X10_oneDay q_532 ⟨rfl, rfl⟩ ⟨Nat.le_of_ble_eq_true rfl, Nat.le_of_ble_eq_true rfl⟩ fc_58 rfl (by decide) rfl hl.1 rfl (Nat.le_of_ble_eq_true rfl) dX11_comes_57 ⟨Nat.zero_le _, Nat.zero_le _⟩) (fun H locs hI => ?_)
        refine lv_iinc (v := (z3 + (1 : Int32))) (lv' := [(3, .int (z3 + (1 : Int32))), (0, .ref (G.2.1 0)), (1, .int z1), (2, .int z2)]) hx hb dX11_comes_60 hl (k := 3) rfl rfl (Nat.le_of_ble_eq_true rfl) rfl (fun ls hl => ?_)
        refine lv_goto (tgt := 29) hx hb dX11_comes_63 (by decide) ?_
        exact ih z1 z2 (z3 + (1 : Int32)) σ15 _ _ _ hI (lv_sub hl [1, 2, 3, 0] rfl) hf
      · have hf := fm_pT hf hc
        refine lv_iload_n hx hb dX11_comes_51 rfl (lv_at hl 3 rfl) ?_
        exact fm_ri hC hI hr hlk hf dX11_comes_52
set_option maxHeartbeats 4000000 in
set_option maxRecDepth 100000 in
theorem c_X11_comes {l : Launch} {G : fm_G} (hJ : fm_J G) {a1 : Int32} {a2 : Int32} {σ : fm_M} {o : Int32 × fm_M}  (hf : m_X11_comes a1 a2 σ = some o) : Met l yX11_comes (fm_w yX11_comes cX11_comes 4 (some .int)) { frames := 5, cells := 0, slots := 0, locals := 118 } (va_Pc [.ref (G.2.1 0), .int a1, .int a2] (fm_st G σ)) (fm_Qi G o) 0 0 (fm_A G) := by
  refine fm_mth (own := RX11) hJ rfl (by decide +kernel) (Nat.le_of_ble_eq_true rfl) ?_
  intro p e s m below meth c ls hC hr hlk hI hl
  have hx := hC.1.1
  have hb := hC.1.2.1
  have hown := hC.1.2.2.2.1
  have hts := hC.1.2.2.2.2
  have hl : lv_has ls 4 [(0, .ref (G.2.1 0)), (1, .int a1), (2, .int a2)] := hl
  rw [m_X11_comes] at hf
  refine lv_aload_n hx hb dX11_comes_0 rfl (lv_at hl 0 rfl) ?_
  refine lv_iload_n hx hb dX11_comes_1 rfl (lv_at hl 1 rfl) ?_
  obtain ⟨r1, σ2, hq3, hf⟩ := fm_bE hf
  refine fm_ci hI (fm_runV (As := [.int a1]) (rest := []) (rm := { frames := 1, cells := 0, slots := 0, locals := 22 }) hC hI (c_X11_isPresent hC.2.2.1 hq3) mV_X11_isPresent q_274 ⟨rfl, rfl⟩ ⟨Nat.le_of_ble_eq_true rfl, Nat.le_of_ble_eq_true rfl⟩ fc_0 rfl (by decide) rfl hl.1 rfl (Nat.le_of_ble_eq_true rfl) dX11_comes_2 ⟨Nat.zero_le _, Nat.zero_le _⟩) (fun H locs hI => ?_)
  refine lv_if_eq (tgt := 16) hx hb dX11_comes_5 (by decide) (fun hc => ?_) (fun hc => ?_)
  · have hf := fm_pT hf hc
    refine lv_aload_n hx hb dX11_comes_16 rfl (lv_at hl 0 rfl) ?_
    refine lv_ldc (v := (-1000000001 : Int32)) hx hb hown (hts _ q_240) dX11_comes_17 ?_
    obtain ⟨r4, σ5, hq6, hf⟩ := fm_bE hf
    refine fm_ci hI (fm_runV (As := [.int (-1000000001 : Int32)]) (rest := []) (rm := { frames := 1, cells := 0, slots := 0, locals := 22 }) hC hI (c_X11_tell hC.2.2.1 hq6) mV_X11_tell q_241 ⟨rfl, rfl⟩ ⟨Nat.le_of_ble_eq_true rfl, Nat.le_of_ble_eq_true rfl⟩ fc_0 rfl (by decide) rfl hl.1 rfl (Nat.le_of_ble_eq_true rfl) dX11_comes_19 ⟨Nat.zero_le _, Nat.zero_le _⟩) (fun H locs hI => ?_)
    exact fm_ri hC hI hr hlk hf dX11_comes_22
  · have hf := fm_pF hf hc
    refine lv_aload_n hx hb dX11_comes_8 rfl (lv_at hl 0 rfl) ?_
    refine lv_iload_n hx hb dX11_comes_9 rfl (lv_at hl 2 rfl) ?_
    obtain ⟨r7, σ8, hq9, hf⟩ := fm_bE hf
    refine fm_ci hI (fm_runV (As := [.int a2]) (rest := []) (rm := { frames := 1, cells := 0, slots := 0, locals := 22 }) hC hI (c_X11_isPerson hC.2.2.1 hq9) mV_X11_isPerson q_254 ⟨rfl, rfl⟩ ⟨Nat.le_of_ble_eq_true rfl, Nat.le_of_ble_eq_true rfl⟩ fc_0 rfl (by decide) rfl hl.1 rfl (Nat.le_of_ble_eq_true rfl) dX11_comes_10 ⟨Nat.zero_le _, Nat.zero_le _⟩) (fun H locs hI => ?_)
    refine lv_if_ne (tgt := 23) hx hb dX11_comes_13 (by decide) (fun hc => ?_) (fun hc => ?_)
    · have hf := fm_pF hf hc
      refine lv_aload_n hx hb dX11_comes_23 rfl (lv_at hl 0 rfl) ?_
      obtain ⟨_u10, σ11, hq12, hf⟩ := fm_bE hf
      refine fm_cv hI (fm_runV (As := []) (rest := []) (rm := { frames := 2, cells := 0, slots := 0, locals := 44 }) hC hI (c_X11_startTrial hC.2.2.1 hq12) mV_X11_startTrial q_508 ⟨rfl, rfl⟩ ⟨Nat.le_of_ble_eq_true rfl, Nat.le_of_ble_eq_true rfl⟩ fc_0 rfl (by decide) rfl hl.1 rfl (Nat.le_of_ble_eq_true rfl) dX11_comes_24 ⟨Nat.zero_le _, Nat.zero_le _⟩) (fun H locs hI => ?_)
      refine lv_iconst (v := (0 : Int32)) hx hb dX11_comes_27 (by decide) ?_
      refine lv_istore_n (lv' := [(3, .int (0 : Int32)), (0, .ref (G.2.1 0)), (1, .int a1), (2, .int a2)]) hx hb dX11_comes_28 rfl hl (Nat.le_of_ble_eq_true rfl) rfl (fun ls hl => ?_)
      refine w_X11_comes_29 hC hr hlk (fun x1_y17 x2_y17 x3_y17 σ_y17 H locs ls hI hl hf => ?_) fm_fu a1 a2 (0 : Int32) σ11 _ _ _ hI (lv_sub hl [1, 2, 3, 0] rfl) hf
      refine lv_aload_n hx hb dX11_comes_66 rfl (lv_at hl 0 rfl) ?_
      refine lv_ldc (v := (-1000000004 : Int32)) hx hb hown (hts _ q_282) dX11_comes_67 ?_
      obtain ⟨r18, σ19, hq20, hf⟩ := fm_bE hf
      refine fm_ci hI (fm_runV (As := [.int (-1000000004 : Int32)]) (rest := []) (rm := { frames := 1, cells := 0, slots := 0, locals := 22 }) hC hI (c_X11_tell hC.2.2.1 hq20) mV_X11_tell q_241 ⟨rfl, rfl⟩ ⟨Nat.le_of_ble_eq_true rfl, Nat.le_of_ble_eq_true rfl⟩ fc_0 rfl (by decide) rfl hl.1 rfl (Nat.le_of_ble_eq_true rfl) dX11_comes_69 ⟨Nat.zero_le _, Nat.zero_le _⟩) (fun H locs hI => ?_)
      exact fm_ri hC hI hr hlk hf dX11_comes_72
    · have hf := fm_pT hf hc
      refine lv_aload_n hx hb dX11_comes_16 rfl (lv_at hl 0 rfl) ?_
      refine lv_ldc (v := (-1000000001 : Int32)) hx hb hown (hts _ q_240) dX11_comes_17 ?_
      obtain ⟨r21, σ22, hq23, hf⟩ := fm_bE hf
      refine fm_ci hI (fm_runV (As := [.int (-1000000001 : Int32)]) (rest := []) (rm := { frames := 1, cells := 0, slots := 0, locals := 22 }) hC hI (c_X11_tell hC.2.2.1 hq23) mV_X11_tell q_241 ⟨rfl, rfl⟩ ⟨Nat.le_of_ble_eq_true rfl, Nat.le_of_ble_eq_true rfl⟩ fc_0 rfl (by decide) rfl hl.1 rfl (Nat.le_of_ble_eq_true rfl) dX11_comes_19 ⟨Nat.zero_le _, Nat.zero_le _⟩) (fun H locs hI => ?_)
      exact fm_ri hC hI hr hlk hf dX11_comes_22
def m_X11_best_79 (kc : Int32 → Int32 → Int32 → Int32 → Int32 → fm_M → Option (Int32 × fm_M)) : Nat → Int32 → Int32 → Int32 → Int32 → Int32 → fm_M → Option (Int32 × fm_M)
  | 0, _, _, _, _, _, _ => none
  | n + 1, z1, z2, z3, z4, z5, σ => if (4 : Int32) ≤ z5 then (kc z1 z2 z3 z4 z5 σ) else (fm_b (m_X11_startTrial  σ) fun _u12 σ13 => (fm_g (fm_in1 z1 8) (fm_b (m_X7_layAbout (58 + 9 + 2 * z1.toNatClampNeg) z5 σ13) fun _u16 σ17 => (fm_b (m_X10_goOn 58 z2 σ17) fun _u19 σ20 => (fm_b (m_X10_joyOfAll 58 σ20) fun r22 σ23 => (if r22 ≤ z4 then (m_X11_best_79 kc n z1 z2 z3 z4 (z5 + (1 : Int32)) σ23) else (m_X11_best_79 kc n z1 z2 z5 r22 (z5 + (1 : Int32)) σ23)))))))
def m_X11_best (a1 : Int32) (a2 : Int32) (σ : fm_M) : Option (Int32 × fm_M) := fm_b (m_X11_isPresent a1 σ) fun r1 σ2 => (if r1 = 0 then (fm_b (m_X11_tell (-1000000001 : Int32) σ2) fun r4 σ5 => (some (r4, σ5))) else (fm_b (m_X11_within a2 (1 : Int32) (30 : Int32) σ2) fun r7 σ8 => (if r7 = 0 then (fm_b (m_X11_tell (-1000000001 : Int32) σ8) fun r32 σ33 => (some (r32, σ33))) else (fm_g (fm_in1 a1 8) (if (σ8.1 (8 + 9 + 2 * a1.toNatClampNeg) 1) < (6 : Int32) then (fm_g (fm_in1 a1 8) (if (σ8.1 (8 + 9 + 2 * a1.toNatClampNeg) 4) = 0 then (m_X11_best_79 (fun (x1_y25 : Int32) (x2_y25 : Int32) (x3_y25 : Int32) (x4_y25 : Int32) (x5_y25 : Int32) (σ_y25 : fm_M) => some (x3_y25, σ_y25)) fm_fu a1 a2 (0 : Int32) (-1 : Int32) (0 : Int32) σ8) else (fm_b (m_X11_tell (-1000000005 : Int32) σ8) fun r26 σ27 => (some (r26, σ27))))) else (fm_b (m_X11_tell (-1000000002 : Int32) σ8) fun r29 σ30 => (some (r29, σ30))))))))
set_option maxHeartbeats 4000000 in
set_option maxRecDepth 100000 in
theorem w_X11_best_79 {p : Program} {l : Launch} {e : Env} {s : State} {m : MethodId} {args : Array Value} {below : List Frame} {meth : Method} {c : Code} {G : fm_G} {o : Int32 × fm_M} {kc : Int32 → Int32 → Int32 → Int32 → Int32 → fm_M → Option (Int32 × fm_M)} (hC : fm_C G p m c cX11_best 7 s args RX11) (hr : meth.sig.returnType = (some .int)) (hlk : meth.locks = false) (hk : ∀ (z1 : Int32) (z2 : Int32) (z3 : Int32) (z4 : Int32) (z5 : Int32) (σ : fm_M) (H : Heap) (locs : List Loc) (ls : Array Slot), fm_I G σ s H locs → lv_has ls 7 [(0, .ref (G.2.1 0)), (1, .int z1), (2, .int z2), (3, .int z3), (4, .int z4), (5, .int z5)] → kc z1 z2 z3 z4 z5 σ = some o → W p l e { frames := 6, cells := 0, slots := 0, locals := 140 } s m args below meth c H locs 0 0 (MQ below (fm_Qi G o) args s 0 0 (fm_A G)) (F0 m 140 ls [])) (n : Nat) : ∀ (z1 : Int32) (z2 : Int32) (z3 : Int32) (z4 : Int32) (z5 : Int32) (σ : fm_M) (H : Heap) (locs : List Loc) (ls : Array Slot), fm_I G σ s H locs → lv_has ls 7 [(0, .ref (G.2.1 0)), (1, .int z1), (2, .int z2), (3, .int z3), (4, .int z4), (5, .int z5)] → m_X11_best_79 kc n z1 z2 z3 z4 z5 σ = some o → W p l e { frames := 6, cells := 0, slots := 0, locals := 140 } s m args below meth c H locs 0 0 (MQ below (fm_Qi G o) args s 0 0 (fm_A G)) (F0 m 79 ls []) := by
  have hx := hC.1.1
  have hb := hC.1.2.1
  have hown := hC.1.2.2.2.1
  have hts := hC.1.2.2.2.2
  induction n with
  | zero =>
    intro z1 z2 z3 z4 z5 σ H locs ls hI hl hf
    cases hf
  | succ n ih =>
    intro z1 z2 z3 z4 z5 σ H locs ls hI hl hf
    rw [m_X11_best_79] at hf
    refine lv_iload hx hb dX11_best_79 (lv_at hl 5 rfl) ?_
    refine lv_iconst (v := (4 : Int32)) hx hb dX11_best_81 (by decide) ?_
    refine lv_icmp_ge (tgt := 140) hx hb dX11_best_82 (by decide) (fun hc => ?_) (fun hc => ?_)
    · have hf := fm_pT hf hc
      exact hk z1 z2 z3 z4 z5 σ _ _ _ hI (lv_sub hl [0, 1, 2, 3, 4, 5] rfl) hf
    · have hf := fm_pF hf hc
      refine lv_aload_n hx hb dX11_best_85 rfl (lv_at hl 0 rfl) ?_
      obtain ⟨_u12, σ13, hq14, hf⟩ := fm_bE hf
      refine fm_cv hI (fm_runV (As := []) (rest := []) (rm := { frames := 2, cells := 0, slots := 0, locals := 44 }) hC hI (c_X11_startTrial hC.2.2.1 hq14) mV_X11_startTrial q_508 ⟨rfl, rfl⟩ ⟨Nat.le_of_ble_eq_true rfl, Nat.le_of_ble_eq_true rfl⟩ fc_0 rfl (by decide) rfl hl.1 rfl (Nat.le_of_ble_eq_true rfl) dX11_best_86 ⟨Nat.zero_le _, Nat.zero_le _⟩) (fun H locs hI => ?_)
      refine lv_aload_n hx hb dX11_best_89 rfl (lv_at hl 0 rfl) ?_
      refine fm_gr hC hI fd_X11_2 fc_0 fr_0_2 q_207 dX11_best_90 ?_
      refine fm_gr hC hI fd_X10_2 fc_58 fr_58_2 q_135 dX11_best_93 ?_
      refine lv_iload_n hx hb dX11_best_96 rfl (lv_at hl 1 rfl) ?_
      obtain ⟨hg15, hf⟩ := fm_gE hf
      refine fm_aald (t0 := 5) hC hI fc_66 (by decide) (by decide) rfl fl_66 hg15 (fm_T4 (x := z1) fc_58 hg15).2 dX11_best_97 ?_
      refine lv_iload hx hb dX11_best_98 (lv_at hl 5 rfl) ?_
      obtain ⟨_u16, σ17, hq18, hf⟩ := fm_bE hf
      refine fm_cv hI (fm_runV (As := [.int z5]) (rest := []) (rm := { frames := 0, cells := 0, slots := 0, locals := 0 }) hC hI (c_X7_layAbout hC.2.2.1 (fm_T4 (x := z1) fc_58 hg15).1 hq18) mV_X7_layAbout q_439 ⟨rfl, rfl⟩ ⟨Nat.le_of_ble_eq_true rfl, Nat.le_of_ble_eq_true rfl⟩ (fm_T4 (x := z1) fc_58 hg15).1 rfl (by decide) rfl hl.1 rfl (Nat.le_of_ble_eq_true rfl) dX11_best_100 ⟨Nat.zero_le _, Nat.zero_le _⟩) (fun H locs hI => ?_)
      refine lv_aload_n hx hb dX11_best_103 rfl (lv_at hl 0 rfl) ?_
      refine fm_gr hC hI fd_X11_2 fc_0 fr_0_2 q_207 dX11_best_104 ?_
      refine lv_iload_n hx hb dX11_best_107 rfl (lv_at hl 2 rfl) ?_
      obtain ⟨_u19, σ20, hq21, hf⟩ := fm_bE hf
      refine fm_cv hI (fm_runV (As := [.int z2]) (rest := []) (rm := { frames := 5, cells := 0, slots := 0, locals := 118 }) hC hI (c_X10_goOn hC.2.2.1 fc_58 hq21) mV_X10_goOn q_460 ⟨rfl, rfl⟩ ⟨Nat.le_of_ble_eq_true rfl, Nat.le_of_ble_eq_true rfl⟩ fc_58 rfl (by decide) rfl hl.1 rfl (Nat.le_of_ble_eq_true rfl) dX11_best_108 ⟨Nat.zero_le _, Nat.zero_le _⟩) (fun H locs hI => ?_)
      refine lv_aload_n hx hb dX11_best_111 rfl (lv_at hl 0 rfl) ?_
      refine fm_gr hC hI fd_X11_2 fc_0 fr_0_2 q_207 dX11_best_112 ?_
      obtain ⟨r22, σ23, hq24, hf⟩ := fm_bE hf
      refine fm_ci hI (fm_runV (As := []) (rest := []) (rm := { frames := 0, cells := 0, slots := 0, locals := 0 }) hC hI (c_X10_joyOfAll hC.2.2.1 fc_58 hq24) mV_X10_joyOfAll q_491 ⟨rfl, rfl⟩ ⟨Nat.le_of_ble_eq_true rfl, Nat.le_of_ble_eq_true rfl⟩ fc_58 rfl (by decide) rfl hl.1 rfl (Nat.le_of_ble_eq_true rfl) dX11_best_115 ⟨Nat.zero_le _, Nat.zero_le _⟩) (fun H locs hI => ?_)
      refine lv_istore (lv' := [(6, .int r22), (0, .ref (G.2.1 0)), (1, .int z1), (2, .int z2), (3, .int z3), (4, .int z4), (5, .int z5)]) hx hb dX11_best_118 hl (Nat.le_of_ble_eq_true rfl) rfl (fun ls hl => ?_)
      refine lv_iload hx hb dX11_best_120 (lv_at hl 0 rfl) ?_
      refine lv_iload hx hb dX11_best_122 (lv_at hl 5 rfl) ?_
      refine lv_icmp_le (tgt := 134) hx hb dX11_best_124 (by decide) (fun hc => ?_) (fun hc => ?_)
      · have hf := fm_pT hf hc
        refine lv_iinc (v := (z5 + (1 : Int32))) (lv' := [(5, .int (z5 + (1 : Int32))), (6, .int r22), (0, .ref (G.2.1 0)), (1, .int z1), (2, .int z2), (3, .int z3), (4, .int z4)]) hx hb dX11_best_134 hl (k := 6) rfl rfl (Nat.le_of_ble_eq_true rfl) rfl (fun ls hl => ?_)
        refine lv_goto (tgt := 79) hx hb dX11_best_137 (by decide) ?_
        exact ih z1 z2 z3 z4 (z5 + (1 : Int32)) σ23 _ _ _ hI (lv_sub hl [2, 3, 4, 5, 6, 0] rfl) hf
      · have hf := fm_pF hf hc
        refine lv_iload hx hb dX11_best_127 (lv_at hl 0 rfl) ?_
        refine lv_istore (lv' := [(4, .int r22), (6, .int r22), (0, .ref (G.2.1 0)), (1, .int z1), (2, .int z2), (3, .int z3), (5, .int z5)]) hx hb dX11_best_129 hl (Nat.le_of_ble_eq_true rfl) rfl (fun ls hl => ?_)
        refine lv_iload hx hb dX11_best_131 (lv_at hl 6 rfl) ?_
        refine lv_istore_n (lv' := [(3, .int z5), (4, .int r22), (6, .int r22), (0, .ref (G.2.1 0)), (1, .int z1), (2, .int z2), (5, .int z5)]) hx hb dX11_best_133 rfl hl (Nat.le_of_ble_eq_true rfl) rfl (fun ls hl => ?_)
        refine lv_iinc (v := (z5 + (1 : Int32))) (lv' := [(5, .int (z5 + (1 : Int32))), (3, .int z5), (4, .int r22), (6, .int r22), (0, .ref (G.2.1 0)), (1, .int z1), (2, .int z2)]) hx hb dX11_best_134 hl (k := 6) rfl rfl (Nat.le_of_ble_eq_true rfl) rfl (fun ls hl => ?_)
        refine lv_goto (tgt := 79) hx hb dX11_best_137 (by decide) ?_
        exact ih z1 z2 z5 r22 (z5 + (1 : Int32)) σ23 _ _ _ hI (lv_sub hl [4, 5, 6, 1, 2, 0] rfl) hf
set_option maxHeartbeats 4000000 in
set_option maxRecDepth 100000 in
theorem c_X11_best {l : Launch} {G : fm_G} (hJ : fm_J G) {a1 : Int32} {a2 : Int32} {σ : fm_M} {o : Int32 × fm_M}  (hf : m_X11_best a1 a2 σ = some o) : Met l yX11_best (fm_w yX11_best cX11_best 7 (some .int)) { frames := 6, cells := 0, slots := 0, locals := 140 } (va_Pc [.ref (G.2.1 0), .int a1, .int a2] (fm_st G σ)) (fm_Qi G o) 0 0 (fm_A G) := by
  refine fm_mth (own := RX11) hJ rfl (by decide +kernel) (Nat.le_of_ble_eq_true rfl) ?_
  intro p e s m below meth c ls hC hr hlk hI hl
  have hx := hC.1.1
  have hb := hC.1.2.1
  have hown := hC.1.2.2.2.1
  have hts := hC.1.2.2.2.2
  have hl : lv_has ls 7 [(0, .ref (G.2.1 0)), (1, .int a1), (2, .int a2)] := hl
  rw [m_X11_best] at hf
  refine lv_aload_n hx hb dX11_best_0 rfl (lv_at hl 0 rfl) ?_
  refine lv_iload_n hx hb dX11_best_1 rfl (lv_at hl 1 rfl) ?_
  obtain ⟨r1, σ2, hq3, hf⟩ := fm_bE hf
  refine fm_ci hI (fm_runV (As := [.int a1]) (rest := []) (rm := { frames := 1, cells := 0, slots := 0, locals := 22 }) hC hI (c_X11_isPresent hC.2.2.1 hq3) mV_X11_isPresent q_274 ⟨rfl, rfl⟩ ⟨Nat.le_of_ble_eq_true rfl, Nat.le_of_ble_eq_true rfl⟩ fc_0 rfl (by decide) rfl hl.1 rfl (Nat.le_of_ble_eq_true rfl) dX11_best_2 ⟨Nat.zero_le _, Nat.zero_le _⟩) (fun H locs hI => ?_)
  refine lv_if_eq (tgt := 18) hx hb dX11_best_5 (by decide) (fun hc => ?_) (fun hc => ?_)
  · have hf := fm_pT hf hc
    refine lv_aload_n hx hb dX11_best_18 rfl (lv_at hl 0 rfl) ?_
    refine lv_ldc (v := (-1000000001 : Int32)) hx hb hown (hts _ q_240) dX11_best_19 ?_
    obtain ⟨r4, σ5, hq6, hf⟩ := fm_bE hf
    refine fm_ci hI (fm_runV (As := [.int (-1000000001 : Int32)]) (rest := []) (rm := { frames := 1, cells := 0, slots := 0, locals := 22 }) hC hI (c_X11_tell hC.2.2.1 hq6) mV_X11_tell q_241 ⟨rfl, rfl⟩ ⟨Nat.le_of_ble_eq_true rfl, Nat.le_of_ble_eq_true rfl⟩ fc_0 rfl (by decide) rfl hl.1 rfl (Nat.le_of_ble_eq_true rfl) dX11_best_21 ⟨Nat.zero_le _, Nat.zero_le _⟩) (fun H locs hI => ?_)
    exact fm_ri hC hI hr hlk hf dX11_best_24
  · have hf := fm_pF hf hc
    refine lv_iload_n hx hb dX11_best_8 rfl (lv_at hl 2 rfl) ?_
    refine lv_iconst (v := (1 : Int32)) hx hb dX11_best_9 (by decide) ?_
    refine lv_bipush (v := (30 : Int32)) hx hb dX11_best_10 (by decide) ?_
    obtain ⟨r7, σ8, hq9, hf⟩ := fm_bE hf
    refine fm_ci hI (fm_runS (As := [.int a2, .int (1 : Int32), .int (30 : Int32)]) (rest := []) (rm := { frames := 0, cells := 0, slots := 0, locals := 0 }) hC hI (c_X11_within hC.2.2.1 hq9) mS_X11_within q_237 ⟨rfl, rfl⟩ ⟨Nat.le_of_ble_eq_true rfl, Nat.le_of_ble_eq_true rfl⟩ rfl hl.1 rfl (Nat.le_of_ble_eq_true rfl) dX11_best_12 ⟨Nat.zero_le _, Nat.zero_le _⟩) (fun H locs hI => ?_)
    refine lv_if_ne (tgt := 25) hx hb dX11_best_15 (by decide) (fun hc => ?_) (fun hc => ?_)
    · have hf := fm_pF hf hc
      refine lv_aload_n hx hb dX11_best_25 rfl (lv_at hl 0 rfl) ?_
      refine fm_gr hC hI fd_X11_0 fc_0 fr_0_0 q_205 dX11_best_26 ?_
      refine fm_gr hC hI fd_X10_2 fc_8 fr_8_2 q_135 dX11_best_29 ?_
      refine lv_iload_n hx hb dX11_best_32 rfl (lv_at hl 1 rfl) ?_
      obtain ⟨hg10, hf⟩ := fm_gE hf
      refine fm_aald (t0 := 5) hC hI fc_16 (by decide) (by decide) rfl fl_16 hg10 (fm_T4 (x := a1) fc_8 hg10).2 dX11_best_33 ?_
      refine fm_gi hC hI fd_X7_1 (fm_T4 (x := a1) fc_8 hg10).1 q_108 dX11_best_34 ?_
      refine lv_bipush (v := (6 : Int32)) hx hb dX11_best_37 (by decide) ?_
      refine lv_icmp_lt (tgt := 49) hx hb dX11_best_39 (by decide) (fun hc => ?_) (fun hc => ?_)
      · have hf := fm_pT hf hc
        refine lv_aload_n hx hb dX11_best_49 rfl (lv_at hl 0 rfl) ?_
        refine fm_gr hC hI fd_X11_0 fc_0 fr_0_0 q_205 dX11_best_50 ?_
        refine fm_gr hC hI fd_X10_2 fc_8 fr_8_2 q_135 dX11_best_53 ?_
        refine lv_iload_n hx hb dX11_best_56 rfl (lv_at hl 1 rfl) ?_
        obtain ⟨hg11, hf⟩ := fm_gE hf
        refine fm_aald (t0 := 5) hC hI fc_16 (by decide) (by decide) rfl fl_16 hg11 (fm_T4 (x := a1) fc_8 hg11).2 dX11_best_57 ?_
        refine fm_gi hC hI fd_X7_4 (fm_T4 (x := a1) fc_8 hg11).1 q_118 dX11_best_58 ?_
        refine lv_if_eq (tgt := 71) hx hb dX11_best_61 (by decide) (fun hc => ?_) (fun hc => ?_)
        · have hf := fm_pT hf hc
          refine lv_iconst (v := (0 : Int32)) hx hb dX11_best_71 (by decide) ?_
          refine lv_istore_n (lv' := [(3, .int (0 : Int32)), (0, .ref (G.2.1 0)), (1, .int a1), (2, .int a2)]) hx hb dX11_best_72 rfl hl (Nat.le_of_ble_eq_true rfl) rfl (fun ls hl => ?_)
          refine lv_iconst (v := (-1 : Int32)) hx hb dX11_best_73 (by decide) ?_
          refine lv_istore (lv' := [(4, .int (-1 : Int32)), (3, .int (0 : Int32)), (0, .ref (G.2.1 0)), (1, .int a1), (2, .int a2)]) hx hb dX11_best_74 hl (Nat.le_of_ble_eq_true rfl) rfl (fun ls hl => ?_)
          refine lv_iconst (v := (0 : Int32)) hx hb dX11_best_76 (by decide) ?_
          refine lv_istore (lv' := [(5, .int (0 : Int32)), (4, .int (-1 : Int32)), (3, .int (0 : Int32)), (0, .ref (G.2.1 0)), (1, .int a1), (2, .int a2)]) hx hb dX11_best_77 hl (Nat.le_of_ble_eq_true rfl) rfl (fun ls hl => ?_)
          refine w_X11_best_79 hC hr hlk (fun x1_y25 x2_y25 x3_y25 x4_y25 x5_y25 σ_y25 H locs ls hI hl hf => ?_) fm_fu a1 a2 (0 : Int32) (-1 : Int32) (0 : Int32) σ8 _ _ _ hI (lv_sub hl [3, 4, 5, 2, 1, 0] rfl) hf
          refine lv_iload_n hx hb dX11_best_140 rfl (lv_at hl 3 rfl) ?_
          exact fm_ri hC hI hr hlk hf dX11_best_141
        · have hf := fm_pF hf hc
          refine lv_aload_n hx hb dX11_best_64 rfl (lv_at hl 0 rfl) ?_
          refine lv_ldc (v := (-1000000005 : Int32)) hx hb hown (hts _ q_438) dX11_best_65 ?_
          obtain ⟨r26, σ27, hq28, hf⟩ := fm_bE hf
          refine fm_ci hI (fm_runV (As := [.int (-1000000005 : Int32)]) (rest := []) (rm := { frames := 1, cells := 0, slots := 0, locals := 22 }) hC hI (c_X11_tell hC.2.2.1 hq28) mV_X11_tell q_241 ⟨rfl, rfl⟩ ⟨Nat.le_of_ble_eq_true rfl, Nat.le_of_ble_eq_true rfl⟩ fc_0 rfl (by decide) rfl hl.1 rfl (Nat.le_of_ble_eq_true rfl) dX11_best_67 ⟨Nat.zero_le _, Nat.zero_le _⟩) (fun H locs hI => ?_)
          exact fm_ri hC hI hr hlk hf dX11_best_70
      · have hf := fm_pF hf hc
        refine lv_aload_n hx hb dX11_best_42 rfl (lv_at hl 0 rfl) ?_
        refine lv_ldc (v := (-1000000002 : Int32)) hx hb hown (hts _ q_245) dX11_best_43 ?_
        obtain ⟨r29, σ30, hq31, hf⟩ := fm_bE hf
        refine fm_ci hI (fm_runV (As := [.int (-1000000002 : Int32)]) (rest := []) (rm := { frames := 1, cells := 0, slots := 0, locals := 22 }) hC hI (c_X11_tell hC.2.2.1 hq31) mV_X11_tell q_241 ⟨rfl, rfl⟩ ⟨Nat.le_of_ble_eq_true rfl, Nat.le_of_ble_eq_true rfl⟩ fc_0 rfl (by decide) rfl hl.1 rfl (Nat.le_of_ble_eq_true rfl) dX11_best_45 ⟨Nat.zero_le _, Nat.zero_le _⟩) (fun H locs hI => ?_)
        exact fm_ri hC hI hr hlk hf dX11_best_48
    · have hf := fm_pT hf hc
      refine lv_aload_n hx hb dX11_best_18 rfl (lv_at hl 0 rfl) ?_
      refine lv_ldc (v := (-1000000001 : Int32)) hx hb hown (hts _ q_240) dX11_best_19 ?_
      obtain ⟨r32, σ33, hq34, hf⟩ := fm_bE hf
      refine fm_ci hI (fm_runV (As := [.int (-1000000001 : Int32)]) (rest := []) (rm := { frames := 1, cells := 0, slots := 0, locals := 22 }) hC hI (c_X11_tell hC.2.2.1 hq34) mV_X11_tell q_241 ⟨rfl, rfl⟩ ⟨Nat.le_of_ble_eq_true rfl, Nat.le_of_ble_eq_true rfl⟩ fc_0 rfl (by decide) rfl hl.1 rfl (Nat.le_of_ble_eq_true rfl) dX11_best_21 ⟨Nat.zero_le _, Nat.zero_le _⟩) (fun H locs hI => ?_)
      exact fm_ri hC hI hr hlk hf dX11_best_24
def m_X11_give_33 (kc : Int32 → Int32 → Int32 → Int32 → Int32 → fm_M → Option (Int32 × fm_M)) : Nat → Int32 → Int32 → Int32 → Int32 → Int32 → fm_M → Option (Int32 × fm_M)
  | 0, _, _, _, _, _, _ => none
  | n + 1, z1, z2, z3, z4, z5, σ => if (σ.1 8 4) ≤ z5 then (kc z1 z2 z3 z4 z5 σ) else (fm_b (m_X11_startTrial  σ) fun _u10 σ11 => (fm_g (fm_in1 z1 8) (fm_let (fm_sI σ11 (58 + 9 + 2 * z1.toNatClampNeg) 3 z5) fun σ14 => (fm_b (m_X10_goOn 58 z2 σ14) fun _u16 σ17 => (fm_b (m_X10_joyOfAll 58 σ17) fun r19 σ20 => (if r19 ≤ z4 then (m_X11_give_33 kc n z1 z2 z3 z4 (z5 + (1 : Int32)) σ20) else (m_X11_give_33 kc n z1 z2 z5 r19 (z5 + (1 : Int32)) σ20)))))))
def m_X11_give (a1 : Int32) (a2 : Int32) (σ : fm_M) : Option (Int32 × fm_M) := fm_b (m_X11_isPresent a1 σ) fun r1 σ2 => (if r1 = 0 then (fm_b (m_X11_tell (-1000000001 : Int32) σ2) fun r4 σ5 => (some (r4, σ5))) else (fm_b (m_X11_within a2 (1 : Int32) (30 : Int32) σ2) fun r7 σ8 => (if r7 = 0 then (fm_b (m_X11_tell (-1000000001 : Int32) σ8) fun r23 σ24 => (some (r23, σ24))) else (m_X11_give_33 (fun (x1_y22 : Int32) (x2_y22 : Int32) (x3_y22 : Int32) (x4_y22 : Int32) (x5_y22 : Int32) (σ_y22 : fm_M) => some (x3_y22, σ_y22)) fm_fu a1 a2 (0 : Int32) (-1 : Int32) (0 : Int32) σ8))))
set_option maxHeartbeats 4000000 in
set_option maxRecDepth 100000 in
theorem w_X11_give_33 {p : Program} {l : Launch} {e : Env} {s : State} {m : MethodId} {args : Array Value} {below : List Frame} {meth : Method} {c : Code} {G : fm_G} {o : Int32 × fm_M} {kc : Int32 → Int32 → Int32 → Int32 → Int32 → fm_M → Option (Int32 × fm_M)} (hC : fm_C G p m c cX11_give 7 s args RX11) (hr : meth.sig.returnType = (some .int)) (hlk : meth.locks = false) (hk : ∀ (z1 : Int32) (z2 : Int32) (z3 : Int32) (z4 : Int32) (z5 : Int32) (σ : fm_M) (H : Heap) (locs : List Loc) (ls : Array Slot), fm_I G σ s H locs → lv_has ls 7 [(0, .ref (G.2.1 0)), (1, .int z1), (2, .int z2), (3, .int z3), (4, .int z4), (5, .int z5)] → kc z1 z2 z3 z4 z5 σ = some o → W p l e { frames := 6, cells := 0, slots := 0, locals := 140 } s m args below meth c H locs 0 0 (MQ below (fm_Qi G o) args s 0 0 (fm_A G)) (F0 m 100 ls [])) (n : Nat) : ∀ (z1 : Int32) (z2 : Int32) (z3 : Int32) (z4 : Int32) (z5 : Int32) (σ : fm_M) (H : Heap) (locs : List Loc) (ls : Array Slot), fm_I G σ s H locs → lv_has ls 7 [(0, .ref (G.2.1 0)), (1, .int z1), (2, .int z2), (3, .int z3), (4, .int z4), (5, .int z5)] → m_X11_give_33 kc n z1 z2 z3 z4 z5 σ = some o → W p l e { frames := 6, cells := 0, slots := 0, locals := 140 } s m args below meth c H locs 0 0 (MQ below (fm_Qi G o) args s 0 0 (fm_A G)) (F0 m 33 ls []) := by
  have hx := hC.1.1
  have hb := hC.1.2.1
  have hown := hC.1.2.2.2.1
  have hts := hC.1.2.2.2.2
  induction n with
  | zero =>
    intro z1 z2 z3 z4 z5 σ H locs ls hI hl hf
    cases hf
  | succ n ih =>
    intro z1 z2 z3 z4 z5 σ H locs ls hI hl hf
    rw [m_X11_give_33] at hf
    refine lv_iload hx hb dX11_give_33 (lv_at hl 5 rfl) ?_
    refine lv_aload_n hx hb dX11_give_35 rfl (lv_at hl 0 rfl) ?_
    refine fm_gr hC hI fd_X11_0 fc_0 fr_0_0 q_205 dX11_give_36 ?_
    refine fm_gi hC hI fd_X10_4 fc_8 q_140 dX11_give_39 ?_
    refine lv_icmp_ge (tgt := 100) hx hb dX11_give_42 (by decide) (fun hc => ?_) (fun hc => ?_)
    · have hf := fm_pT hf hc
      exact hk z1 z2 z3 z4 z5 σ _ _ _ hI (lv_sub hl [0, 1, 2, 3, 4, 5] rfl) hf
    · have hf := fm_pF hf hc
      refine lv_aload_n hx hb dX11_give_45 rfl (lv_at hl 0 rfl) ?_
      obtain ⟨_u10, σ11, hq12, hf⟩ := fm_bE hf
      refine fm_cv hI (fm_runV (As := []) (rest := []) (rm := { frames := 2, cells := 0, slots := 0, locals := 44 }) hC hI (c_X11_startTrial hC.2.2.1 hq12) mV_X11_startTrial q_508 ⟨rfl, rfl⟩ ⟨Nat.le_of_ble_eq_true rfl, Nat.le_of_ble_eq_true rfl⟩ fc_0 rfl (by decide) rfl hl.1 rfl (Nat.le_of_ble_eq_true rfl) dX11_give_46 ⟨Nat.zero_le _, Nat.zero_le _⟩) (fun H locs hI => ?_)
      refine lv_aload_n hx hb dX11_give_49 rfl (lv_at hl 0 rfl) ?_
      refine fm_gr hC hI fd_X11_2 fc_0 fr_0_2 q_207 dX11_give_50 ?_
      refine fm_gr hC hI fd_X10_2 fc_58 fr_58_2 q_135 dX11_give_53 ?_
      refine lv_iload_n hx hb dX11_give_56 rfl (lv_at hl 1 rfl) ?_
      obtain ⟨hg13, hf⟩ := fm_gE hf
      refine fm_aald (t0 := 5) hC hI fc_66 (by decide) (by decide) rfl fl_66 hg13 (fm_T4 (x := z1) fc_58 hg13).2 dX11_give_57 ?_
      refine lv_iload hx hb dX11_give_58 (lv_at hl 5 rfl) ?_
      obtain ⟨σ14, e15, hf⟩ := fm_letE hf
      refine fm_pi hC hI fp_X7_3 (fm_T4 (x := z1) fc_58 hg13).1 ⟨rfl, rfl⟩ e15 q_115 dX11_give_60 (fun H locs hI => ?_)
      refine lv_aload_n hx hb dX11_give_63 rfl (lv_at hl 0 rfl) ?_
      refine fm_gr hC hI fd_X11_2 fc_0 fr_0_2 q_207 dX11_give_64 ?_
      refine lv_iload_n hx hb dX11_give_67 rfl (lv_at hl 2 rfl) ?_
      obtain ⟨_u16, σ17, hq18, hf⟩ := fm_bE hf
      refine fm_cv hI (fm_runV (As := [.int z2]) (rest := []) (rm := { frames := 5, cells := 0, slots := 0, locals := 118 }) hC hI (c_X10_goOn hC.2.2.1 fc_58 hq18) mV_X10_goOn q_460 ⟨rfl, rfl⟩ ⟨Nat.le_of_ble_eq_true rfl, Nat.le_of_ble_eq_true rfl⟩ fc_58 rfl (by decide) rfl hl.1 rfl (Nat.le_of_ble_eq_true rfl) dX11_give_68 ⟨Nat.zero_le _, Nat.zero_le _⟩) (fun H locs hI => ?_)
      refine lv_aload_n hx hb dX11_give_71 rfl (lv_at hl 0 rfl) ?_
      refine fm_gr hC hI fd_X11_2 fc_0 fr_0_2 q_207 dX11_give_72 ?_
      obtain ⟨r19, σ20, hq21, hf⟩ := fm_bE hf
      refine fm_ci hI (fm_runV (As := []) (rest := []) (rm := { frames := 0, cells := 0, slots := 0, locals := 0 }) hC hI (c_X10_joyOfAll hC.2.2.1 fc_58 hq21) mV_X10_joyOfAll q_491 ⟨rfl, rfl⟩ ⟨Nat.le_of_ble_eq_true rfl, Nat.le_of_ble_eq_true rfl⟩ fc_58 rfl (by decide) rfl hl.1 rfl (Nat.le_of_ble_eq_true rfl) dX11_give_75 ⟨Nat.zero_le _, Nat.zero_le _⟩) (fun H locs hI => ?_)
      refine lv_istore (lv' := [(6, .int r19), (0, .ref (G.2.1 0)), (1, .int z1), (2, .int z2), (3, .int z3), (4, .int z4), (5, .int z5)]) hx hb dX11_give_78 hl (Nat.le_of_ble_eq_true rfl) rfl (fun ls hl => ?_)
      refine lv_iload hx hb dX11_give_80 (lv_at hl 0 rfl) ?_
      refine lv_iload hx hb dX11_give_82 (lv_at hl 5 rfl) ?_
      refine lv_icmp_le (tgt := 94) hx hb dX11_give_84 (by decide) (fun hc => ?_) (fun hc => ?_)
      · have hf := fm_pT hf hc
        refine lv_iinc (v := (z5 + (1 : Int32))) (lv' := [(5, .int (z5 + (1 : Int32))), (6, .int r19), (0, .ref (G.2.1 0)), (1, .int z1), (2, .int z2), (3, .int z3), (4, .int z4)]) hx hb dX11_give_94 hl (k := 6) rfl rfl (Nat.le_of_ble_eq_true rfl) rfl (fun ls hl => ?_)
        refine lv_goto (tgt := 33) hx hb dX11_give_97 (by decide) ?_
        exact ih z1 z2 z3 z4 (z5 + (1 : Int32)) σ20 _ _ _ hI (lv_sub hl [2, 3, 4, 5, 6, 0] rfl) hf
      · have hf := fm_pF hf hc
        refine lv_iload hx hb dX11_give_87 (lv_at hl 0 rfl) ?_
        refine lv_istore (lv' := [(4, .int r19), (6, .int r19), (0, .ref (G.2.1 0)), (1, .int z1), (2, .int z2), (3, .int z3), (5, .int z5)]) hx hb dX11_give_89 hl (Nat.le_of_ble_eq_true rfl) rfl (fun ls hl => ?_)
        refine lv_iload hx hb dX11_give_91 (lv_at hl 6 rfl) ?_
        refine lv_istore_n (lv' := [(3, .int z5), (4, .int r19), (6, .int r19), (0, .ref (G.2.1 0)), (1, .int z1), (2, .int z2), (5, .int z5)]) hx hb dX11_give_93 rfl hl (Nat.le_of_ble_eq_true rfl) rfl (fun ls hl => ?_)
        refine lv_iinc (v := (z5 + (1 : Int32))) (lv' := [(5, .int (z5 + (1 : Int32))), (3, .int z5), (4, .int r19), (6, .int r19), (0, .ref (G.2.1 0)), (1, .int z1), (2, .int z2)]) hx hb dX11_give_94 hl (k := 6) rfl rfl (Nat.le_of_ble_eq_true rfl) rfl (fun ls hl => ?_)
        refine lv_goto (tgt := 33) hx hb dX11_give_97 (by decide) ?_
        exact ih z1 z2 z5 r19 (z5 + (1 : Int32)) σ20 _ _ _ hI (lv_sub hl [4, 5, 6, 1, 2, 0] rfl) hf
set_option maxHeartbeats 4000000 in
set_option maxRecDepth 100000 in
theorem c_X11_give {l : Launch} {G : fm_G} (hJ : fm_J G) {a1 : Int32} {a2 : Int32} {σ : fm_M} {o : Int32 × fm_M}  (hf : m_X11_give a1 a2 σ = some o) : Met l yX11_give (fm_w yX11_give cX11_give 7 (some .int)) { frames := 6, cells := 0, slots := 0, locals := 140 } (va_Pc [.ref (G.2.1 0), .int a1, .int a2] (fm_st G σ)) (fm_Qi G o) 0 0 (fm_A G) := by
  refine fm_mth (own := RX11) hJ rfl (by decide +kernel) (Nat.le_of_ble_eq_true rfl) ?_
  intro p e s m below meth c ls hC hr hlk hI hl
  have hx := hC.1.1
  have hb := hC.1.2.1
  have hown := hC.1.2.2.2.1
  have hts := hC.1.2.2.2.2
  have hl : lv_has ls 7 [(0, .ref (G.2.1 0)), (1, .int a1), (2, .int a2)] := hl
  rw [m_X11_give] at hf
  refine lv_aload_n hx hb dX11_give_0 rfl (lv_at hl 0 rfl) ?_
  refine lv_iload_n hx hb dX11_give_1 rfl (lv_at hl 1 rfl) ?_
  obtain ⟨r1, σ2, hq3, hf⟩ := fm_bE hf
  refine fm_ci hI (fm_runV (As := [.int a1]) (rest := []) (rm := { frames := 1, cells := 0, slots := 0, locals := 22 }) hC hI (c_X11_isPresent hC.2.2.1 hq3) mV_X11_isPresent q_274 ⟨rfl, rfl⟩ ⟨Nat.le_of_ble_eq_true rfl, Nat.le_of_ble_eq_true rfl⟩ fc_0 rfl (by decide) rfl hl.1 rfl (Nat.le_of_ble_eq_true rfl) dX11_give_2 ⟨Nat.zero_le _, Nat.zero_le _⟩) (fun H locs hI => ?_)
  refine lv_if_eq (tgt := 18) hx hb dX11_give_5 (by decide) (fun hc => ?_) (fun hc => ?_)
  · have hf := fm_pT hf hc
    refine lv_aload_n hx hb dX11_give_18 rfl (lv_at hl 0 rfl) ?_
    refine lv_ldc (v := (-1000000001 : Int32)) hx hb hown (hts _ q_240) dX11_give_19 ?_
    obtain ⟨r4, σ5, hq6, hf⟩ := fm_bE hf
    refine fm_ci hI (fm_runV (As := [.int (-1000000001 : Int32)]) (rest := []) (rm := { frames := 1, cells := 0, slots := 0, locals := 22 }) hC hI (c_X11_tell hC.2.2.1 hq6) mV_X11_tell q_241 ⟨rfl, rfl⟩ ⟨Nat.le_of_ble_eq_true rfl, Nat.le_of_ble_eq_true rfl⟩ fc_0 rfl (by decide) rfl hl.1 rfl (Nat.le_of_ble_eq_true rfl) dX11_give_21 ⟨Nat.zero_le _, Nat.zero_le _⟩) (fun H locs hI => ?_)
    exact fm_ri hC hI hr hlk hf dX11_give_24
  · have hf := fm_pF hf hc
    refine lv_iload_n hx hb dX11_give_8 rfl (lv_at hl 2 rfl) ?_
    refine lv_iconst (v := (1 : Int32)) hx hb dX11_give_9 (by decide) ?_
    refine lv_bipush (v := (30 : Int32)) hx hb dX11_give_10 (by decide) ?_
    obtain ⟨r7, σ8, hq9, hf⟩ := fm_bE hf
    refine fm_ci hI (fm_runS (As := [.int a2, .int (1 : Int32), .int (30 : Int32)]) (rest := []) (rm := { frames := 0, cells := 0, slots := 0, locals := 0 }) hC hI (c_X11_within hC.2.2.1 hq9) mS_X11_within q_237 ⟨rfl, rfl⟩ ⟨Nat.le_of_ble_eq_true rfl, Nat.le_of_ble_eq_true rfl⟩ rfl hl.1 rfl (Nat.le_of_ble_eq_true rfl) dX11_give_12 ⟨Nat.zero_le _, Nat.zero_le _⟩) (fun H locs hI => ?_)
    refine lv_if_ne (tgt := 25) hx hb dX11_give_15 (by decide) (fun hc => ?_) (fun hc => ?_)
    · have hf := fm_pF hf hc
      refine lv_iconst (v := (0 : Int32)) hx hb dX11_give_25 (by decide) ?_
      refine lv_istore_n (lv' := [(3, .int (0 : Int32)), (0, .ref (G.2.1 0)), (1, .int a1), (2, .int a2)]) hx hb dX11_give_26 rfl hl (Nat.le_of_ble_eq_true rfl) rfl (fun ls hl => ?_)
      refine lv_iconst (v := (-1 : Int32)) hx hb dX11_give_27 (by decide) ?_
      refine lv_istore (lv' := [(4, .int (-1 : Int32)), (3, .int (0 : Int32)), (0, .ref (G.2.1 0)), (1, .int a1), (2, .int a2)]) hx hb dX11_give_28 hl (Nat.le_of_ble_eq_true rfl) rfl (fun ls hl => ?_)
      refine lv_iconst (v := (0 : Int32)) hx hb dX11_give_30 (by decide) ?_
      refine lv_istore (lv' := [(5, .int (0 : Int32)), (4, .int (-1 : Int32)), (3, .int (0 : Int32)), (0, .ref (G.2.1 0)), (1, .int a1), (2, .int a2)]) hx hb dX11_give_31 hl (Nat.le_of_ble_eq_true rfl) rfl (fun ls hl => ?_)
      refine w_X11_give_33 hC hr hlk (fun x1_y22 x2_y22 x3_y22 x4_y22 x5_y22 σ_y22 H locs ls hI hl hf => ?_) fm_fu a1 a2 (0 : Int32) (-1 : Int32) (0 : Int32) σ8 _ _ _ hI (lv_sub hl [3, 4, 5, 2, 1, 0] rfl) hf
      refine lv_iload_n hx hb dX11_give_100 rfl (lv_at hl 3 rfl) ?_
      exact fm_ri hC hI hr hlk hf dX11_give_101
    · have hf := fm_pT hf hc
      refine lv_aload_n hx hb dX11_give_18 rfl (lv_at hl 0 rfl) ?_
      refine lv_ldc (v := (-1000000001 : Int32)) hx hb hown (hts _ q_240) dX11_give_19 ?_
      obtain ⟨r23, σ24, hq25, hf⟩ := fm_bE hf
      refine fm_ci hI (fm_runV (As := [.int (-1000000001 : Int32)]) (rest := []) (rm := { frames := 1, cells := 0, slots := 0, locals := 22 }) hC hI (c_X11_tell hC.2.2.1 hq25) mV_X11_tell q_241 ⟨rfl, rfl⟩ ⟨Nat.le_of_ble_eq_true rfl, Nat.le_of_ble_eq_true rfl⟩ fc_0 rfl (by decide) rfl hl.1 rfl (Nat.le_of_ble_eq_true rfl) dX11_give_21 ⟨Nat.zero_le _, Nat.zero_le _⟩) (fun H locs hI => ?_)
      exact fm_ri hC hI hr hlk hf dX11_give_24
def m_X11_kind_33 (kc : Int32 → Int32 → Int32 → Int32 → Int32 → fm_M → Option (Int32 × fm_M)) : Nat → Int32 → Int32 → Int32 → Int32 → Int32 → fm_M → Option (Int32 × fm_M)
  | 0, _, _, _, _, _, _ => none
  | n + 1, z1, z2, z3, z4, z5, σ => if (6 : Int32) ≤ z5 then (kc z1 z2 z3 z4 z5 σ) else (fm_b (m_X11_startTrial  σ) fun _u10 σ11 => (fm_g (fm_in1 z1 6) (fm_let (fm_sI σ11 (58 + 2 + z1.toNatClampNeg) 0 z5) fun σ14 => (fm_b (m_X10_goOn 58 z2 σ14) fun _u16 σ17 => (fm_g (fm_in1 z1 6) (if (σ17.1 (58 + 2 + z1.toNatClampNeg) 1) ≤ z4 then (m_X11_kind_33 kc n z1 z2 z3 z4 (z5 + (1 : Int32)) σ17) else (m_X11_kind_33 kc n z1 z2 z5 (σ17.1 (58 + 2 + z1.toNatClampNeg) 1) (z5 + (1 : Int32)) σ17)))))))
def m_X11_kind (a1 : Int32) (a2 : Int32) (σ : fm_M) : Option (Int32 × fm_M) := fm_b (m_X11_isPerson a1 σ) fun r1 σ2 => (if r1 = 0 then (fm_b (m_X11_tell (-1000000001 : Int32) σ2) fun r4 σ5 => (some (r4, σ5))) else (fm_b (m_X11_within a2 (1 : Int32) (30 : Int32) σ2) fun r7 σ8 => (if r7 = 0 then (fm_b (m_X11_tell (-1000000001 : Int32) σ8) fun r21 σ22 => (some (r21, σ22))) else (m_X11_kind_33 (fun (x1_y20 : Int32) (x2_y20 : Int32) (x3_y20 : Int32) (x4_y20 : Int32) (x5_y20 : Int32) (σ_y20 : fm_M) => some (x3_y20, σ_y20)) fm_fu a1 a2 (0 : Int32) (-1 : Int32) (0 : Int32) σ8))))
set_option maxHeartbeats 4000000 in
set_option maxRecDepth 100000 in
theorem w_X11_kind_33 {p : Program} {l : Launch} {e : Env} {s : State} {m : MethodId} {args : Array Value} {below : List Frame} {meth : Method} {c : Code} {G : fm_G} {o : Int32 × fm_M} {kc : Int32 → Int32 → Int32 → Int32 → Int32 → fm_M → Option (Int32 × fm_M)} (hC : fm_C G p m c cX11_kind 7 s args RX11) (hr : meth.sig.returnType = (some .int)) (hlk : meth.locks = false) (hk : ∀ (z1 : Int32) (z2 : Int32) (z3 : Int32) (z4 : Int32) (z5 : Int32) (σ : fm_M) (H : Heap) (locs : List Loc) (ls : Array Slot), fm_I G σ s H locs → lv_has ls 7 [(0, .ref (G.2.1 0)), (1, .int z1), (2, .int z2), (3, .int z3), (4, .int z4), (5, .int z5)] → kc z1 z2 z3 z4 z5 σ = some o → W p l e { frames := 6, cells := 0, slots := 0, locals := 140 } s m args below meth c H locs 0 0 (MQ below (fm_Qi G o) args s 0 0 (fm_A G)) (F0 m 100 ls [])) (n : Nat) : ∀ (z1 : Int32) (z2 : Int32) (z3 : Int32) (z4 : Int32) (z5 : Int32) (σ : fm_M) (H : Heap) (locs : List Loc) (ls : Array Slot), fm_I G σ s H locs → lv_has ls 7 [(0, .ref (G.2.1 0)), (1, .int z1), (2, .int z2), (3, .int z3), (4, .int z4), (5, .int z5)] → m_X11_kind_33 kc n z1 z2 z3 z4 z5 σ = some o → W p l e { frames := 6, cells := 0, slots := 0, locals := 140 } s m args below meth c H locs 0 0 (MQ below (fm_Qi G o) args s 0 0 (fm_A G)) (F0 m 33 ls []) := by
  have hx := hC.1.1
  have hb := hC.1.2.1
  have hown := hC.1.2.2.2.1
  have hts := hC.1.2.2.2.2
  induction n with
  | zero =>
    intro z1 z2 z3 z4 z5 σ H locs ls hI hl hf
    cases hf
  | succ n ih =>
    intro z1 z2 z3 z4 z5 σ H locs ls hI hl hf
    rw [m_X11_kind_33] at hf
    refine lv_iload hx hb dX11_kind_33 (lv_at hl 5 rfl) ?_
    refine lv_bipush (v := (6 : Int32)) hx hb dX11_kind_35 (by decide) ?_
    refine lv_icmp_ge (tgt := 100) hx hb dX11_kind_37 (by decide) (fun hc => ?_) (fun hc => ?_)
    · have hf := fm_pT hf hc
      exact hk z1 z2 z3 z4 z5 σ _ _ _ hI (lv_sub hl [0, 1, 2, 3, 4, 5] rfl) hf
    · have hf := fm_pF hf hc
      refine lv_aload_n hx hb dX11_kind_40 rfl (lv_at hl 0 rfl) ?_
      obtain ⟨_u10, σ11, hq12, hf⟩ := fm_bE hf
      refine fm_cv hI (fm_runV (As := []) (rest := []) (rm := { frames := 2, cells := 0, slots := 0, locals := 44 }) hC hI (c_X11_startTrial hC.2.2.1 hq12) mV_X11_startTrial q_508 ⟨rfl, rfl⟩ ⟨Nat.le_of_ble_eq_true rfl, Nat.le_of_ble_eq_true rfl⟩ fc_0 rfl (by decide) rfl hl.1 rfl (Nat.le_of_ble_eq_true rfl) dX11_kind_41 ⟨Nat.zero_le _, Nat.zero_le _⟩) (fun H locs hI => ?_)
      refine lv_aload_n hx hb dX11_kind_44 rfl (lv_at hl 0 rfl) ?_
      refine fm_gr hC hI fd_X11_2 fc_0 fr_0_2 q_207 dX11_kind_45 ?_
      refine fm_gr hC hI fd_X10_1 fc_58 fr_58_1 q_133 dX11_kind_48 ?_
      refine lv_iload_n hx hb dX11_kind_51 rfl (lv_at hl 1 rfl) ?_
      obtain ⟨hg13, hf⟩ := fm_gE hf
      refine fm_aald (t0 := 4) hC hI fc_59 (by decide) (by decide) rfl fl_59 hg13 (fm_T3 (x := z1) fc_58 hg13).2 dX11_kind_52 ?_
      refine lv_iload hx hb dX11_kind_53 (lv_at hl 5 rfl) ?_
      obtain ⟨σ14, e15, hf⟩ := fm_letE hf
      refine fm_pi hC hI fp_X5_0 (fm_T3 (x := z1) fc_58 hg13).1 ⟨rfl, rfl⟩ e15 q_90 dX11_kind_55 (fun H locs hI => ?_)
      refine lv_aload_n hx hb dX11_kind_58 rfl (lv_at hl 0 rfl) ?_
      refine fm_gr hC hI fd_X11_2 fc_0 fr_0_2 q_207 dX11_kind_59 ?_
      refine lv_iload_n hx hb dX11_kind_62 rfl (lv_at hl 2 rfl) ?_
      obtain ⟨_u16, σ17, hq18, hf⟩ := fm_bE hf
      refine fm_cv hI (fm_runV (As := [.int z2]) (rest := []) (rm := { frames := 5, cells := 0, slots := 0, locals := 118 }) hC hI (c_X10_goOn hC.2.2.1 fc_58 hq18) mV_X10_goOn q_460 ⟨rfl, rfl⟩ ⟨Nat.le_of_ble_eq_true rfl, Nat.le_of_ble_eq_true rfl⟩ fc_58 rfl (by decide) rfl hl.1 rfl (Nat.le_of_ble_eq_true rfl) dX11_kind_63 ⟨Nat.zero_le _, Nat.zero_le _⟩) (fun H locs hI => ?_)
      refine lv_aload_n hx hb dX11_kind_66 rfl (lv_at hl 0 rfl) ?_
      refine fm_gr hC hI fd_X11_2 fc_0 fr_0_2 q_207 dX11_kind_67 ?_
      refine fm_gr hC hI fd_X10_1 fc_58 fr_58_1 q_133 dX11_kind_70 ?_
      refine lv_iload_n hx hb dX11_kind_73 rfl (lv_at hl 1 rfl) ?_
      obtain ⟨hg19, hf⟩ := fm_gE hf
      refine fm_aald (t0 := 4) hC hI fc_59 (by decide) (by decide) rfl fl_59 hg19 (fm_T3 (x := z1) fc_58 hg19).2 dX11_kind_74 ?_
      refine fm_gi hC hI fd_X5_1 (fm_T3 (x := z1) fc_58 hg19).1 q_93 dX11_kind_75 ?_
      refine lv_istore (lv' := [(6, .int (σ17.1 (58 + 2 + z1.toNatClampNeg) 1)), (0, .ref (G.2.1 0)), (1, .int z1), (2, .int z2), (3, .int z3), (4, .int z4), (5, .int z5)]) hx hb dX11_kind_78 hl (Nat.le_of_ble_eq_true rfl) rfl (fun ls hl => ?_)
      refine lv_iload hx hb dX11_kind_80 (lv_at hl 0 rfl) ?_
      refine lv_iload hx hb dX11_kind_82 (lv_at hl 5 rfl) ?_
      refine lv_icmp_le (tgt := 94) hx hb dX11_kind_84 (by decide) (fun hc => ?_) (fun hc => ?_)
      · have hf := fm_pT hf hc
        refine lv_iinc (v := (z5 + (1 : Int32))) (lv' := [(5, .int (z5 + (1 : Int32))), (6, .int (σ17.1 (58 + 2 + z1.toNatClampNeg) 1)), (0, .ref (G.2.1 0)), (1, .int z1), (2, .int z2), (3, .int z3), (4, .int z4)]) hx hb dX11_kind_94 hl (k := 6) rfl rfl (Nat.le_of_ble_eq_true rfl) rfl (fun ls hl => ?_)
        refine lv_goto (tgt := 33) hx hb dX11_kind_97 (by decide) ?_
        exact ih z1 z2 z3 z4 (z5 + (1 : Int32)) σ17 _ _ _ hI (lv_sub hl [2, 3, 4, 5, 6, 0] rfl) hf
      · have hf := fm_pF hf hc
        refine lv_iload hx hb dX11_kind_87 (lv_at hl 0 rfl) ?_
        refine lv_istore (lv' := [(4, .int (σ17.1 (58 + 2 + z1.toNatClampNeg) 1)), (6, .int (σ17.1 (58 + 2 + z1.toNatClampNeg) 1)), (0, .ref (G.2.1 0)), (1, .int z1), (2, .int z2), (3, .int z3), (5, .int z5)]) hx hb dX11_kind_89 hl (Nat.le_of_ble_eq_true rfl) rfl (fun ls hl => ?_)
        refine lv_iload hx hb dX11_kind_91 (lv_at hl 6 rfl) ?_
        refine lv_istore_n (lv' := [(3, .int z5), (4, .int (σ17.1 (58 + 2 + z1.toNatClampNeg) 1)), (6, .int (σ17.1 (58 + 2 + z1.toNatClampNeg) 1)), (0, .ref (G.2.1 0)), (1, .int z1), (2, .int z2), (5, .int z5)]) hx hb dX11_kind_93 rfl hl (Nat.le_of_ble_eq_true rfl) rfl (fun ls hl => ?_)
        refine lv_iinc (v := (z5 + (1 : Int32))) (lv' := [(5, .int (z5 + (1 : Int32))), (3, .int z5), (4, .int (σ17.1 (58 + 2 + z1.toNatClampNeg) 1)), (6, .int (σ17.1 (58 + 2 + z1.toNatClampNeg) 1)), (0, .ref (G.2.1 0)), (1, .int z1), (2, .int z2)]) hx hb dX11_kind_94 hl (k := 6) rfl rfl (Nat.le_of_ble_eq_true rfl) rfl (fun ls hl => ?_)
        refine lv_goto (tgt := 33) hx hb dX11_kind_97 (by decide) ?_
        exact ih z1 z2 z5 (σ17.1 (58 + 2 + z1.toNatClampNeg) 1) (z5 + (1 : Int32)) σ17 _ _ _ hI (lv_sub hl [4, 5, 6, 1, 2, 0] rfl) hf
set_option maxHeartbeats 4000000 in
set_option maxRecDepth 100000 in
theorem c_X11_kind {l : Launch} {G : fm_G} (hJ : fm_J G) {a1 : Int32} {a2 : Int32} {σ : fm_M} {o : Int32 × fm_M}  (hf : m_X11_kind a1 a2 σ = some o) : Met l yX11_kind (fm_w yX11_kind cX11_kind 7 (some .int)) { frames := 6, cells := 0, slots := 0, locals := 140 } (va_Pc [.ref (G.2.1 0), .int a1, .int a2] (fm_st G σ)) (fm_Qi G o) 0 0 (fm_A G) := by
  refine fm_mth (own := RX11) hJ rfl (by decide +kernel) (Nat.le_of_ble_eq_true rfl) ?_
  intro p e s m below meth c ls hC hr hlk hI hl
  have hx := hC.1.1
  have hb := hC.1.2.1
  have hown := hC.1.2.2.2.1
  have hts := hC.1.2.2.2.2
  have hl : lv_has ls 7 [(0, .ref (G.2.1 0)), (1, .int a1), (2, .int a2)] := hl
  rw [m_X11_kind] at hf
  refine lv_aload_n hx hb dX11_kind_0 rfl (lv_at hl 0 rfl) ?_
  refine lv_iload_n hx hb dX11_kind_1 rfl (lv_at hl 1 rfl) ?_
  obtain ⟨r1, σ2, hq3, hf⟩ := fm_bE hf
  refine fm_ci hI (fm_runV (As := [.int a1]) (rest := []) (rm := { frames := 1, cells := 0, slots := 0, locals := 22 }) hC hI (c_X11_isPerson hC.2.2.1 hq3) mV_X11_isPerson q_254 ⟨rfl, rfl⟩ ⟨Nat.le_of_ble_eq_true rfl, Nat.le_of_ble_eq_true rfl⟩ fc_0 rfl (by decide) rfl hl.1 rfl (Nat.le_of_ble_eq_true rfl) dX11_kind_2 ⟨Nat.zero_le _, Nat.zero_le _⟩) (fun H locs hI => ?_)
  refine lv_if_eq (tgt := 18) hx hb dX11_kind_5 (by decide) (fun hc => ?_) (fun hc => ?_)
  · have hf := fm_pT hf hc
    refine lv_aload_n hx hb dX11_kind_18 rfl (lv_at hl 0 rfl) ?_
    refine lv_ldc (v := (-1000000001 : Int32)) hx hb hown (hts _ q_240) dX11_kind_19 ?_
    obtain ⟨r4, σ5, hq6, hf⟩ := fm_bE hf
    refine fm_ci hI (fm_runV (As := [.int (-1000000001 : Int32)]) (rest := []) (rm := { frames := 1, cells := 0, slots := 0, locals := 22 }) hC hI (c_X11_tell hC.2.2.1 hq6) mV_X11_tell q_241 ⟨rfl, rfl⟩ ⟨Nat.le_of_ble_eq_true rfl, Nat.le_of_ble_eq_true rfl⟩ fc_0 rfl (by decide) rfl hl.1 rfl (Nat.le_of_ble_eq_true rfl) dX11_kind_21 ⟨Nat.zero_le _, Nat.zero_le _⟩) (fun H locs hI => ?_)
    exact fm_ri hC hI hr hlk hf dX11_kind_24
  · have hf := fm_pF hf hc
    refine lv_iload_n hx hb dX11_kind_8 rfl (lv_at hl 2 rfl) ?_
    refine lv_iconst (v := (1 : Int32)) hx hb dX11_kind_9 (by decide) ?_
    refine lv_bipush (v := (30 : Int32)) hx hb dX11_kind_10 (by decide) ?_
    obtain ⟨r7, σ8, hq9, hf⟩ := fm_bE hf
    refine fm_ci hI (fm_runS (As := [.int a2, .int (1 : Int32), .int (30 : Int32)]) (rest := []) (rm := { frames := 0, cells := 0, slots := 0, locals := 0 }) hC hI (c_X11_within hC.2.2.1 hq9) mS_X11_within q_237 ⟨rfl, rfl⟩ ⟨Nat.le_of_ble_eq_true rfl, Nat.le_of_ble_eq_true rfl⟩ rfl hl.1 rfl (Nat.le_of_ble_eq_true rfl) dX11_kind_12 ⟨Nat.zero_le _, Nat.zero_le _⟩) (fun H locs hI => ?_)
    refine lv_if_ne (tgt := 25) hx hb dX11_kind_15 (by decide) (fun hc => ?_) (fun hc => ?_)
    · have hf := fm_pF hf hc
      refine lv_iconst (v := (0 : Int32)) hx hb dX11_kind_25 (by decide) ?_
      refine lv_istore_n (lv' := [(3, .int (0 : Int32)), (0, .ref (G.2.1 0)), (1, .int a1), (2, .int a2)]) hx hb dX11_kind_26 rfl hl (Nat.le_of_ble_eq_true rfl) rfl (fun ls hl => ?_)
      refine lv_iconst (v := (-1 : Int32)) hx hb dX11_kind_27 (by decide) ?_
      refine lv_istore (lv' := [(4, .int (-1 : Int32)), (3, .int (0 : Int32)), (0, .ref (G.2.1 0)), (1, .int a1), (2, .int a2)]) hx hb dX11_kind_28 hl (Nat.le_of_ble_eq_true rfl) rfl (fun ls hl => ?_)
      refine lv_iconst (v := (0 : Int32)) hx hb dX11_kind_30 (by decide) ?_
      refine lv_istore (lv' := [(5, .int (0 : Int32)), (4, .int (-1 : Int32)), (3, .int (0 : Int32)), (0, .ref (G.2.1 0)), (1, .int a1), (2, .int a2)]) hx hb dX11_kind_31 hl (Nat.le_of_ble_eq_true rfl) rfl (fun ls hl => ?_)
      refine w_X11_kind_33 hC hr hlk (fun x1_y20 x2_y20 x3_y20 x4_y20 x5_y20 σ_y20 H locs ls hI hl hf => ?_) fm_fu a1 a2 (0 : Int32) (-1 : Int32) (0 : Int32) σ8 _ _ _ hI (lv_sub hl [3, 4, 5, 2, 1, 0] rfl) hf
      refine lv_iload_n hx hb dX11_kind_100 rfl (lv_at hl 3 rfl) ?_
      exact fm_ri hC hI hr hlk hf dX11_kind_101
    · have hf := fm_pT hf hc
      refine lv_aload_n hx hb dX11_kind_18 rfl (lv_at hl 0 rfl) ?_
      refine lv_ldc (v := (-1000000001 : Int32)) hx hb hown (hts _ q_240) dX11_kind_19 ?_
      obtain ⟨r21, σ22, hq23, hf⟩ := fm_bE hf
      refine fm_ci hI (fm_runV (As := [.int (-1000000001 : Int32)]) (rest := []) (rm := { frames := 1, cells := 0, slots := 0, locals := 22 }) hC hI (c_X11_tell hC.2.2.1 hq23) mV_X11_tell q_241 ⟨rfl, rfl⟩ ⟨Nat.le_of_ble_eq_true rfl, Nat.le_of_ble_eq_true rfl⟩ fc_0 rfl (by decide) rfl hl.1 rfl (Nat.le_of_ble_eq_true rfl) dX11_kind_21 ⟨Nat.zero_le _, Nat.zero_le _⟩) (fun H locs hI => ?_)
      exact fm_ri hC hI hr hlk hf dX11_kind_24
def m_X11_least_48 (kc : Int32 → Int32 → Int32 → Int32 → Int32 → fm_M → Option (Int32 × fm_M)) : Nat → Int32 → Int32 → Int32 → Int32 → Int32 → fm_M → Option (Int32 × fm_M)
  | 0, _, _, _, _, _, _ => none
  | n + 1, z1, z2, z3, z4, z5, σ => if (99 : Int32) < z5 then (kc z1 z2 z3 z4 z5 σ) else (fm_b (m_X11_startTrial  σ) fun _u22 σ23 => (fm_g (fm_in1 z1 8) (fm_let (fm_sI σ23 (58 + 9 + 2 * z1.toNatClampNeg) 2 z5) fun σ26 => (fm_b (m_X10_goOn 58 z3 σ26) fun _u28 σ29 => (fm_g (fm_in1 z2 6) (if (σ29.1 (58 + 2 + z2.toNatClampNeg) 1) < z4 then (m_X11_least_48 kc n z1 z2 z3 z4 (z5 + (1 : Int32)) σ29) else (some (z5, σ29))))))))
def m_X11_least (a1 : Int32) (a2 : Int32) (a3 : Int32) (a4 : Int32) (σ : fm_M) : Option (Int32 × fm_M) := fm_b (m_X11_isPresent a1 σ) fun r1 σ2 => (if r1 = 0 then (fm_b (m_X11_tell (-1000000001 : Int32) σ2) fun r4 σ5 => (some (r4, σ5))) else (fm_b (m_X11_isPerson a2 σ2) fun r7 σ8 => (if r7 = 0 then (fm_b (m_X11_tell (-1000000001 : Int32) σ8) fun r10 σ11 => (some (r10, σ11))) else (fm_b (m_X11_within a3 (1 : Int32) (30 : Int32) σ8) fun r13 σ14 => (if r13 = 0 then (fm_b (m_X11_tell (-1000000001 : Int32) σ14) fun r16 σ17 => (some (r16, σ17))) else (fm_b (m_X11_within a4 (0 : Int32) (9999 : Int32) σ14) fun r19 σ20 => (if r19 = 0 then (fm_b (m_X11_tell (-1000000001 : Int32) σ20) fun r36 σ37 => (some (r36, σ37))) else (m_X11_least_48 (fun (x1_y32 : Int32) (x2_y32 : Int32) (x3_y32 : Int32) (x4_y32 : Int32) (x5_y32 : Int32) (σ_y32 : fm_M) => fm_b (m_X11_tell (-1000000004 : Int32) σ_y32) fun r33 σ34 => (some (r33, σ34))) fm_fu a1 a2 a3 a4 (0 : Int32) σ20))))))))
set_option maxHeartbeats 4000000 in
set_option maxRecDepth 100000 in
theorem w_X11_least_48 {p : Program} {l : Launch} {e : Env} {s : State} {m : MethodId} {args : Array Value} {below : List Frame} {meth : Method} {c : Code} {G : fm_G} {o : Int32 × fm_M} {kc : Int32 → Int32 → Int32 → Int32 → Int32 → fm_M → Option (Int32 × fm_M)} (hC : fm_C G p m c cX11_least 6 s args RX11) (hr : meth.sig.returnType = (some .int)) (hlk : meth.locks = false) (hk : ∀ (z1 : Int32) (z2 : Int32) (z3 : Int32) (z4 : Int32) (z5 : Int32) (σ : fm_M) (H : Heap) (locs : List Loc) (ls : Array Slot), fm_I G σ s H locs → lv_has ls 6 [(0, .ref (G.2.1 0)), (1, .int z1), (2, .int z2), (3, .int z3), (4, .int z4), (5, .int z5)] → kc z1 z2 z3 z4 z5 σ = some o → W p l e { frames := 6, cells := 0, slots := 0, locals := 140 } s m args below meth c H locs 0 0 (MQ below (fm_Qi G o) args s 0 0 (fm_A G)) (F0 m 107 ls [])) (n : Nat) : ∀ (z1 : Int32) (z2 : Int32) (z3 : Int32) (z4 : Int32) (z5 : Int32) (σ : fm_M) (H : Heap) (locs : List Loc) (ls : Array Slot), fm_I G σ s H locs → lv_has ls 6 [(0, .ref (G.2.1 0)), (1, .int z1), (2, .int z2), (3, .int z3), (4, .int z4), (5, .int z5)] → m_X11_least_48 kc n z1 z2 z3 z4 z5 σ = some o → W p l e { frames := 6, cells := 0, slots := 0, locals := 140 } s m args below meth c H locs 0 0 (MQ below (fm_Qi G o) args s 0 0 (fm_A G)) (F0 m 48 ls []) := by
  have hx := hC.1.1
  have hb := hC.1.2.1
  have hown := hC.1.2.2.2.1
  have hts := hC.1.2.2.2.2
  induction n with
  | zero =>
    intro z1 z2 z3 z4 z5 σ H locs ls hI hl hf
    cases hf
  | succ n ih =>
    intro z1 z2 z3 z4 z5 σ H locs ls hI hl hf
    rw [m_X11_least_48] at hf
    refine lv_iload hx hb dX11_least_48 (lv_at hl 5 rfl) ?_
    refine lv_bipush (v := (99 : Int32)) hx hb dX11_least_50 (by decide) ?_
    refine lv_icmp_gt (tgt := 107) hx hb dX11_least_52 (by decide) (fun hc => ?_) (fun hc => ?_)
    · have hf := fm_pT hf hc
      exact hk z1 z2 z3 z4 z5 σ _ _ _ hI (lv_sub hl [0, 1, 2, 3, 4, 5] rfl) hf
    · have hf := fm_pF hf hc
      refine lv_aload_n hx hb dX11_least_55 rfl (lv_at hl 0 rfl) ?_
      obtain ⟨_u22, σ23, hq24, hf⟩ := fm_bE hf
      refine fm_cv hI (fm_runV (As := []) (rest := []) (rm := { frames := 2, cells := 0, slots := 0, locals := 44 }) hC hI (c_X11_startTrial hC.2.2.1 hq24) mV_X11_startTrial q_508 ⟨rfl, rfl⟩ ⟨Nat.le_of_ble_eq_true rfl, Nat.le_of_ble_eq_true rfl⟩ fc_0 rfl (by decide) rfl hl.1 rfl (Nat.le_of_ble_eq_true rfl) dX11_least_56 ⟨Nat.zero_le _, Nat.zero_le _⟩) (fun H locs hI => ?_)
      refine lv_aload_n hx hb dX11_least_59 rfl (lv_at hl 0 rfl) ?_
      refine fm_gr hC hI fd_X11_2 fc_0 fr_0_2 q_207 dX11_least_60 ?_
      refine fm_gr hC hI fd_X10_2 fc_58 fr_58_2 q_135 dX11_least_63 ?_
      refine lv_iload_n hx hb dX11_least_66 rfl (lv_at hl 1 rfl) ?_
      obtain ⟨hg25, hf⟩ := fm_gE hf
      refine fm_aald (t0 := 5) hC hI fc_66 (by decide) (by decide) rfl fl_66 hg25 (fm_T4 (x := z1) fc_58 hg25).2 dX11_least_67 ?_
      refine lv_iload hx hb dX11_least_68 (lv_at hl 5 rfl) ?_
      obtain ⟨σ26, e27, hf⟩ := fm_letE hf
      refine fm_pi hC hI fp_X7_2 (fm_T4 (x := z1) fc_58 hg25).1 ⟨rfl, rfl⟩ e27 q_111 dX11_least_70 (fun H locs hI => ?_)
      refine lv_aload_n hx hb dX11_least_73 rfl (lv_at hl 0 rfl) ?_
      refine fm_gr hC hI fd_X11_2 fc_0 fr_0_2 q_207 dX11_least_74 ?_
      refine lv_iload_n hx hb dX11_least_77 rfl (lv_at hl 3 rfl) ?_
      obtain ⟨_u28, σ29, hq30, hf⟩ := fm_bE hf
      refine fm_cv hI (fm_runV (As := [.int z3]) (rest := []) (rm := { frames := 5, cells := 0, slots := 0, locals := 118 }) hC hI (c_X10_goOn hC.2.2.1 fc_58 hq30) mV_X10_goOn q_460 ⟨rfl, rfl⟩ ⟨Nat.le_of_ble_eq_true rfl, Nat.le_of_ble_eq_true rfl⟩ fc_58 rfl (by decide) rfl hl.1 rfl (Nat.le_of_ble_eq_true rfl) dX11_least_78 ⟨Nat.zero_le _, Nat.zero_le _⟩) (fun H locs hI => ?_)
      refine lv_aload_n hx hb dX11_least_81 rfl (lv_at hl 0 rfl) ?_
      refine fm_gr hC hI fd_X11_2 fc_0 fr_0_2 q_207 dX11_least_82 ?_
      refine fm_gr hC hI fd_X10_1 fc_58 fr_58_1 q_133 dX11_least_85 ?_
      refine lv_iload_n hx hb dX11_least_88 rfl (lv_at hl 2 rfl) ?_
      obtain ⟨hg31, hf⟩ := fm_gE hf
      refine fm_aald (t0 := 4) hC hI fc_59 (by decide) (by decide) rfl fl_59 hg31 (fm_T3 (x := z2) fc_58 hg31).2 dX11_least_89 ?_
      refine fm_gi hC hI fd_X5_1 (fm_T3 (x := z2) fc_58 hg31).1 q_93 dX11_least_90 ?_
      refine lv_iload hx hb dX11_least_93 (lv_at hl 4 rfl) ?_
      refine lv_icmp_lt (tgt := 101) hx hb dX11_least_95 (by decide) (fun hc => ?_) (fun hc => ?_)
      · have hf := fm_pT hf hc
        refine lv_iinc (v := (z5 + (1 : Int32))) (lv' := [(5, .int (z5 + (1 : Int32))), (0, .ref (G.2.1 0)), (1, .int z1), (2, .int z2), (3, .int z3), (4, .int z4)]) hx hb dX11_least_101 hl (k := 5) rfl rfl (Nat.le_of_ble_eq_true rfl) rfl (fun ls hl => ?_)
        refine lv_goto (tgt := 48) hx hb dX11_least_104 (by decide) ?_
        exact ih z1 z2 z3 z4 (z5 + (1 : Int32)) σ29 _ _ _ hI (lv_sub hl [1, 2, 3, 4, 5, 0] rfl) hf
      · have hf := fm_pF hf hc
        refine lv_iload hx hb dX11_least_98 (lv_at hl 5 rfl) ?_
        exact fm_ri hC hI hr hlk hf dX11_least_100
set_option maxHeartbeats 4000000 in
set_option maxRecDepth 100000 in
theorem c_X11_least {l : Launch} {G : fm_G} (hJ : fm_J G) {a1 : Int32} {a2 : Int32} {a3 : Int32} {a4 : Int32} {σ : fm_M} {o : Int32 × fm_M}  (hf : m_X11_least a1 a2 a3 a4 σ = some o) : Met l yX11_least (fm_w yX11_least cX11_least 6 (some .int)) { frames := 6, cells := 0, slots := 0, locals := 140 } (va_Pc [.ref (G.2.1 0), .int a1, .int a2, .int a3, .int a4] (fm_st G σ)) (fm_Qi G o) 0 0 (fm_A G) := by
  refine fm_mth (own := RX11) hJ rfl (by decide +kernel) (Nat.le_of_ble_eq_true rfl) ?_
  intro p e s m below meth c ls hC hr hlk hI hl
  have hx := hC.1.1
  have hb := hC.1.2.1
  have hown := hC.1.2.2.2.1
  have hts := hC.1.2.2.2.2
  have hl : lv_has ls 6 [(0, .ref (G.2.1 0)), (1, .int a1), (2, .int a2), (3, .int a3), (4, .int a4)] := hl
  rw [m_X11_least] at hf
  refine lv_aload_n hx hb dX11_least_0 rfl (lv_at hl 0 rfl) ?_
  refine lv_iload_n hx hb dX11_least_1 rfl (lv_at hl 1 rfl) ?_
  obtain ⟨r1, σ2, hq3, hf⟩ := fm_bE hf
  refine fm_ci hI (fm_runV (As := [.int a1]) (rest := []) (rm := { frames := 1, cells := 0, slots := 0, locals := 22 }) hC hI (c_X11_isPresent hC.2.2.1 hq3) mV_X11_isPresent q_274 ⟨rfl, rfl⟩ ⟨Nat.le_of_ble_eq_true rfl, Nat.le_of_ble_eq_true rfl⟩ fc_0 rfl (by decide) rfl hl.1 rfl (Nat.le_of_ble_eq_true rfl) dX11_least_2 ⟨Nat.zero_le _, Nat.zero_le _⟩) (fun H locs hI => ?_)
  refine lv_if_eq (tgt := 38) hx hb dX11_least_5 (by decide) (fun hc => ?_) (fun hc => ?_)
  · have hf := fm_pT hf hc
    refine lv_aload_n hx hb dX11_least_38 rfl (lv_at hl 0 rfl) ?_
    refine lv_ldc (v := (-1000000001 : Int32)) hx hb hown (hts _ q_240) dX11_least_39 ?_
    obtain ⟨r4, σ5, hq6, hf⟩ := fm_bE hf
    refine fm_ci hI (fm_runV (As := [.int (-1000000001 : Int32)]) (rest := []) (rm := { frames := 1, cells := 0, slots := 0, locals := 22 }) hC hI (c_X11_tell hC.2.2.1 hq6) mV_X11_tell q_241 ⟨rfl, rfl⟩ ⟨Nat.le_of_ble_eq_true rfl, Nat.le_of_ble_eq_true rfl⟩ fc_0 rfl (by decide) rfl hl.1 rfl (Nat.le_of_ble_eq_true rfl) dX11_least_41 ⟨Nat.zero_le _, Nat.zero_le _⟩) (fun H locs hI => ?_)
    exact fm_ri hC hI hr hlk hf dX11_least_44
  · have hf := fm_pF hf hc
    refine lv_aload_n hx hb dX11_least_8 rfl (lv_at hl 0 rfl) ?_
    refine lv_iload_n hx hb dX11_least_9 rfl (lv_at hl 2 rfl) ?_
    obtain ⟨r7, σ8, hq9, hf⟩ := fm_bE hf
    refine fm_ci hI (fm_runV (As := [.int a2]) (rest := []) (rm := { frames := 1, cells := 0, slots := 0, locals := 22 }) hC hI (c_X11_isPerson hC.2.2.1 hq9) mV_X11_isPerson q_254 ⟨rfl, rfl⟩ ⟨Nat.le_of_ble_eq_true rfl, Nat.le_of_ble_eq_true rfl⟩ fc_0 rfl (by decide) rfl hl.1 rfl (Nat.le_of_ble_eq_true rfl) dX11_least_10 ⟨Nat.zero_le _, Nat.zero_le _⟩) (fun H locs hI => ?_)
    refine lv_if_eq (tgt := 38) hx hb dX11_least_13 (by decide) (fun hc => ?_) (fun hc => ?_)
    · have hf := fm_pT hf hc
      refine lv_aload_n hx hb dX11_least_38 rfl (lv_at hl 0 rfl) ?_
      refine lv_ldc (v := (-1000000001 : Int32)) hx hb hown (hts _ q_240) dX11_least_39 ?_
      obtain ⟨r10, σ11, hq12, hf⟩ := fm_bE hf
      refine fm_ci hI (fm_runV (As := [.int (-1000000001 : Int32)]) (rest := []) (rm := { frames := 1, cells := 0, slots := 0, locals := 22 }) hC hI (c_X11_tell hC.2.2.1 hq12) mV_X11_tell q_241 ⟨rfl, rfl⟩ ⟨Nat.le_of_ble_eq_true rfl, Nat.le_of_ble_eq_true rfl⟩ fc_0 rfl (by decide) rfl hl.1 rfl (Nat.le_of_ble_eq_true rfl) dX11_least_41 ⟨Nat.zero_le _, Nat.zero_le _⟩) (fun H locs hI => ?_)
      exact fm_ri hC hI hr hlk hf dX11_least_44
    · have hf := fm_pF hf hc
      refine lv_iload_n hx hb dX11_least_16 rfl (lv_at hl 3 rfl) ?_
      refine lv_iconst (v := (1 : Int32)) hx hb dX11_least_17 (by decide) ?_
      refine lv_bipush (v := (30 : Int32)) hx hb dX11_least_18 (by decide) ?_
      obtain ⟨r13, σ14, hq15, hf⟩ := fm_bE hf
      refine fm_ci hI (fm_runS (As := [.int a3, .int (1 : Int32), .int (30 : Int32)]) (rest := []) (rm := { frames := 0, cells := 0, slots := 0, locals := 0 }) hC hI (c_X11_within hC.2.2.1 hq15) mS_X11_within q_237 ⟨rfl, rfl⟩ ⟨Nat.le_of_ble_eq_true rfl, Nat.le_of_ble_eq_true rfl⟩ rfl hl.1 rfl (Nat.le_of_ble_eq_true rfl) dX11_least_20 ⟨Nat.zero_le _, Nat.zero_le _⟩) (fun H locs hI => ?_)
      refine lv_if_eq (tgt := 38) hx hb dX11_least_23 (by decide) (fun hc => ?_) (fun hc => ?_)
      · have hf := fm_pT hf hc
        refine lv_aload_n hx hb dX11_least_38 rfl (lv_at hl 0 rfl) ?_
        refine lv_ldc (v := (-1000000001 : Int32)) hx hb hown (hts _ q_240) dX11_least_39 ?_
        obtain ⟨r16, σ17, hq18, hf⟩ := fm_bE hf
        refine fm_ci hI (fm_runV (As := [.int (-1000000001 : Int32)]) (rest := []) (rm := { frames := 1, cells := 0, slots := 0, locals := 22 }) hC hI (c_X11_tell hC.2.2.1 hq18) mV_X11_tell q_241 ⟨rfl, rfl⟩ ⟨Nat.le_of_ble_eq_true rfl, Nat.le_of_ble_eq_true rfl⟩ fc_0 rfl (by decide) rfl hl.1 rfl (Nat.le_of_ble_eq_true rfl) dX11_least_41 ⟨Nat.zero_le _, Nat.zero_le _⟩) (fun H locs hI => ?_)
        exact fm_ri hC hI hr hlk hf dX11_least_44
      · have hf := fm_pF hf hc
        refine lv_iload hx hb dX11_least_26 (lv_at hl 4 rfl) ?_
        refine lv_iconst (v := (0 : Int32)) hx hb dX11_least_28 (by decide) ?_
        refine lv_sipush (v := (9999 : Int32)) hx hb dX11_least_29 (by decide) ?_
        obtain ⟨r19, σ20, hq21, hf⟩ := fm_bE hf
        refine fm_ci hI (fm_runS (As := [.int a4, .int (0 : Int32), .int (9999 : Int32)]) (rest := []) (rm := { frames := 0, cells := 0, slots := 0, locals := 0 }) hC hI (c_X11_within hC.2.2.1 hq21) mS_X11_within q_237 ⟨rfl, rfl⟩ ⟨Nat.le_of_ble_eq_true rfl, Nat.le_of_ble_eq_true rfl⟩ rfl hl.1 rfl (Nat.le_of_ble_eq_true rfl) dX11_least_32 ⟨Nat.zero_le _, Nat.zero_le _⟩) (fun H locs hI => ?_)
        refine lv_if_ne (tgt := 45) hx hb dX11_least_35 (by decide) (fun hc => ?_) (fun hc => ?_)
        · have hf := fm_pF hf hc
          refine lv_iconst (v := (0 : Int32)) hx hb dX11_least_45 (by decide) ?_
          refine lv_istore (lv' := [(5, .int (0 : Int32)), (0, .ref (G.2.1 0)), (1, .int a1), (2, .int a2), (3, .int a3), (4, .int a4)]) hx hb dX11_least_46 hl (Nat.le_of_ble_eq_true rfl) rfl (fun ls hl => ?_)
          refine w_X11_least_48 hC hr hlk (fun x1_y32 x2_y32 x3_y32 x4_y32 x5_y32 σ_y32 H locs ls hI hl hf => ?_) fm_fu a1 a2 a3 a4 (0 : Int32) σ20 _ _ _ hI (lv_sub hl [1, 2, 3, 4, 5, 0] rfl) hf
          refine lv_aload_n hx hb dX11_least_107 rfl (lv_at hl 0 rfl) ?_
          refine lv_ldc (v := (-1000000004 : Int32)) hx hb hown (hts _ q_282) dX11_least_108 ?_
          obtain ⟨r33, σ34, hq35, hf⟩ := fm_bE hf
          refine fm_ci hI (fm_runV (As := [.int (-1000000004 : Int32)]) (rest := []) (rm := { frames := 1, cells := 0, slots := 0, locals := 22 }) hC hI (c_X11_tell hC.2.2.1 hq35) mV_X11_tell q_241 ⟨rfl, rfl⟩ ⟨Nat.le_of_ble_eq_true rfl, Nat.le_of_ble_eq_true rfl⟩ fc_0 rfl (by decide) rfl hl.1 rfl (Nat.le_of_ble_eq_true rfl) dX11_least_110 ⟨Nat.zero_le _, Nat.zero_le _⟩) (fun H locs hI => ?_)
          exact fm_ri hC hI hr hlk hf dX11_least_113
        · have hf := fm_pT hf hc
          refine lv_aload_n hx hb dX11_least_38 rfl (lv_at hl 0 rfl) ?_
          refine lv_ldc (v := (-1000000001 : Int32)) hx hb hown (hts _ q_240) dX11_least_39 ?_
          obtain ⟨r36, σ37, hq38, hf⟩ := fm_bE hf
          refine fm_ci hI (fm_runV (As := [.int (-1000000001 : Int32)]) (rest := []) (rm := { frames := 1, cells := 0, slots := 0, locals := 22 }) hC hI (c_X11_tell hC.2.2.1 hq38) mV_X11_tell q_241 ⟨rfl, rfl⟩ ⟨Nat.le_of_ble_eq_true rfl, Nat.le_of_ble_eq_true rfl⟩ fc_0 rfl (by decide) rfl hl.1 rfl (Nat.le_of_ble_eq_true rfl) dX11_least_41 ⟨Nat.zero_le _, Nat.zero_le _⟩) (fun H locs hI => ?_)
          exact fm_ri hC hI hr hlk hf dX11_least_44
