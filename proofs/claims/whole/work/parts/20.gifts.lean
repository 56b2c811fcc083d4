def m_X4_opens (a0 : Nat) (a1 : Int32) (a2 : Int32) (a3 : Int32) (σ : fm_M) : Option (Int32 × fm_M) := some ((1 : Int32), σ)
set_option maxHeartbeats 4000000 in
set_option maxRecDepth 100000 in
theorem c_X4_opens {l : Launch} {G : fm_G} (hJ : fm_J G) {a0 : Nat} {a1 : Int32} {a2 : Int32} {a3 : Int32} {σ : fm_M} {o : Int32 × fm_M} (h0 : fm_man a0) (hf : m_X4_opens a0 a1 a2 a3 σ = some o) : Met l yX4_opens (fm_w yX4_opens cX4_opens 4 (some .int)) { frames := 0, cells := 0, slots := 0, locals := 0 } (va_Pc [.ref (G.2.1 a0), .int a1, .int a2, .int a3] (fm_st G σ)) (fm_Qi G o) 0 0 (fm_A G) := by
  refine fm_mth (own := RX4) hJ rfl (by decide +kernel) (Nat.le_of_ble_eq_true rfl) ?_
  intro p e s m below meth c ls hC hr hlk hI hl
  have hx := hC.1.1
  have hb := hC.1.2.1
  have hown := hC.1.2.2.2.1
  have hts := hC.1.2.2.2.2
  have hl : lv_has ls 4 [(0, .ref (G.2.1 a0)), (1, .int a1), (2, .int a2), (3, .int a3)] := hl
  rw [m_X4_opens] at hf
  refine lv_iconst (v := (1 : Int32)) hx hb dX4_opens_0 (by decide) ?_
  exact fm_ri hC hI hr hlk hf dX4_opens_1
def m_X4_enjoys (a0 : Nat) (a1 : Int32) (σ : fm_M) : Option (Int32 × fm_M) := some ((a1 + (1 : Int32)), σ)
set_option maxHeartbeats 4000000 in
set_option maxRecDepth 100000 in
theorem c_X4_enjoys {l : Launch} {G : fm_G} (hJ : fm_J G) {a0 : Nat} {a1 : Int32} {σ : fm_M} {o : Int32 × fm_M} (h0 : fm_man a0) (hf : m_X4_enjoys a0 a1 σ = some o) : Met l yX4_enjoys (fm_w yX4_enjoys cX4_enjoys 2 (some .int)) { frames := 0, cells := 0, slots := 0, locals := 0 } (va_Pc [.ref (G.2.1 a0), .int a1] (fm_st G σ)) (fm_Qi G o) 0 0 (fm_A G) := by
  refine fm_mth (own := RX4) hJ rfl (by decide +kernel) (Nat.le_of_ble_eq_true rfl) ?_
  intro p e s m below meth c ls hC hr hlk hI hl
  have hx := hC.1.1
  have hb := hC.1.2.1
  have hown := hC.1.2.2.2.1
  have hts := hC.1.2.2.2.2
  have hl : lv_has ls 2 [(0, .ref (G.2.1 a0)), (1, .int a1)] := hl
  rw [m_X4_enjoys] at hf
  refine lv_iload_n hx hb dX4_enjoys_0 rfl (lv_at hl 1 rfl) ?_
  refine lv_iconst (v := (1 : Int32)) hx hb dX4_enjoys_1 (by decide) ?_
  refine lv_iadd hx hb dX4_enjoys_2 ?_
  exact fm_ri hC hI hr hlk hf dX4_enjoys_3
def m_X4_isStruck (a0 : Nat) (a1 : Int32) (σ : fm_M) : Option (Int32 × fm_M) := some (a1, σ)
set_option maxHeartbeats 4000000 in
set_option maxRecDepth 100000 in
theorem c_X4_isStruck {l : Launch} {G : fm_G} (hJ : fm_J G) {a0 : Nat} {a1 : Int32} {σ : fm_M} {o : Int32 × fm_M} (h0 : fm_man a0) (hf : m_X4_isStruck a0 a1 σ = some o) : Met l yX4_isStruck (fm_w yX4_isStruck cX4_isStruck 2 (some .int)) { frames := 0, cells := 0, slots := 0, locals := 0 } (va_Pc [.ref (G.2.1 a0), .int a1] (fm_st G σ)) (fm_Qi G o) 0 0 (fm_A G) := by
  refine fm_mth (own := RX4) hJ rfl (by decide +kernel) (Nat.le_of_ble_eq_true rfl) ?_
  intro p e s m below meth c ls hC hr hlk hI hl
  have hx := hC.1.1
  have hb := hC.1.2.1
  have hown := hC.1.2.2.2.1
  have hts := hC.1.2.2.2.2
  have hl : lv_has ls 2 [(0, .ref (G.2.1 a0)), (1, .int a1)] := hl
  rw [m_X4_isStruck] at hf
  refine lv_iload_n hx hb dX4_isStruck_0 rfl (lv_at hl 1 rfl) ?_
  exact fm_ri hC hI hr hlk hf dX4_isStruck_1
def m_X4_passesOn (a0 : Nat) (a1 : Int32) (a2 : Int32) (σ : fm_M) : Option (Int32 × fm_M) := if a1 < (4 : Int32) then (some ((-1 : Int32), σ)) else (some (a2, σ))
set_option maxHeartbeats 4000000 in
set_option maxRecDepth 100000 in
theorem c_X4_passesOn {l : Launch} {G : fm_G} (hJ : fm_J G) {a0 : Nat} {a1 : Int32} {a2 : Int32} {σ : fm_M} {o : Int32 × fm_M} (h0 : fm_man a0) (hf : m_X4_passesOn a0 a1 a2 σ = some o) : Met l yX4_passesOn (fm_w yX4_passesOn cX4_passesOn 3 (some .int)) { frames := 0, cells := 0, slots := 0, locals := 0 } (va_Pc [.ref (G.2.1 a0), .int a1, .int a2] (fm_st G σ)) (fm_Qi G o) 0 0 (fm_A G) := by
  refine fm_mth (own := RX4) hJ rfl (by decide +kernel) (Nat.le_of_ble_eq_true rfl) ?_
  intro p e s m below meth c ls hC hr hlk hI hl
  have hx := hC.1.1
  have hb := hC.1.2.1
  have hown := hC.1.2.2.2.1
  have hts := hC.1.2.2.2.2
  have hl : lv_has ls 3 [(0, .ref (G.2.1 a0)), (1, .int a1), (2, .int a2)] := hl
  rw [m_X4_passesOn] at hf
  refine lv_iload_n hx hb dX4_passesOn_0 rfl (lv_at hl 1 rfl) ?_
  refine lv_iconst (v := (4 : Int32)) hx hb dX4_passesOn_1 (by decide) ?_
  refine lv_icmp_lt (tgt := 9) hx hb dX4_passesOn_2 (by decide) (fun hc => ?_) (fun hc => ?_)
  · have hf := fm_pT hf hc
    refine lv_iconst (v := (-1 : Int32)) hx hb dX4_passesOn_9 (by decide) ?_
    exact fm_ri hC hI hr hlk hf dX4_passesOn_10
  · have hf := fm_pF hf hc
    refine lv_iload_n hx hb dX4_passesOn_5 rfl (lv_at hl 2 rfl) ?_
    refine lv_goto (tgt := 10) hx hb dX4_passesOn_6 (by decide) ?_
    exact fm_ri hC hI hr hlk hf dX4_passesOn_10
def m_X0_opens (a0 : Nat) (a1 : Int32) (a2 : Int32) (a3 : Int32) (σ : fm_M) : Option (Int32 × fm_M) := some ((0 : Int32), σ)
set_option maxHeartbeats 4000000 in
set_option maxRecDepth 100000 in
theorem c_X0_opens {l : Launch} {G : fm_G} (hJ : fm_J G) {a0 : Nat} {a1 : Int32} {a2 : Int32} {a3 : Int32} {σ : fm_M} {o : Int32 × fm_M} (h0 : fm_man a0) (hf : m_X0_opens a0 a1 a2 a3 σ = some o) : Met l yX0_opens (fm_w yX0_opens cX0_opens 4 (some .int)) { frames := 0, cells := 0, slots := 0, locals := 0 } (va_Pc [.ref (G.2.1 a0), .int a1, .int a2, .int a3] (fm_st G σ)) (fm_Qi G o) 0 0 (fm_A G) := by
  refine fm_mth (own := RX0) hJ rfl (by decide +kernel) (Nat.le_of_ble_eq_true rfl) ?_
  intro p e s m below meth c ls hC hr hlk hI hl
  have hx := hC.1.1
  have hb := hC.1.2.1
  have hown := hC.1.2.2.2.1
  have hts := hC.1.2.2.2.2
  have hl : lv_has ls 4 [(0, .ref (G.2.1 a0)), (1, .int a1), (2, .int a2), (3, .int a3)] := hl
  rw [m_X0_opens] at hf
  refine lv_iconst (v := (0 : Int32)) hx hb dX0_opens_0 (by decide) ?_
  exact fm_ri hC hI hr hlk hf dX0_opens_1
def m_X0_enjoys (a0 : Nat) (a1 : Int32) (σ : fm_M) : Option (Int32 × fm_M) := fm_b (m_X4_enjoys a0 a1 σ) fun r1 σ2 => (some (((2 : Int32) * r1), σ2))
set_option maxHeartbeats 4000000 in
set_option maxRecDepth 100000 in
theorem c_X0_enjoys {l : Launch} {G : fm_G} (hJ : fm_J G) {a0 : Nat} {a1 : Int32} {σ : fm_M} {o : Int32 × fm_M} (h0 : fm_man a0) (hf : m_X0_enjoys a0 a1 σ = some o) : Met l yX0_enjoys (fm_w yX0_enjoys cX0_enjoys 2 (some .int)) { frames := 1, cells := 0, slots := 0, locals := 21 } (va_Pc [.ref (G.2.1 a0), .int a1] (fm_st G σ)) (fm_Qi G o) 0 0 (fm_A G) := by
  refine fm_mth (own := RX0) hJ rfl (by decide +kernel) (Nat.le_of_ble_eq_true rfl) ?_
  intro p e s m below meth c ls hC hr hlk hI hl
  have hx := hC.1.1
  have hb := hC.1.2.1
  have hown := hC.1.2.2.2.1
  have hts := hC.1.2.2.2.2
  have hl : lv_has ls 2 [(0, .ref (G.2.1 a0)), (1, .int a1)] := hl
  rw [m_X0_enjoys] at hf
  refine lv_iconst (v := (2 : Int32)) hx hb dX0_enjoys_0 (by decide) ?_
  refine lv_aload_n hx hb dX0_enjoys_1 rfl (lv_at hl 0 rfl) ?_
  refine lv_iload_n hx hb dX0_enjoys_2 rfl (lv_at hl 1 rfl) ?_
  obtain ⟨r1, σ2, hq3, hf⟩ := fm_bE hf
  refine fm_ci hI (fm_runP (As := [.int a1]) (rest := [.int (2 : Int32)]) (rm := { frames := 0, cells := 0, slots := 0, locals := 0 }) hC hI (c_X4_enjoys hC.2.2.1 h0 hq3) mP_X0_X4_enjoys q_330 ⟨rfl, rfl⟩ ⟨Nat.le_of_ble_eq_true rfl, Nat.le_of_ble_eq_true rfl⟩ h0 rfl hl.1 rfl (Nat.le_of_ble_eq_true rfl) dX0_enjoys_3 ⟨Nat.zero_le _, Nat.zero_le _⟩) (fun H locs hI => ?_)
  refine lv_imul hx hb dX0_enjoys_6 ?_
  exact fm_ri hC hI hr hlk hf dX0_enjoys_7
def m_X0_isStruck (a0 : Nat) (a1 : Int32) (σ : fm_M) : Option (Int32 × fm_M) := if a1 ≤ 0 then (some ((5 : Int32), σ)) else (some ((0 : Int32), σ))
set_option maxHeartbeats 4000000 in
set_option maxRecDepth 100000 in
theorem c_X0_isStruck {l : Launch} {G : fm_G} (hJ : fm_J G) {a0 : Nat} {a1 : Int32} {σ : fm_M} {o : Int32 × fm_M} (h0 : fm_man a0) (hf : m_X0_isStruck a0 a1 σ = some o) : Met l yX0_isStruck (fm_w yX0_isStruck cX0_isStruck 2 (some .int)) { frames := 0, cells := 0, slots := 0, locals := 0 } (va_Pc [.ref (G.2.1 a0), .int a1] (fm_st G σ)) (fm_Qi G o) 0 0 (fm_A G) := by
  refine fm_mth (own := RX0) hJ rfl (by decide +kernel) (Nat.le_of_ble_eq_true rfl) ?_
  intro p e s m below meth c ls hC hr hlk hI hl
  have hx := hC.1.1
  have hb := hC.1.2.1
  have hown := hC.1.2.2.2.1
  have hts := hC.1.2.2.2.2
  have hl : lv_has ls 2 [(0, .ref (G.2.1 a0)), (1, .int a1)] := hl
  rw [m_X0_isStruck] at hf
  refine lv_iload_n hx hb dX0_isStruck_0 rfl (lv_at hl 1 rfl) ?_
  refine lv_if_le (tgt := 8) hx hb dX0_isStruck_1 (by decide) (fun hc => ?_) (fun hc => ?_)
  · have hf := fm_pT hf hc
    refine lv_iconst (v := (5 : Int32)) hx hb dX0_isStruck_8 (by decide) ?_
    exact fm_ri hC hI hr hlk hf dX0_isStruck_9
  · have hf := fm_pF hf hc
    refine lv_iconst (v := (0 : Int32)) hx hb dX0_isStruck_4 (by decide) ?_
    refine lv_goto (tgt := 9) hx hb dX0_isStruck_5 (by decide) ?_
    exact fm_ri hC hI hr hlk hf dX0_isStruck_9
def m_X0_passesOn (a0 : Nat) (a1 : Int32) (a2 : Int32) (σ : fm_M) : Option (Int32 × fm_M) := if a1 = (6 : Int32) then (fm_b (m_X4_passesOn a0 a1 a2 σ) fun r1 σ2 => (some (r1, σ2))) else (some ((-1 : Int32), σ))
set_option maxHeartbeats 4000000 in
set_option maxRecDepth 100000 in
theorem c_X0_passesOn {l : Launch} {G : fm_G} (hJ : fm_J G) {a0 : Nat} {a1 : Int32} {a2 : Int32} {σ : fm_M} {o : Int32 × fm_M} (h0 : fm_man a0) (hf : m_X0_passesOn a0 a1 a2 σ = some o) : Met l yX0_passesOn (fm_w yX0_passesOn cX0_passesOn 3 (some .int)) { frames := 1, cells := 0, slots := 0, locals := 22 } (va_Pc [.ref (G.2.1 a0), .int a1, .int a2] (fm_st G σ)) (fm_Qi G o) 0 0 (fm_A G) := by
  refine fm_mth (own := RX0) hJ rfl (by decide +kernel) (Nat.le_of_ble_eq_true rfl) ?_
  intro p e s m below meth c ls hC hr hlk hI hl
  have hx := hC.1.1
  have hb := hC.1.2.1
  have hown := hC.1.2.2.2.1
  have hts := hC.1.2.2.2.2
  have hl : lv_has ls 3 [(0, .ref (G.2.1 a0)), (1, .int a1), (2, .int a2)] := hl
  rw [m_X0_passesOn] at hf
  refine lv_iload_n hx hb dX0_passesOn_0 rfl (lv_at hl 1 rfl) ?_
  refine lv_bipush (v := (6 : Int32)) hx hb dX0_passesOn_1 (by decide) ?_
  refine lv_icmp_ne (tgt := 15) hx hb dX0_passesOn_3 (by decide) (fun hc => ?_) (fun hc => ?_)
  · have hf := fm_pF hf hc
    refine lv_iconst (v := (-1 : Int32)) hx hb dX0_passesOn_15 (by decide) ?_
    exact fm_ri hC hI hr hlk hf dX0_passesOn_16
  · have hf := fm_pT hf hc
    refine lv_aload_n hx hb dX0_passesOn_6 rfl (lv_at hl 0 rfl) ?_
    refine lv_iload_n hx hb dX0_passesOn_7 rfl (lv_at hl 1 rfl) ?_
    refine lv_iload_n hx hb dX0_passesOn_8 rfl (lv_at hl 2 rfl) ?_
    obtain ⟨r1, σ2, hq3, hf⟩ := fm_bE hf
    refine fm_ci hI (fm_runP (As := [.int a1, .int a2]) (rest := []) (rm := { frames := 0, cells := 0, slots := 0, locals := 0 }) hC hI (c_X4_passesOn hC.2.2.1 h0 hq3) mP_X0_X4_passesOn q_375 ⟨rfl, rfl⟩ ⟨Nat.le_of_ble_eq_true rfl, Nat.le_of_ble_eq_true rfl⟩ h0 rfl hl.1 rfl (Nat.le_of_ble_eq_true rfl) dX0_passesOn_9 ⟨Nat.zero_le _, Nat.zero_le _⟩) (fun H locs hI => ?_)
    refine lv_goto (tgt := 16) hx hb dX0_passesOn_12 (by decide) ?_
    exact fm_ri hC hI hr hlk hf dX0_passesOn_16
def m_X1_opens (a0 : Nat) (a1 : Int32) (a2 : Int32) (a3 : Int32) (σ : fm_M) : Option (Int32 × fm_M) := fm_b (m_X4_opens a0 a1 a2 a3 σ) fun r1 σ2 => (some (((2 : Int32) * r1), σ2))
set_option maxHeartbeats 4000000 in
set_option maxRecDepth 100000 in
theorem c_X1_opens {l : Launch} {G : fm_G} (hJ : fm_J G) {a0 : Nat} {a1 : Int32} {a2 : Int32} {a3 : Int32} {σ : fm_M} {o : Int32 × fm_M} (h0 : fm_man a0) (hf : m_X1_opens a0 a1 a2 a3 σ = some o) : Met l yX1_opens (fm_w yX1_opens cX1_opens 4 (some .int)) { frames := 1, cells := 0, slots := 0, locals := 23 } (va_Pc [.ref (G.2.1 a0), .int a1, .int a2, .int a3] (fm_st G σ)) (fm_Qi G o) 0 0 (fm_A G) := by
  refine fm_mth (own := RX1) hJ rfl (by decide +kernel) (Nat.le_of_ble_eq_true rfl) ?_
  intro p e s m below meth c ls hC hr hlk hI hl
  have hx := hC.1.1
  have hb := hC.1.2.1
  have hown := hC.1.2.2.2.1
  have hts := hC.1.2.2.2.2
  have hl : lv_has ls 4 [(0, .ref (G.2.1 a0)), (1, .int a1), (2, .int a2), (3, .int a3)] := hl
  rw [m_X1_opens] at hf
  refine lv_iconst (v := (2 : Int32)) hx hb dX1_opens_0 (by decide) ?_
  refine lv_aload_n hx hb dX1_opens_1 rfl (lv_at hl 0 rfl) ?_
  refine lv_iload_n hx hb dX1_opens_2 rfl (lv_at hl 1 rfl) ?_
  refine lv_iload_n hx hb dX1_opens_3 rfl (lv_at hl 2 rfl) ?_
  refine lv_iload_n hx hb dX1_opens_4 rfl (lv_at hl 3 rfl) ?_
  obtain ⟨r1, σ2, hq3, hf⟩ := fm_bE hf
  refine fm_ci hI (fm_runP (As := [.int a1, .int a2, .int a3]) (rest := [.int (2 : Int32)]) (rm := { frames := 0, cells := 0, slots := 0, locals := 0 }) hC hI (c_X4_opens hC.2.2.1 h0 hq3) mP_X1_X4_opens q_306 ⟨rfl, rfl⟩ ⟨Nat.le_of_ble_eq_true rfl, Nat.le_of_ble_eq_true rfl⟩ h0 rfl hl.1 rfl (Nat.le_of_ble_eq_true rfl) dX1_opens_5 ⟨Nat.zero_le _, Nat.zero_le _⟩) (fun H locs hI => ?_)
  refine lv_imul hx hb dX1_opens_8 ?_
  exact fm_ri hC hI hr hlk hf dX1_opens_9
def m_X1_enjoys (a0 : Nat) (a1 : Int32) (σ : fm_M) : Option (Int32 × fm_M) := fm_b (m_X4_enjoys a0 a1 σ) fun r1 σ2 => (some ((r1 - (1 : Int32)), σ2))
set_option maxHeartbeats 4000000 in
set_option maxRecDepth 100000 in
theorem c_X1_enjoys {l : Launch} {G : fm_G} (hJ : fm_J G) {a0 : Nat} {a1 : Int32} {σ : fm_M} {o : Int32 × fm_M} (h0 : fm_man a0) (hf : m_X1_enjoys a0 a1 σ = some o) : Met l yX1_enjoys (fm_w yX1_enjoys cX1_enjoys 2 (some .int)) { frames := 1, cells := 0, slots := 0, locals := 21 } (va_Pc [.ref (G.2.1 a0), .int a1] (fm_st G σ)) (fm_Qi G o) 0 0 (fm_A G) := by
  refine fm_mth (own := RX1) hJ rfl (by decide +kernel) (Nat.le_of_ble_eq_true rfl) ?_
  intro p e s m below meth c ls hC hr hlk hI hl
  have hx := hC.1.1
  have hb := hC.1.2.1
  have hown := hC.1.2.2.2.1
  have hts := hC.1.2.2.2.2
  have hl : lv_has ls 2 [(0, .ref (G.2.1 a0)), (1, .int a1)] := hl
  rw [m_X1_enjoys] at hf
  refine lv_aload_n hx hb dX1_enjoys_0 rfl (lv_at hl 0 rfl) ?_
  refine lv_iload_n hx hb dX1_enjoys_1 rfl (lv_at hl 1 rfl) ?_
  obtain ⟨r1, σ2, hq3, hf⟩ := fm_bE hf
  refine fm_ci hI (fm_runP (As := [.int a1]) (rest := []) (rm := { frames := 0, cells := 0, slots := 0, locals := 0 }) hC hI (c_X4_enjoys hC.2.2.1 h0 hq3) mP_X1_X4_enjoys q_334 ⟨rfl, rfl⟩ ⟨Nat.le_of_ble_eq_true rfl, Nat.le_of_ble_eq_true rfl⟩ h0 rfl hl.1 rfl (Nat.le_of_ble_eq_true rfl) dX1_enjoys_2 ⟨Nat.zero_le _, Nat.zero_le _⟩) (fun H locs hI => ?_)
  refine lv_iconst (v := (1 : Int32)) hx hb dX1_enjoys_5 (by decide) ?_
  refine lv_isub hx hb dX1_enjoys_6 ?_
  exact fm_ri hC hI hr hlk hf dX1_enjoys_7
def m_X1_isStruck (a0 : Nat) (a1 : Int32) (σ : fm_M) : Option (Int32 × fm_M) := if a1 = 0 then (some ((0 : Int32), σ)) else (fm_b (m_X4_isStruck a0 a1 σ) fun r1 σ2 => (some (((2 : Int32) * r1), σ2)))
set_option maxHeartbeats 4000000 in
set_option maxRecDepth 100000 in
theorem c_X1_isStruck {l : Launch} {G : fm_G} (hJ : fm_J G) {a0 : Nat} {a1 : Int32} {σ : fm_M} {o : Int32 × fm_M} (h0 : fm_man a0) (hf : m_X1_isStruck a0 a1 σ = some o) : Met l yX1_isStruck (fm_w yX1_isStruck cX1_isStruck 2 (some .int)) { frames := 1, cells := 0, slots := 0, locals := 21 } (va_Pc [.ref (G.2.1 a0), .int a1] (fm_st G σ)) (fm_Qi G o) 0 0 (fm_A G) := by
  refine fm_mth (own := RX1) hJ rfl (by decide +kernel) (Nat.le_of_ble_eq_true rfl) ?_
  intro p e s m below meth c ls hC hr hlk hI hl
  have hx := hC.1.1
  have hb := hC.1.2.1
  have hown := hC.1.2.2.2.1
  have hts := hC.1.2.2.2.2
  have hl : lv_has ls 2 [(0, .ref (G.2.1 a0)), (1, .int a1)] := hl
  rw [m_X1_isStruck] at hf
  refine lv_iload_n hx hb dX1_isStruck_0 rfl (lv_at hl 1 rfl) ?_
  refine lv_if_ne (tgt := 8) hx hb dX1_isStruck_1 (by decide) (fun hc => ?_) (fun hc => ?_)
  · have hf := fm_pF hf hc
    refine lv_iconst (v := (2 : Int32)) hx hb dX1_isStruck_8 (by decide) ?_
    refine lv_aload_n hx hb dX1_isStruck_9 rfl (lv_at hl 0 rfl) ?_
    refine lv_iload_n hx hb dX1_isStruck_10 rfl (lv_at hl 1 rfl) ?_
    obtain ⟨r1, σ2, hq3, hf⟩ := fm_bE hf
    refine fm_ci hI (fm_runP (As := [.int a1]) (rest := [.int (2 : Int32)]) (rm := { frames := 0, cells := 0, slots := 0, locals := 0 }) hC hI (c_X4_isStruck hC.2.2.1 h0 hq3) mP_X1_X4_isStruck q_357 ⟨rfl, rfl⟩ ⟨Nat.le_of_ble_eq_true rfl, Nat.le_of_ble_eq_true rfl⟩ h0 rfl hl.1 rfl (Nat.le_of_ble_eq_true rfl) dX1_isStruck_11 ⟨Nat.zero_le _, Nat.zero_le _⟩) (fun H locs hI => ?_)
    refine lv_imul hx hb dX1_isStruck_14 ?_
    exact fm_ri hC hI hr hlk hf dX1_isStruck_15
  · have hf := fm_pT hf hc
    refine lv_iconst (v := (0 : Int32)) hx hb dX1_isStruck_4 (by decide) ?_
    refine lv_goto (tgt := 15) hx hb dX1_isStruck_5 (by decide) ?_
    exact fm_ri hC hI hr hlk hf dX1_isStruck_15
def m_X1_passesOn (a0 : Nat) (a1 : Int32) (a2 : Int32) (σ : fm_M) : Option (Int32 × fm_M) := some ((-1 : Int32), σ)
set_option maxHeartbeats 4000000 in
set_option maxRecDepth 100000 in
theorem c_X1_passesOn {l : Launch} {G : fm_G} (hJ : fm_J G) {a0 : Nat} {a1 : Int32} {a2 : Int32} {σ : fm_M} {o : Int32 × fm_M} (h0 : fm_man a0) (hf : m_X1_passesOn a0 a1 a2 σ = some o) : Met l yX1_passesOn (fm_w yX1_passesOn cX1_passesOn 3 (some .int)) { frames := 0, cells := 0, slots := 0, locals := 0 } (va_Pc [.ref (G.2.1 a0), .int a1, .int a2] (fm_st G σ)) (fm_Qi G o) 0 0 (fm_A G) := by
  refine fm_mth (own := RX1) hJ rfl (by decide +kernel) (Nat.le_of_ble_eq_true rfl) ?_
  intro p e s m below meth c ls hC hr hlk hI hl
  have hx := hC.1.1
  have hb := hC.1.2.1
  have hown := hC.1.2.2.2.1
  have hts := hC.1.2.2.2.2
  have hl : lv_has ls 3 [(0, .ref (G.2.1 a0)), (1, .int a1), (2, .int a2)] := hl
  rw [m_X1_passesOn] at hf
  refine lv_iconst (v := (-1 : Int32)) hx hb dX1_passesOn_0 (by decide) ?_
  exact fm_ri hC hI hr hlk hf dX1_passesOn_1
def m_X6_opens (a0 : Nat) (a1 : Int32) (a2 : Int32) (a3 : Int32) (σ : fm_M) : Option (Int32 × fm_M) := if a3 = (3 : Int32) then (some ((0 : Int32), σ)) else (fm_b (m_X4_opens a0 a1 a2 a3 σ) fun r1 σ2 => (some (r1, σ2)))
set_option maxHeartbeats 4000000 in
set_option maxRecDepth 100000 in
theorem c_X6_opens {l : Launch} {G : fm_G} (hJ : fm_J G) {a0 : Nat} {a1 : Int32} {a2 : Int32} {a3 : Int32} {σ : fm_M} {o : Int32 × fm_M} (h0 : fm_man a0) (hf : m_X6_opens a0 a1 a2 a3 σ = some o) : Met l yX6_opens (fm_w yX6_opens cX6_opens 4 (some .int)) { frames := 1, cells := 0, slots := 0, locals := 23 } (va_Pc [.ref (G.2.1 a0), .int a1, .int a2, .int a3] (fm_st G σ)) (fm_Qi G o) 0 0 (fm_A G) := by
  refine fm_mth (own := RX6) hJ rfl (by decide +kernel) (Nat.le_of_ble_eq_true rfl) ?_
  intro p e s m below meth c ls hC hr hlk hI hl
  have hx := hC.1.1
  have hb := hC.1.2.1
  have hown := hC.1.2.2.2.1
  have hts := hC.1.2.2.2.2
  have hl : lv_has ls 4 [(0, .ref (G.2.1 a0)), (1, .int a1), (2, .int a2), (3, .int a3)] := hl
  rw [m_X6_opens] at hf
  refine lv_iload_n hx hb dX6_opens_0 rfl (lv_at hl 3 rfl) ?_
  refine lv_iconst (v := (3 : Int32)) hx hb dX6_opens_1 (by decide) ?_
  refine lv_icmp_ne (tgt := 9) hx hb dX6_opens_2 (by decide) (fun hc => ?_) (fun hc => ?_)
  · have hf := fm_pF hf hc
    refine lv_aload_n hx hb dX6_opens_9 rfl (lv_at hl 0 rfl) ?_
    refine lv_iload_n hx hb dX6_opens_10 rfl (lv_at hl 1 rfl) ?_
    refine lv_iload_n hx hb dX6_opens_11 rfl (lv_at hl 2 rfl) ?_
    refine lv_iload_n hx hb dX6_opens_12 rfl (lv_at hl 3 rfl) ?_
    obtain ⟨r1, σ2, hq3, hf⟩ := fm_bE hf
    refine fm_ci hI (fm_runP (As := [.int a1, .int a2, .int a3]) (rest := []) (rm := { frames := 0, cells := 0, slots := 0, locals := 0 }) hC hI (c_X4_opens hC.2.2.1 h0 hq3) mP_X6_X4_opens q_317 ⟨rfl, rfl⟩ ⟨Nat.le_of_ble_eq_true rfl, Nat.le_of_ble_eq_true rfl⟩ h0 rfl hl.1 rfl (Nat.le_of_ble_eq_true rfl) dX6_opens_13 ⟨Nat.zero_le _, Nat.zero_le _⟩) (fun H locs hI => ?_)
    exact fm_ri hC hI hr hlk hf dX6_opens_16
  · have hf := fm_pT hf hc
    refine lv_iconst (v := (0 : Int32)) hx hb dX6_opens_5 (by decide) ?_
    refine lv_goto (tgt := 16) hx hb dX6_opens_6 (by decide) ?_
    exact fm_ri hC hI hr hlk hf dX6_opens_16
def m_X6_enjoys (a0 : Nat) (a1 : Int32) (σ : fm_M) : Option (Int32 × fm_M) := if a1 = 0 then (some ((6 : Int32), σ)) else (fm_b (m_X4_enjoys a0 a1 σ) fun r1 σ2 => (some (r1, σ2)))
set_option maxHeartbeats 4000000 in
set_option maxRecDepth 100000 in
theorem c_X6_enjoys {l : Launch} {G : fm_G} (hJ : fm_J G) {a0 : Nat} {a1 : Int32} {σ : fm_M} {o : Int32 × fm_M} (h0 : fm_man a0) (hf : m_X6_enjoys a0 a1 σ = some o) : Met l yX6_enjoys (fm_w yX6_enjoys cX6_enjoys 2 (some .int)) { frames := 1, cells := 0, slots := 0, locals := 21 } (va_Pc [.ref (G.2.1 a0), .int a1] (fm_st G σ)) (fm_Qi G o) 0 0 (fm_A G) := by
  refine fm_mth (own := RX6) hJ rfl (by decide +kernel) (Nat.le_of_ble_eq_true rfl) ?_
  intro p e s m below meth c ls hC hr hlk hI hl
  have hx := hC.1.1
  have hb := hC.1.2.1
  have hown := hC.1.2.2.2.1
  have hts := hC.1.2.2.2.2
  have hl : lv_has ls 2 [(0, .ref (G.2.1 a0)), (1, .int a1)] := hl
  rw [m_X6_enjoys] at hf
  refine lv_iload_n hx hb dX6_enjoys_0 rfl (lv_at hl 1 rfl) ?_
  refine lv_if_ne (tgt := 9) hx hb dX6_enjoys_1 (by decide) (fun hc => ?_) (fun hc => ?_)
  · have hf := fm_pF hf hc
    refine lv_aload_n hx hb dX6_enjoys_9 rfl (lv_at hl 0 rfl) ?_
    refine lv_iload_n hx hb dX6_enjoys_10 rfl (lv_at hl 1 rfl) ?_
    obtain ⟨r1, σ2, hq3, hf⟩ := fm_bE hf
    refine fm_ci hI (fm_runP (As := [.int a1]) (rest := []) (rm := { frames := 0, cells := 0, slots := 0, locals := 0 }) hC hI (c_X4_enjoys hC.2.2.1 h0 hq3) mP_X6_X4_enjoys q_345 ⟨rfl, rfl⟩ ⟨Nat.le_of_ble_eq_true rfl, Nat.le_of_ble_eq_true rfl⟩ h0 rfl hl.1 rfl (Nat.le_of_ble_eq_true rfl) dX6_enjoys_11 ⟨Nat.zero_le _, Nat.zero_le _⟩) (fun H locs hI => ?_)
    exact fm_ri hC hI hr hlk hf dX6_enjoys_14
  · have hf := fm_pT hf hc
    refine lv_bipush (v := (6 : Int32)) hx hb dX6_enjoys_4 (by decide) ?_
    refine lv_goto (tgt := 14) hx hb dX6_enjoys_6 (by decide) ?_
    exact fm_ri hC hI hr hlk hf dX6_enjoys_14
def m_X6_passesOn (a0 : Nat) (a1 : Int32) (a2 : Int32) (σ : fm_M) : Option (Int32 × fm_M) := if a1 < (1 : Int32) then (some ((-1 : Int32), σ)) else (if (3 : Int32) < a1 then (some ((-1 : Int32), σ)) else (some ((0 : Int32), σ)))
set_option maxHeartbeats 4000000 in
set_option maxRecDepth 100000 in
theorem c_X6_passesOn {l : Launch} {G : fm_G} (hJ : fm_J G) {a0 : Nat} {a1 : Int32} {a2 : Int32} {σ : fm_M} {o : Int32 × fm_M} (h0 : fm_man a0) (hf : m_X6_passesOn a0 a1 a2 σ = some o) : Met l yX6_passesOn (fm_w yX6_passesOn cX6_passesOn 3 (some .int)) { frames := 0, cells := 0, slots := 0, locals := 0 } (va_Pc [.ref (G.2.1 a0), .int a1, .int a2] (fm_st G σ)) (fm_Qi G o) 0 0 (fm_A G) := by
  refine fm_mth (own := RX6) hJ rfl (by decide +kernel) (Nat.le_of_ble_eq_true rfl) ?_
  intro p e s m below meth c ls hC hr hlk hI hl
  have hx := hC.1.1
  have hb := hC.1.2.1
  have hown := hC.1.2.2.2.1
  have hts := hC.1.2.2.2.2
  have hl : lv_has ls 3 [(0, .ref (G.2.1 a0)), (1, .int a1), (2, .int a2)] := hl
  rw [m_X6_passesOn] at hf
  refine lv_iload_n hx hb dX6_passesOn_0 rfl (lv_at hl 1 rfl) ?_
  refine lv_iconst (v := (1 : Int32)) hx hb dX6_passesOn_1 (by decide) ?_
  refine lv_icmp_lt (tgt := 14) hx hb dX6_passesOn_2 (by decide) (fun hc => ?_) (fun hc => ?_)
  · have hf := fm_pT hf hc
    refine lv_iconst (v := (-1 : Int32)) hx hb dX6_passesOn_14 (by decide) ?_
    exact fm_ri hC hI hr hlk hf dX6_passesOn_15
  · have hf := fm_pF hf hc
    refine lv_iload_n hx hb dX6_passesOn_5 rfl (lv_at hl 1 rfl) ?_
    refine lv_iconst (v := (3 : Int32)) hx hb dX6_passesOn_6 (by decide) ?_
    refine lv_icmp_gt (tgt := 14) hx hb dX6_passesOn_7 (by decide) (fun hc => ?_) (fun hc => ?_)
    · have hf := fm_pT hf hc
      refine lv_iconst (v := (-1 : Int32)) hx hb dX6_passesOn_14 (by decide) ?_
      exact fm_ri hC hI hr hlk hf dX6_passesOn_15
    · have hf := fm_pF hf hc
      refine lv_iconst (v := (0 : Int32)) hx hb dX6_passesOn_10 (by decide) ?_
      refine lv_goto (tgt := 15) hx hb dX6_passesOn_11 (by decide) ?_
      exact fm_ri hC hI hr hlk hf dX6_passesOn_15
def m_X2_opens (a0 : Nat) (a1 : Int32) (a2 : Int32) (a3 : Int32) (σ : fm_M) : Option (Int32 × fm_M) := if (a1 - a1 / (5 : Int32) * (5 : Int32)) = 0 then (some ((1 : Int32), σ)) else (fm_b (m_X0_opens a0 a1 a2 a3 σ) fun r1 σ2 => (some (r1, σ2)))
set_option maxHeartbeats 4000000 in
set_option maxRecDepth 100000 in
theorem c_X2_opens {l : Launch} {G : fm_G} (hJ : fm_J G) {a0 : Nat} {a1 : Int32} {a2 : Int32} {a3 : Int32} {σ : fm_M} {o : Int32 × fm_M} (h0 : fm_man a0) (hf : m_X2_opens a0 a1 a2 a3 σ = some o) : Met l yX2_opens (fm_w yX2_opens cX2_opens 4 (some .int)) { frames := 1, cells := 0, slots := 0, locals := 23 } (va_Pc [.ref (G.2.1 a0), .int a1, .int a2, .int a3] (fm_st G σ)) (fm_Qi G o) 0 0 (fm_A G) := by
  refine fm_mth (own := RX2) hJ rfl (by decide +kernel) (Nat.le_of_ble_eq_true rfl) ?_
  intro p e s m below meth c ls hC hr hlk hI hl
  have hx := hC.1.1
  have hb := hC.1.2.1
  have hown := hC.1.2.2.2.1
  have hts := hC.1.2.2.2.2
  have hl : lv_has ls 4 [(0, .ref (G.2.1 a0)), (1, .int a1), (2, .int a2), (3, .int a3)] := hl
  rw [m_X2_opens] at hf
  refine lv_iload_n hx hb dX2_opens_0 rfl (lv_at hl 1 rfl) ?_
  refine lv_iconst (v := (5 : Int32)) hx hb dX2_opens_1 (by decide) ?_
  refine lv_irem hx hb dX2_opens_2 (by decide) ?_
  refine lv_if_ne (tgt := 10) hx hb dX2_opens_3 (by decide) (fun hc => ?_) (fun hc => ?_)
  · have hf := fm_pF hf hc
    refine lv_aload_n hx hb dX2_opens_10 rfl (lv_at hl 0 rfl) ?_
    refine lv_iload_n hx hb dX2_opens_11 rfl (lv_at hl 1 rfl) ?_
    refine lv_iload_n hx hb dX2_opens_12 rfl (lv_at hl 2 rfl) ?_
    refine lv_iload_n hx hb dX2_opens_13 rfl (lv_at hl 3 rfl) ?_
    obtain ⟨r1, σ2, hq3, hf⟩ := fm_bE hf
    refine fm_ci hI (fm_runP (As := [.int a1, .int a2, .int a3]) (rest := []) (rm := { frames := 0, cells := 0, slots := 0, locals := 0 }) hC hI (c_X0_opens hC.2.2.1 h0 hq3) mP_X2_X0_opens q_310 ⟨rfl, rfl⟩ ⟨Nat.le_of_ble_eq_true rfl, Nat.le_of_ble_eq_true rfl⟩ h0 rfl hl.1 rfl (Nat.le_of_ble_eq_true rfl) dX2_opens_14 ⟨Nat.zero_le _, Nat.zero_le _⟩) (fun H locs hI => ?_)
    exact fm_ri hC hI hr hlk hf dX2_opens_17
  · have hf := fm_pT hf hc
    refine lv_iconst (v := (1 : Int32)) hx hb dX2_opens_6 (by decide) ?_
    refine lv_goto (tgt := 17) hx hb dX2_opens_7 (by decide) ?_
    exact fm_ri hC hI hr hlk hf dX2_opens_17
def m_X2_enjoys (a0 : Nat) (a1 : Int32) (σ : fm_M) : Option (Int32 × fm_M) := fm_b (m_X0_enjoys a0 a1 σ) fun r1 σ2 => (some ((r1 - (1 : Int32)), σ2))
set_option maxHeartbeats 4000000 in
set_option maxRecDepth 100000 in
theorem c_X2_enjoys {l : Launch} {G : fm_G} (hJ : fm_J G) {a0 : Nat} {a1 : Int32} {σ : fm_M} {o : Int32 × fm_M} (h0 : fm_man a0) (hf : m_X2_enjoys a0 a1 σ = some o) : Met l yX2_enjoys (fm_w yX2_enjoys cX2_enjoys 2 (some .int)) { frames := 2, cells := 0, slots := 0, locals := 42 } (va_Pc [.ref (G.2.1 a0), .int a1] (fm_st G σ)) (fm_Qi G o) 0 0 (fm_A G) := by
  refine fm_mth (own := RX2) hJ rfl (by decide +kernel) (Nat.le_of_ble_eq_true rfl) ?_
  intro p e s m below meth c ls hC hr hlk hI hl
  have hx := hC.1.1
  have hb := hC.1.2.1
  have hown := hC.1.2.2.2.1
  have hts := hC.1.2.2.2.2
  have hl : lv_has ls 2 [(0, .ref (G.2.1 a0)), (1, .int a1)] := hl
  rw [m_X2_enjoys] at hf
  refine lv_aload_n hx hb dX2_enjoys_0 rfl (lv_at hl 0 rfl) ?_
  refine lv_iload_n hx hb dX2_enjoys_1 rfl (lv_at hl 1 rfl) ?_
  obtain ⟨r1, σ2, hq3, hf⟩ := fm_bE hf
  refine fm_ci hI (fm_runP (As := [.int a1]) (rest := []) (rm := { frames := 1, cells := 0, slots := 0, locals := 21 }) hC hI (c_X0_enjoys hC.2.2.1 h0 hq3) mP_X2_X0_enjoys q_338 ⟨rfl, rfl⟩ ⟨Nat.le_of_ble_eq_true rfl, Nat.le_of_ble_eq_true rfl⟩ h0 rfl hl.1 rfl (Nat.le_of_ble_eq_true rfl) dX2_enjoys_2 ⟨Nat.zero_le _, Nat.zero_le _⟩) (fun H locs hI => ?_)
  refine lv_iconst (v := (1 : Int32)) hx hb dX2_enjoys_5 (by decide) ?_
  refine lv_isub hx hb dX2_enjoys_6 ?_
  exact fm_ri hC hI hr hlk hf dX2_enjoys_7
def m_X2_isStruck (a0 : Nat) (a1 : Int32) (σ : fm_M) : Option (Int32 × fm_M) := fm_b (m_X0_isStruck a0 a1 σ) fun r1 σ2 => (some ((r1 + (a1 / (2 : Int32))), σ2))
set_option maxHeartbeats 4000000 in
set_option maxRecDepth 100000 in
theorem c_X2_isStruck {l : Launch} {G : fm_G} (hJ : fm_J G) {a0 : Nat} {a1 : Int32} {σ : fm_M} {o : Int32 × fm_M} (h0 : fm_man a0) (hf : m_X2_isStruck a0 a1 σ = some o) : Met l yX2_isStruck (fm_w yX2_isStruck cX2_isStruck 2 (some .int)) { frames := 1, cells := 0, slots := 0, locals := 21 } (va_Pc [.ref (G.2.1 a0), .int a1] (fm_st G σ)) (fm_Qi G o) 0 0 (fm_A G) := by
  refine fm_mth (own := RX2) hJ rfl (by decide +kernel) (Nat.le_of_ble_eq_true rfl) ?_
  intro p e s m below meth c ls hC hr hlk hI hl
  have hx := hC.1.1
  have hb := hC.1.2.1
  have hown := hC.1.2.2.2.1
  have hts := hC.1.2.2.2.2
  have hl : lv_has ls 2 [(0, .ref (G.2.1 a0)), (1, .int a1)] := hl
  rw [m_X2_isStruck] at hf
  refine lv_aload_n hx hb dX2_isStruck_0 rfl (lv_at hl 0 rfl) ?_
  refine lv_iload_n hx hb dX2_isStruck_1 rfl (lv_at hl 1 rfl) ?_
  obtain ⟨r1, σ2, hq3, hf⟩ := fm_bE hf
  refine fm_ci hI (fm_runP (As := [.int a1]) (rest := []) (rm := { frames := 0, cells := 0, slots := 0, locals := 0 }) hC hI (c_X0_isStruck hC.2.2.1 h0 hq3) mP_X2_X0_isStruck q_361 ⟨rfl, rfl⟩ ⟨Nat.le_of_ble_eq_true rfl, Nat.le_of_ble_eq_true rfl⟩ h0 rfl hl.1 rfl (Nat.le_of_ble_eq_true rfl) dX2_isStruck_2 ⟨Nat.zero_le _, Nat.zero_le _⟩) (fun H locs hI => ?_)
  refine lv_iload_n hx hb dX2_isStruck_5 rfl (lv_at hl 1 rfl) ?_
  refine lv_iconst (v := (2 : Int32)) hx hb dX2_isStruck_6 (by decide) ?_
  refine lv_idiv hx hb dX2_isStruck_7 (by decide) ?_
  refine lv_iadd hx hb dX2_isStruck_8 ?_
  exact fm_ri hC hI hr hlk hf dX2_isStruck_9
def m_X2_passesOn (a0 : Nat) (a1 : Int32) (a2 : Int32) (σ : fm_M) : Option (Int32 × fm_M) := if a1 < (2 : Int32) then (some ((-1 : Int32), σ)) else (some (a2, σ))
set_option maxHeartbeats 4000000 in
set_option maxRecDepth 100000 in
theorem c_X2_passesOn {l : Launch} {G : fm_G} (hJ : fm_J G) {a0 : Nat} {a1 : Int32} {a2 : Int32} {σ : fm_M} {o : Int32 × fm_M} (h0 : fm_man a0) (hf : m_X2_passesOn a0 a1 a2 σ = some o) : Met l yX2_passesOn (fm_w yX2_passesOn cX2_passesOn 3 (some .int)) { frames := 0, cells := 0, slots := 0, locals := 0 } (va_Pc [.ref (G.2.1 a0), .int a1, .int a2] (fm_st G σ)) (fm_Qi G o) 0 0 (fm_A G) := by
  refine fm_mth (own := RX2) hJ rfl (by decide +kernel) (Nat.le_of_ble_eq_true rfl) ?_
  intro p e s m below meth c ls hC hr hlk hI hl
  have hx := hC.1.1
  have hb := hC.1.2.1
  have hown := hC.1.2.2.2.1
  have hts := hC.1.2.2.2.2
  have hl : lv_has ls 3 [(0, .ref (G.2.1 a0)), (1, .int a1), (2, .int a2)] := hl
  rw [m_X2_passesOn] at hf
  refine lv_iload_n hx hb dX2_passesOn_0 rfl (lv_at hl 1 rfl) ?_
  refine lv_iconst (v := (2 : Int32)) hx hb dX2_passesOn_1 (by decide) ?_
  refine lv_icmp_lt (tgt := 9) hx hb dX2_passesOn_2 (by decide) (fun hc => ?_) (fun hc => ?_)
  · have hf := fm_pT hf hc
    refine lv_iconst (v := (-1 : Int32)) hx hb dX2_passesOn_9 (by decide) ?_
    exact fm_ri hC hI hr hlk hf dX2_passesOn_10
  · have hf := fm_pF hf hc
    refine lv_iload_n hx hb dX2_passesOn_5 rfl (lv_at hl 2 rfl) ?_
    refine lv_goto (tgt := 10) hx hb dX2_passesOn_6 (by decide) ?_
    exact fm_ri hC hI hr hlk hf dX2_passesOn_10
def m_X3_opens (a0 : Nat) (a1 : Int32) (a2 : Int32) (a3 : Int32) (σ : fm_M) : Option (Int32 × fm_M) := some (a2, σ)
set_option maxHeartbeats 4000000 in
set_option maxRecDepth 100000 in
theorem c_X3_opens {l : Launch} {G : fm_G} (hJ : fm_J G) {a0 : Nat} {a1 : Int32} {a2 : Int32} {a3 : Int32} {σ : fm_M} {o : Int32 × fm_M} (h0 : fm_man a0) (hf : m_X3_opens a0 a1 a2 a3 σ = some o) : Met l yX3_opens (fm_w yX3_opens cX3_opens 4 (some .int)) { frames := 0, cells := 0, slots := 0, locals := 0 } (va_Pc [.ref (G.2.1 a0), .int a1, .int a2, .int a3] (fm_st G σ)) (fm_Qi G o) 0 0 (fm_A G) := by
  refine fm_mth (own := RX3) hJ rfl (by decide +kernel) (Nat.le_of_ble_eq_true rfl) ?_
  intro p e s m below meth c ls hC hr hlk hI hl
  have hx := hC.1.1
  have hb := hC.1.2.1
  have hown := hC.1.2.2.2.1
  have hts := hC.1.2.2.2.2
  have hl : lv_has ls 4 [(0, .ref (G.2.1 a0)), (1, .int a1), (2, .int a2), (3, .int a3)] := hl
  rw [m_X3_opens] at hf
  refine lv_iload_n hx hb dX3_opens_0 rfl (lv_at hl 2 rfl) ?_
  exact fm_ri hC hI hr hlk hf dX3_opens_1
def m_X3_enjoys (a0 : Nat) (a1 : Int32) (σ : fm_M) : Option (Int32 × fm_M) := some ((0 : Int32), σ)
set_option maxHeartbeats 4000000 in
set_option maxRecDepth 100000 in
theorem c_X3_enjoys {l : Launch} {G : fm_G} (hJ : fm_J G) {a0 : Nat} {a1 : Int32} {σ : fm_M} {o : Int32 × fm_M} (h0 : fm_man a0) (hf : m_X3_enjoys a0 a1 σ = some o) : Met l yX3_enjoys (fm_w yX3_enjoys cX3_enjoys 2 (some .int)) { frames := 0, cells := 0, slots := 0, locals := 0 } (va_Pc [.ref (G.2.1 a0), .int a1] (fm_st G σ)) (fm_Qi G o) 0 0 (fm_A G) := by
  refine fm_mth (own := RX3) hJ rfl (by decide +kernel) (Nat.le_of_ble_eq_true rfl) ?_
  intro p e s m below meth c ls hC hr hlk hI hl
  have hx := hC.1.1
  have hb := hC.1.2.1
  have hown := hC.1.2.2.2.1
  have hts := hC.1.2.2.2.2
  have hl : lv_has ls 2 [(0, .ref (G.2.1 a0)), (1, .int a1)] := hl
  rw [m_X3_enjoys] at hf
  refine lv_iconst (v := (0 : Int32)) hx hb dX3_enjoys_0 (by decide) ?_
  exact fm_ri hC hI hr hlk hf dX3_enjoys_1
def m_X3_isStruck (a0 : Nat) (a1 : Int32) (σ : fm_M) : Option (Int32 × fm_M) := fm_b (m_X1_isStruck a0 a1 σ) fun r1 σ2 => (some ((r1 + (10 : Int32)), σ2))
set_option maxHeartbeats 4000000 in
set_option maxRecDepth 100000 in
theorem c_X3_isStruck {l : Launch} {G : fm_G} (hJ : fm_J G) {a0 : Nat} {a1 : Int32} {σ : fm_M} {o : Int32 × fm_M} (h0 : fm_man a0) (hf : m_X3_isStruck a0 a1 σ = some o) : Met l yX3_isStruck (fm_w yX3_isStruck cX3_isStruck 2 (some .int)) { frames := 2, cells := 0, slots := 0, locals := 42 } (va_Pc [.ref (G.2.1 a0), .int a1] (fm_st G σ)) (fm_Qi G o) 0 0 (fm_A G) := by
  refine fm_mth (own := RX3) hJ rfl (by decide +kernel) (Nat.le_of_ble_eq_true rfl) ?_
  intro p e s m below meth c ls hC hr hlk hI hl
  have hx := hC.1.1
  have hb := hC.1.2.1
  have hown := hC.1.2.2.2.1
  have hts := hC.1.2.2.2.2
  have hl : lv_has ls 2 [(0, .ref (G.2.1 a0)), (1, .int a1)] := hl
  rw [m_X3_isStruck] at hf
  refine lv_aload_n hx hb dX3_isStruck_0 rfl (lv_at hl 0 rfl) ?_
  refine lv_iload_n hx hb dX3_isStruck_1 rfl (lv_at hl 1 rfl) ?_
  obtain ⟨r1, σ2, hq3, hf⟩ := fm_bE hf
  refine fm_ci hI (fm_runP (As := [.int a1]) (rest := []) (rm := { frames := 1, cells := 0, slots := 0, locals := 21 }) hC hI (c_X1_isStruck hC.2.2.1 h0 hq3) mP_X3_X1_isStruck q_365 ⟨rfl, rfl⟩ ⟨Nat.le_of_ble_eq_true rfl, Nat.le_of_ble_eq_true rfl⟩ h0 rfl hl.1 rfl (Nat.le_of_ble_eq_true rfl) dX3_isStruck_2 ⟨Nat.zero_le _, Nat.zero_le _⟩) (fun H locs hI => ?_)
  refine lv_bipush (v := (10 : Int32)) hx hb dX3_isStruck_5 (by decide) ?_
  refine lv_iadd hx hb dX3_isStruck_7 ?_
  exact fm_ri hC hI hr hlk hf dX3_isStruck_8
def m_X5_become (a0 : Nat) (a1 : Nat) (σ : fm_M) : Option (Unit × fm_M) := fm_let (fm_sI σ a0 0 (σ.1 a1 0)) fun σ1 => (fm_let (fm_sI σ1 a0 1 (σ1.1 a1 1)) fun σ3 => (some ((), σ3)))
set_option maxHeartbeats 4000000 in
set_option maxRecDepth 100000 in
theorem c_X5_become {l : Launch} {G : fm_G} (hJ : fm_J G) {a0 : Nat} {a1 : Nat} {σ : fm_M} {o : Unit × fm_M} (h0 : fm_ct a0 = 5) (h1 : fm_ct a1 = 5) (hf : m_X5_become a0 a1 σ = some o) : Met l yX5_become (fm_w yX5_become cX5_become 2 none) { frames := 0, cells := 0, slots := 0, locals := 0 } (va_Pc [.ref (G.2.1 a0), .ref (G.2.1 a1)] (fm_st G σ)) (fm_Qv G o) 0 0 (fm_A G) := by
  refine fm_mth (own := RX5) hJ rfl (by decide +kernel) (Nat.le_of_ble_eq_true rfl) ?_
  intro p e s m below meth c ls hC hr hlk hI hl
  have hx := hC.1.1
  have hb := hC.1.2.1
  have hown := hC.1.2.2.2.1
  have hts := hC.1.2.2.2.2
  have hl : lv_has ls 2 [(0, .ref (G.2.1 a0)), (1, .ref (G.2.1 a1))] := hl
  rw [m_X5_become] at hf
  refine lv_aload_n hx hb dX5_become_0 rfl (lv_at hl 0 rfl) ?_
  refine lv_aload_n hx hb dX5_become_1 rfl (lv_at hl 1 rfl) ?_
  refine fm_gi hC hI fd_X5_0 h1 q_88 dX5_become_2 ?_
  obtain ⟨σ1, e2, hf⟩ := fm_letE hf
  refine fm_pi hC hI fp_X5_0 h0 ⟨rfl, rfl⟩ e2 q_88 dX5_become_5 (fun H locs hI => ?_)
  refine lv_aload_n hx hb dX5_become_8 rfl (lv_at hl 0 rfl) ?_
  refine lv_aload_n hx hb dX5_become_9 rfl (lv_at hl 1 rfl) ?_
  refine fm_gi hC hI fd_X5_1 h1 q_91 dX5_become_10 ?_
  obtain ⟨σ3, e4, hf⟩ := fm_letE hf
  refine fm_pi hC hI fp_X5_1 h0 ⟨rfl, rfl⟩ e4 q_91 dX5_become_13 (fun H locs hI => ?_)
  exact fm_rv hC hI hr hlk hf dX5_become_16
def m_X5_pleaseBy (a0 : Nat) (a1 : Int32) (σ : fm_M) : Option (Unit × fm_M) := fm_let (fm_sI σ a0 1 (if ((σ.1 a0 1) + a1) < (9999 : Int32) then ((σ.1 a0 1) + a1) else (9999 : Int32))) fun σ1 => (some ((), σ1))
set_option maxHeartbeats 4000000 in
set_option maxRecDepth 100000 in
theorem c_X5_pleaseBy {l : Launch} {G : fm_G} (hJ : fm_J G) {a0 : Nat} {a1 : Int32} {σ : fm_M} {o : Unit × fm_M} (h0 : fm_ct a0 = 5) (hf : m_X5_pleaseBy a0 a1 σ = some o) : Met l yX5_pleaseBy (fm_w yX5_pleaseBy cX5_pleaseBy 2 none) { frames := 1, cells := 0, slots := 0, locals := 14 } (va_Pc [.ref (G.2.1 a0), .int a1] (fm_st G σ)) (fm_Qv G o) 0 0 (fm_A G) := by
  refine fm_mth (own := RX5) hJ rfl (by decide +kernel) (Nat.le_of_ble_eq_true rfl) ?_
  intro p e s m below meth c ls hC hr hlk hI hl
  have hx := hC.1.1
  have hb := hC.1.2.1
  have hown := hC.1.2.2.2.1
  have hts := hC.1.2.2.2.2
  have hl : lv_has ls 2 [(0, .ref (G.2.1 a0)), (1, .int a1)] := hl
  rw [m_X5_pleaseBy] at hf
  refine lv_aload_n hx hb dX5_pleaseBy_0 rfl (lv_at hl 0 rfl) ?_
  refine lv_sipush (v := (9999 : Int32)) hx hb dX5_pleaseBy_1 (by decide) ?_
  refine lv_aload_n hx hb dX5_pleaseBy_4 rfl (lv_at hl 0 rfl) ?_
  refine fm_gi hC hI fd_X5_1 h0 q_91 dX5_pleaseBy_5 ?_
  refine lv_iload_n hx hb dX5_pleaseBy_8 rfl (lv_at hl 1 rfl) ?_
  refine lv_iadd hx hb dX5_pleaseBy_9 ?_
  refine va_mmin hx hb (hC.1.2.2.1.trans hl.1.symm) hown (hts _ q_485) (hts _ q_320) (hts _ q_14) (hts _ q_321) (Nat.le_of_ble_eq_true rfl) (Nat.le_of_ble_eq_true rfl) (Nat.zero_le _) (Nat.zero_le _) dX5_pleaseBy_10 ?_
  obtain ⟨σ1, e2, hf⟩ := fm_letE hf
  refine fm_pi hC hI fp_X5_1 h0 ⟨rfl, rfl⟩ e2 q_91 dX5_pleaseBy_13 (fun H locs hI => ?_)
  exact fm_rv hC hI hr hlk hf dX5_pleaseBy_16
def m_X7_begin (a0 : Nat) (a1 : Int32) (a2 : Int32) (σ : fm_M) : Option (Unit × fm_M) := fm_let (fm_sI σ a0 1 (0 : Int32)) fun σ1 => (fm_let (fm_sI σ1 a0 2 a2) fun σ3 => (fm_let (fm_sI σ3 a0 3 a1) fun σ5 => (fm_let (fm_sI σ5 a0 4 (0 : Int32)) fun σ7 => (some ((), σ7)))))
set_option maxHeartbeats 4000000 in
set_option maxRecDepth 100000 in
theorem c_X7_begin {l : Launch} {G : fm_G} (hJ : fm_J G) {a0 : Nat} {a1 : Int32} {a2 : Int32} {σ : fm_M} {o : Unit × fm_M} (h0 : fm_ct a0 = 7) (hf : m_X7_begin a0 a1 a2 σ = some o) : Met l yX7_begin (fm_w yX7_begin cX7_begin 3 none) { frames := 0, cells := 0, slots := 0, locals := 0 } (va_Pc [.ref (G.2.1 a0), .int a1, .int a2] (fm_st G σ)) (fm_Qv G o) 0 0 (fm_A G) := by
  refine fm_mth (own := RX7) hJ rfl (by decide +kernel) (Nat.le_of_ble_eq_true rfl) ?_
  intro p e s m below meth c ls hC hr hlk hI hl
  have hx := hC.1.1
  have hb := hC.1.2.1
  have hown := hC.1.2.2.2.1
  have hts := hC.1.2.2.2.2
  have hl : lv_has ls 3 [(0, .ref (G.2.1 a0)), (1, .int a1), (2, .int a2)] := hl
  rw [m_X7_begin] at hf
  refine lv_aload_n hx hb dX7_begin_0 rfl (lv_at hl 0 rfl) ?_
  refine lv_iconst (v := (0 : Int32)) hx hb dX7_begin_1 (by decide) ?_
  obtain ⟨σ1, e2, hf⟩ := fm_letE hf
  refine fm_pi hC hI fp_X7_1 h0 ⟨rfl, rfl⟩ e2 q_107 dX7_begin_2 (fun H locs hI => ?_)
  refine lv_aload_n hx hb dX7_begin_5 rfl (lv_at hl 0 rfl) ?_
  refine lv_iload_n hx hb dX7_begin_6 rfl (lv_at hl 2 rfl) ?_
  obtain ⟨σ3, e4, hf⟩ := fm_letE hf
  refine fm_pi hC hI fp_X7_2 h0 ⟨rfl, rfl⟩ e4 q_110 dX7_begin_7 (fun H locs hI => ?_)
  refine lv_aload_n hx hb dX7_begin_10 rfl (lv_at hl 0 rfl) ?_
  refine lv_iload_n hx hb dX7_begin_11 rfl (lv_at hl 1 rfl) ?_
  obtain ⟨σ5, e6, hf⟩ := fm_letE hf
  refine fm_pi hC hI fp_X7_3 h0 ⟨rfl, rfl⟩ e6 q_113 dX7_begin_12 (fun H locs hI => ?_)
  refine lv_aload_n hx hb dX7_begin_15 rfl (lv_at hl 0 rfl) ?_
  refine lv_iconst (v := (0 : Int32)) hx hb dX7_begin_16 (by decide) ?_
  obtain ⟨σ7, e8, hf⟩ := fm_letE hf
  refine fm_pi hC hI fp_X7_4 h0 ⟨rfl, rfl⟩ e8 q_116 dX7_begin_17 (fun H locs hI => ?_)
  exact fm_rv hC hI hr hlk hf dX7_begin_20
def m_X7_become_2 (kc : Nat → Nat → Int32 → fm_M → Option (Unit × fm_M)) : Nat → Nat → Nat → Int32 → fm_M → Option (Unit × fm_M)
  | 0, _, _, _, _ => none
  | n + 1, z0, z1, z2, σ => if (σ.1 z1 1) ≤ z2 then (kc z0 z1 z2 σ) else (fm_g (fm_in1 z2 6) (fm_g (fm_in1 z2 6) (fm_let (fm_sI σ (z0 + 1) z2.toNatClampNeg (σ.1 (z1 + 1) z2.toNatClampNeg)) fun σ3 => (m_X7_become_2 kc n z0 z1 (z2 + (1 : Int32)) σ3))))
def m_X7_become (a0 : Nat) (a1 : Nat) (σ : fm_M) : Option (Unit × fm_M) := m_X7_become_2 (fun (x0_y5 : Nat) (x1_y5 : Nat) (x2_y5 : Int32) (σ_y5 : fm_M) => fm_let (fm_sI σ_y5 x0_y5 1 (σ_y5.1 x1_y5 1)) fun σ6 => (fm_let (fm_sI σ6 x0_y5 2 (σ6.1 x1_y5 2)) fun σ8 => (fm_let (fm_sI σ8 x0_y5 3 (σ8.1 x1_y5 3)) fun σ10 => (fm_g (fm_bz (σ10.1 x1_y5 4)) (fm_let (fm_sI σ10 x0_y5 4 (σ10.1 x1_y5 4)) fun σ12 => (some ((), σ12))))))) fm_fu a0 a1 (0 : Int32) σ
set_option maxHeartbeats 4000000 in
set_option maxRecDepth 100000 in
theorem w_X7_become_2 {p : Program} {l : Launch} {e : Env} {s : State} {m : MethodId} {args : Array Value} {below : List Frame} {meth : Method} {c : Code} {G : fm_G} {o : Unit × fm_M} {kc : Nat → Nat → Int32 → fm_M → Option (Unit × fm_M)} (hC : fm_C G p m c cX7_become 3 s args RX7) (hr : meth.sig.returnType = none) (hlk : meth.locks = false) (hk : ∀ (z0 : Nat) (z1 : Nat) (z2 : Int32) (σ : fm_M) (H : Heap) (locs : List Loc) (ls : Array Slot), fm_ct z0 = 7 → fm_ct z1 = 7 → fm_I G σ s H locs → lv_has ls 3 [(0, .ref (G.2.1 z0)), (1, .ref (G.2.1 z1)), (2, .int z2)] → kc z0 z1 z2 σ = some o → W p l e { frames := 0, cells := 0, slots := 0, locals := 0 } s m args below meth c H locs 0 0 (MQ below (fm_Qv G o) args s 0 0 (fm_A G)) (F0 m 28 ls [])) (n : Nat) : ∀ (z0 : Nat) (z1 : Nat) (z2 : Int32) (σ : fm_M) (H : Heap) (locs : List Loc) (ls : Array Slot), fm_ct z0 = 7 → fm_ct z1 = 7 → fm_I G σ s H locs → lv_has ls 3 [(0, .ref (G.2.1 z0)), (1, .ref (G.2.1 z1)), (2, .int z2)] → m_X7_become_2 kc n z0 z1 z2 σ = some o → W p l e { frames := 0, cells := 0, slots := 0, locals := 0 } s m args below meth c H locs 0 0 (MQ below (fm_Qv G o) args s 0 0 (fm_A G)) (F0 m 2 ls []) := by
  have hx := hC.1.1
  have hb := hC.1.2.1
  have hown := hC.1.2.2.2.1
  have hts := hC.1.2.2.2.2
  induction n with
  | zero =>
    intro z0 z1 z2 σ H locs ls hz0 hz1 hI hl hf
    cases hf
  | succ n ih =>
    intro z0 z1 z2 σ H locs ls hz0 hz1 hI hl hf
    rw [m_X7_become_2] at hf
    refine lv_iload_n hx hb dX7_become_2 rfl (lv_at hl 2 rfl) ?_
    refine lv_aload_n hx hb dX7_become_3 rfl (lv_at hl 1 rfl) ?_
    refine fm_gi hC hI fd_X7_1 hz1 q_107 dX7_become_4 ?_
    refine lv_icmp_ge (tgt := 28) hx hb dX7_become_7 (by decide) (fun hc => ?_) (fun hc => ?_)
    · have hf := fm_pT hf hc
      exact hk z0 z1 z2 σ _ _ _ hz0 hz1 hI (lv_sub hl [0, 1, 2] rfl) hf
    · have hf := fm_pF hf hc
      refine lv_aload_n hx hb dX7_become_10 rfl (lv_at hl 0 rfl) ?_
      refine fm_gr hC hI fd_X7_0 hz0 (fm_P0 hz0).2.1 q_106 dX7_become_11 ?_
      refine lv_iload_n hx hb dX7_become_14 rfl (lv_at hl 2 rfl) ?_
      refine lv_aload_n hx hb dX7_become_15 rfl (lv_at hl 1 rfl) ?_
      refine fm_gr hC hI fd_X7_0 hz1 (fm_P0 hz1).2.1 q_106 dX7_become_16 ?_
      refine lv_iload_n hx hb dX7_become_19 rfl (lv_at hl 2 rfl) ?_
      obtain ⟨hg1, hf⟩ := fm_gE hf
      refine fm_iald hC hI (fm_P0 hz1).1 (fm_P0 hz1).2.2 hg1 dX7_become_20 ?_
      obtain ⟨hg2, hf⟩ := fm_gE hf
      obtain ⟨σ3, e4, hf⟩ := fm_letE hf
      refine fm_iast hC hI (fm_P0 hz0).1 (fm_P0 hz0).2.2 hg2 e4 dX7_become_21 (fun H locs hI => ?_)
      refine lv_iinc (v := (z2 + (1 : Int32))) (lv' := [(2, .int (z2 + (1 : Int32))), (0, .ref (G.2.1 z0)), (1, .ref (G.2.1 z1))]) hx hb dX7_become_22 hl (k := 2) rfl rfl (Nat.le_of_ble_eq_true rfl) rfl (fun ls hl => ?_)
      refine lv_goto (tgt := 2) hx hb dX7_become_25 (by decide) ?_
      exact ih z0 z1 (z2 + (1 : Int32)) σ3 _ _ _ hz0 hz1 hI (lv_sub hl [1, 2, 0] rfl) hf
set_option maxHeartbeats 4000000 in
set_option maxRecDepth 100000 in
theorem c_X7_become {l : Launch} {G : fm_G} (hJ : fm_J G) {a0 : Nat} {a1 : Nat} {σ : fm_M} {o : Unit × fm_M} (h0 : fm_ct a0 = 7) (h1 : fm_ct a1 = 7) (hf : m_X7_become a0 a1 σ = some o) : Met l yX7_become (fm_w yX7_become cX7_become 3 none) { frames := 0, cells := 0, slots := 0, locals := 0 } (va_Pc [.ref (G.2.1 a0), .ref (G.2.1 a1)] (fm_st G σ)) (fm_Qv G o) 0 0 (fm_A G) := by
  refine fm_mth (own := RX7) hJ rfl (by decide +kernel) (Nat.le_of_ble_eq_true rfl) ?_
  intro p e s m below meth c ls hC hr hlk hI hl
  have hx := hC.1.1
  have hb := hC.1.2.1
  have hown := hC.1.2.2.2.1
  have hts := hC.1.2.2.2.2
  have hl : lv_has ls 3 [(0, .ref (G.2.1 a0)), (1, .ref (G.2.1 a1))] := hl
  rw [m_X7_become] at hf
  refine lv_iconst (v := (0 : Int32)) hx hb dX7_become_0 (by decide) ?_
  refine lv_istore_n (lv' := [(2, .int (0 : Int32)), (0, .ref (G.2.1 a0)), (1, .ref (G.2.1 a1))]) hx hb dX7_become_1 rfl hl (Nat.le_of_ble_eq_true rfl) rfl (fun ls hl => ?_)
  refine w_X7_become_2 hC hr hlk (fun x0_y5 x1_y5 x2_y5 σ_y5 H locs ls hx0_y5 hx1_y5 hI hl hf => ?_) fm_fu a0 a1 (0 : Int32) σ _ _ _ h0 h1 hI (lv_sub hl [1, 2, 0] rfl) hf
  refine lv_aload_n hx hb dX7_become_28 rfl (lv_at hl 0 rfl) ?_
  refine lv_aload_n hx hb dX7_become_29 rfl (lv_at hl 1 rfl) ?_
  refine fm_gi hC hI fd_X7_1 hx1_y5 q_107 dX7_become_30 ?_
  obtain ⟨σ6, e7, hf⟩ := fm_letE hf
  refine fm_pi hC hI fp_X7_1 hx0_y5 ⟨rfl, rfl⟩ e7 q_107 dX7_become_33 (fun H locs hI => ?_)
  refine lv_aload_n hx hb dX7_become_36 rfl (lv_at hl 0 rfl) ?_
  refine lv_aload_n hx hb dX7_become_37 rfl (lv_at hl 1 rfl) ?_
  refine fm_gi hC hI fd_X7_2 hx1_y5 q_110 dX7_become_38 ?_
  obtain ⟨σ8, e9, hf⟩ := fm_letE hf
  refine fm_pi hC hI fp_X7_2 hx0_y5 ⟨rfl, rfl⟩ e9 q_110 dX7_become_41 (fun H locs hI => ?_)
  refine lv_aload_n hx hb dX7_become_44 rfl (lv_at hl 0 rfl) ?_
  refine lv_aload_n hx hb dX7_become_45 rfl (lv_at hl 1 rfl) ?_
  refine fm_gi hC hI fd_X7_3 hx1_y5 q_113 dX7_become_46 ?_
  obtain ⟨σ10, e11, hf⟩ := fm_letE hf
  refine fm_pi hC hI fp_X7_3 hx0_y5 ⟨rfl, rfl⟩ e11 q_113 dX7_become_49 (fun H locs hI => ?_)
  refine lv_aload_n hx hb dX7_become_52 rfl (lv_at hl 0 rfl) ?_
  refine lv_aload_n hx hb dX7_become_53 rfl (lv_at hl 1 rfl) ?_
  refine fm_gi hC hI fd_X7_4 hx1_y5 q_116 dX7_become_54 ?_
  obtain ⟨hg14, hf⟩ := fm_gE hf
  obtain ⟨σ12, e13, hf⟩ := fm_letE hf
  refine fm_pi hC hI fp_X7_4 hx0_y5 (fm_bz_nar hg14) e13 q_116 dX7_become_57 (fun H locs hI => ?_)
  exact fm_rv hC hI hr hlk hf dX7_become_60
def m_X7_tells (a0 : Nat) (a1 : Int32) (σ : fm_M) : Option (Int32 × fm_M) := if a1 = (0 : Int32) then (some ((σ.1 a0 1), σ)) else (if a1 = (1 : Int32) then (some ((σ.1 a0 2), σ)) else (if a1 = (2 : Int32) then (some ((σ.1 a0 3), σ)) else (if (σ.1 a0 4) = 0 then (some ((0 : Int32), σ)) else (some ((1 : Int32), σ)))))
set_option maxHeartbeats 4000000 in
set_option maxRecDepth 100000 in
theorem c_X7_tells {l : Launch} {G : fm_G} (hJ : fm_J G) {a0 : Nat} {a1 : Int32} {σ : fm_M} {o : Int32 × fm_M} (h0 : fm_ct a0 = 7) (hf : m_X7_tells a0 a1 σ = some o) : Met l yX7_tells (fm_w yX7_tells cX7_tells 2 (some .int)) { frames := 0, cells := 0, slots := 0, locals := 0 } (va_Pc [.ref (G.2.1 a0), .int a1] (fm_st G σ)) (fm_Qi G o) 0 0 (fm_A G) := by
  refine fm_mth (own := RX7) hJ rfl (by decide +kernel) (Nat.le_of_ble_eq_true rfl) ?_
  intro p e s m below meth c ls hC hr hlk hI hl
  have hx := hC.1.1
  have hb := hC.1.2.1
  have hown := hC.1.2.2.2.1
  have hts := hC.1.2.2.2.2
  have hl : lv_has ls 2 [(0, .ref (G.2.1 a0)), (1, .int a1)] := hl
  rw [m_X7_tells] at hf
  refine lv_iload_n hx hb dX7_tells_0 rfl (lv_at hl 1 rfl) ?_
  by_cases hc1 : a1 = (0 : Int32)
  · have hf := fm_pT hf hc1
    refine lv_tableIn (off := 27) (tgt := 28) hx hb dX7_tells_1 (by rw [hc1]; decide) (by rw [hc1]; decide) (by rw [hc1]; decide) (by decide) ?_
    refine lv_aload_n hx hb dX7_tells_28 rfl (lv_at hl 0 rfl) ?_
    refine fm_gi hC hI fd_X7_1 h0 q_107 dX7_tells_29 ?_
    exact fm_ri hC hI hr hlk hf dX7_tells_32
  · have hf := fm_pF hf hc1
    by_cases hc2 : a1 = (1 : Int32)
    · have hf := fm_pT hf hc2
      refine lv_tableIn (off := 32) (tgt := 33) hx hb dX7_tells_1 (by rw [hc2]; decide) (by rw [hc2]; decide) (by rw [hc2]; decide) (by decide) ?_
      refine lv_aload_n hx hb dX7_tells_33 rfl (lv_at hl 0 rfl) ?_
      refine fm_gi hC hI fd_X7_2 h0 q_110 dX7_tells_34 ?_
      exact fm_ri hC hI hr hlk hf dX7_tells_37
    · have hf := fm_pF hf hc2
      by_cases hc3 : a1 = (2 : Int32)
      · have hf := fm_pT hf hc3
        refine lv_tableIn (off := 37) (tgt := 38) hx hb dX7_tells_1 (by rw [hc3]; decide) (by rw [hc3]; decide) (by rw [hc3]; decide) (by decide) ?_
        refine lv_aload_n hx hb dX7_tells_38 rfl (lv_at hl 0 rfl) ?_
        refine fm_gi hC hI fd_X7_3 h0 q_113 dX7_tells_39 ?_
        exact fm_ri hC hI hr hlk hf dX7_tells_42
      · have hf := fm_pF hf hc3
        have hsw : (a1 : Int32).toInt < 0 ∨ 2 < (a1 : Int32).toInt := by
          have t0 := fm_neI hc1
          rw [show ((0 : Int32)).toInt = 0 from by decide] at t0
          have t1 := fm_neI hc2
          rw [show ((1 : Int32)).toInt = 1 from by decide] at t1
          have t2 := fm_neI hc3
          rw [show ((2 : Int32)).toInt = 2 from by decide] at t2
          omega
        refine lv_tableOut (tgt := 43) hx hb dX7_tells_1 hsw (by decide) ?_
        refine lv_aload_n hx hb dX7_tells_43 rfl (lv_at hl 0 rfl) ?_
        refine fm_gi hC hI fd_X7_4 h0 q_116 dX7_tells_44 ?_
        refine lv_if_eq (tgt := 54) hx hb dX7_tells_47 (by decide) (fun hc => ?_) (fun hc => ?_)
        · have hf := fm_pT hf hc
          refine lv_iconst (v := (0 : Int32)) hx hb dX7_tells_54 (by decide) ?_
          exact fm_ri hC hI hr hlk hf dX7_tells_55
        · have hf := fm_pF hf hc
          refine lv_iconst (v := (1 : Int32)) hx hb dX7_tells_50 (by decide) ?_
          refine lv_goto (tgt := 55) hx hb dX7_tells_51 (by decide) ?_
          exact fm_ri hC hI hr hlk hf dX7_tells_55
def m_X7_paperAt (a0 : Nat) (a1 : Int32) (σ : fm_M) : Option (Int32 × fm_M) := if a1 < 0 then (some ((-1 : Int32), σ)) else (if (σ.1 a0 1) ≤ a1 then (some ((-1 : Int32), σ)) else (fm_g (fm_in1 (((σ.1 a0 1) - (1 : Int32)) - a1) 6) (some ((σ.1 (a0 + 1) (((σ.1 a0 1) - (1 : Int32)) - a1).toNatClampNeg), σ))))
set_option maxHeartbeats 4000000 in
set_option maxRecDepth 100000 in
theorem c_X7_paperAt {l : Launch} {G : fm_G} (hJ : fm_J G) {a0 : Nat} {a1 : Int32} {σ : fm_M} {o : Int32 × fm_M} (h0 : fm_ct a0 = 7) (hf : m_X7_paperAt a0 a1 σ = some o) : Met l yX7_paperAt (fm_w yX7_paperAt cX7_paperAt 2 (some .int)) { frames := 0, cells := 0, slots := 0, locals := 0 } (va_Pc [.ref (G.2.1 a0), .int a1] (fm_st G σ)) (fm_Qi G o) 0 0 (fm_A G) := by
  refine fm_mth (own := RX7) hJ rfl (by decide +kernel) (Nat.le_of_ble_eq_true rfl) ?_
  intro p e s m below meth c ls hC hr hlk hI hl
  have hx := hC.1.1
  have hb := hC.1.2.1
  have hown := hC.1.2.2.2.1
  have hts := hC.1.2.2.2.2
  have hl : lv_has ls 2 [(0, .ref (G.2.1 a0)), (1, .int a1)] := hl
  rw [m_X7_paperAt] at hf
  refine lv_iload_n hx hb dX7_paperAt_0 rfl (lv_at hl 1 rfl) ?_
  refine lv_if_lt (tgt := 28) hx hb dX7_paperAt_1 (by decide) (fun hc => ?_) (fun hc => ?_)
  · have hf := fm_pT hf hc
    refine lv_iconst (v := (-1 : Int32)) hx hb dX7_paperAt_28 (by decide) ?_
    exact fm_ri hC hI hr hlk hf dX7_paperAt_29
  · have hf := fm_pF hf hc
    refine lv_iload_n hx hb dX7_paperAt_4 rfl (lv_at hl 1 rfl) ?_
    refine lv_aload_n hx hb dX7_paperAt_5 rfl (lv_at hl 0 rfl) ?_
    refine fm_gi hC hI fd_X7_1 h0 q_107 dX7_paperAt_6 ?_
    refine lv_icmp_ge (tgt := 28) hx hb dX7_paperAt_9 (by decide) (fun hc => ?_) (fun hc => ?_)
    · have hf := fm_pT hf hc
      refine lv_iconst (v := (-1 : Int32)) hx hb dX7_paperAt_28 (by decide) ?_
      exact fm_ri hC hI hr hlk hf dX7_paperAt_29
    · have hf := fm_pF hf hc
      refine lv_aload_n hx hb dX7_paperAt_12 rfl (lv_at hl 0 rfl) ?_
      refine fm_gr hC hI fd_X7_0 h0 (fm_P0 h0).2.1 q_106 dX7_paperAt_13 ?_
      refine lv_aload_n hx hb dX7_paperAt_16 rfl (lv_at hl 0 rfl) ?_
      refine fm_gi hC hI fd_X7_1 h0 q_107 dX7_paperAt_17 ?_
      refine lv_iconst (v := (1 : Int32)) hx hb dX7_paperAt_20 (by decide) ?_
      refine lv_isub hx hb dX7_paperAt_21 ?_
      refine lv_iload_n hx hb dX7_paperAt_22 rfl (lv_at hl 1 rfl) ?_
      refine lv_isub hx hb dX7_paperAt_23 ?_
      obtain ⟨hg1, hf⟩ := fm_gE hf
      refine fm_iald hC hI (fm_P0 h0).1 (fm_P0 h0).2.2 hg1 dX7_paperAt_24 ?_
      refine lv_goto (tgt := 29) hx hb dX7_paperAt_25 (by decide) ?_
      exact fm_ri hC hI hr hlk hf dX7_paperAt_29
def m_X7_outermost (a0 : Nat) (σ : fm_M) : Option (Int32 × fm_M) := fm_b (m_X7_paperAt a0 (0 : Int32) σ) fun r1 σ2 => (some (r1, σ2))
set_option maxHeartbeats 4000000 in
set_option maxRecDepth 100000 in
theorem c_X7_outermost {l : Launch} {G : fm_G} (hJ : fm_J G) {a0 : Nat} {σ : fm_M} {o : Int32 × fm_M} (h0 : fm_ct a0 = 7) (hf : m_X7_outermost a0 σ = some o) : Met l yX7_outermost (fm_w yX7_outermost cX7_outermost 1 (some .int)) { frames := 1, cells := 0, slots := 0, locals := 21 } (va_Pc [.ref (G.2.1 a0)] (fm_st G σ)) (fm_Qi G o) 0 0 (fm_A G) := by
  refine fm_mth (own := RX7) hJ rfl (by decide +kernel) (Nat.le_of_ble_eq_true rfl) ?_
  intro p e s m below meth c ls hC hr hlk hI hl
  have hx := hC.1.1
  have hb := hC.1.2.1
  have hown := hC.1.2.2.2.1
  have hts := hC.1.2.2.2.2
  have hl : lv_has ls 1 [(0, .ref (G.2.1 a0))] := hl
  rw [m_X7_outermost] at hf
  refine lv_aload_n hx hb dX7_outermost_0 rfl (lv_at hl 0 rfl) ?_
  refine lv_iconst (v := (0 : Int32)) hx hb dX7_outermost_1 (by decide) ?_
  obtain ⟨r1, σ2, hq3, hf⟩ := fm_bE hf
  refine fm_ci hI (fm_runV (As := [.int (0 : Int32)]) (rest := []) (rm := { frames := 0, cells := 0, slots := 0, locals := 0 }) hC hI (c_X7_paperAt hC.2.2.1 h0 hq3) mV_X7_paperAt q_292 ⟨rfl, rfl⟩ ⟨Nat.le_of_ble_eq_true rfl, Nat.le_of_ble_eq_true rfl⟩ h0 rfl (by decide) rfl hl.1 rfl (Nat.le_of_ble_eq_true rfl) dX7_outermost_2 ⟨Nat.zero_le _, Nat.zero_le _⟩) (fun H locs hI => ?_)
  exact fm_ri hC hI hr hlk hf dX7_outermost_5
def m_X7_layAbout (a0 : Nat) (a1 : Int32) (σ : fm_M) : Option (Unit × fm_M) := if (6 : Int32) ≤ (σ.1 a0 1) then (some ((), σ)) else (fm_g (fm_in1 (σ.1 a0 1) 6) (fm_let (fm_sI σ (a0 + 1) (σ.1 a0 1).toNatClampNeg a1) fun σ2 => (fm_let (fm_sI σ2 a0 1 ((σ2.1 a0 1) + (1 : Int32))) fun σ4 => (some ((), σ4)))))
set_option maxHeartbeats 4000000 in
set_option maxRecDepth 100000 in
theorem c_X7_layAbout {l : Launch} {G : fm_G} (hJ : fm_J G) {a0 : Nat} {a1 : Int32} {σ : fm_M} {o : Unit × fm_M} (h0 : fm_ct a0 = 7) (hf : m_X7_layAbout a0 a1 σ = some o) : Met l yX7_layAbout (fm_w yX7_layAbout cX7_layAbout 2 none) { frames := 0, cells := 0, slots := 0, locals := 0 } (va_Pc [.ref (G.2.1 a0), .int a1] (fm_st G σ)) (fm_Qv G o) 0 0 (fm_A G) := by
  refine fm_mth (own := RX7) hJ rfl (by decide +kernel) (Nat.le_of_ble_eq_true rfl) ?_
  intro p e s m below meth c ls hC hr hlk hI hl
  have hx := hC.1.1
  have hb := hC.1.2.1
  have hown := hC.1.2.2.2.1
  have hts := hC.1.2.2.2.2
  have hl : lv_has ls 2 [(0, .ref (G.2.1 a0)), (1, .int a1)] := hl
  rw [m_X7_layAbout] at hf
  refine lv_aload_n hx hb dX7_layAbout_0 rfl (lv_at hl 0 rfl) ?_
  refine fm_gi hC hI fd_X7_1 h0 q_107 dX7_layAbout_1 ?_
  refine lv_bipush (v := (6 : Int32)) hx hb dX7_layAbout_4 (by decide) ?_
  refine lv_icmp_ge (tgt := 29) hx hb dX7_layAbout_6 (by decide) (fun hc => ?_) (fun hc => ?_)
  · have hf := fm_pT hf hc
    exact fm_rv hC hI hr hlk hf dX7_layAbout_29
  · have hf := fm_pF hf hc
    refine lv_aload_n hx hb dX7_layAbout_9 rfl (lv_at hl 0 rfl) ?_
    refine fm_gr hC hI fd_X7_0 h0 (fm_P0 h0).2.1 q_106 dX7_layAbout_10 ?_
    refine lv_aload_n hx hb dX7_layAbout_13 rfl (lv_at hl 0 rfl) ?_
    refine fm_gi hC hI fd_X7_1 h0 q_107 dX7_layAbout_14 ?_
    refine lv_iload_n hx hb dX7_layAbout_17 rfl (lv_at hl 1 rfl) ?_
    obtain ⟨hg1, hf⟩ := fm_gE hf
    obtain ⟨σ2, e3, hf⟩ := fm_letE hf
    refine fm_iast hC hI (fm_P0 h0).1 (fm_P0 h0).2.2 hg1 e3 dX7_layAbout_18 (fun H locs hI => ?_)
    refine lv_aload_n hx hb dX7_layAbout_19 rfl (lv_at hl 0 rfl) ?_
    refine lv_dup hx hb dX7_layAbout_20 rfl ?_
    refine fm_gi hC hI fd_X7_1 h0 q_107 dX7_layAbout_21 ?_
    refine lv_iconst (v := (1 : Int32)) hx hb dX7_layAbout_24 (by decide) ?_
    refine lv_iadd hx hb dX7_layAbout_25 ?_
    obtain ⟨σ4, e5, hf⟩ := fm_letE hf
    refine fm_pi hC hI fp_X7_1 h0 ⟨rfl, rfl⟩ e5 q_107 dX7_layAbout_26 (fun H locs hI => ?_)
    exact fm_rv hC hI hr hlk hf dX7_layAbout_29
def m_X7_layInnermost_14 (kc : Nat → Int32 → Int32 → fm_M → Option (Unit × fm_M)) : Nat → Nat → Int32 → Int32 → fm_M → Option (Unit × fm_M)
  | 0, _, _, _, _ => none
  | n + 1, z0, z1, z2, σ => if z2 ≤ 0 then (kc z0 z1 z2 σ) else (fm_g (fm_in1 (z2 - (1 : Int32)) 6) (fm_g (fm_in1 z2 6) (fm_let (fm_sI σ (z0 + 1) z2.toNatClampNeg (σ.1 (z0 + 1) (z2 - (1 : Int32)).toNatClampNeg)) fun σ3 => (m_X7_layInnermost_14 kc n z0 z1 (z2 + (-1 : Int32)) σ3))))
def m_X7_layInnermost (a0 : Nat) (a1 : Int32) (σ : fm_M) : Option (Unit × fm_M) := if (6 : Int32) ≤ (σ.1 a0 1) then (some ((), σ)) else (m_X7_layInnermost_14 (fun (x0_y5 : Nat) (x1_y5 : Int32) (x2_y5 : Int32) (σ_y5 : fm_M) => fm_g (fm_in1 (0 : Int32) 6) (fm_let (fm_sI σ_y5 (x0_y5 + 1) (0 : Int32).toNatClampNeg x1_y5) fun σ7 => (fm_let (fm_sI σ7 x0_y5 1 ((σ7.1 x0_y5 1) + (1 : Int32))) fun σ9 => (some ((), σ9))))) fm_fu a0 a1 (σ.1 a0 1) σ)
set_option maxHeartbeats 4000000 in
set_option maxRecDepth 100000 in
theorem w_X7_layInnermost_14 {p : Program} {l : Launch} {e : Env} {s : State} {m : MethodId} {args : Array Value} {below : List Frame} {meth : Method} {c : Code} {G : fm_G} {o : Unit × fm_M} {kc : Nat → Int32 → Int32 → fm_M → Option (Unit × fm_M)} (hC : fm_C G p m c cX7_layInnermost 3 s args RX7) (hr : meth.sig.returnType = none) (hlk : meth.locks = false) (hk : ∀ (z0 : Nat) (z1 : Int32) (z2 : Int32) (σ : fm_M) (H : Heap) (locs : List Loc) (ls : Array Slot), fm_ct z0 = 7 → fm_I G σ s H locs → lv_has ls 3 [(0, .ref (G.2.1 z0)), (1, .int z1), (2, .int z2)] → kc z0 z1 z2 σ = some o → W p l e { frames := 0, cells := 0, slots := 0, locals := 0 } s m args below meth c H locs 0 0 (MQ below (fm_Qv G o) args s 0 0 (fm_A G)) (F0 m 38 ls [])) (n : Nat) : ∀ (z0 : Nat) (z1 : Int32) (z2 : Int32) (σ : fm_M) (H : Heap) (locs : List Loc) (ls : Array Slot), fm_ct z0 = 7 → fm_I G σ s H locs → lv_has ls 3 [(0, .ref (G.2.1 z0)), (1, .int z1), (2, .int z2)] → m_X7_layInnermost_14 kc n z0 z1 z2 σ = some o → W p l e { frames := 0, cells := 0, slots := 0, locals := 0 } s m args below meth c H locs 0 0 (MQ below (fm_Qv G o) args s 0 0 (fm_A G)) (F0 m 14 ls []) := by
  have hx := hC.1.1
  have hb := hC.1.2.1
  have hown := hC.1.2.2.2.1
  have hts := hC.1.2.2.2.2
  induction n with
  | zero =>
    intro z0 z1 z2 σ H locs ls hz0 hI hl hf
    cases hf
  | succ n ih =>
    intro z0 z1 z2 σ H locs ls hz0 hI hl hf
    rw [m_X7_layInnermost_14] at hf
    refine lv_iload_n hx hb dX7_layInnermost_14 rfl (lv_at hl 2 rfl) ?_
    refine lv_if_le (tgt := 38) hx hb dX7_layInnermost_15 (by decide) (fun hc => ?_) (fun hc => ?_)
    · have hf := fm_pT hf hc
      exact hk z0 z1 z2 σ _ _ _ hz0 hI (lv_sub hl [0, 1, 2] rfl) hf
    · have hf := fm_pF hf hc
      refine lv_aload_n hx hb dX7_layInnermost_18 rfl (lv_at hl 0 rfl) ?_
      refine fm_gr hC hI fd_X7_0 hz0 (fm_P0 hz0).2.1 q_106 dX7_layInnermost_19 ?_
      refine lv_iload_n hx hb dX7_layInnermost_22 rfl (lv_at hl 2 rfl) ?_
      refine lv_aload_n hx hb dX7_layInnermost_23 rfl (lv_at hl 0 rfl) ?_
      refine fm_gr hC hI fd_X7_0 hz0 (fm_P0 hz0).2.1 q_106 dX7_layInnermost_24 ?_
      refine lv_iload_n hx hb dX7_layInnermost_27 rfl (lv_at hl 2 rfl) ?_
      refine lv_iconst (v := (1 : Int32)) hx hb dX7_layInnermost_28 (by decide) ?_
      refine lv_isub hx hb dX7_layInnermost_29 ?_
      obtain ⟨hg1, hf⟩ := fm_gE hf
      refine fm_iald hC hI (fm_P0 hz0).1 (fm_P0 hz0).2.2 hg1 dX7_layInnermost_30 ?_
      obtain ⟨hg2, hf⟩ := fm_gE hf
      obtain ⟨σ3, e4, hf⟩ := fm_letE hf
      refine fm_iast hC hI (fm_P0 hz0).1 (fm_P0 hz0).2.2 hg2 e4 dX7_layInnermost_31 (fun H locs hI => ?_)
      refine lv_iinc (v := (z2 + (-1 : Int32))) (lv' := [(2, .int (z2 + (-1 : Int32))), (0, .ref (G.2.1 z0)), (1, .int z1)]) hx hb dX7_layInnermost_32 hl (k := 2) rfl rfl (Nat.le_of_ble_eq_true rfl) rfl (fun ls hl => ?_)
      refine lv_goto (tgt := 14) hx hb dX7_layInnermost_35 (by decide) ?_
      exact ih z0 z1 (z2 + (-1 : Int32)) σ3 _ _ _ hz0 hI (lv_sub hl [1, 2, 0] rfl) hf
set_option maxHeartbeats 4000000 in
set_option maxRecDepth 100000 in
theorem c_X7_layInnermost {l : Launch} {G : fm_G} (hJ : fm_J G) {a0 : Nat} {a1 : Int32} {σ : fm_M} {o : Unit × fm_M} (h0 : fm_ct a0 = 7) (hf : m_X7_layInnermost a0 a1 σ = some o) : Met l yX7_layInnermost (fm_w yX7_layInnermost cX7_layInnermost 3 none) { frames := 0, cells := 0, slots := 0, locals := 0 } (va_Pc [.ref (G.2.1 a0), .int a1] (fm_st G σ)) (fm_Qv G o) 0 0 (fm_A G) := by
  refine fm_mth (own := RX7) hJ rfl (by decide +kernel) (Nat.le_of_ble_eq_true rfl) ?_
  intro p e s m below meth c ls hC hr hlk hI hl
  have hx := hC.1.1
  have hb := hC.1.2.1
  have hown := hC.1.2.2.2.1
  have hts := hC.1.2.2.2.2
  have hl : lv_has ls 3 [(0, .ref (G.2.1 a0)), (1, .int a1)] := hl
  rw [m_X7_layInnermost] at hf
  refine lv_aload_n hx hb dX7_layInnermost_0 rfl (lv_at hl 0 rfl) ?_
  refine fm_gi hC hI fd_X7_1 h0 q_107 dX7_layInnermost_1 ?_
  refine lv_bipush (v := (6 : Int32)) hx hb dX7_layInnermost_4 (by decide) ?_
  refine lv_icmp_ge (tgt := 55) hx hb dX7_layInnermost_6 (by decide) (fun hc => ?_) (fun hc => ?_)
  · have hf := fm_pT hf hc
    exact fm_rv hC hI hr hlk hf dX7_layInnermost_55
  · have hf := fm_pF hf hc
    refine lv_aload_n hx hb dX7_layInnermost_9 rfl (lv_at hl 0 rfl) ?_
    refine fm_gi hC hI fd_X7_1 h0 q_107 dX7_layInnermost_10 ?_
    refine lv_istore_n (lv' := [(2, .int (σ.1 a0 1)), (0, .ref (G.2.1 a0)), (1, .int a1)]) hx hb dX7_layInnermost_13 rfl hl (Nat.le_of_ble_eq_true rfl) rfl (fun ls hl => ?_)
    refine w_X7_layInnermost_14 hC hr hlk (fun x0_y5 x1_y5 x2_y5 σ_y5 H locs ls hx0_y5 hI hl hf => ?_) fm_fu a0 a1 (σ.1 a0 1) σ _ _ _ h0 hI (lv_sub hl [1, 2, 0] rfl) hf
    refine lv_aload_n hx hb dX7_layInnermost_38 rfl (lv_at hl 0 rfl) ?_
    refine fm_gr hC hI fd_X7_0 hx0_y5 (fm_P0 hx0_y5).2.1 q_106 dX7_layInnermost_39 ?_
    refine lv_iconst (v := (0 : Int32)) hx hb dX7_layInnermost_42 (by decide) ?_
    refine lv_iload_n hx hb dX7_layInnermost_43 rfl (lv_at hl 1 rfl) ?_
    obtain ⟨hg6, hf⟩ := fm_gE hf
    obtain ⟨σ7, e8, hf⟩ := fm_letE hf
    refine fm_iast hC hI (fm_P0 hx0_y5).1 (fm_P0 hx0_y5).2.2 hg6 e8 dX7_layInnermost_44 (fun H locs hI => ?_)
    refine lv_aload_n hx hb dX7_layInnermost_45 rfl (lv_at hl 0 rfl) ?_
    refine lv_dup hx hb dX7_layInnermost_46 rfl ?_
    refine fm_gi hC hI fd_X7_1 hx0_y5 q_107 dX7_layInnermost_47 ?_
    refine lv_iconst (v := (1 : Int32)) hx hb dX7_layInnermost_50 (by decide) ?_
    refine lv_iadd hx hb dX7_layInnermost_51 ?_
    obtain ⟨σ9, e10, hf⟩ := fm_letE hf
    refine fm_pi hC hI fp_X7_1 hx0_y5 ⟨rfl, rfl⟩ e10 q_107 dX7_layInnermost_52 (fun H locs hI => ?_)
    exact fm_rv hC hI hr hlk hf dX7_layInnermost_55
def m_X7_layAnew_7 (kc : Nat → Int32 → Int32 → fm_M → Option (Unit × fm_M)) : Nat → Nat → Int32 → Int32 → fm_M → Option (Unit × fm_M)
  | 0, _, _, _, _ => none
  | n + 1, z0, z2, z3, σ => if z2 ≤ z3 then (kc z0 z2 z3 σ) else (if (Int32.ofNat 6) ≤ z3 then (kc z0 z2 z3 σ) else (fm_g (fm_in1 z3 6) (fm_b (m_X7_layInnermost z0 (σ.1 95 z3.toNatClampNeg) σ) fun _u4 σ5 => (m_X7_layAnew_7 kc n z0 z2 (z3 + (1 : Int32)) σ5))))
def m_X7_layAnew (a0 : Nat) (a2 : Int32) (σ : fm_M) : Option (Unit × fm_M) := fm_let (fm_sI σ a0 1 (0 : Int32)) fun σ1 => (m_X7_layAnew_7 (fun (x0_y7 : Nat) (x2_y7 : Int32) (x3_y7 : Int32) (σ_y7 : fm_M) => some ((), σ_y7)) fm_fu a0 a2 (0 : Int32) σ1)
set_option maxHeartbeats 4000000 in
set_option maxRecDepth 100000 in
theorem w_X7_layAnew_7 {p : Program} {l : Launch} {e : Env} {s : State} {m : MethodId} {args : Array Value} {below : List Frame} {meth : Method} {c : Code} {G : fm_G} {o : Unit × fm_M} {kc : Nat → Int32 → Int32 → fm_M → Option (Unit × fm_M)} (hC : fm_C G p m c cX7_layAnew 4 s args RX7) (hr : meth.sig.returnType = none) (hlk : meth.locks = false) (hk : ∀ (z0 : Nat) (z2 : Int32) (z3 : Int32) (σ : fm_M) (H : Heap) (locs : List Loc) (ls : Array Slot), fm_ct z0 = 7 → fm_I G σ s H locs → lv_has ls 4 [(0, .ref (G.2.1 z0)), (1, .ref (G.2.1 95)), (2, .int z2), (3, .int z3)] → kc z0 z2 z3 σ = some o → W p l e { frames := 1, cells := 0, slots := 0, locals := 22 } s m args below meth c H locs 0 0 (MQ below (fm_Qv G o) args s 0 0 (fm_A G)) (F0 m 31 ls [])) (n : Nat) : ∀ (z0 : Nat) (z2 : Int32) (z3 : Int32) (σ : fm_M) (H : Heap) (locs : List Loc) (ls : Array Slot), fm_ct z0 = 7 → fm_I G σ s H locs → lv_has ls 4 [(0, .ref (G.2.1 z0)), (1, .ref (G.2.1 95)), (2, .int z2), (3, .int z3)] → m_X7_layAnew_7 kc n z0 z2 z3 σ = some o → W p l e { frames := 1, cells := 0, slots := 0, locals := 22 } s m args below meth c H locs 0 0 (MQ below (fm_Qv G o) args s 0 0 (fm_A G)) (F0 m 7 ls []) := by
  have hx := hC.1.1
  have hb := hC.1.2.1
  have hown := hC.1.2.2.2.1
  have hts := hC.1.2.2.2.2
  induction n with
  | zero =>
    intro z0 z2 z3 σ H locs ls hz0 hI hl hf
    cases hf
  | succ n ih =>
    intro z0 z2 z3 σ H locs ls hz0 hI hl hf
    rw [m_X7_layAnew_7] at hf
    refine lv_iload_n hx hb dX7_layAnew_7 rfl (lv_at hl 3 rfl) ?_
    refine lv_iload_n hx hb dX7_layAnew_8 rfl (lv_at hl 2 rfl) ?_
    refine lv_icmp_ge (tgt := 31) hx hb dX7_layAnew_9 (by decide) (fun hc => ?_) (fun hc => ?_)
    · have hf := fm_pT hf hc
      exact hk z0 z2 z3 σ _ _ _ hz0 hI (lv_sub hl [0, 1, 2, 3] rfl) hf
    · have hf := fm_pF hf hc
      refine lv_iload_n hx hb dX7_layAnew_12 rfl (lv_at hl 3 rfl) ?_
      refine lv_aload_n hx hb dX7_layAnew_13 rfl (lv_at hl 1 rfl) ?_
      refine fm_alenI hC hI fc_95 (by decide) (by decide) fl_95 rfl dX7_layAnew_14 ?_
      refine lv_icmp_ge (tgt := 31) hx hb dX7_layAnew_15 (by decide) (fun hc => ?_) (fun hc => ?_)
      · have hf := fm_pT hf hc
        exact hk z0 z2 z3 σ _ _ _ hz0 hI (lv_sub hl [0, 1, 2, 3] rfl) hf
      · have hf := fm_pF hf hc
        refine lv_aload_n hx hb dX7_layAnew_18 rfl (lv_at hl 0 rfl) ?_
        refine lv_aload_n hx hb dX7_layAnew_19 rfl (lv_at hl 1 rfl) ?_
        refine lv_iload_n hx hb dX7_layAnew_20 rfl (lv_at hl 3 rfl) ?_
        obtain ⟨hg3, hf⟩ := fm_gE hf
        refine fm_iald hC hI fc_95 fl_95 hg3 dX7_layAnew_21 ?_
        obtain ⟨_u4, σ5, hq6, hf⟩ := fm_bE hf
        refine fm_cv hI (fm_runV (As := [.int (σ.1 95 z3.toNatClampNeg)]) (rest := []) (rm := { frames := 0, cells := 0, slots := 0, locals := 0 }) hC hI (c_X7_layInnermost hC.2.2.1 hz0 hq6) mV_X7_layInnermost q_570 ⟨rfl, rfl⟩ ⟨Nat.le_of_ble_eq_true rfl, Nat.le_of_ble_eq_true rfl⟩ hz0 rfl (by decide) rfl hl.1 rfl (Nat.le_of_ble_eq_true rfl) dX7_layAnew_22 ⟨Nat.zero_le _, Nat.zero_le _⟩) (fun H locs hI => ?_)
        refine lv_iinc (v := (z3 + (1 : Int32))) (lv' := [(3, .int (z3 + (1 : Int32))), (0, .ref (G.2.1 z0)), (1, .ref (G.2.1 95)), (2, .int z2)]) hx hb dX7_layAnew_25 hl (k := 3) rfl rfl (Nat.le_of_ble_eq_true rfl) rfl (fun ls hl => ?_)
        refine lv_goto (tgt := 7) hx hb dX7_layAnew_28 (by decide) ?_
        exact ih z0 z2 (z3 + (1 : Int32)) σ5 _ _ _ hz0 hI (lv_sub hl [1, 2, 3, 0] rfl) hf
set_option maxHeartbeats 4000000 in
set_option maxRecDepth 100000 in
theorem c_X7_layAnew {l : Launch} {G : fm_G} (hJ : fm_J G) {a0 : Nat} {a2 : Int32} {σ : fm_M} {o : Unit × fm_M} (h0 : fm_ct a0 = 7) (hf : m_X7_layAnew a0 a2 σ = some o) : Met l yX7_layAnew (fm_w yX7_layAnew cX7_layAnew 4 none) { frames := 1, cells := 0, slots := 0, locals := 22 } (va_Pc [.ref (G.2.1 a0), .ref (G.2.1 95), .int a2] (fm_st G σ)) (fm_Qv G o) 0 0 (fm_A G) := by
  refine fm_mth (own := RX7) hJ rfl (by decide +kernel) (Nat.le_of_ble_eq_true rfl) ?_
  intro p e s m below meth c ls hC hr hlk hI hl
  have hx := hC.1.1
  have hb := hC.1.2.1
  have hown := hC.1.2.2.2.1
  have hts := hC.1.2.2.2.2
  have hl : lv_has ls 4 [(0, .ref (G.2.1 a0)), (1, .ref (G.2.1 95)), (2, .int a2)] := hl
  rw [m_X7_layAnew] at hf
  refine lv_aload_n hx hb dX7_layAnew_0 rfl (lv_at hl 0 rfl) ?_
  refine lv_iconst (v := (0 : Int32)) hx hb dX7_layAnew_1 (by decide) ?_
  obtain ⟨σ1, e2, hf⟩ := fm_letE hf
  refine fm_pi hC hI fp_X7_1 h0 ⟨rfl, rfl⟩ e2 q_107 dX7_layAnew_2 (fun H locs hI => ?_)
  refine lv_iconst (v := (0 : Int32)) hx hb dX7_layAnew_5 (by decide) ?_
  refine lv_istore_n (lv' := [(3, .int (0 : Int32)), (0, .ref (G.2.1 a0)), (1, .ref (G.2.1 95)), (2, .int a2)]) hx hb dX7_layAnew_6 rfl hl (Nat.le_of_ble_eq_true rfl) rfl (fun ls hl => ?_)
  refine w_X7_layAnew_7 hC hr hlk (fun x0_y7 x2_y7 x3_y7 σ_y7 H locs ls hx0_y7 hI hl hf => ?_) fm_fu a0 a2 (0 : Int32) σ1 _ _ _ h0 hI (lv_sub hl [1, 2, 3, 0] rfl) hf
  exact fm_rv hC hI hr hlk hf dX7_layAnew_31
def m_X7_takeOff (a0 : Nat) (σ : fm_M) : Option (Int32 × fm_M) := fm_b (m_X7_outermost a0 σ) fun r1 σ2 => (if (σ2.1 a0 1) ≤ 0 then (some (r1, σ2)) else (fm_let (fm_sI σ2 a0 1 ((σ2.1 a0 1) - (1 : Int32))) fun σ4 => (some (r1, σ4))))
set_option maxHeartbeats 4000000 in
set_option maxRecDepth 100000 in
theorem c_X7_takeOff {l : Launch} {G : fm_G} (hJ : fm_J G) {a0 : Nat} {σ : fm_M} {o : Int32 × fm_M} (h0 : fm_ct a0 = 7) (hf : m_X7_takeOff a0 σ = some o) : Met l yX7_takeOff (fm_w yX7_takeOff cX7_takeOff 2 (some .int)) { frames := 2, cells := 0, slots := 0, locals := 41 } (va_Pc [.ref (G.2.1 a0)] (fm_st G σ)) (fm_Qi G o) 0 0 (fm_A G) := by
  refine fm_mth (own := RX7) hJ rfl (by decide +kernel) (Nat.le_of_ble_eq_true rfl) ?_
  intro p e s m below meth c ls hC hr hlk hI hl
  have hx := hC.1.1
  have hb := hC.1.2.1
  have hown := hC.1.2.2.2.1
  have hts := hC.1.2.2.2.2
  have hl : lv_has ls 2 [(0, .ref (G.2.1 a0))] := hl
  rw [m_X7_takeOff] at hf
  refine lv_aload_n hx hb dX7_takeOff_0 rfl (lv_at hl 0 rfl) ?_
  obtain ⟨r1, σ2, hq3, hf⟩ := fm_bE hf
  refine fm_ci hI (fm_runV (As := []) (rest := []) (rm := { frames := 1, cells := 0, slots := 0, locals := 21 }) hC hI (c_X7_outermost hC.2.2.1 h0 hq3) mV_X7_outermost q_451 ⟨rfl, rfl⟩ ⟨Nat.le_of_ble_eq_true rfl, Nat.le_of_ble_eq_true rfl⟩ h0 rfl (by decide) rfl hl.1 rfl (Nat.le_of_ble_eq_true rfl) dX7_takeOff_1 ⟨Nat.zero_le _, Nat.zero_le _⟩) (fun H locs hI => ?_)
  refine lv_istore_n (lv' := [(1, .int r1), (0, .ref (G.2.1 a0))]) hx hb dX7_takeOff_4 rfl hl (Nat.le_of_ble_eq_true rfl) rfl (fun ls hl => ?_)
  refine lv_aload_n hx hb dX7_takeOff_5 rfl (lv_at hl 1 rfl) ?_
  refine fm_gi hC hI fd_X7_1 h0 q_107 dX7_takeOff_6 ?_
  refine lv_if_le (tgt := 22) hx hb dX7_takeOff_9 (by decide) (fun hc => ?_) (fun hc => ?_)
  · have hf := fm_pT hf hc
    refine lv_iload_n hx hb dX7_takeOff_22 rfl (lv_at hl 0 rfl) ?_
    exact fm_ri hC hI hr hlk hf dX7_takeOff_23
  · have hf := fm_pF hf hc
    refine lv_aload_n hx hb dX7_takeOff_12 rfl (lv_at hl 1 rfl) ?_
    refine lv_dup hx hb dX7_takeOff_13 rfl ?_
    refine fm_gi hC hI fd_X7_1 h0 q_107 dX7_takeOff_14 ?_
    refine lv_iconst (v := (1 : Int32)) hx hb dX7_takeOff_17 (by decide) ?_
    refine lv_isub hx hb dX7_takeOff_18 ?_
    obtain ⟨σ4, e5, hf⟩ := fm_letE hf
    refine fm_pi hC hI fp_X7_1 h0 ⟨rfl, rfl⟩ e5 q_107 dX7_takeOff_19 (fun H locs hI => ?_)
    refine lv_iload_n hx hb dX7_takeOff_22 rfl (lv_at hl 0 rfl) ?_
    exact fm_ri hC hI hr hlk hf dX7_takeOff_23
def m_X8_begin_12 (kc : Nat → Int32 → fm_M → Option (Unit × fm_M)) : Nat → Nat → Int32 → fm_M → Option (Unit × fm_M)
  | 0, _, _, _ => none
  | n + 1, z0, z3, σ => if (40 : Int32) ≤ z3 then (kc z0 z3 σ) else (fm_g (fm_in1 z3 40) (fm_let (fm_sL σ (z0 + 1) z3.toNatClampNeg (0 : Int64)) fun σ6 => (m_X8_begin_12 kc n z0 (z3 + (1 : Int32)) σ6)))
def m_X8_begin (a0 : Nat) (a1 : Int32) (a2 : Int32) (σ : fm_M) : Option (Unit × fm_M) := fm_let (fm_sI σ a0 1 a1) fun σ1 => (fm_let (fm_sI σ1 a0 2 a2) fun σ3 => (m_X8_begin_12 (fun (x0_y8 : Nat) (x3_y8 : Int32) (σ_y8 : fm_M) => some ((), σ_y8)) fm_fu a0 (0 : Int32) σ3))
set_option maxHeartbeats 4000000 in
set_option maxRecDepth 100000 in
theorem w_X8_begin_12 {p : Program} {l : Launch} {e : Env} {s : State} {m : MethodId} {args : Array Value} {below : List Frame} {meth : Method} {c : Code} {G : fm_G} {o : Unit × fm_M} {kc : Nat → Int32 → fm_M → Option (Unit × fm_M)} (hC : fm_C G p m c cX8_begin 4 s args RX8) (hr : meth.sig.returnType = none) (hlk : meth.locks = false) (hk : ∀ (z0 : Nat) (z3 : Int32) (σ : fm_M) (H : Heap) (locs : List Loc) (ls : Array Slot), fm_ct z0 = 8 → fm_I G σ s H locs → lv_has ls 4 [(0, .ref (G.2.1 z0)), (3, .int z3)] → kc z0 z3 σ = some o → W p l e { frames := 0, cells := 0, slots := 0, locals := 0 } s m args below meth c H locs 0 0 (MQ below (fm_Qv G o) args s 0 0 (fm_A G)) (F0 m 31 ls [])) (n : Nat) : ∀ (z0 : Nat) (z3 : Int32) (σ : fm_M) (H : Heap) (locs : List Loc) (ls : Array Slot), fm_ct z0 = 8 → fm_I G σ s H locs → lv_has ls 4 [(0, .ref (G.2.1 z0)), (3, .int z3)] → m_X8_begin_12 kc n z0 z3 σ = some o → W p l e { frames := 0, cells := 0, slots := 0, locals := 0 } s m args below meth c H locs 0 0 (MQ below (fm_Qv G o) args s 0 0 (fm_A G)) (F0 m 12 ls []) := by
  have hx := hC.1.1
  have hb := hC.1.2.1
  have hown := hC.1.2.2.2.1
  have hts := hC.1.2.2.2.2
  induction n with
  | zero =>
    intro z0 z3 σ H locs ls hz0 hI hl hf
    cases hf
  | succ n ih =>
    intro z0 z3 σ H locs ls hz0 hI hl hf
    rw [m_X8_begin_12] at hf
    refine lv_iload_n hx hb dX8_begin_12 rfl (lv_at hl 1 rfl) ?_
    refine lv_bipush (v := (40 : Int32)) hx hb dX8_begin_13 (by decide) ?_
    refine lv_icmp_ge (tgt := 31) hx hb dX8_begin_15 (by decide) (fun hc => ?_) (fun hc => ?_)
    · have hf := fm_pT hf hc
      exact hk z0 z3 σ _ _ _ hz0 hI (lv_sub hl [0, 1] rfl) hf
    · have hf := fm_pF hf hc
      refine lv_aload_n hx hb dX8_begin_18 rfl (lv_at hl 0 rfl) ?_
      refine fm_gr hC hI fd_X8_0 hz0 (fm_S0 hz0).2.1 q_165 dX8_begin_19 ?_
      refine lv_iload_n hx hb dX8_begin_22 rfl (lv_at hl 1 rfl) ?_
      refine lv_lconst (v := (0 : Int64)) hx hb dX8_begin_23 (by decide) ?_
      obtain ⟨hg5, hf⟩ := fm_gE hf
      obtain ⟨σ6, e7, hf⟩ := fm_letE hf
      refine fm_last hC hI (fm_S0 hz0).1 (fm_S0 hz0).2.2 hg5 e7 dX8_begin_24 (fun H locs hI => ?_)
      refine lv_iinc (v := (z3 + (1 : Int32))) (lv' := [(3, .int (z3 + (1 : Int32))), (0, .ref (G.2.1 z0))]) hx hb dX8_begin_25 hl (k := 1) rfl rfl (Nat.le_of_ble_eq_true rfl) rfl (fun ls hl => ?_)
      refine lv_goto (tgt := 12) hx hb dX8_begin_28 (by decide) ?_
      exact ih z0 (z3 + (1 : Int32)) σ6 _ _ _ hz0 hI (lv_sub hl [1, 0] rfl) hf
set_option maxHeartbeats 4000000 in
set_option maxRecDepth 100000 in
theorem c_X8_begin {l : Launch} {G : fm_G} (hJ : fm_J G) {a0 : Nat} {a1 : Int32} {a2 : Int32} {σ : fm_M} {o : Unit × fm_M} (h0 : fm_ct a0 = 8) (hf : m_X8_begin a0 a1 a2 σ = some o) : Met l yX8_begin (fm_w yX8_begin cX8_begin 4 none) { frames := 0, cells := 0, slots := 0, locals := 0 } (va_Pc [.ref (G.2.1 a0), .int a1, .int a2] (fm_st G σ)) (fm_Qv G o) 0 0 (fm_A G) := by
  refine fm_mth (own := RX8) hJ rfl (by decide +kernel) (Nat.le_of_ble_eq_true rfl) ?_
  intro p e s m below meth c ls hC hr hlk hI hl
  have hx := hC.1.1
  have hb := hC.1.2.1
  have hown := hC.1.2.2.2.1
  have hts := hC.1.2.2.2.2
  have hl : lv_has ls 4 [(0, .ref (G.2.1 a0)), (1, .int a1), (2, .int a2)] := hl
  rw [m_X8_begin] at hf
  refine lv_aload_n hx hb dX8_begin_0 rfl (lv_at hl 0 rfl) ?_
  refine lv_iload_n hx hb dX8_begin_1 rfl (lv_at hl 1 rfl) ?_
  obtain ⟨σ1, e2, hf⟩ := fm_letE hf
  refine fm_pi hC hI fp_X8_1 h0 ⟨rfl, rfl⟩ e2 q_167 dX8_begin_2 (fun H locs hI => ?_)
  refine lv_aload_n hx hb dX8_begin_5 rfl (lv_at hl 0 rfl) ?_
  refine lv_iload_n hx hb dX8_begin_6 rfl (lv_at hl 2 rfl) ?_
  obtain ⟨σ3, e4, hf⟩ := fm_letE hf
  refine fm_pi hC hI fp_X8_2 h0 ⟨rfl, rfl⟩ e4 q_169 dX8_begin_7 (fun H locs hI => ?_)
  refine lv_iconst (v := (0 : Int32)) hx hb dX8_begin_10 (by decide) ?_
  refine lv_istore_n (lv' := [(3, .int (0 : Int32)), (0, .ref (G.2.1 a0)), (1, .int a1), (2, .int a2)]) hx hb dX8_begin_11 rfl hl (Nat.le_of_ble_eq_true rfl) rfl (fun ls hl => ?_)
  refine w_X8_begin_12 hC hr hlk (fun x0_y8 x3_y8 σ_y8 H locs ls hx0_y8 hI hl hf => ?_) fm_fu a0 (0 : Int32) σ3 _ _ _ h0 hI (lv_sub hl [1, 0] rfl) hf
  exact fm_rv hC hI hr hlk hf dX8_begin_31
def m_X8_isMissing (a0 : Nat) (σ : fm_M) : Option (Int32 × fm_M) := if (σ.1 a0 1) = 0 then (some ((1 : Int32), σ)) else (some ((0 : Int32), σ))
set_option maxHeartbeats 4000000 in
set_option maxRecDepth 100000 in
theorem c_X8_isMissing {l : Launch} {G : fm_G} (hJ : fm_J G) {a0 : Nat} {σ : fm_M} {o : Int32 × fm_M} (h0 : fm_ct a0 = 8) (hf : m_X8_isMissing a0 σ = some o) : Met l yX8_isMissing (fm_w yX8_isMissing cX8_isMissing 1 (some .boolean)) { frames := 0, cells := 0, slots := 0, locals := 0 } (va_Pc [.ref (G.2.1 a0)] (fm_st G σ)) (fm_Qi G o) 0 0 (fm_A G) := by
  refine fm_mth (own := RX8) hJ rfl (by decide +kernel) (Nat.le_of_ble_eq_true rfl) ?_
  intro p e s m below meth c ls hC hr hlk hI hl
  have hx := hC.1.1
  have hb := hC.1.2.1
  have hown := hC.1.2.2.2.1
  have hts := hC.1.2.2.2.2
  have hl : lv_has ls 1 [(0, .ref (G.2.1 a0))] := hl
  rw [m_X8_isMissing] at hf
  refine lv_aload_n hx hb dX8_isMissing_0 rfl (lv_at hl 0 rfl) ?_
  refine fm_gi hC hI fd_X8_1 h0 q_167 dX8_isMissing_1 ?_
  refine lv_if_ne (tgt := 11) hx hb dX8_isMissing_4 (by decide) (fun hc => ?_) (fun hc => ?_)
  · have hf := fm_pF hf hc
    refine lv_iconst (v := (0 : Int32)) hx hb dX8_isMissing_11 (by decide) ?_
    exact fm_rz hC hI hr hlk (by decide) hf dX8_isMissing_12
  · have hf := fm_pT hf hc
    refine lv_iconst (v := (1 : Int32)) hx hb dX8_isMissing_7 (by decide) ?_
    refine lv_goto (tgt := 12) hx hb dX8_isMissing_8 (by decide) ?_
    exact fm_rz hC hI hr hlk (by decide) hf dX8_isMissing_12
def m_X8_holds (a0 : Nat) (a1 : Int32) (a2 : Int32) (σ : fm_M) : Option (Int32 × fm_M) := if a1 < 0 then (some ((0 : Int32), σ)) else (if a2 < 0 then (some ((0 : Int32), σ)) else (if (σ.1 a0 2) < a2 then (some ((0 : Int32), σ)) else (if ((σ.1 a0 2) - a2) < a1 then (some ((0 : Int32), σ)) else (some ((1 : Int32), σ)))))
set_option maxHeartbeats 4000000 in
set_option maxRecDepth 100000 in
theorem c_X8_holds {l : Launch} {G : fm_G} (hJ : fm_J G) {a0 : Nat} {a1 : Int32} {a2 : Int32} {σ : fm_M} {o : Int32 × fm_M} (h0 : fm_ct a0 = 8) (hf : m_X8_holds a0 a1 a2 σ = some o) : Met l yX8_holds (fm_w yX8_holds cX8_holds 3 (some .boolean)) { frames := 0, cells := 0, slots := 0, locals := 0 } (va_Pc [.ref (G.2.1 a0), .int a1, .int a2] (fm_st G σ)) (fm_Qi G o) 0 0 (fm_A G) := by
  refine fm_mth (own := RX8) hJ rfl (by decide +kernel) (Nat.le_of_ble_eq_true rfl) ?_
  intro p e s m below meth c ls hC hr hlk hI hl
  have hx := hC.1.1
  have hb := hC.1.2.1
  have hown := hC.1.2.2.2.1
  have hts := hC.1.2.2.2.2
  have hl : lv_has ls 3 [(0, .ref (G.2.1 a0)), (1, .int a1), (2, .int a2)] := hl
  rw [m_X8_holds] at hf
  refine lv_iload_n hx hb dX8_holds_0 rfl (lv_at hl 1 rfl) ?_
  refine lv_if_lt (tgt := 30) hx hb dX8_holds_1 (by decide) (fun hc => ?_) (fun hc => ?_)
  · have hf := fm_pT hf hc
    refine lv_iconst (v := (0 : Int32)) hx hb dX8_holds_30 (by decide) ?_
    exact fm_rz hC hI hr hlk (by decide) hf dX8_holds_31
  · have hf := fm_pF hf hc
    refine lv_iload_n hx hb dX8_holds_4 rfl (lv_at hl 2 rfl) ?_
    refine lv_if_lt (tgt := 30) hx hb dX8_holds_5 (by decide) (fun hc => ?_) (fun hc => ?_)
    · have hf := fm_pT hf hc
      refine lv_iconst (v := (0 : Int32)) hx hb dX8_holds_30 (by decide) ?_
      exact fm_rz hC hI hr hlk (by decide) hf dX8_holds_31
    · have hf := fm_pF hf hc
      refine lv_iload_n hx hb dX8_holds_8 rfl (lv_at hl 2 rfl) ?_
      refine lv_aload_n hx hb dX8_holds_9 rfl (lv_at hl 0 rfl) ?_
      refine fm_gi hC hI fd_X8_2 h0 q_169 dX8_holds_10 ?_
      refine lv_icmp_gt (tgt := 30) hx hb dX8_holds_13 (by decide) (fun hc => ?_) (fun hc => ?_)
      · have hf := fm_pT hf hc
        refine lv_iconst (v := (0 : Int32)) hx hb dX8_holds_30 (by decide) ?_
        exact fm_rz hC hI hr hlk (by decide) hf dX8_holds_31
      · have hf := fm_pF hf hc
        refine lv_iload_n hx hb dX8_holds_16 rfl (lv_at hl 1 rfl) ?_
        refine lv_aload_n hx hb dX8_holds_17 rfl (lv_at hl 0 rfl) ?_
        refine fm_gi hC hI fd_X8_2 h0 q_169 dX8_holds_18 ?_
        refine lv_iload_n hx hb dX8_holds_21 rfl (lv_at hl 2 rfl) ?_
        refine lv_isub hx hb dX8_holds_22 ?_
        refine lv_icmp_gt (tgt := 30) hx hb dX8_holds_23 (by decide) (fun hc => ?_) (fun hc => ?_)
        · have hf := fm_pT hf hc
          refine lv_iconst (v := (0 : Int32)) hx hb dX8_holds_30 (by decide) ?_
          exact fm_rz hC hI hr hlk (by decide) hf dX8_holds_31
        · have hf := fm_pF hf hc
          refine lv_iconst (v := (1 : Int32)) hx hb dX8_holds_26 (by decide) ?_
          refine lv_goto (tgt := 31) hx hb dX8_holds_27 (by decide) ?_
          exact fm_rz hC hI hr hlk (by decide) hf dX8_holds_31
def m_X8_put (a0 : Nat) (a1 : Int32) (a2 : Int64) (σ : fm_M) : Option (Unit × fm_M) := if a1 < 0 then (some ((), σ)) else (if a1 < (σ.1 a0 2) then (if (σ.1 a0 1) = (8 : Int32) then (fm_g (fm_in1 a1 40) (fm_let (fm_sL σ (a0 + 1) a1.toNatClampNeg (((a2.toInt32).toInt8.toInt32).toInt64)) fun σ8 => (some ((), σ8)))) else (if (σ.1 a0 1) = (16 : Int32) then (fm_g (fm_in1 a1 40) (fm_let (fm_sL σ (a0 + 1) a1.toNatClampNeg (((a2.toInt32).toInt16.toInt32).toInt64)) fun σ5 => (some ((), σ5)))) else (fm_g (fm_in1 a1 40) (fm_let (fm_sL σ (a0 + 1) a1.toNatClampNeg a2) fun σ2 => (some ((), σ2)))))) else (some ((), σ)))
set_option maxHeartbeats 4000000 in
set_option maxRecDepth 100000 in
theorem c_X8_put {l : Launch} {G : fm_G} (hJ : fm_J G) {a0 : Nat} {a1 : Int32} {a2 : Int64} {σ : fm_M} {o : Unit × fm_M} (h0 : fm_ct a0 = 8) (hf : m_X8_put a0 a1 a2 σ = some o) : Met l yX8_put (fm_w yX8_put cX8_put 4 none) { frames := 0, cells := 0, slots := 0, locals := 0 } (va_Pc [.ref (G.2.1 a0), .int a1, .long a2] (fm_st G σ)) (fm_Qv G o) 0 0 (fm_A G) := by
  refine fm_mth (own := RX8) hJ rfl (by decide +kernel) (Nat.le_of_ble_eq_true rfl) ?_
  intro p e s m below meth c ls hC hr hlk hI hl
  have hx := hC.1.1
  have hb := hC.1.2.1
  have hown := hC.1.2.2.2.1
  have hts := hC.1.2.2.2.2
  have hl : lv_has ls 4 [(0, .ref (G.2.1 a0)), (1, .int a1), (2, .long a2)] := hl
  rw [m_X8_put] at hf
  refine lv_iload_n hx hb dX8_put_0 rfl (lv_at hl 1 rfl) ?_
  refine lv_if_lt (tgt := 12) hx hb dX8_put_1 (by decide) (fun hc => ?_) (fun hc => ?_)
  · have hf := fm_pT hf hc
    exact fm_rv hC hI hr hlk hf dX8_put_12
  · have hf := fm_pF hf hc
    refine lv_iload_n hx hb dX8_put_4 rfl (lv_at hl 1 rfl) ?_
    refine lv_aload_n hx hb dX8_put_5 rfl (lv_at hl 0 rfl) ?_
    refine fm_gi hC hI fd_X8_2 h0 q_169 dX8_put_6 ?_
    refine lv_icmp_lt (tgt := 13) hx hb dX8_put_9 (by decide) (fun hc => ?_) (fun hc => ?_)
    · have hf := fm_pT hf hc
      refine lv_aload_n hx hb dX8_put_13 rfl (lv_at hl 0 rfl) ?_
      refine fm_gi hC hI fd_X8_1 h0 q_167 dX8_put_14 ?_
      refine lv_bipush (v := (8 : Int32)) hx hb dX8_put_17 (by decide) ?_
      refine lv_icmp_ne (tgt := 35) hx hb dX8_put_19 (by decide) (fun hc => ?_) (fun hc => ?_)
      · have hf := fm_pF hf hc
        refine lv_aload_n hx hb dX8_put_35 rfl (lv_at hl 0 rfl) ?_
        refine fm_gi hC hI fd_X8_1 h0 q_167 dX8_put_36 ?_
        refine lv_bipush (v := (16 : Int32)) hx hb dX8_put_39 (by decide) ?_
        refine lv_icmp_ne (tgt := 57) hx hb dX8_put_41 (by decide) (fun hc => ?_) (fun hc => ?_)
        · have hf := fm_pF hf hc
          refine lv_aload_n hx hb dX8_put_57 rfl (lv_at hl 0 rfl) ?_
          refine fm_gr hC hI fd_X8_0 h0 (fm_S0 h0).2.1 q_165 dX8_put_58 ?_
          refine lv_iload_n hx hb dX8_put_61 rfl (lv_at hl 1 rfl) ?_
          refine lv_lload_n hx hb dX8_put_62 rfl (lv_at hl 2 rfl) ?_
          obtain ⟨hg1, hf⟩ := fm_gE hf
          obtain ⟨σ2, e3, hf⟩ := fm_letE hf
          refine fm_last hC hI (fm_S0 h0).1 (fm_S0 h0).2.2 hg1 e3 dX8_put_63 (fun H locs hI => ?_)
          exact fm_rv hC hI hr hlk hf dX8_put_64
        · have hf := fm_pT hf hc
          refine lv_aload_n hx hb dX8_put_44 rfl (lv_at hl 0 rfl) ?_
          refine fm_gr hC hI fd_X8_0 h0 (fm_S0 h0).2.1 q_165 dX8_put_45 ?_
          refine lv_iload_n hx hb dX8_put_48 rfl (lv_at hl 1 rfl) ?_
          refine lv_lload_n hx hb dX8_put_49 rfl (lv_at hl 2 rfl) ?_
          refine lv_l2i (v := a2.toInt32) hx hb dX8_put_50 rfl ?_
          refine lv_i2s (v := (a2.toInt32).toInt16.toInt32) hx hb dX8_put_51 rfl ?_
          refine lv_i2l (v := ((a2.toInt32).toInt16.toInt32).toInt64) hx hb dX8_put_52 rfl ?_
          obtain ⟨hg4, hf⟩ := fm_gE hf
          obtain ⟨σ5, e6, hf⟩ := fm_letE hf
          refine fm_last hC hI (fm_S0 h0).1 (fm_S0 h0).2.2 hg4 e6 dX8_put_53 (fun H locs hI => ?_)
          refine lv_goto (tgt := 64) hx hb dX8_put_54 (by decide) ?_
          exact fm_rv hC hI hr hlk hf dX8_put_64
      · have hf := fm_pT hf hc
        refine lv_aload_n hx hb dX8_put_22 rfl (lv_at hl 0 rfl) ?_
        refine fm_gr hC hI fd_X8_0 h0 (fm_S0 h0).2.1 q_165 dX8_put_23 ?_
        refine lv_iload_n hx hb dX8_put_26 rfl (lv_at hl 1 rfl) ?_
        refine lv_lload_n hx hb dX8_put_27 rfl (lv_at hl 2 rfl) ?_
        refine lv_l2i (v := a2.toInt32) hx hb dX8_put_28 rfl ?_
        refine lv_i2b (v := (a2.toInt32).toInt8.toInt32) hx hb dX8_put_29 rfl ?_
        refine lv_i2l (v := ((a2.toInt32).toInt8.toInt32).toInt64) hx hb dX8_put_30 rfl ?_
        obtain ⟨hg7, hf⟩ := fm_gE hf
        obtain ⟨σ8, e9, hf⟩ := fm_letE hf
        refine fm_last hC hI (fm_S0 h0).1 (fm_S0 h0).2.2 hg7 e9 dX8_put_31 (fun H locs hI => ?_)
        refine lv_goto (tgt := 64) hx hb dX8_put_32 (by decide) ?_
        exact fm_rv hC hI hr hlk hf dX8_put_64
    · have hf := fm_pF hf hc
      exact fm_rv hC hI hr hlk hf dX8_put_12
def m_X10_become_26 (kc : Nat → Nat → Int32 → fm_M → Option (Unit × fm_M)) : Nat → Nat → Nat → Int32 → fm_M → Option (Unit × fm_M)
  | 0, _, _, _, _ => none
  | n + 1, z0, z1, z2, σ => if (σ.1 z0 4) ≤ z2 then (kc z0 z1 z2 σ) else (fm_g (fm_in1 z2 6) (fm_g (fm_in1 z2 6) (fm_b (m_X5_become (z0 + 2 + z2.toNatClampNeg) (z1 + 2 + z2.toNatClampNeg) σ) fun _u9 σ10 => (m_X10_become_26 kc n z0 z1 (z2 + (1 : Int32)) σ10))))
def m_X10_become_57 (kc : Nat → Nat → Int32 → fm_M → Option (Unit × fm_M)) : Nat → Nat → Nat → Int32 → fm_M → Option (Unit × fm_M)
  | 0, _, _, _, _ => none
  | n + 1, z0, z1, z2, σ => if (σ.1 z0 5) ≤ z2 then (kc z0 z1 z2 σ) else (fm_g (fm_in1 z2 8) (fm_g (fm_in1 z2 8) (fm_b (m_X7_become (z0 + 9 + 2 * z2.toNatClampNeg) (z1 + 9 + 2 * z2.toNatClampNeg) σ) fun _u15 σ16 => (m_X10_become_57 kc n z0 z1 (z2 + (1 : Int32)) σ16))))
def m_X10_become (a0 : Nat) (a1 : Nat) (σ : fm_M) : Option (Unit × fm_M) := fm_let (fm_sI σ a0 3 (σ.1 a1 3)) fun σ1 => (fm_let (fm_sI σ1 a0 4 (σ1.1 a1 4)) fun σ3 => (fm_let (fm_sI σ3 a0 5 (σ3.1 a1 5)) fun σ5 => (m_X10_become_26 (fun (x0_y12 : Nat) (x1_y12 : Nat) (x2_y12 : Int32) (σ_y12 : fm_M) => m_X10_become_57 (fun (x0_y18 : Nat) (x1_y18 : Nat) (x2_y18 : Int32) (σ_y18 : fm_M) => some ((), σ_y18)) fm_fu x0_y12 x1_y12 (0 : Int32) σ_y12) fm_fu a0 a1 (0 : Int32) σ5)))
set_option maxHeartbeats 4000000 in
set_option maxRecDepth 100000 in
theorem w_X10_become_26 {p : Program} {l : Launch} {e : Env} {s : State} {m : MethodId} {args : Array Value} {below : List Frame} {meth : Method} {c : Code} {G : fm_G} {o : Unit × fm_M} {kc : Nat → Nat → Int32 → fm_M → Option (Unit × fm_M)} (hC : fm_C G p m c cX10_become 3 s args RX10) (hr : meth.sig.returnType = none) (hlk : meth.locks = false) (hk : ∀ (z0 : Nat) (z1 : Nat) (z2 : Int32) (σ : fm_M) (H : Heap) (locs : List Loc) (ls : Array Slot), fm_ct z0 = 10 → fm_ct z1 = 10 → fm_I G σ s H locs → lv_has ls 3 [(0, .ref (G.2.1 z0)), (1, .ref (G.2.1 z1)), (2, .int z2)] → kc z0 z1 z2 σ = some o → W p l e { frames := 1, cells := 0, slots := 0, locals := 22 } s m args below meth c H locs 0 0 (MQ below (fm_Qv G o) args s 0 0 (fm_A G)) (F0 m 55 ls [])) (n : Nat) : ∀ (z0 : Nat) (z1 : Nat) (z2 : Int32) (σ : fm_M) (H : Heap) (locs : List Loc) (ls : Array Slot), fm_ct z0 = 10 → fm_ct z1 = 10 → fm_I G σ s H locs → lv_has ls 3 [(0, .ref (G.2.1 z0)), (1, .ref (G.2.1 z1)), (2, .int z2)] → m_X10_become_26 kc n z0 z1 z2 σ = some o → W p l e { frames := 1, cells := 0, slots := 0, locals := 22 } s m args below meth c H locs 0 0 (MQ below (fm_Qv G o) args s 0 0 (fm_A G)) (F0 m 26 ls []) := by
  have hx := hC.1.1
  have hb := hC.1.2.1
  have hown := hC.1.2.2.2.1
  have hts := hC.1.2.2.2.2
  induction n with
  | zero =>
    intro z0 z1 z2 σ H locs ls hz0 hz1 hI hl hf
    cases hf
  | succ n ih =>
    intro z0 z1 z2 σ H locs ls hz0 hz1 hI hl hf
    rw [m_X10_become_26] at hf
    refine lv_iload_n hx hb dX10_become_26 rfl (lv_at hl 2 rfl) ?_
    refine lv_aload_n hx hb dX10_become_27 rfl (lv_at hl 0 rfl) ?_
    refine fm_gi hC hI fd_X10_4 hz0 q_139 dX10_become_28 ?_
    refine lv_icmp_ge (tgt := 55) hx hb dX10_become_31 (by decide) (fun hc => ?_) (fun hc => ?_)
    · have hf := fm_pT hf hc
      exact hk z0 z1 z2 σ _ _ _ hz0 hz1 hI (lv_sub hl [0, 1, 2] rfl) hf
    · have hf := fm_pF hf hc
      refine lv_aload_n hx hb dX10_become_34 rfl (lv_at hl 0 rfl) ?_
      refine fm_gr hC hI fd_X10_1 hz0 (fm_T1 hz0).2.1 q_132 dX10_become_35 ?_
      refine lv_iload_n hx hb dX10_become_38 rfl (lv_at hl 2 rfl) ?_
      obtain ⟨hg7, hf⟩ := fm_gE hf
      refine fm_aald (t0 := 4) hC hI (fm_T1 hz0).1 (by decide) (by decide) rfl (fm_T1 hz0).2.2 hg7 (fm_T3 (x := z2) hz0 hg7).2 dX10_become_39 ?_
      refine lv_aload_n hx hb dX10_become_40 rfl (lv_at hl 1 rfl) ?_
      refine fm_gr hC hI fd_X10_1 hz1 (fm_T1 hz1).2.1 q_132 dX10_become_41 ?_
      refine lv_iload_n hx hb dX10_become_44 rfl (lv_at hl 2 rfl) ?_
      obtain ⟨hg8, hf⟩ := fm_gE hf
      refine fm_aald (t0 := 4) hC hI (fm_T1 hz1).1 (by decide) (by decide) rfl (fm_T1 hz1).2.2 hg8 (fm_T3 (x := z2) hz1 hg8).2 dX10_become_45 ?_
      obtain ⟨_u9, σ10, hq11, hf⟩ := fm_bE hf
      refine fm_cv hI (fm_runV (As := [.ref (G.2.1 (z1 + 2 + z2.toNatClampNeg))]) (rest := []) (rm := { frames := 0, cells := 0, slots := 0, locals := 0 }) hC hI (c_X5_become hC.2.2.1 (fm_T3 (x := z2) hz0 hg7).1 (fm_T3 (x := z2) hz1 hg8).1 hq11) mV_X5_become q_516 ⟨rfl, rfl⟩ ⟨Nat.le_of_ble_eq_true rfl, Nat.le_of_ble_eq_true rfl⟩ (fm_T3 (x := z2) hz0 hg7).1 rfl (by decide) rfl hl.1 rfl (Nat.le_of_ble_eq_true rfl) dX10_become_46 ⟨Nat.zero_le _, Nat.zero_le _⟩) (fun H locs hI => ?_)
      refine lv_iinc (v := (z2 + (1 : Int32))) (lv' := [(2, .int (z2 + (1 : Int32))), (0, .ref (G.2.1 z0)), (1, .ref (G.2.1 z1))]) hx hb dX10_become_49 hl (k := 2) rfl rfl (Nat.le_of_ble_eq_true rfl) rfl (fun ls hl => ?_)
      refine lv_goto (tgt := 26) hx hb dX10_become_52 (by decide) ?_
      exact ih z0 z1 (z2 + (1 : Int32)) σ10 _ _ _ hz0 hz1 hI (lv_sub hl [1, 2, 0] rfl) hf
set_option maxHeartbeats 4000000 in
set_option maxRecDepth 100000 in
theorem w_X10_become_57 {p : Program} {l : Launch} {e : Env} {s : State} {m : MethodId} {args : Array Value} {below : List Frame} {meth : Method} {c : Code} {G : fm_G} {o : Unit × fm_M} {kc : Nat → Nat → Int32 → fm_M → Option (Unit × fm_M)} (hC : fm_C G p m c cX10_become 3 s args RX10) (hr : meth.sig.returnType = none) (hlk : meth.locks = false) (hk : ∀ (z0 : Nat) (z1 : Nat) (z2 : Int32) (σ : fm_M) (H : Heap) (locs : List Loc) (ls : Array Slot), fm_ct z0 = 10 → fm_ct z1 = 10 → fm_I G σ s H locs → lv_has ls 3 [(0, .ref (G.2.1 z0)), (1, .ref (G.2.1 z1)), (2, .int z2)] → kc z0 z1 z2 σ = some o → W p l e { frames := 1, cells := 0, slots := 0, locals := 22 } s m args below meth c H locs 0 0 (MQ below (fm_Qv G o) args s 0 0 (fm_A G)) (F0 m 86 ls [])) (n : Nat) : ∀ (z0 : Nat) (z1 : Nat) (z2 : Int32) (σ : fm_M) (H : Heap) (locs : List Loc) (ls : Array Slot), fm_ct z0 = 10 → fm_ct z1 = 10 → fm_I G σ s H locs → lv_has ls 3 [(0, .ref (G.2.1 z0)), (1, .ref (G.2.1 z1)), (2, .int z2)] → m_X10_become_57 kc n z0 z1 z2 σ = some o → W p l e { frames := 1, cells := 0, slots := 0, locals := 22 } s m args below meth c H locs 0 0 (MQ below (fm_Qv G o) args s 0 0 (fm_A G)) (F0 m 57 ls []) := by
  have hx := hC.1.1
  have hb := hC.1.2.1
  have hown := hC.1.2.2.2.1
  have hts := hC.1.2.2.2.2
  induction n with
  | zero =>
    intro z0 z1 z2 σ H locs ls hz0 hz1 hI hl hf
    cases hf
  | succ n ih =>
    intro z0 z1 z2 σ H locs ls hz0 hz1 hI hl hf
    rw [m_X10_become_57] at hf
    refine lv_iload_n hx hb dX10_become_57 rfl (lv_at hl 2 rfl) ?_
    refine lv_aload_n hx hb dX10_become_58 rfl (lv_at hl 0 rfl) ?_
    refine fm_gi hC hI fd_X10_5 hz0 q_142 dX10_become_59 ?_
    refine lv_icmp_ge (tgt := 86) hx hb dX10_become_62 (by decide) (fun hc => ?_) (fun hc => ?_)
    · have hf := fm_pT hf hc
      exact hk z0 z1 z2 σ _ _ _ hz0 hz1 hI (lv_sub hl [0, 1, 2] rfl) hf
    · have hf := fm_pF hf hc
      refine lv_aload_n hx hb dX10_become_65 rfl (lv_at hl 0 rfl) ?_
      refine fm_gr hC hI fd_X10_2 hz0 (fm_T2 hz0).2.1 q_134 dX10_become_66 ?_
      refine lv_iload_n hx hb dX10_become_69 rfl (lv_at hl 2 rfl) ?_
      obtain ⟨hg13, hf⟩ := fm_gE hf
      refine fm_aald (t0 := 5) hC hI (fm_T2 hz0).1 (by decide) (by decide) rfl (fm_T2 hz0).2.2 hg13 (fm_T4 (x := z2) hz0 hg13).2 dX10_become_70 ?_
      refine lv_aload_n hx hb dX10_become_71 rfl (lv_at hl 1 rfl) ?_
      refine fm_gr hC hI fd_X10_2 hz1 (fm_T2 hz1).2.1 q_134 dX10_become_72 ?_
      refine lv_iload_n hx hb dX10_become_75 rfl (lv_at hl 2 rfl) ?_
      obtain ⟨hg14, hf⟩ := fm_gE hf
      refine fm_aald (t0 := 5) hC hI (fm_T2 hz1).1 (by decide) (by decide) rfl (fm_T2 hz1).2.2 hg14 (fm_T4 (x := z2) hz1 hg14).2 dX10_become_76 ?_
      obtain ⟨_u15, σ16, hq17, hf⟩ := fm_bE hf
      refine fm_cv hI (fm_runV (As := [.ref (G.2.1 (z1 + 9 + 2 * z2.toNatClampNeg))]) (rest := []) (rm := { frames := 0, cells := 0, slots := 0, locals := 0 }) hC hI (c_X7_become hC.2.2.1 (fm_T4 (x := z2) hz0 hg13).1 (fm_T4 (x := z2) hz1 hg14).1 hq17) mV_X7_become q_520 ⟨rfl, rfl⟩ ⟨Nat.le_of_ble_eq_true rfl, Nat.le_of_ble_eq_true rfl⟩ (fm_T4 (x := z2) hz0 hg13).1 rfl (by decide) rfl hl.1 rfl (Nat.le_of_ble_eq_true rfl) dX10_become_77 ⟨Nat.zero_le _, Nat.zero_le _⟩) (fun H locs hI => ?_)
      refine lv_iinc (v := (z2 + (1 : Int32))) (lv' := [(2, .int (z2 + (1 : Int32))), (0, .ref (G.2.1 z0)), (1, .ref (G.2.1 z1))]) hx hb dX10_become_80 hl (k := 2) rfl rfl (Nat.le_of_ble_eq_true rfl) rfl (fun ls hl => ?_)
      refine lv_goto (tgt := 57) hx hb dX10_become_83 (by decide) ?_
      exact ih z0 z1 (z2 + (1 : Int32)) σ16 _ _ _ hz0 hz1 hI (lv_sub hl [1, 2, 0] rfl) hf
set_option maxHeartbeats 4000000 in
set_option maxRecDepth 100000 in
theorem c_X10_become {l : Launch} {G : fm_G} (hJ : fm_J G) {a0 : Nat} {a1 : Nat} {σ : fm_M} {o : Unit × fm_M} (h0 : fm_ct a0 = 10) (h1 : fm_ct a1 = 10) (hf : m_X10_become a0 a1 σ = some o) : Met l yX10_become (fm_w yX10_become cX10_become 3 none) { frames := 1, cells := 0, slots := 0, locals := 22 } (va_Pc [.ref (G.2.1 a0), .ref (G.2.1 a1)] (fm_st G σ)) (fm_Qv G o) 0 0 (fm_A G) := by
  refine fm_mth (own := RX10) hJ rfl (by decide +kernel) (Nat.le_of_ble_eq_true rfl) ?_
  intro p e s m below meth c ls hC hr hlk hI hl
  have hx := hC.1.1
  have hb := hC.1.2.1
  have hown := hC.1.2.2.2.1
  have hts := hC.1.2.2.2.2
  have hl : lv_has ls 3 [(0, .ref (G.2.1 a0)), (1, .ref (G.2.1 a1))] := hl
  rw [m_X10_become] at hf
  refine lv_aload_n hx hb dX10_become_0 rfl (lv_at hl 0 rfl) ?_
  refine lv_aload_n hx hb dX10_become_1 rfl (lv_at hl 1 rfl) ?_
  refine fm_gi hC hI fd_X10_3 h1 q_137 dX10_become_2 ?_
  obtain ⟨σ1, e2, hf⟩ := fm_letE hf
  refine fm_pi hC hI fp_X10_3 h0 ⟨rfl, rfl⟩ e2 q_137 dX10_become_5 (fun H locs hI => ?_)
  refine lv_aload_n hx hb dX10_become_8 rfl (lv_at hl 0 rfl) ?_
  refine lv_aload_n hx hb dX10_become_9 rfl (lv_at hl 1 rfl) ?_
  refine fm_gi hC hI fd_X10_4 h1 q_139 dX10_become_10 ?_
  obtain ⟨σ3, e4, hf⟩ := fm_letE hf
  refine fm_pi hC hI fp_X10_4 h0 ⟨rfl, rfl⟩ e4 q_139 dX10_become_13 (fun H locs hI => ?_)
  refine lv_aload_n hx hb dX10_become_16 rfl (lv_at hl 0 rfl) ?_
  refine lv_aload_n hx hb dX10_become_17 rfl (lv_at hl 1 rfl) ?_
  refine fm_gi hC hI fd_X10_5 h1 q_142 dX10_become_18 ?_
  obtain ⟨σ5, e6, hf⟩ := fm_letE hf
  refine fm_pi hC hI fp_X10_5 h0 ⟨rfl, rfl⟩ e6 q_142 dX10_become_21 (fun H locs hI => ?_)
  refine lv_iconst (v := (0 : Int32)) hx hb dX10_become_24 (by decide) ?_
  refine lv_istore_n (lv' := [(2, .int (0 : Int32)), (0, .ref (G.2.1 a0)), (1, .ref (G.2.1 a1))]) hx hb dX10_become_25 rfl hl (Nat.le_of_ble_eq_true rfl) rfl (fun ls hl => ?_)
  refine w_X10_become_26 hC hr hlk (fun x0_y12 x1_y12 x2_y12 σ_y12 H locs ls hx0_y12 hx1_y12 hI hl hf => ?_) fm_fu a0 a1 (0 : Int32) σ5 _ _ _ h0 h1 hI (lv_sub hl [1, 2, 0] rfl) hf
  refine lv_iconst (v := (0 : Int32)) hx hb dX10_become_55 (by decide) ?_
  refine lv_istore_n (lv' := [(2, .int (0 : Int32)), (0, .ref (G.2.1 x0_y12)), (1, .ref (G.2.1 x1_y12))]) hx hb dX10_become_56 rfl hl (Nat.le_of_ble_eq_true rfl) rfl (fun ls hl => ?_)
  refine w_X10_become_57 hC hr hlk (fun x0_y18 x1_y18 x2_y18 σ_y18 H locs ls hx0_y18 hx1_y18 hI hl hf => ?_) fm_fu x0_y12 x1_y12 (0 : Int32) σ_y12 _ _ _ hx0_y12 hx1_y12 hI (lv_sub hl [1, 2, 0] rfl) hf
  exact fm_rv hC hI hr hlk hf dX10_become_86
def m_X10_addPerson (a0 : Nat) (a1 : Int32) (σ : fm_M) : Option (Int32 × fm_M) := if (σ.1 a0 4) < (6 : Int32) then (fm_g (fm_in1 (σ.1 a0 4) 6) (fm_let (fm_sI σ (a0 + 2 + (σ.1 a0 4).toNatClampNeg) 0 a1) fun σ2 => (fm_g (fm_in1 (σ2.1 a0 4) 6) (fm_let (fm_sI σ2 (a0 + 2 + (σ2.1 a0 4).toNatClampNeg) 1 (0 : Int32)) fun σ5 => (fm_let (fm_sI σ5 a0 4 ((σ5.1 a0 4) + (1 : Int32))) fun σ7 => (some (((σ7.1 a0 4) - (1 : Int32)), σ7))))))) else (some ((-1 : Int32), σ))
set_option maxHeartbeats 4000000 in
set_option maxRecDepth 100000 in
theorem c_X10_addPerson {l : Launch} {G : fm_G} (hJ : fm_J G) {a0 : Nat} {a1 : Int32} {σ : fm_M} {o : Int32 × fm_M} (h0 : fm_ct a0 = 10) (hf : m_X10_addPerson a0 a1 σ = some o) : Met l yX10_addPerson (fm_w yX10_addPerson cX10_addPerson 2 (some .int)) { frames := 0, cells := 0, slots := 0, locals := 0 } (va_Pc [.ref (G.2.1 a0), .int a1] (fm_st G σ)) (fm_Qi G o) 0 0 (fm_A G) := by
  refine fm_mth (own := RX10) hJ rfl (by decide +kernel) (Nat.le_of_ble_eq_true rfl) ?_
  intro p e s m below meth c ls hC hr hlk hI hl
  have hx := hC.1.1
  have hb := hC.1.2.1
  have hown := hC.1.2.2.2.1
  have hts := hC.1.2.2.2.2
  have hl : lv_has ls 2 [(0, .ref (G.2.1 a0)), (1, .int a1)] := hl
  rw [m_X10_addPerson] at hf
  refine lv_aload_n hx hb dX10_addPerson_0 rfl (lv_at hl 0 rfl) ?_
  refine fm_gi hC hI fd_X10_4 h0 q_139 dX10_addPerson_1 ?_
  refine lv_bipush (v := (6 : Int32)) hx hb dX10_addPerson_4 (by decide) ?_
  refine lv_icmp_lt (tgt := 11) hx hb dX10_addPerson_6 (by decide) (fun hc => ?_) (fun hc => ?_)
  · have hf := fm_pT hf hc
    refine lv_aload_n hx hb dX10_addPerson_11 rfl (lv_at hl 0 rfl) ?_
    refine fm_gr hC hI fd_X10_1 h0 (fm_T1 h0).2.1 q_132 dX10_addPerson_12 ?_
    refine lv_aload_n hx hb dX10_addPerson_15 rfl (lv_at hl 0 rfl) ?_
    refine fm_gi hC hI fd_X10_4 h0 q_139 dX10_addPerson_16 ?_
    obtain ⟨hg1, hf⟩ := fm_gE hf
    refine fm_aald (t0 := 4) hC hI (fm_T1 h0).1 (by decide) (by decide) rfl (fm_T1 h0).2.2 hg1 (fm_T3 (x := (σ.1 a0 4)) h0 hg1).2 dX10_addPerson_19 ?_
    refine lv_iload_n hx hb dX10_addPerson_20 rfl (lv_at hl 1 rfl) ?_
    obtain ⟨σ2, e3, hf⟩ := fm_letE hf
    refine fm_pi hC hI fp_X5_0 (fm_T3 (x := (σ.1 a0 4)) h0 hg1).1 ⟨rfl, rfl⟩ e3 q_89 dX10_addPerson_21 (fun H locs hI => ?_)
    refine lv_aload_n hx hb dX10_addPerson_24 rfl (lv_at hl 0 rfl) ?_
    refine fm_gr hC hI fd_X10_1 h0 (fm_T1 h0).2.1 q_132 dX10_addPerson_25 ?_
    refine lv_aload_n hx hb dX10_addPerson_28 rfl (lv_at hl 0 rfl) ?_
    refine fm_gi hC hI fd_X10_4 h0 q_139 dX10_addPerson_29 ?_
    obtain ⟨hg4, hf⟩ := fm_gE hf
    refine fm_aald (t0 := 4) hC hI (fm_T1 h0).1 (by decide) (by decide) rfl (fm_T1 h0).2.2 hg4 (fm_T3 (x := (σ2.1 a0 4)) h0 hg4).2 dX10_addPerson_32 ?_
    refine lv_iconst (v := (0 : Int32)) hx hb dX10_addPerson_33 (by decide) ?_
    obtain ⟨σ5, e6, hf⟩ := fm_letE hf
    refine fm_pi hC hI fp_X5_1 (fm_T3 (x := (σ2.1 a0 4)) h0 hg4).1 ⟨rfl, rfl⟩ e6 q_92 dX10_addPerson_34 (fun H locs hI => ?_)
    refine lv_aload_n hx hb dX10_addPerson_37 rfl (lv_at hl 0 rfl) ?_
    refine lv_dup hx hb dX10_addPerson_38 rfl ?_
    refine fm_gi hC hI fd_X10_4 h0 q_139 dX10_addPerson_39 ?_
    refine lv_iconst (v := (1 : Int32)) hx hb dX10_addPerson_42 (by decide) ?_
    refine lv_iadd hx hb dX10_addPerson_43 ?_
    obtain ⟨σ7, e8, hf⟩ := fm_letE hf
    refine fm_pi hC hI fp_X10_4 h0 ⟨rfl, rfl⟩ e8 q_139 dX10_addPerson_44 (fun H locs hI => ?_)
    refine lv_aload_n hx hb dX10_addPerson_47 rfl (lv_at hl 0 rfl) ?_
    refine fm_gi hC hI fd_X10_4 h0 q_139 dX10_addPerson_48 ?_
    refine lv_iconst (v := (1 : Int32)) hx hb dX10_addPerson_51 (by decide) ?_
    refine lv_isub hx hb dX10_addPerson_52 ?_
    exact fm_ri hC hI hr hlk hf dX10_addPerson_53
  · have hf := fm_pF hf hc
    refine lv_iconst (v := (-1 : Int32)) hx hb dX10_addPerson_9 (by decide) ?_
    exact fm_ri hC hI hr hlk hf dX10_addPerson_10
def m_X10_addPresent (a0 : Nat) (a1 : Int32) (a2 : Int32) (σ : fm_M) : Option (Int32 × fm_M) := if (σ.1 a0 5) < (8 : Int32) then (fm_g (fm_in1 (σ.1 a0 5) 8) (fm_b (m_X7_begin (a0 + 9 + 2 * (σ.1 a0 5).toNatClampNeg) a1 a2 σ) fun _u2 σ3 => (fm_let (fm_sI σ3 a0 5 ((σ3.1 a0 5) + (1 : Int32))) fun σ5 => (some (((σ5.1 a0 5) - (1 : Int32)), σ5))))) else (some ((-1 : Int32), σ))
set_option maxHeartbeats 4000000 in
set_option maxRecDepth 100000 in
theorem c_X10_addPresent {l : Launch} {G : fm_G} (hJ : fm_J G) {a0 : Nat} {a1 : Int32} {a2 : Int32} {σ : fm_M} {o : Int32 × fm_M} (h0 : fm_ct a0 = 10) (hf : m_X10_addPresent a0 a1 a2 σ = some o) : Met l yX10_addPresent (fm_w yX10_addPresent cX10_addPresent 3 (some .int)) { frames := 1, cells := 0, slots := 0, locals := 22 } (va_Pc [.ref (G.2.1 a0), .int a1, .int a2] (fm_st G σ)) (fm_Qi G o) 0 0 (fm_A G) := by
  refine fm_mth (own := RX10) hJ rfl (by decide +kernel) (Nat.le_of_ble_eq_true rfl) ?_
  intro p e s m below meth c ls hC hr hlk hI hl
  have hx := hC.1.1
  have hb := hC.1.2.1
  have hown := hC.1.2.2.2.1
  have hts := hC.1.2.2.2.2
  have hl : lv_has ls 3 [(0, .ref (G.2.1 a0)), (1, .int a1), (2, .int a2)] := hl
  rw [m_X10_addPresent] at hf
  refine lv_aload_n hx hb dX10_addPresent_0 rfl (lv_at hl 0 rfl) ?_
  refine fm_gi hC hI fd_X10_5 h0 q_142 dX10_addPresent_1 ?_
  refine lv_bipush (v := (8 : Int32)) hx hb dX10_addPresent_4 (by decide) ?_
  refine lv_icmp_lt (tgt := 11) hx hb dX10_addPresent_6 (by decide) (fun hc => ?_) (fun hc => ?_)
  · have hf := fm_pT hf hc
    refine lv_aload_n hx hb dX10_addPresent_11 rfl (lv_at hl 0 rfl) ?_
    refine fm_gr hC hI fd_X10_2 h0 (fm_T2 h0).2.1 q_134 dX10_addPresent_12 ?_
    refine lv_aload_n hx hb dX10_addPresent_15 rfl (lv_at hl 0 rfl) ?_
    refine fm_gi hC hI fd_X10_5 h0 q_142 dX10_addPresent_16 ?_
    obtain ⟨hg1, hf⟩ := fm_gE hf
    refine fm_aald (t0 := 5) hC hI (fm_T2 h0).1 (by decide) (by decide) rfl (fm_T2 h0).2.2 hg1 (fm_T4 (x := (σ.1 a0 5)) h0 hg1).2 dX10_addPresent_19 ?_
    refine lv_iload_n hx hb dX10_addPresent_20 rfl (lv_at hl 1 rfl) ?_
    refine lv_iload_n hx hb dX10_addPresent_21 rfl (lv_at hl 2 rfl) ?_
    obtain ⟨_u2, σ3, hq4, hf⟩ := fm_bE hf
    refine fm_cv hI (fm_runV (As := [.int a1, .int a2]) (rest := []) (rm := { frames := 0, cells := 0, slots := 0, locals := 0 }) hC hI (c_X7_begin hC.2.2.1 (fm_T4 (x := (σ.1 a0 5)) h0 hg1).1 hq4) mV_X7_begin q_414 ⟨rfl, rfl⟩ ⟨Nat.le_of_ble_eq_true rfl, Nat.le_of_ble_eq_true rfl⟩ (fm_T4 (x := (σ.1 a0 5)) h0 hg1).1 rfl (by decide) rfl hl.1 rfl (Nat.le_of_ble_eq_true rfl) dX10_addPresent_22 ⟨Nat.zero_le _, Nat.zero_le _⟩) (fun H locs hI => ?_)
    refine lv_aload_n hx hb dX10_addPresent_25 rfl (lv_at hl 0 rfl) ?_
    refine lv_dup hx hb dX10_addPresent_26 rfl ?_
    refine fm_gi hC hI fd_X10_5 h0 q_142 dX10_addPresent_27 ?_
    refine lv_iconst (v := (1 : Int32)) hx hb dX10_addPresent_30 (by decide) ?_
    refine lv_iadd hx hb dX10_addPresent_31 ?_
    obtain ⟨σ5, e6, hf⟩ := fm_letE hf
    refine fm_pi hC hI fp_X10_5 h0 ⟨rfl, rfl⟩ e6 q_142 dX10_addPresent_32 (fun H locs hI => ?_)
    refine lv_aload_n hx hb dX10_addPresent_35 rfl (lv_at hl 0 rfl) ?_
    refine fm_gi hC hI fd_X10_5 h0 q_142 dX10_addPresent_36 ?_
    refine lv_iconst (v := (1 : Int32)) hx hb dX10_addPresent_39 (by decide) ?_
    refine lv_isub hx hb dX10_addPresent_40 ?_
    exact fm_ri hC hI hr hlk hf dX10_addPresent_41
  · have hf := fm_pF hf hc
    refine lv_iconst (v := (-1 : Int32)) hx hb dX10_addPresent_9 (by decide) ?_
    exact fm_ri hC hI hr hlk hf dX10_addPresent_10
def m_X10_mannerOf (a0 : Nat) (a1 : Int32) (σ : fm_M) : Option (Nat × fm_M) := fm_g (fm_in1 a1 6) (fm_g (fm_in1 (σ.1 (a0 + 2 + a1.toNatClampNeg) 0) 6) (some ((2 + (σ.1 (a0 + 2 + a1.toNatClampNeg) 0).toNatClampNeg), σ)))
set_option maxHeartbeats 4000000 in
set_option maxRecDepth 100000 in
theorem c_X10_mannerOf {l : Launch} {G : fm_G} (hJ : fm_J G) {a0 : Nat} {a1 : Int32} {σ : fm_M} {o : Nat × fm_M} (h0 : fm_ct a0 = 10) (hf : m_X10_mannerOf a0 a1 σ = some o) : Met l yX10_mannerOf (fm_w yX10_mannerOf cX10_mannerOf 2 (some (.object "WrapGifts$Man"))) { frames := 0, cells := 0, slots := 0, locals := 0 } (va_Pc [.ref (G.2.1 a0), .int a1] (fm_st G σ)) (fm_Qr G o) 0 0 (fm_A G) := by
  refine fm_mth (own := RX10) hJ rfl (by decide +kernel) (Nat.le_of_ble_eq_true rfl) ?_
  intro p e s m below meth c ls hC hr hlk hI hl
  have hx := hC.1.1
  have hb := hC.1.2.1
  have hown := hC.1.2.2.2.1
  have hts := hC.1.2.2.2.2
  have hl : lv_has ls 2 [(0, .ref (G.2.1 a0)), (1, .int a1)] := hl
  rw [m_X10_mannerOf] at hf
  refine lv_aload_n hx hb dX10_mannerOf_0 rfl (lv_at hl 0 rfl) ?_
  refine fm_gr hC hI fd_X10_0 h0 (fm_T0 h0) q_131 dX10_mannerOf_1 ?_
  refine lv_aload_n hx hb dX10_mannerOf_4 rfl (lv_at hl 0 rfl) ?_
  refine fm_gr hC hI fd_X10_1 h0 (fm_T1 h0).2.1 q_132 dX10_mannerOf_5 ?_
  refine lv_iload_n hx hb dX10_mannerOf_8 rfl (lv_at hl 1 rfl) ?_
  obtain ⟨hg1, hf⟩ := fm_gE hf
  refine fm_aald (t0 := 4) hC hI (fm_T1 h0).1 (by decide) (by decide) rfl (fm_T1 h0).2.2 hg1 (fm_T3 (x := a1) h0 hg1).2 dX10_mannerOf_9 ?_
  refine fm_gi hC hI fd_X5_0 (fm_T3 (x := a1) h0 hg1).1 q_89 dX10_mannerOf_10 ?_
  obtain ⟨hg2, hf⟩ := fm_gE hf
  refine fm_aald (t0 := 3) hC hI fc_1 (by decide) (by decide) rfl fl_1 hg2 (fm_M0 (x := (σ.1 (a0 + 2 + a1.toNatClampNeg) 0)) hg2).2 dX10_mannerOf_13 ?_
  exact fm_ra hC hI hr hlk hf dX10_mannerOf_14
theorem man_X10_mannerOf {b : Nat} {x : Int32} {σ σ' : fm_M} {r : Nat} (h : m_X10_mannerOf b x σ = some (r, σ')) : fm_man r := by
  unfold m_X10_mannerOf at h
  obtain ⟨h1, h⟩ := fm_gE h
  obtain ⟨h2, h⟩ := fm_gE h
  cases h
  exact (fm_M0 h2).1
def m_X10_giftsWith_4 (kc : Nat → Int32 → Int32 → Int32 → fm_M → Option (Int32 × fm_M)) : Nat → Nat → Int32 → Int32 → Int32 → fm_M → Option (Int32 × fm_M)
  | 0, _, _, _, _, _ => none
  | n + 1, z0, z1, z2, z3, σ => if (σ.1 z0 5) ≤ z3 then (kc z0 z1 z2 z3 σ) else (fm_g (fm_in1 z3 8) (if (σ.1 (z0 + 9 + 2 * z3.toNatClampNeg) 3) = z1 then (m_X10_giftsWith_4 kc n z0 z1 (z2 ||| ((1 : Int32) <<< (z3 &&& 31))) (z3 + (1 : Int32)) σ) else (m_X10_giftsWith_4 kc n z0 z1 z2 (z3 + (1 : Int32)) σ)))
def m_X10_giftsWith (a0 : Nat) (a1 : Int32) (σ : fm_M) : Option (Int32 × fm_M) := m_X10_giftsWith_4 (fun (x0_y2 : Nat) (x1_y2 : Int32) (x2_y2 : Int32) (x3_y2 : Int32) (σ_y2 : fm_M) => some (x2_y2, σ_y2)) fm_fu a0 a1 (0 : Int32) (0 : Int32) σ
set_option maxHeartbeats 4000000 in
set_option maxRecDepth 100000 in
theorem w_X10_giftsWith_4 {p : Program} {l : Launch} {e : Env} {s : State} {m : MethodId} {args : Array Value} {below : List Frame} {meth : Method} {c : Code} {G : fm_G} {o : Int32 × fm_M} {kc : Nat → Int32 → Int32 → Int32 → fm_M → Option (Int32 × fm_M)} (hC : fm_C G p m c cX10_giftsWith 4 s args RX10) (hr : meth.sig.returnType = (some .int)) (hlk : meth.locks = false) (hk : ∀ (z0 : Nat) (z1 : Int32) (z2 : Int32) (z3 : Int32) (σ : fm_M) (H : Heap) (locs : List Loc) (ls : Array Slot), fm_ct z0 = 10 → fm_I G σ s H locs → lv_has ls 4 [(0, .ref (G.2.1 z0)), (1, .int z1), (2, .int z2), (3, .int z3)] → kc z0 z1 z2 z3 σ = some o → W p l e { frames := 0, cells := 0, slots := 0, locals := 0 } s m args below meth c H locs 0 0 (MQ below (fm_Qi G o) args s 0 0 (fm_A G)) (F0 m 37 ls [])) (n : Nat) : ∀ (z0 : Nat) (z1 : Int32) (z2 : Int32) (z3 : Int32) (σ : fm_M) (H : Heap) (locs : List Loc) (ls : Array Slot), fm_ct z0 = 10 → fm_I G σ s H locs → lv_has ls 4 [(0, .ref (G.2.1 z0)), (1, .int z1), (2, .int z2), (3, .int z3)] → m_X10_giftsWith_4 kc n z0 z1 z2 z3 σ = some o → W p l e { frames := 0, cells := 0, slots := 0, locals := 0 } s m args below meth c H locs 0 0 (MQ below (fm_Qi G o) args s 0 0 (fm_A G)) (F0 m 4 ls []) := by
  have hx := hC.1.1
  have hb := hC.1.2.1
  have hown := hC.1.2.2.2.1
  have hts := hC.1.2.2.2.2
  induction n with
  | zero =>
    intro z0 z1 z2 z3 σ H locs ls hz0 hI hl hf
    cases hf
  | succ n ih =>
    intro z0 z1 z2 z3 σ H locs ls hz0 hI hl hf
    rw [m_X10_giftsWith_4] at hf
    refine lv_iload_n hx hb dX10_giftsWith_4 rfl (lv_at hl 3 rfl) ?_
    refine lv_aload_n hx hb dX10_giftsWith_5 rfl (lv_at hl 0 rfl) ?_
    refine fm_gi hC hI fd_X10_5 hz0 q_142 dX10_giftsWith_6 ?_
    refine lv_icmp_ge (tgt := 37) hx hb dX10_giftsWith_9 (by decide) (fun hc => ?_) (fun hc => ?_)
    · have hf := fm_pT hf hc
      exact hk z0 z1 z2 z3 σ _ _ _ hz0 hI (lv_sub hl [0, 1, 2, 3] rfl) hf
    · have hf := fm_pF hf hc
      refine lv_aload_n hx hb dX10_giftsWith_12 rfl (lv_at hl 0 rfl) ?_
      refine fm_gr hC hI fd_X10_2 hz0 (fm_T2 hz0).2.1 q_134 dX10_giftsWith_13 ?_
      refine lv_iload_n hx hb dX10_giftsWith_16 rfl (lv_at hl 3 rfl) ?_
      obtain ⟨hg1, hf⟩ := fm_gE hf
      refine fm_aald (t0 := 5) hC hI (fm_T2 hz0).1 (by decide) (by decide) rfl (fm_T2 hz0).2.2 hg1 (fm_T4 (x := z3) hz0 hg1).2 dX10_giftsWith_17 ?_
      refine fm_gi hC hI fd_X7_3 (fm_T4 (x := z3) hz0 hg1).1 q_114 dX10_giftsWith_18 ?_
      refine lv_iload_n hx hb dX10_giftsWith_21 rfl (lv_at hl 1 rfl) ?_
      refine lv_icmp_ne (tgt := 31) hx hb dX10_giftsWith_22 (by decide) (fun hc => ?_) (fun hc => ?_)
      · have hf := fm_pF hf hc
        refine lv_iinc (v := (z3 + (1 : Int32))) (lv' := [(3, .int (z3 + (1 : Int32))), (0, .ref (G.2.1 z0)), (1, .int z1), (2, .int z2)]) hx hb dX10_giftsWith_31 hl (k := 3) rfl rfl (Nat.le_of_ble_eq_true rfl) rfl (fun ls hl => ?_)
        refine lv_goto (tgt := 4) hx hb dX10_giftsWith_34 (by decide) ?_
        exact ih z0 z1 z2 (z3 + (1 : Int32)) σ _ _ _ hz0 hI (lv_sub hl [1, 2, 3, 0] rfl) hf
      · have hf := fm_pT hf hc
        refine lv_iload_n hx hb dX10_giftsWith_25 rfl (lv_at hl 2 rfl) ?_
        refine lv_iconst (v := (1 : Int32)) hx hb dX10_giftsWith_26 (by decide) ?_
        refine lv_iload_n hx hb dX10_giftsWith_27 rfl (lv_at hl 3 rfl) ?_
        refine lv_ishl hx hb dX10_giftsWith_28 ?_
        refine lv_ior hx hb dX10_giftsWith_29 ?_
        refine lv_istore_n (lv' := [(2, .int (z2 ||| ((1 : Int32) <<< (z3 &&& 31)))), (0, .ref (G.2.1 z0)), (1, .int z1), (3, .int z3)]) hx hb dX10_giftsWith_30 rfl hl (Nat.le_of_ble_eq_true rfl) rfl (fun ls hl => ?_)
        refine lv_iinc (v := (z3 + (1 : Int32))) (lv' := [(3, .int (z3 + (1 : Int32))), (2, .int (z2 ||| ((1 : Int32) <<< (z3 &&& 31)))), (0, .ref (G.2.1 z0)), (1, .int z1)]) hx hb dX10_giftsWith_31 hl (k := 3) rfl rfl (Nat.le_of_ble_eq_true rfl) rfl (fun ls hl => ?_)
        refine lv_goto (tgt := 4) hx hb dX10_giftsWith_34 (by decide) ?_
        exact ih z0 z1 (z2 ||| ((1 : Int32) <<< (z3 &&& 31))) (z3 + (1 : Int32)) σ _ _ _ hz0 hI (lv_sub hl [2, 3, 1, 0] rfl) hf
set_option maxHeartbeats 4000000 in
set_option maxRecDepth 100000 in
theorem c_X10_giftsWith {l : Launch} {G : fm_G} (hJ : fm_J G) {a0 : Nat} {a1 : Int32} {σ : fm_M} {o : Int32 × fm_M} (h0 : fm_ct a0 = 10) (hf : m_X10_giftsWith a0 a1 σ = some o) : Met l yX10_giftsWith (fm_w yX10_giftsWith cX10_giftsWith 4 (some .int)) { frames := 0, cells := 0, slots := 0, locals := 0 } (va_Pc [.ref (G.2.1 a0), .int a1] (fm_st G σ)) (fm_Qi G o) 0 0 (fm_A G) := by
  refine fm_mth (own := RX10) hJ rfl (by decide +kernel) (Nat.le_of_ble_eq_true rfl) ?_
  intro p e s m below meth c ls hC hr hlk hI hl
  have hx := hC.1.1
  have hb := hC.1.2.1
  have hown := hC.1.2.2.2.1
  have hts := hC.1.2.2.2.2
  have hl : lv_has ls 4 [(0, .ref (G.2.1 a0)), (1, .int a1)] := hl
  rw [m_X10_giftsWith] at hf
  refine lv_iconst (v := (0 : Int32)) hx hb dX10_giftsWith_0 (by decide) ?_
  refine lv_istore_n (lv' := [(2, .int (0 : Int32)), (0, .ref (G.2.1 a0)), (1, .int a1)]) hx hb dX10_giftsWith_1 rfl hl (Nat.le_of_ble_eq_true rfl) rfl (fun ls hl => ?_)
  refine lv_iconst (v := (0 : Int32)) hx hb dX10_giftsWith_2 (by decide) ?_
  refine lv_istore_n (lv' := [(3, .int (0 : Int32)), (2, .int (0 : Int32)), (0, .ref (G.2.1 a0)), (1, .int a1)]) hx hb dX10_giftsWith_3 rfl hl (Nat.le_of_ble_eq_true rfl) rfl (fun ls hl => ?_)
  refine w_X10_giftsWith_4 hC hr hlk (fun x0_y2 x1_y2 x2_y2 x3_y2 σ_y2 H locs ls hx0_y2 hI hl hf => ?_) fm_fu a0 a1 (0 : Int32) (0 : Int32) σ _ _ _ h0 hI (lv_sub hl [2, 3, 1, 0] rfl) hf
  refine lv_iload_n hx hb dX10_giftsWith_37 rfl (lv_at hl 2 rfl) ?_
  exact fm_ri hC hI hr hlk hf dX10_giftsWith_38
def m_X10_opened_4 (kc : Nat → Int32 → Int32 → fm_M → Option (Int32 × fm_M)) : Nat → Nat → Int32 → Int32 → fm_M → Option (Int32 × fm_M)
  | 0, _, _, _, _ => none
  | n + 1, z0, z1, z2, σ => if (σ.1 z0 5) ≤ z2 then (kc z0 z1 z2 σ) else (fm_g (fm_in1 z2 8) (if (σ.1 (z0 + 9 + 2 * z2.toNatClampNeg) 4) = 0 then (m_X10_opened_4 kc n z0 z1 (z2 + (1 : Int32)) σ) else (m_X10_opened_4 kc n z0 (z1 ||| ((1 : Int32) <<< (z2 &&& 31))) (z2 + (1 : Int32)) σ)))
def m_X10_opened (a0 : Nat) (σ : fm_M) : Option (Int32 × fm_M) := m_X10_opened_4 (fun (x0_y2 : Nat) (x1_y2 : Int32) (x2_y2 : Int32) (σ_y2 : fm_M) => some (x1_y2, σ_y2)) fm_fu a0 (0 : Int32) (0 : Int32) σ
set_option maxHeartbeats 4000000 in
set_option maxRecDepth 100000 in
theorem w_X10_opened_4 {p : Program} {l : Launch} {e : Env} {s : State} {m : MethodId} {args : Array Value} {below : List Frame} {meth : Method} {c : Code} {G : fm_G} {o : Int32 × fm_M} {kc : Nat → Int32 → Int32 → fm_M → Option (Int32 × fm_M)} (hC : fm_C G p m c cX10_opened 3 s args RX10) (hr : meth.sig.returnType = (some .int)) (hlk : meth.locks = false) (hk : ∀ (z0 : Nat) (z1 : Int32) (z2 : Int32) (σ : fm_M) (H : Heap) (locs : List Loc) (ls : Array Slot), fm_ct z0 = 10 → fm_I G σ s H locs → lv_has ls 3 [(0, .ref (G.2.1 z0)), (1, .int z1), (2, .int z2)] → kc z0 z1 z2 σ = some o → W p l e { frames := 0, cells := 0, slots := 0, locals := 0 } s m args below meth c H locs 0 0 (MQ below (fm_Qi G o) args s 0 0 (fm_A G)) (F0 m 36 ls [])) (n : Nat) : ∀ (z0 : Nat) (z1 : Int32) (z2 : Int32) (σ : fm_M) (H : Heap) (locs : List Loc) (ls : Array Slot), fm_ct z0 = 10 → fm_I G σ s H locs → lv_has ls 3 [(0, .ref (G.2.1 z0)), (1, .int z1), (2, .int z2)] → m_X10_opened_4 kc n z0 z1 z2 σ = some o → W p l e { frames := 0, cells := 0, slots := 0, locals := 0 } s m args below meth c H locs 0 0 (MQ below (fm_Qi G o) args s 0 0 (fm_A G)) (F0 m 4 ls []) := by
  have hx := hC.1.1
  have hb := hC.1.2.1
  have hown := hC.1.2.2.2.1
  have hts := hC.1.2.2.2.2
  induction n with
  | zero =>
    intro z0 z1 z2 σ H locs ls hz0 hI hl hf
    cases hf
  | succ n ih =>
    intro z0 z1 z2 σ H locs ls hz0 hI hl hf
    rw [m_X10_opened_4] at hf
    refine lv_iload_n hx hb dX10_opened_4 rfl (lv_at hl 2 rfl) ?_
    refine lv_aload_n hx hb dX10_opened_5 rfl (lv_at hl 0 rfl) ?_
    refine fm_gi hC hI fd_X10_5 hz0 q_142 dX10_opened_6 ?_
    refine lv_icmp_ge (tgt := 36) hx hb dX10_opened_9 (by decide) (fun hc => ?_) (fun hc => ?_)
    · have hf := fm_pT hf hc
      exact hk z0 z1 z2 σ _ _ _ hz0 hI (lv_sub hl [0, 1, 2] rfl) hf
    · have hf := fm_pF hf hc
      refine lv_aload_n hx hb dX10_opened_12 rfl (lv_at hl 0 rfl) ?_
      refine fm_gr hC hI fd_X10_2 hz0 (fm_T2 hz0).2.1 q_134 dX10_opened_13 ?_
      refine lv_iload_n hx hb dX10_opened_16 rfl (lv_at hl 2 rfl) ?_
      obtain ⟨hg1, hf⟩ := fm_gE hf
      refine fm_aald (t0 := 5) hC hI (fm_T2 hz0).1 (by decide) (by decide) rfl (fm_T2 hz0).2.2 hg1 (fm_T4 (x := z2) hz0 hg1).2 dX10_opened_17 ?_
      refine fm_gi hC hI fd_X7_4 (fm_T4 (x := z2) hz0 hg1).1 q_117 dX10_opened_18 ?_
      refine lv_if_eq (tgt := 30) hx hb dX10_opened_21 (by decide) (fun hc => ?_) (fun hc => ?_)
      · have hf := fm_pT hf hc
        refine lv_iinc (v := (z2 + (1 : Int32))) (lv' := [(2, .int (z2 + (1 : Int32))), (0, .ref (G.2.1 z0)), (1, .int z1)]) hx hb dX10_opened_30 hl (k := 2) rfl rfl (Nat.le_of_ble_eq_true rfl) rfl (fun ls hl => ?_)
        refine lv_goto (tgt := 4) hx hb dX10_opened_33 (by decide) ?_
        exact ih z0 z1 (z2 + (1 : Int32)) σ _ _ _ hz0 hI (lv_sub hl [1, 2, 0] rfl) hf
      · have hf := fm_pF hf hc
        refine lv_iload_n hx hb dX10_opened_24 rfl (lv_at hl 1 rfl) ?_
        refine lv_iconst (v := (1 : Int32)) hx hb dX10_opened_25 (by decide) ?_
        refine lv_iload_n hx hb dX10_opened_26 rfl (lv_at hl 2 rfl) ?_
        refine lv_ishl hx hb dX10_opened_27 ?_
        refine lv_ior hx hb dX10_opened_28 ?_
        refine lv_istore_n (lv' := [(1, .int (z1 ||| ((1 : Int32) <<< (z2 &&& 31)))), (0, .ref (G.2.1 z0)), (2, .int z2)]) hx hb dX10_opened_29 rfl hl (Nat.le_of_ble_eq_true rfl) rfl (fun ls hl => ?_)
        refine lv_iinc (v := (z2 + (1 : Int32))) (lv' := [(2, .int (z2 + (1 : Int32))), (1, .int (z1 ||| ((1 : Int32) <<< (z2 &&& 31)))), (0, .ref (G.2.1 z0))]) hx hb dX10_opened_30 hl (k := 2) rfl rfl (Nat.le_of_ble_eq_true rfl) rfl (fun ls hl => ?_)
        refine lv_goto (tgt := 4) hx hb dX10_opened_33 (by decide) ?_
        exact ih z0 (z1 ||| ((1 : Int32) <<< (z2 &&& 31))) (z2 + (1 : Int32)) σ _ _ _ hz0 hI (lv_sub hl [2, 1, 0] rfl) hf
set_option maxHeartbeats 4000000 in
set_option maxRecDepth 100000 in
theorem c_X10_opened {l : Launch} {G : fm_G} (hJ : fm_J G) {a0 : Nat} {σ : fm_M} {o : Int32 × fm_M} (h0 : fm_ct a0 = 10) (hf : m_X10_opened a0 σ = some o) : Met l yX10_opened (fm_w yX10_opened cX10_opened 3 (some .int)) { frames := 0, cells := 0, slots := 0, locals := 0 } (va_Pc [.ref (G.2.1 a0)] (fm_st G σ)) (fm_Qi G o) 0 0 (fm_A G) := by
  refine fm_mth (own := RX10) hJ rfl (by decide +kernel) (Nat.le_of_ble_eq_true rfl) ?_
  intro p e s m below meth c ls hC hr hlk hI hl
  have hx := hC.1.1
  have hb := hC.1.2.1
  have hown := hC.1.2.2.2.1
  have hts := hC.1.2.2.2.2
  have hl : lv_has ls 3 [(0, .ref (G.2.1 a0))] := hl
  rw [m_X10_opened] at hf
  refine lv_iconst (v := (0 : Int32)) hx hb dX10_opened_0 (by decide) ?_
  refine lv_istore_n (lv' := [(1, .int (0 : Int32)), (0, .ref (G.2.1 a0))]) hx hb dX10_opened_1 rfl hl (Nat.le_of_ble_eq_true rfl) rfl (fun ls hl => ?_)
  refine lv_iconst (v := (0 : Int32)) hx hb dX10_opened_2 (by decide) ?_
  refine lv_istore_n (lv' := [(2, .int (0 : Int32)), (1, .int (0 : Int32)), (0, .ref (G.2.1 a0))]) hx hb dX10_opened_3 rfl hl (Nat.le_of_ble_eq_true rfl) rfl (fun ls hl => ?_)
  refine w_X10_opened_4 hC hr hlk (fun x0_y2 x1_y2 x2_y2 σ_y2 H locs ls hx0_y2 hI hl hf => ?_) fm_fu a0 (0 : Int32) (0 : Int32) σ _ _ _ h0 hI (lv_sub hl [2, 1, 0] rfl) hf
  refine lv_iload_n hx hb dX10_opened_36 rfl (lv_at hl 1 rfl) ?_
  exact fm_ri hC hI hr hlk hf dX10_opened_37
def m_X10_unopened (a0 : Nat) (σ : fm_M) : Option (Int32 × fm_M) := fm_b (m_X10_opened a0 σ) fun r1 σ2 => (some (((((1 : Int32) <<< ((σ.1 a0 5) &&& 31)) - (1 : Int32)) &&& (r1 ^^^ (-1 : Int32))), σ2))
set_option maxHeartbeats 4000000 in
set_option maxRecDepth 100000 in
theorem c_X10_unopened {l : Launch} {G : fm_G} (hJ : fm_J G) {a0 : Nat} {σ : fm_M} {o : Int32 × fm_M} (h0 : fm_ct a0 = 10) (hf : m_X10_unopened a0 σ = some o) : Met l yX10_unopened (fm_w yX10_unopened cX10_unopened 1 (some .int)) { frames := 1, cells := 0, slots := 0, locals := 22 } (va_Pc [.ref (G.2.1 a0)] (fm_st G σ)) (fm_Qi G o) 0 0 (fm_A G) := by
  refine fm_mth (own := RX10) hJ rfl (by decide +kernel) (Nat.le_of_ble_eq_true rfl) ?_
  intro p e s m below meth c ls hC hr hlk hI hl
  have hx := hC.1.1
  have hb := hC.1.2.1
  have hown := hC.1.2.2.2.1
  have hts := hC.1.2.2.2.2
  have hl : lv_has ls 1 [(0, .ref (G.2.1 a0))] := hl
  rw [m_X10_unopened] at hf
  refine lv_iconst (v := (1 : Int32)) hx hb dX10_unopened_0 (by decide) ?_
  refine lv_aload_n hx hb dX10_unopened_1 rfl (lv_at hl 0 rfl) ?_
  refine fm_gi hC hI fd_X10_5 h0 q_142 dX10_unopened_2 ?_
  refine lv_ishl hx hb dX10_unopened_5 ?_
  refine lv_iconst (v := (1 : Int32)) hx hb dX10_unopened_6 (by decide) ?_
  refine lv_isub hx hb dX10_unopened_7 ?_
  refine lv_aload_n hx hb dX10_unopened_8 rfl (lv_at hl 0 rfl) ?_
  obtain ⟨r1, σ2, hq3, hf⟩ := fm_bE hf
  refine fm_ci hI (fm_runV (As := []) (rest := [.int (((1 : Int32) <<< ((σ.1 a0 5) &&& 31)) - (1 : Int32))]) (rm := { frames := 0, cells := 0, slots := 0, locals := 0 }) hC hI (c_X10_opened hC.2.2.1 h0 hq3) mV_X10_opened q_266 ⟨rfl, rfl⟩ ⟨Nat.le_of_ble_eq_true rfl, Nat.le_of_ble_eq_true rfl⟩ h0 rfl (by decide) rfl hl.1 rfl (Nat.le_of_ble_eq_true rfl) dX10_unopened_9 ⟨Nat.zero_le _, Nat.zero_le _⟩) (fun H locs hI => ?_)
  refine lv_iconst (v := (-1 : Int32)) hx hb dX10_unopened_12 (by decide) ?_
  refine lv_ixor hx hb dX10_unopened_13 ?_
  refine lv_iand hx hb dX10_unopened_14 ?_
  exact fm_ri hC hI hr hlk hf dX10_unopened_15
def m_X10_joyOfAll_4 (kc : Nat → Int32 → Int32 → fm_M → Option (Int32 × fm_M)) : Nat → Nat → Int32 → Int32 → fm_M → Option (Int32 × fm_M)
  | 0, _, _, _, _ => none
  | n + 1, z0, z1, z2, σ => if (σ.1 z0 4) ≤ z2 then (kc z0 z1 z2 σ) else (fm_g (fm_in1 z2 6) (m_X10_joyOfAll_4 kc n z0 (z1 + (σ.1 (z0 + 2 + z2.toNatClampNeg) 1)) (z2 + (1 : Int32)) σ))
def m_X10_joyOfAll (a0 : Nat) (σ : fm_M) : Option (Int32 × fm_M) := m_X10_joyOfAll_4 (fun (x0_y2 : Nat) (x1_y2 : Int32) (x2_y2 : Int32) (σ_y2 : fm_M) => some (x1_y2, σ_y2)) fm_fu a0 (0 : Int32) (0 : Int32) σ
set_option maxHeartbeats 4000000 in
set_option maxRecDepth 100000 in
theorem w_X10_joyOfAll_4 {p : Program} {l : Launch} {e : Env} {s : State} {m : MethodId} {args : Array Value} {below : List Frame} {meth : Method} {c : Code} {G : fm_G} {o : Int32 × fm_M} {kc : Nat → Int32 → Int32 → fm_M → Option (Int32 × fm_M)} (hC : fm_C G p m c cX10_joyOfAll 3 s args RX10) (hr : meth.sig.returnType = (some .int)) (hlk : meth.locks = false) (hk : ∀ (z0 : Nat) (z1 : Int32) (z2 : Int32) (σ : fm_M) (H : Heap) (locs : List Loc) (ls : Array Slot), fm_ct z0 = 10 → fm_I G σ s H locs → lv_has ls 3 [(0, .ref (G.2.1 z0)), (1, .int z1), (2, .int z2)] → kc z0 z1 z2 σ = some o → W p l e { frames := 0, cells := 0, slots := 0, locals := 0 } s m args below meth c H locs 0 0 (MQ below (fm_Qi G o) args s 0 0 (fm_A G)) (F0 m 30 ls [])) (n : Nat) : ∀ (z0 : Nat) (z1 : Int32) (z2 : Int32) (σ : fm_M) (H : Heap) (locs : List Loc) (ls : Array Slot), fm_ct z0 = 10 → fm_I G σ s H locs → lv_has ls 3 [(0, .ref (G.2.1 z0)), (1, .int z1), (2, .int z2)] → m_X10_joyOfAll_4 kc n z0 z1 z2 σ = some o → W p l e { frames := 0, cells := 0, slots := 0, locals := 0 } s m args below meth c H locs 0 0 (MQ below (fm_Qi G o) args s 0 0 (fm_A G)) (F0 m 4 ls []) := by
  have hx := hC.1.1
  have hb := hC.1.2.1
  have hown := hC.1.2.2.2.1
  have hts := hC.1.2.2.2.2
  induction n with
  | zero =>
    intro z0 z1 z2 σ H locs ls hz0 hI hl hf
    cases hf
  | succ n ih =>
    intro z0 z1 z2 σ H locs ls hz0 hI hl hf
    rw [m_X10_joyOfAll_4] at hf
    refine lv_iload_n hx hb dX10_joyOfAll_4 rfl (lv_at hl 2 rfl) ?_
    refine lv_aload_n hx hb dX10_joyOfAll_5 rfl (lv_at hl 0 rfl) ?_
    refine fm_gi hC hI fd_X10_4 hz0 q_139 dX10_joyOfAll_6 ?_
    refine lv_icmp_ge (tgt := 30) hx hb dX10_joyOfAll_9 (by decide) (fun hc => ?_) (fun hc => ?_)
    · have hf := fm_pT hf hc
      exact hk z0 z1 z2 σ _ _ _ hz0 hI (lv_sub hl [0, 1, 2] rfl) hf
    · have hf := fm_pF hf hc
      refine lv_iload_n hx hb dX10_joyOfAll_12 rfl (lv_at hl 1 rfl) ?_
      refine lv_aload_n hx hb dX10_joyOfAll_13 rfl (lv_at hl 0 rfl) ?_
      refine fm_gr hC hI fd_X10_1 hz0 (fm_T1 hz0).2.1 q_132 dX10_joyOfAll_14 ?_
      refine lv_iload_n hx hb dX10_joyOfAll_17 rfl (lv_at hl 2 rfl) ?_
      obtain ⟨hg1, hf⟩ := fm_gE hf
      refine fm_aald (t0 := 4) hC hI (fm_T1 hz0).1 (by decide) (by decide) rfl (fm_T1 hz0).2.2 hg1 (fm_T3 (x := z2) hz0 hg1).2 dX10_joyOfAll_18 ?_
      refine fm_gi hC hI fd_X5_1 (fm_T3 (x := z2) hz0 hg1).1 q_92 dX10_joyOfAll_19 ?_
      refine lv_iadd hx hb dX10_joyOfAll_22 ?_
      refine lv_istore_n (lv' := [(1, .int (z1 + (σ.1 (z0 + 2 + z2.toNatClampNeg) 1))), (0, .ref (G.2.1 z0)), (2, .int z2)]) hx hb dX10_joyOfAll_23 rfl hl (Nat.le_of_ble_eq_true rfl) rfl (fun ls hl => ?_)
      refine lv_iinc (v := (z2 + (1 : Int32))) (lv' := [(2, .int (z2 + (1 : Int32))), (1, .int (z1 + (σ.1 (z0 + 2 + z2.toNatClampNeg) 1))), (0, .ref (G.2.1 z0))]) hx hb dX10_joyOfAll_24 hl (k := 2) rfl rfl (Nat.le_of_ble_eq_true rfl) rfl (fun ls hl => ?_)
      refine lv_goto (tgt := 4) hx hb dX10_joyOfAll_27 (by decide) ?_
      exact ih z0 (z1 + (σ.1 (z0 + 2 + z2.toNatClampNeg) 1)) (z2 + (1 : Int32)) σ _ _ _ hz0 hI (lv_sub hl [2, 1, 0] rfl) hf
set_option maxHeartbeats 4000000 in
set_option maxRecDepth 100000 in
theorem c_X10_joyOfAll {l : Launch} {G : fm_G} (hJ : fm_J G) {a0 : Nat} {σ : fm_M} {o : Int32 × fm_M} (h0 : fm_ct a0 = 10) (hf : m_X10_joyOfAll a0 σ = some o) : Met l yX10_joyOfAll (fm_w yX10_joyOfAll cX10_joyOfAll 3 (some .int)) { frames := 0, cells := 0, slots := 0, locals := 0 } (va_Pc [.ref (G.2.1 a0)] (fm_st G σ)) (fm_Qi G o) 0 0 (fm_A G) := by
  refine fm_mth (own := RX10) hJ rfl (by decide +kernel) (Nat.le_of_ble_eq_true rfl) ?_
  intro p e s m below meth c ls hC hr hlk hI hl
  have hx := hC.1.1
  have hb := hC.1.2.1
  have hown := hC.1.2.2.2.1
  have hts := hC.1.2.2.2.2
  have hl : lv_has ls 3 [(0, .ref (G.2.1 a0))] := hl
  rw [m_X10_joyOfAll] at hf
  refine lv_iconst (v := (0 : Int32)) hx hb dX10_joyOfAll_0 (by decide) ?_
  refine lv_istore_n (lv' := [(1, .int (0 : Int32)), (0, .ref (G.2.1 a0))]) hx hb dX10_joyOfAll_1 rfl hl (Nat.le_of_ble_eq_true rfl) rfl (fun ls hl => ?_)
  refine lv_iconst (v := (0 : Int32)) hx hb dX10_joyOfAll_2 (by decide) ?_
  refine lv_istore_n (lv' := [(2, .int (0 : Int32)), (1, .int (0 : Int32)), (0, .ref (G.2.1 a0))]) hx hb dX10_joyOfAll_3 rfl hl (Nat.le_of_ble_eq_true rfl) rfl (fun ls hl => ?_)
  refine w_X10_joyOfAll_4 hC hr hlk (fun x0_y2 x1_y2 x2_y2 σ_y2 H locs ls hx0_y2 hI hl hf => ?_) fm_fu a0 (0 : Int32) (0 : Int32) σ _ _ _ h0 hI (lv_sub hl [2, 1, 0] rfl) hf
  refine lv_iload_n hx hb dX10_joyOfAll_30 rfl (lv_at hl 1 rfl) ?_
  exact fm_ri hC hI hr hlk hf dX10_joyOfAll_31
def m_X10_layersOfAll_4 (kc : Nat → Int32 → Int32 → fm_M → Option (Int32 × fm_M)) : Nat → Nat → Int32 → Int32 → fm_M → Option (Int32 × fm_M)
  | 0, _, _, _, _ => none
  | n + 1, z0, z1, z2, σ => if (σ.1 z0 5) ≤ z2 then (kc z0 z1 z2 σ) else (fm_g (fm_in1 z2 8) (m_X10_layersOfAll_4 kc n z0 (z1 + (σ.1 (z0 + 9 + 2 * z2.toNatClampNeg) 1)) (z2 + (1 : Int32)) σ))
def m_X10_layersOfAll (a0 : Nat) (σ : fm_M) : Option (Int32 × fm_M) := m_X10_layersOfAll_4 (fun (x0_y2 : Nat) (x1_y2 : Int32) (x2_y2 : Int32) (σ_y2 : fm_M) => some (x1_y2, σ_y2)) fm_fu a0 (0 : Int32) (0 : Int32) σ
set_option maxHeartbeats 4000000 in
set_option maxRecDepth 100000 in
theorem w_X10_layersOfAll_4 {p : Program} {l : Launch} {e : Env} {s : State} {m : MethodId} {args : Array Value} {below : List Frame} {meth : Method} {c : Code} {G : fm_G} {o : Int32 × fm_M} {kc : Nat → Int32 → Int32 → fm_M → Option (Int32 × fm_M)} (hC : fm_C G p m c cX10_layersOfAll 3 s args RX10) (hr : meth.sig.returnType = (some .int)) (hlk : meth.locks = false) (hk : ∀ (z0 : Nat) (z1 : Int32) (z2 : Int32) (σ : fm_M) (H : Heap) (locs : List Loc) (ls : Array Slot), fm_ct z0 = 10 → fm_I G σ s H locs → lv_has ls 3 [(0, .ref (G.2.1 z0)), (1, .int z1), (2, .int z2)] → kc z0 z1 z2 σ = some o → W p l e { frames := 0, cells := 0, slots := 0, locals := 0 } s m args below meth c H locs 0 0 (MQ below (fm_Qi G o) args s 0 0 (fm_A G)) (F0 m 30 ls [])) (n : Nat) : ∀ (z0 : Nat) (z1 : Int32) (z2 : Int32) (σ : fm_M) (H : Heap) (locs : List Loc) (ls : Array Slot), fm_ct z0 = 10 → fm_I G σ s H locs → lv_has ls 3 [(0, .ref (G.2.1 z0)), (1, .int z1), (2, .int z2)] → m_X10_layersOfAll_4 kc n z0 z1 z2 σ = some o → W p l e { frames := 0, cells := 0, slots := 0, locals := 0 } s m args below meth c H locs 0 0 (MQ below (fm_Qi G o) args s 0 0 (fm_A G)) (F0 m 4 ls []) := by
  have hx := hC.1.1
  have hb := hC.1.2.1
  have hown := hC.1.2.2.2.1
  have hts := hC.1.2.2.2.2
  induction n with
  | zero =>
    intro z0 z1 z2 σ H locs ls hz0 hI hl hf
    cases hf
  | succ n ih =>
    intro z0 z1 z2 σ H locs ls hz0 hI hl hf
    rw [m_X10_layersOfAll_4] at hf
    refine lv_iload_n hx hb dX10_layersOfAll_4 rfl (lv_at hl 2 rfl) ?_
    refine lv_aload_n hx hb dX10_layersOfAll_5 rfl (lv_at hl 0 rfl) ?_
    refine fm_gi hC hI fd_X10_5 hz0 q_142 dX10_layersOfAll_6 ?_
    refine lv_icmp_ge (tgt := 30) hx hb dX10_layersOfAll_9 (by decide) (fun hc => ?_) (fun hc => ?_)
    · have hf := fm_pT hf hc
      exact hk z0 z1 z2 σ _ _ _ hz0 hI (lv_sub hl [0, 1, 2] rfl) hf
    · have hf := fm_pF hf hc
      refine lv_iload_n hx hb dX10_layersOfAll_12 rfl (lv_at hl 1 rfl) ?_
      refine lv_aload_n hx hb dX10_layersOfAll_13 rfl (lv_at hl 0 rfl) ?_
      refine fm_gr hC hI fd_X10_2 hz0 (fm_T2 hz0).2.1 q_134 dX10_layersOfAll_14 ?_
      refine lv_iload_n hx hb dX10_layersOfAll_17 rfl (lv_at hl 2 rfl) ?_
      obtain ⟨hg1, hf⟩ := fm_gE hf
      refine fm_aald (t0 := 5) hC hI (fm_T2 hz0).1 (by decide) (by decide) rfl (fm_T2 hz0).2.2 hg1 (fm_T4 (x := z2) hz0 hg1).2 dX10_layersOfAll_18 ?_
      refine fm_gi hC hI fd_X7_1 (fm_T4 (x := z2) hz0 hg1).1 q_109 dX10_layersOfAll_19 ?_
      refine lv_iadd hx hb dX10_layersOfAll_22 ?_
      refine lv_istore_n (lv' := [(1, .int (z1 + (σ.1 (z0 + 9 + 2 * z2.toNatClampNeg) 1))), (0, .ref (G.2.1 z0)), (2, .int z2)]) hx hb dX10_layersOfAll_23 rfl hl (Nat.le_of_ble_eq_true rfl) rfl (fun ls hl => ?_)
      refine lv_iinc (v := (z2 + (1 : Int32))) (lv' := [(2, .int (z2 + (1 : Int32))), (1, .int (z1 + (σ.1 (z0 + 9 + 2 * z2.toNatClampNeg) 1))), (0, .ref (G.2.1 z0))]) hx hb dX10_layersOfAll_24 hl (k := 2) rfl rfl (Nat.le_of_ble_eq_true rfl) rfl (fun ls hl => ?_)
      refine lv_goto (tgt := 4) hx hb dX10_layersOfAll_27 (by decide) ?_
      exact ih z0 (z1 + (σ.1 (z0 + 9 + 2 * z2.toNatClampNeg) 1)) (z2 + (1 : Int32)) σ _ _ _ hz0 hI (lv_sub hl [2, 1, 0] rfl) hf
set_option maxHeartbeats 4000000 in
set_option maxRecDepth 100000 in
theorem c_X10_layersOfAll {l : Launch} {G : fm_G} (hJ : fm_J G) {a0 : Nat} {σ : fm_M} {o : Int32 × fm_M} (h0 : fm_ct a0 = 10) (hf : m_X10_layersOfAll a0 σ = some o) : Met l yX10_layersOfAll (fm_w yX10_layersOfAll cX10_layersOfAll 3 (some .int)) { frames := 0, cells := 0, slots := 0, locals := 0 } (va_Pc [.ref (G.2.1 a0)] (fm_st G σ)) (fm_Qi G o) 0 0 (fm_A G) := by
  refine fm_mth (own := RX10) hJ rfl (by decide +kernel) (Nat.le_of_ble_eq_true rfl) ?_
  intro p e s m below meth c ls hC hr hlk hI hl
  have hx := hC.1.1
  have hb := hC.1.2.1
  have hown := hC.1.2.2.2.1
  have hts := hC.1.2.2.2.2
  have hl : lv_has ls 3 [(0, .ref (G.2.1 a0))] := hl
  rw [m_X10_layersOfAll] at hf
  refine lv_iconst (v := (0 : Int32)) hx hb dX10_layersOfAll_0 (by decide) ?_
  refine lv_istore_n (lv' := [(1, .int (0 : Int32)), (0, .ref (G.2.1 a0))]) hx hb dX10_layersOfAll_1 rfl hl (Nat.le_of_ble_eq_true rfl) rfl (fun ls hl => ?_)
  refine lv_iconst (v := (0 : Int32)) hx hb dX10_layersOfAll_2 (by decide) ?_
  refine lv_istore_n (lv' := [(2, .int (0 : Int32)), (1, .int (0 : Int32)), (0, .ref (G.2.1 a0))]) hx hb dX10_layersOfAll_3 rfl hl (Nat.le_of_ble_eq_true rfl) rfl (fun ls hl => ?_)
  refine w_X10_layersOfAll_4 hC hr hlk (fun x0_y2 x1_y2 x2_y2 σ_y2 H locs ls hx0_y2 hI hl hf => ?_) fm_fu a0 (0 : Int32) (0 : Int32) σ _ _ _ h0 hI (lv_sub hl [2, 1, 0] rfl) hf
  refine lv_iload_n hx hb dX10_layersOfAll_30 rfl (lv_at hl 1 rfl) ?_
  exact fm_ri hC hI hr hlk hf dX10_layersOfAll_31
def m_X10_thingsFound_4 (kc : Nat → Int32 → Int32 → fm_M → Option (Int32 × fm_M)) : Nat → Nat → Int32 → Int32 → fm_M → Option (Int32 × fm_M)
  | 0, _, _, _, _ => none
  | n + 1, z0, z1, z2, σ => if (σ.1 z0 5) ≤ z2 then (kc z0 z1 z2 σ) else (fm_g (fm_in1 z2 8) (if (σ.1 (z0 + 9 + 2 * z2.toNatClampNeg) 4) = 0 then (m_X10_thingsFound_4 kc n z0 z1 (z2 + (1 : Int32)) σ) else (fm_g (fm_in1 z2 8) (m_X10_thingsFound_4 kc n z0 (z1 + (σ.1 (z0 + 9 + 2 * z2.toNatClampNeg) 2)) (z2 + (1 : Int32)) σ))))
def m_X10_thingsFound (a0 : Nat) (σ : fm_M) : Option (Int32 × fm_M) := m_X10_thingsFound_4 (fun (x0_y3 : Nat) (x1_y3 : Int32) (x2_y3 : Int32) (σ_y3 : fm_M) => some (x1_y3, σ_y3)) fm_fu a0 (0 : Int32) (0 : Int32) σ
set_option maxHeartbeats 4000000 in
set_option maxRecDepth 100000 in
theorem w_X10_thingsFound_4 {p : Program} {l : Launch} {e : Env} {s : State} {m : MethodId} {args : Array Value} {below : List Frame} {meth : Method} {c : Code} {G : fm_G} {o : Int32 × fm_M} {kc : Nat → Int32 → Int32 → fm_M → Option (Int32 × fm_M)} (hC : fm_C G p m c cX10_thingsFound 3 s args RX10) (hr : meth.sig.returnType = (some .int)) (hlk : meth.locks = false) (hk : ∀ (z0 : Nat) (z1 : Int32) (z2 : Int32) (σ : fm_M) (H : Heap) (locs : List Loc) (ls : Array Slot), fm_ct z0 = 10 → fm_I G σ s H locs → lv_has ls 3 [(0, .ref (G.2.1 z0)), (1, .int z1), (2, .int z2)] → kc z0 z1 z2 σ = some o → W p l e { frames := 0, cells := 0, slots := 0, locals := 0 } s m args below meth c H locs 0 0 (MQ below (fm_Qi G o) args s 0 0 (fm_A G)) (F0 m 42 ls [])) (n : Nat) : ∀ (z0 : Nat) (z1 : Int32) (z2 : Int32) (σ : fm_M) (H : Heap) (locs : List Loc) (ls : Array Slot), fm_ct z0 = 10 → fm_I G σ s H locs → lv_has ls 3 [(0, .ref (G.2.1 z0)), (1, .int z1), (2, .int z2)] → m_X10_thingsFound_4 kc n z0 z1 z2 σ = some o → W p l e { frames := 0, cells := 0, slots := 0, locals := 0 } s m args below meth c H locs 0 0 (MQ below (fm_Qi G o) args s 0 0 (fm_A G)) (F0 m 4 ls []) := by
  have hx := hC.1.1
  have hb := hC.1.2.1
  have hown := hC.1.2.2.2.1
  have hts := hC.1.2.2.2.2
  induction n with
  | zero =>
    intro z0 z1 z2 σ H locs ls hz0 hI hl hf
    cases hf
  | succ n ih =>
    intro z0 z1 z2 σ H locs ls hz0 hI hl hf
    rw [m_X10_thingsFound_4] at hf
    refine lv_iload_n hx hb dX10_thingsFound_4 rfl (lv_at hl 2 rfl) ?_
    refine lv_aload_n hx hb dX10_thingsFound_5 rfl (lv_at hl 0 rfl) ?_
    refine fm_gi hC hI fd_X10_5 hz0 q_142 dX10_thingsFound_6 ?_
    refine lv_icmp_ge (tgt := 42) hx hb dX10_thingsFound_9 (by decide) (fun hc => ?_) (fun hc => ?_)
    · have hf := fm_pT hf hc
      exact hk z0 z1 z2 σ _ _ _ hz0 hI (lv_sub hl [0, 1, 2] rfl) hf
    · have hf := fm_pF hf hc
      refine lv_aload_n hx hb dX10_thingsFound_12 rfl (lv_at hl 0 rfl) ?_
      refine fm_gr hC hI fd_X10_2 hz0 (fm_T2 hz0).2.1 q_134 dX10_thingsFound_13 ?_
      refine lv_iload_n hx hb dX10_thingsFound_16 rfl (lv_at hl 2 rfl) ?_
      obtain ⟨hg1, hf⟩ := fm_gE hf
      refine fm_aald (t0 := 5) hC hI (fm_T2 hz0).1 (by decide) (by decide) rfl (fm_T2 hz0).2.2 hg1 (fm_T4 (x := z2) hz0 hg1).2 dX10_thingsFound_17 ?_
      refine fm_gi hC hI fd_X7_4 (fm_T4 (x := z2) hz0 hg1).1 q_117 dX10_thingsFound_18 ?_
      refine lv_if_eq (tgt := 36) hx hb dX10_thingsFound_21 (by decide) (fun hc => ?_) (fun hc => ?_)
      · have hf := fm_pT hf hc
        refine lv_iinc (v := (z2 + (1 : Int32))) (lv' := [(2, .int (z2 + (1 : Int32))), (0, .ref (G.2.1 z0)), (1, .int z1)]) hx hb dX10_thingsFound_36 hl (k := 2) rfl rfl (Nat.le_of_ble_eq_true rfl) rfl (fun ls hl => ?_)
        refine lv_goto (tgt := 4) hx hb dX10_thingsFound_39 (by decide) ?_
        exact ih z0 z1 (z2 + (1 : Int32)) σ _ _ _ hz0 hI (lv_sub hl [1, 2, 0] rfl) hf
      · have hf := fm_pF hf hc
        refine lv_iload_n hx hb dX10_thingsFound_24 rfl (lv_at hl 1 rfl) ?_
        refine lv_aload_n hx hb dX10_thingsFound_25 rfl (lv_at hl 0 rfl) ?_
        refine fm_gr hC hI fd_X10_2 hz0 (fm_T2 hz0).2.1 q_134 dX10_thingsFound_26 ?_
        refine lv_iload_n hx hb dX10_thingsFound_29 rfl (lv_at hl 2 rfl) ?_
        obtain ⟨hg2, hf⟩ := fm_gE hf
        refine fm_aald (t0 := 5) hC hI (fm_T2 hz0).1 (by decide) (by decide) rfl (fm_T2 hz0).2.2 hg2 (fm_T4 (x := z2) hz0 hg2).2 dX10_thingsFound_30 ?_
        refine fm_gi hC hI fd_X7_2 (fm_T4 (x := z2) hz0 hg2).1 q_112 dX10_thingsFound_31 ?_
        refine lv_iadd hx hb dX10_thingsFound_34 ?_
        refine lv_istore_n (lv' := [(1, .int (z1 + (σ.1 (z0 + 9 + 2 * z2.toNatClampNeg) 2))), (0, .ref (G.2.1 z0)), (2, .int z2)]) hx hb dX10_thingsFound_35 rfl hl (Nat.le_of_ble_eq_true rfl) rfl (fun ls hl => ?_)
        refine lv_iinc (v := (z2 + (1 : Int32))) (lv' := [(2, .int (z2 + (1 : Int32))), (1, .int (z1 + (σ.1 (z0 + 9 + 2 * z2.toNatClampNeg) 2))), (0, .ref (G.2.1 z0))]) hx hb dX10_thingsFound_36 hl (k := 2) rfl rfl (Nat.le_of_ble_eq_true rfl) rfl (fun ls hl => ?_)
        refine lv_goto (tgt := 4) hx hb dX10_thingsFound_39 (by decide) ?_
        exact ih z0 (z1 + (σ.1 (z0 + 9 + 2 * z2.toNatClampNeg) 2)) (z2 + (1 : Int32)) σ _ _ _ hz0 hI (lv_sub hl [2, 1, 0] rfl) hf
set_option maxHeartbeats 4000000 in
set_option maxRecDepth 100000 in
theorem c_X10_thingsFound {l : Launch} {G : fm_G} (hJ : fm_J G) {a0 : Nat} {σ : fm_M} {o : Int32 × fm_M} (h0 : fm_ct a0 = 10) (hf : m_X10_thingsFound a0 σ = some o) : Met l yX10_thingsFound (fm_w yX10_thingsFound cX10_thingsFound 3 (some .int)) { frames := 0, cells := 0, slots := 0, locals := 0 } (va_Pc [.ref (G.2.1 a0)] (fm_st G σ)) (fm_Qi G o) 0 0 (fm_A G) := by
  refine fm_mth (own := RX10) hJ rfl (by decide +kernel) (Nat.le_of_ble_eq_true rfl) ?_
  intro p e s m below meth c ls hC hr hlk hI hl
  have hx := hC.1.1
  have hb := hC.1.2.1
  have hown := hC.1.2.2.2.1
  have hts := hC.1.2.2.2.2
  have hl : lv_has ls 3 [(0, .ref (G.2.1 a0))] := hl
  rw [m_X10_thingsFound] at hf
  refine lv_iconst (v := (0 : Int32)) hx hb dX10_thingsFound_0 (by decide) ?_
  refine lv_istore_n (lv' := [(1, .int (0 : Int32)), (0, .ref (G.2.1 a0))]) hx hb dX10_thingsFound_1 rfl hl (Nat.le_of_ble_eq_true rfl) rfl (fun ls hl => ?_)
  refine lv_iconst (v := (0 : Int32)) hx hb dX10_thingsFound_2 (by decide) ?_
  refine lv_istore_n (lv' := [(2, .int (0 : Int32)), (1, .int (0 : Int32)), (0, .ref (G.2.1 a0))]) hx hb dX10_thingsFound_3 rfl hl (Nat.le_of_ble_eq_true rfl) rfl (fun ls hl => ?_)
  refine w_X10_thingsFound_4 hC hr hlk (fun x0_y3 x1_y3 x2_y3 σ_y3 H locs ls hx0_y3 hI hl hf => ?_) fm_fu a0 (0 : Int32) (0 : Int32) σ _ _ _ h0 hI (lv_sub hl [2, 1, 0] rfl) hf
  refine lv_iload_n hx hb dX10_thingsFound_42 rfl (lv_at hl 1 rfl) ?_
  exact fm_ri hC hI hr hlk hf dX10_thingsFound_43
def mv_passesOn (a : Nat) (x1 : Int32) (x2 : Int32) (σ : fm_M) : Option (Int32 × fm_M) := if a = 2 then m_X4_passesOn a x1 x2 σ else if a = 3 then m_X0_passesOn a x1 x2 σ else if a = 4 then m_X1_passesOn a x1 x2 σ else if a = 5 then m_X6_passesOn a x1 x2 σ else if a = 6 then m_X1_passesOn a x1 x2 σ else m_X2_passesOn a x1 x2 σ
set_option maxHeartbeats 4000000 in
theorem vm_X10_88 {p : Program} {l : Launch} {e : Env} {R : Room} {s : State} {m : MethodId} {args : Array Value} {below : List Frame} {meth : Method} {c : Code} {H : Heap} {locs : List Loc} {cc : ByteArray} {pc nL : Nat} {ls : Array Slot} {rest st0 : List Value} {G : fm_G} {σ : fm_M} {a : Nat} {x1 x2 : Int32} {o : Int32 × fm_M} (hC : fm_C G p m c cc nL s args RX10) (hI : fm_I G σ s H locs) (hm : fm_man a) (hq : mv_passesOn a x1 x2 σ = some o) (hR : 2 ≤ R.frames ∧ 44 ≤ R.locals) (hsz : ls.size = nL) (hst : st0 = [.int x2, .int x1, .ref (G.2.1 a)] ++ rest) (hW : (rest.map fun v => v.category).sum ≤ 8) (hdg : decode cc pc = .ok (.invokevirtual 88, 3)) : va_Run p l e R s m args below meth c H locs 0 0 0 0 (F0 m pc ls st0) rest (fm_Qi G o (Value.ref (G.2.1 a) :: [.int x1, .int x2]).toArray) (fm_A G) := by
  obtain ⟨h1, h2⟩ := id hm
  have h3 : a = 2 ∨ a = 3 ∨ a = 4 ∨ a = 5 ∨ a = 6 ∨ a = 7 := by omega
  rcases h3 with rfl | rfl | rfl | rfl | rfl | rfl
  · exact fm_runV (As := [.int x1, .int x2]) (rest := rest) (rm := { frames := 0, cells := 0, slots := 0, locals := 0 }) hC hI (c_X4_passesOn hC.2.2.1 hm (show m_X4_passesOn 2 x1 x2 σ = some o from hq)) mV_X4_passesOn q_472 ⟨rfl, rfl⟩ ⟨Nat.le_trans (Nat.le_of_ble_eq_true rfl) hR.1, Nat.le_trans (Nat.le_of_ble_eq_true rfl) hR.2⟩ fc_2 rfl (by decide) rfl hsz hst hW hdg ⟨Nat.zero_le _, Nat.zero_le _⟩
  · exact fm_runU (x := yX4_passesOn) (As := [.int x1, .int x2]) (rest := rest) (rm := { frames := 1, cells := 0, slots := 0, locals := 22 }) hC hI (c_X0_passesOn hC.2.2.1 hm (show m_X0_passesOn 3 x1 x2 σ = some o from hq)) mU_X0_passesOn q_472 ⟨rfl, rfl⟩ ⟨Nat.le_trans (Nat.le_of_ble_eq_true rfl) hR.1, Nat.le_trans (Nat.le_of_ble_eq_true rfl) hR.2⟩ fc_3 rfl (by decide) rfl hsz hst hW hdg ⟨Nat.zero_le _, Nat.zero_le _⟩
  · exact fm_runU (x := yX4_passesOn) (As := [.int x1, .int x2]) (rest := rest) (rm := { frames := 0, cells := 0, slots := 0, locals := 0 }) hC hI (c_X1_passesOn hC.2.2.1 hm (show m_X1_passesOn 4 x1 x2 σ = some o from hq)) mU_X1_passesOn q_472 ⟨rfl, rfl⟩ ⟨Nat.le_trans (Nat.le_of_ble_eq_true rfl) hR.1, Nat.le_trans (Nat.le_of_ble_eq_true rfl) hR.2⟩ fc_4 rfl (by decide) rfl hsz hst hW hdg ⟨Nat.zero_le _, Nat.zero_le _⟩
  · exact fm_runU (x := yX4_passesOn) (As := [.int x1, .int x2]) (rest := rest) (rm := { frames := 0, cells := 0, slots := 0, locals := 0 }) hC hI (c_X6_passesOn hC.2.2.1 hm (show m_X6_passesOn 5 x1 x2 σ = some o from hq)) mU_X6_passesOn q_472 ⟨rfl, rfl⟩ ⟨Nat.le_trans (Nat.le_of_ble_eq_true rfl) hR.1, Nat.le_trans (Nat.le_of_ble_eq_true rfl) hR.2⟩ fc_5 rfl (by decide) rfl hsz hst hW hdg ⟨Nat.zero_le _, Nat.zero_le _⟩
  · exact fm_runU (x := yX4_passesOn) (As := [.int x1, .int x2]) (rest := rest) (rm := { frames := 0, cells := 0, slots := 0, locals := 0 }) hC hI (c_X1_passesOn hC.2.2.1 hm (show m_X1_passesOn 6 x1 x2 σ = some o from hq)) mU_X3_passesOn q_472 ⟨rfl, rfl⟩ ⟨Nat.le_trans (Nat.le_of_ble_eq_true rfl) hR.1, Nat.le_trans (Nat.le_of_ble_eq_true rfl) hR.2⟩ fc_6 rfl (by decide) rfl hsz hst hW hdg ⟨Nat.zero_le _, Nat.zero_le _⟩
  · exact fm_runU (x := yX4_passesOn) (As := [.int x1, .int x2]) (rest := rest) (rm := { frames := 0, cells := 0, slots := 0, locals := 0 }) hC hI (c_X2_passesOn hC.2.2.1 hm (show m_X2_passesOn 7 x1 x2 σ = some o from hq)) mU_X2_passesOn q_472 ⟨rfl, rfl⟩ ⟨Nat.le_trans (Nat.le_of_ble_eq_true rfl) hR.1, Nat.le_trans (Nat.le_of_ble_eq_true rfl) hR.2⟩ fc_7 rfl (by decide) rfl hsz hst hW hdg ⟨Nat.zero_le _, Nat.zero_le _⟩
def m_X10_handsOn (a0 : Nat) (a1 : Int32) (a2 : Nat) (σ : fm_M) : Option (Int32 × fm_M) := fm_b (m_X10_mannerOf a0 a1 σ) fun r1 σ2 => (fm_b (mv_passesOn r1 (σ2.1 a2 1) ((σ2.1 a0 3) - (σ2.1 a0 3) / (4 : Int32) * (4 : Int32)) σ2) fun r5 σ6 => (if r5 < 0 then (some ((0 : Int32), σ6)) else (if (2 : Int32) ≤ (σ6.1 a0 4) then (fm_b (m_X7_layAbout a2 r5 σ6) fun _u8 σ9 => (fm_j (fun (v0_J11 : Int32) (σ_J11 : fm_M) => fm_let (fm_sI σ_J11 a2 3 v0_J11) fun σ12 => (some ((1 : Int32), σ12))) (fun J11 => if (σ9.1 a0 4) ≤ (a1 + (1 : Int32)) then (J11 (0 : Int32) σ9) else (J11 (a1 + (1 : Int32)) σ9)))) else (some ((0 : Int32), σ6)))))
set_option maxHeartbeats 4000000 in
set_option maxRecDepth 100000 in
theorem c_X10_handsOn {l : Launch} {G : fm_G} (hJ : fm_J G) {a0 : Nat} {a1 : Int32} {a2 : Nat} {σ : fm_M} {o : Int32 × fm_M} (h0 : fm_ct a0 = 10) (h2 : fm_ct a2 = 7) (hf : m_X10_handsOn a0 a1 a2 σ = some o) : Met l yX10_handsOn (fm_w yX10_handsOn cX10_handsOn 4 (some .boolean)) { frames := 2, cells := 0, slots := 0, locals := 44 } (va_Pc [.ref (G.2.1 a0), .int a1, .ref (G.2.1 a2)] (fm_st G σ)) (fm_Qi G o) 0 0 (fm_A G) := by
  refine fm_mth (own := RX10) hJ rfl (by decide +kernel) (Nat.le_of_ble_eq_true rfl) ?_
  intro p e s m below meth c ls hC hr hlk hI hl
  have hx := hC.1.1
  have hb := hC.1.2.1
  have hown := hC.1.2.2.2.1
  have hts := hC.1.2.2.2.2
  have hl : lv_has ls 4 [(0, .ref (G.2.1 a0)), (1, .int a1), (2, .ref (G.2.1 a2))] := hl
  rw [m_X10_handsOn] at hf
  refine lv_aload_n hx hb dX10_handsOn_0 rfl (lv_at hl 0 rfl) ?_
  refine lv_iload_n hx hb dX10_handsOn_1 rfl (lv_at hl 1 rfl) ?_
  obtain ⟨r1, σ2, hq3, hf⟩ := fm_bE hf
  refine fm_cr hI (fm_runV (As := [.int a1]) (rest := []) (rm := { frames := 0, cells := 0, slots := 0, locals := 0 }) hC hI (c_X10_mannerOf hC.2.2.1 h0 hq3) mV_X10_mannerOf q_287 ⟨rfl, rfl⟩ ⟨Nat.le_of_ble_eq_true rfl, Nat.le_of_ble_eq_true rfl⟩ h0 rfl (by decide) rfl hl.1 rfl (Nat.le_of_ble_eq_true rfl) dX10_handsOn_2 ⟨Nat.zero_le _, Nat.zero_le _⟩) (fun H locs hI => ?_)
  have hm4 := man_X10_mannerOf hq3
  refine lv_aload_n hx hb dX10_handsOn_5 rfl (lv_at hl 2 rfl) ?_
  refine fm_gi hC hI fd_X7_1 h2 q_109 dX10_handsOn_6 ?_
  refine lv_aload_n hx hb dX10_handsOn_9 rfl (lv_at hl 0 rfl) ?_
  refine fm_gi hC hI fd_X10_3 h0 q_137 dX10_handsOn_10 ?_
  refine lv_iconst (v := (4 : Int32)) hx hb dX10_handsOn_13 (by decide) ?_
  refine lv_irem hx hb dX10_handsOn_14 (by decide) ?_
  obtain ⟨r5, σ6, hq7, hf⟩ := fm_bE hf
  refine fm_ci hI (vm_X10_88 (rest := []) hC hI hm4 hq7 ⟨Nat.le_of_ble_eq_true rfl, Nat.le_of_ble_eq_true rfl⟩ hl.1 rfl (Nat.le_of_ble_eq_true rfl) dX10_handsOn_15) (fun H locs hI => ?_)
  refine lv_istore_n (lv' := [(3, .int r5), (0, .ref (G.2.1 a0)), (1, .int a1), (2, .ref (G.2.1 a2))]) hx hb dX10_handsOn_18 rfl hl (Nat.le_of_ble_eq_true rfl) rfl (fun ls hl => ?_)
  refine lv_iload_n hx hb dX10_handsOn_19 rfl (lv_at hl 0 rfl) ?_
  refine lv_if_lt (tgt := 31) hx hb dX10_handsOn_20 (by decide) (fun hc => ?_) (fun hc => ?_)
  · have hf := fm_pT hf hc
    refine lv_iconst (v := (0 : Int32)) hx hb dX10_handsOn_31 (by decide) ?_
    exact fm_rz hC hI hr hlk (by decide) hf dX10_handsOn_32
  · have hf := fm_pF hf hc
    refine lv_aload_n hx hb dX10_handsOn_23 rfl (lv_at hl 1 rfl) ?_
    refine fm_gi hC hI fd_X10_4 h0 q_139 dX10_handsOn_24 ?_
    refine lv_iconst (v := (2 : Int32)) hx hb dX10_handsOn_27 (by decide) ?_
    refine lv_icmp_ge (tgt := 33) hx hb dX10_handsOn_28 (by decide) (fun hc => ?_) (fun hc => ?_)
    · have hf := fm_pT hf hc
      refine lv_aload_n hx hb dX10_handsOn_33 rfl (lv_at hl 3 rfl) ?_
      refine lv_iload_n hx hb dX10_handsOn_34 rfl (lv_at hl 0 rfl) ?_
      obtain ⟨_u8, σ9, hq10, hf⟩ := fm_bE hf
      refine fm_cv hI (fm_runV (As := [.int r5]) (rest := []) (rm := { frames := 0, cells := 0, slots := 0, locals := 0 }) hC hI (c_X7_layAbout hC.2.2.1 h2 hq10) mV_X7_layAbout q_473 ⟨rfl, rfl⟩ ⟨Nat.le_of_ble_eq_true rfl, Nat.le_of_ble_eq_true rfl⟩ h2 rfl (by decide) rfl hl.1 rfl (Nat.le_of_ble_eq_true rfl) dX10_handsOn_35 ⟨Nat.zero_le _, Nat.zero_le _⟩) (fun H locs hI => ?_)
      refine lv_aload_n hx hb dX10_handsOn_38 rfl (lv_at hl 3 rfl) ?_
      refine lv_iload_n hx hb dX10_handsOn_39 rfl (lv_at hl 2 rfl) ?_
      refine lv_iconst (v := (1 : Int32)) hx hb dX10_handsOn_40 (by decide) ?_
      refine lv_iadd hx hb dX10_handsOn_41 ?_
      refine lv_aload_n hx hb dX10_handsOn_42 rfl (lv_at hl 1 rfl) ?_
      refine fm_gi hC hI fd_X10_4 h0 q_139 dX10_handsOn_43 ?_
      obtain ⟨J11, eJ11, hf⟩ := fm_jE hf
      have hJ11 : ∀ (v0_J11 : Int32) (σ_J11 : fm_M) (H : Heap) (locs : List Loc) (ls : Array Slot), fm_I G σ_J11 s H locs → lv_has ls 4 [] → J11 v0_J11 σ_J11 = some o → W p l e { frames := 2, cells := 0, slots := 0, locals := 44 } s m ([.ref (G.2.1 a0), .int a1, .ref (G.2.1 a2)] : List Value).toArray below meth c H locs 0 0 (MQ below (fm_Qi G o) ([.ref (G.2.1 a0), .int a1, .ref (G.2.1 a2)] : List Value).toArray s 0 0 (fm_A G)) (F0 m 56 ls [.int v0_J11, .ref (G.2.1 a2)]) := by
        intro v0_J11 σ_J11 H locs ls hI hl hf
        subst eJ11
        obtain ⟨σ12, e13, hf⟩ := fm_letE hf
        refine fm_pi hC hI fp_X7_3 h2 ⟨rfl, rfl⟩ e13 q_114 dX10_handsOn_56 (fun H locs hI => ?_)
        refine lv_iconst (v := (1 : Int32)) hx hb dX10_handsOn_59 (by decide) ?_
        exact fm_rz hC hI hr hlk (by decide) hf dX10_handsOn_60
      refine lv_icmp_ge (tgt := 55) hx hb dX10_handsOn_46 (by decide) (fun hc => ?_) (fun hc => ?_)
      · have hf := fm_pT hf hc
        refine lv_iconst (v := (0 : Int32)) hx hb dX10_handsOn_55 (by decide) ?_
        exact hJ11 (0 : Int32) σ9 _ _ _ hI (lv_sub hl [] rfl) hf
      · have hf := fm_pF hf hc
        refine lv_iload_n hx hb dX10_handsOn_49 rfl (lv_at hl 2 rfl) ?_
        refine lv_iconst (v := (1 : Int32)) hx hb dX10_handsOn_50 (by decide) ?_
        refine lv_iadd hx hb dX10_handsOn_51 ?_
        refine lv_goto (tgt := 56) hx hb dX10_handsOn_52 (by decide) ?_
        exact hJ11 (a1 + (1 : Int32)) σ9 _ _ _ hI (lv_sub hl [] rfl) hf
    · have hf := fm_pF hf hc
      refine lv_iconst (v := (0 : Int32)) hx hb dX10_handsOn_31 (by decide) ?_
      exact fm_rz hC hI hr hlk (by decide) hf dX10_handsOn_32
def mv_opens (a : Nat) (x1 : Int32) (x2 : Int32) (x3 : Int32) (σ : fm_M) : Option (Int32 × fm_M) := if a = 2 then m_X4_opens a x1 x2 x3 σ else if a = 3 then m_X0_opens a x1 x2 x3 σ else if a = 4 then m_X1_opens a x1 x2 x3 σ else if a = 5 then m_X6_opens a x1 x2 x3 σ else if a = 6 then m_X3_opens a x1 x2 x3 σ else m_X2_opens a x1 x2 x3 σ
set_option maxHeartbeats 4000000 in
theorem vm_X10_101 {p : Program} {l : Launch} {e : Env} {R : Room} {s : State} {m : MethodId} {args : Array Value} {below : List Frame} {meth : Method} {c : Code} {H : Heap} {locs : List Loc} {cc : ByteArray} {pc nL : Nat} {ls : Array Slot} {rest st0 : List Value} {G : fm_G} {σ : fm_M} {a : Nat} {x1 x2 x3 : Int32} {o : Int32 × fm_M} (hC : fm_C G p m c cc nL s args RX10) (hI : fm_I G σ s H locs) (hm : fm_man a) (hq : mv_opens a x1 x2 x3 σ = some o) (hR : 2 ≤ R.frames ∧ 46 ≤ R.locals) (hsz : ls.size = nL) (hst : st0 = [.int x3, .int x2, .int x1, .ref (G.2.1 a)] ++ rest) (hW : (rest.map fun v => v.category).sum ≤ 8) (hdg : decode cc pc = .ok (.invokevirtual 101, 3)) : va_Run p l e R s m args below meth c H locs 0 0 0 0 (F0 m pc ls st0) rest (fm_Qi G o (Value.ref (G.2.1 a) :: [.int x1, .int x2, .int x3]).toArray) (fm_A G) := by
  obtain ⟨h1, h2⟩ := id hm
  have h3 : a = 2 ∨ a = 3 ∨ a = 4 ∨ a = 5 ∨ a = 6 ∨ a = 7 := by omega
  rcases h3 with rfl | rfl | rfl | rfl | rfl | rfl
  · exact fm_runV (As := [.int x1, .int x2, .int x3]) (rest := rest) (rm := { frames := 0, cells := 0, slots := 0, locals := 0 }) hC hI (c_X4_opens hC.2.2.1 hm (show m_X4_opens 2 x1 x2 x3 σ = some o from hq)) mV_X4_opens q_296 ⟨rfl, rfl⟩ ⟨Nat.le_trans (Nat.le_of_ble_eq_true rfl) hR.1, Nat.le_trans (Nat.le_of_ble_eq_true rfl) hR.2⟩ fc_2 rfl (by decide) rfl hsz hst hW hdg ⟨Nat.zero_le _, Nat.zero_le _⟩
  · exact fm_runU (x := yX4_opens) (As := [.int x1, .int x2, .int x3]) (rest := rest) (rm := { frames := 0, cells := 0, slots := 0, locals := 0 }) hC hI (c_X0_opens hC.2.2.1 hm (show m_X0_opens 3 x1 x2 x3 σ = some o from hq)) mU_X0_opens q_296 ⟨rfl, rfl⟩ ⟨Nat.le_trans (Nat.le_of_ble_eq_true rfl) hR.1, Nat.le_trans (Nat.le_of_ble_eq_true rfl) hR.2⟩ fc_3 rfl (by decide) rfl hsz hst hW hdg ⟨Nat.zero_le _, Nat.zero_le _⟩
  · exact fm_runU (x := yX4_opens) (As := [.int x1, .int x2, .int x3]) (rest := rest) (rm := { frames := 1, cells := 0, slots := 0, locals := 23 }) hC hI (c_X1_opens hC.2.2.1 hm (show m_X1_opens 4 x1 x2 x3 σ = some o from hq)) mU_X1_opens q_296 ⟨rfl, rfl⟩ ⟨Nat.le_trans (Nat.le_of_ble_eq_true rfl) hR.1, Nat.le_trans (Nat.le_of_ble_eq_true rfl) hR.2⟩ fc_4 rfl (by decide) rfl hsz hst hW hdg ⟨Nat.zero_le _, Nat.zero_le _⟩
  · exact fm_runU (x := yX4_opens) (As := [.int x1, .int x2, .int x3]) (rest := rest) (rm := { frames := 1, cells := 0, slots := 0, locals := 23 }) hC hI (c_X6_opens hC.2.2.1 hm (show m_X6_opens 5 x1 x2 x3 σ = some o from hq)) mU_X6_opens q_296 ⟨rfl, rfl⟩ ⟨Nat.le_trans (Nat.le_of_ble_eq_true rfl) hR.1, Nat.le_trans (Nat.le_of_ble_eq_true rfl) hR.2⟩ fc_5 rfl (by decide) rfl hsz hst hW hdg ⟨Nat.zero_le _, Nat.zero_le _⟩
  · exact fm_runU (x := yX4_opens) (As := [.int x1, .int x2, .int x3]) (rest := rest) (rm := { frames := 0, cells := 0, slots := 0, locals := 0 }) hC hI (c_X3_opens hC.2.2.1 hm (show m_X3_opens 6 x1 x2 x3 σ = some o from hq)) mU_X3_opens q_296 ⟨rfl, rfl⟩ ⟨Nat.le_trans (Nat.le_of_ble_eq_true rfl) hR.1, Nat.le_trans (Nat.le_of_ble_eq_true rfl) hR.2⟩ fc_6 rfl (by decide) rfl hsz hst hW hdg ⟨Nat.zero_le _, Nat.zero_le _⟩
  · exact fm_runU (x := yX4_opens) (As := [.int x1, .int x2, .int x3]) (rest := rest) (rm := { frames := 1, cells := 0, slots := 0, locals := 23 }) hC hI (c_X2_opens hC.2.2.1 hm (show m_X2_opens 7 x1 x2 x3 σ = some o from hq)) mU_X2_opens q_296 ⟨rfl, rfl⟩ ⟨Nat.le_trans (Nat.le_of_ble_eq_true rfl) hR.1, Nat.le_trans (Nat.le_of_ble_eq_true rfl) hR.2⟩ fc_7 rfl (by decide) rfl hsz hst hW hdg ⟨Nat.zero_le _, Nat.zero_le _⟩
def m_X10_takesOff (a0 : Nat) (a1 : Int32) (a2 : Nat) (σ : fm_M) : Option (Int32 × fm_M) := if (σ.1 a2 1) = 0 then (some ((0 : Int32), σ)) else (fm_b (m_X10_mannerOf a0 a1 σ) fun r1 σ2 => (fm_b (m_X7_outermost a2 σ2) fun r5 σ6 => (fm_b (mv_opens r1 (σ2.1 a0 3) (σ2.1 a2 1) r5 σ6) fun r8 σ9 => (some ((if (σ9.1 a2 1) < r8 then (σ9.1 a2 1) else r8), σ9)))))
set_option maxHeartbeats 4000000 in
set_option maxRecDepth 100000 in
theorem c_X10_takesOff {l : Launch} {G : fm_G} (hJ : fm_J G) {a0 : Nat} {a1 : Int32} {a2 : Nat} {σ : fm_M} {o : Int32 × fm_M} (h0 : fm_ct a0 = 10) (h2 : fm_ct a2 = 7) (hf : m_X10_takesOff a0 a1 a2 σ = some o) : Met l yX10_takesOff (fm_w yX10_takesOff cX10_takesOff 4 (some .int)) { frames := 2, cells := 0, slots := 0, locals := 46 } (va_Pc [.ref (G.2.1 a0), .int a1, .ref (G.2.1 a2)] (fm_st G σ)) (fm_Qi G o) 0 0 (fm_A G) := by
  refine fm_mth (own := RX10) hJ rfl (by decide +kernel) (Nat.le_of_ble_eq_true rfl) ?_
  intro p e s m below meth c ls hC hr hlk hI hl
  have hx := hC.1.1
  have hb := hC.1.2.1
  have hown := hC.1.2.2.2.1
  have hts := hC.1.2.2.2.2
  have hl : lv_has ls 4 [(0, .ref (G.2.1 a0)), (1, .int a1), (2, .ref (G.2.1 a2))] := hl
  rw [m_X10_takesOff] at hf
  refine lv_aload_n hx hb dX10_takesOff_0 rfl (lv_at hl 2 rfl) ?_
  refine fm_gi hC hI fd_X7_1 h2 q_109 dX10_takesOff_1 ?_
  refine lv_if_ne (tgt := 9) hx hb dX10_takesOff_4 (by decide) (fun hc => ?_) (fun hc => ?_)
  · have hf := fm_pF hf hc
    refine lv_aload_n hx hb dX10_takesOff_9 rfl (lv_at hl 0 rfl) ?_
    refine lv_iload_n hx hb dX10_takesOff_10 rfl (lv_at hl 1 rfl) ?_
    obtain ⟨r1, σ2, hq3, hf⟩ := fm_bE hf
    refine fm_cr hI (fm_runV (As := [.int a1]) (rest := []) (rm := { frames := 0, cells := 0, slots := 0, locals := 0 }) hC hI (c_X10_mannerOf hC.2.2.1 h0 hq3) mV_X10_mannerOf q_287 ⟨rfl, rfl⟩ ⟨Nat.le_of_ble_eq_true rfl, Nat.le_of_ble_eq_true rfl⟩ h0 rfl (by decide) rfl hl.1 rfl (Nat.le_of_ble_eq_true rfl) dX10_takesOff_11 ⟨Nat.zero_le _, Nat.zero_le _⟩) (fun H locs hI => ?_)
    have hm4 := man_X10_mannerOf hq3
    refine lv_aload_n hx hb dX10_takesOff_14 rfl (lv_at hl 0 rfl) ?_
    refine fm_gi hC hI fd_X10_3 h0 q_137 dX10_takesOff_15 ?_
    refine lv_aload_n hx hb dX10_takesOff_18 rfl (lv_at hl 2 rfl) ?_
    refine fm_gi hC hI fd_X7_1 h2 q_109 dX10_takesOff_19 ?_
    refine lv_aload_n hx hb dX10_takesOff_22 rfl (lv_at hl 2 rfl) ?_
    obtain ⟨r5, σ6, hq7, hf⟩ := fm_bE hf
    refine fm_ci hI (fm_runV (As := []) (rest := [.int (σ2.1 a2 1), .int (σ2.1 a0 3), .ref (G.2.1 r1)]) (rm := { frames := 1, cells := 0, slots := 0, locals := 21 }) hC hI (c_X7_outermost hC.2.2.1 h2 hq7) mV_X7_outermost q_288 ⟨rfl, rfl⟩ ⟨Nat.le_of_ble_eq_true rfl, Nat.le_of_ble_eq_true rfl⟩ h2 rfl (by decide) rfl hl.1 rfl (Nat.le_of_ble_eq_true rfl) dX10_takesOff_23 ⟨Nat.zero_le _, Nat.zero_le _⟩) (fun H locs hI => ?_)
    obtain ⟨r8, σ9, hq10, hf⟩ := fm_bE hf
    refine fm_ci hI (vm_X10_101 (rest := []) hC hI hm4 hq10 ⟨Nat.le_of_ble_eq_true rfl, Nat.le_of_ble_eq_true rfl⟩ hl.1 rfl (Nat.le_of_ble_eq_true rfl) dX10_takesOff_26) (fun H locs hI => ?_)
    refine lv_istore_n (lv' := [(3, .int r8), (0, .ref (G.2.1 a0)), (1, .int a1), (2, .ref (G.2.1 a2))]) hx hb dX10_takesOff_29 rfl hl (Nat.le_of_ble_eq_true rfl) rfl (fun ls hl => ?_)
    refine lv_iload_n hx hb dX10_takesOff_30 rfl (lv_at hl 0 rfl) ?_
    refine lv_aload_n hx hb dX10_takesOff_31 rfl (lv_at hl 3 rfl) ?_
    refine fm_gi hC hI fd_X7_1 h2 q_109 dX10_takesOff_32 ?_
    refine va_mmin hx hb (hC.1.2.2.1.trans hl.1.symm) hown (hts _ q_319) (hts _ q_320) (hts _ q_14) (hts _ q_321) (Nat.le_of_ble_eq_true rfl) (Nat.le_of_ble_eq_true rfl) (Nat.zero_le _) (Nat.zero_le _) dX10_takesOff_35 ?_
    exact fm_ri hC hI hr hlk hf dX10_takesOff_38
  · have hf := fm_pT hf hc
    refine lv_iconst (v := (0 : Int32)) hx hb dX10_takesOff_7 (by decide) ?_
    exact fm_ri hC hI hr hlk hf dX10_takesOff_8
