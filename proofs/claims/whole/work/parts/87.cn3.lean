/-! the small constructors -/
theorem c_X4_init {l : Launch} {D : va_G} {kA : Nat → ClassId} (h0 sz : Nat) (ws : va_W) : Met l yX4_init (fm_w yX4_init cX4_init 1 none) { frames := 1, cells := 0, slots := 0, locals := 12 } (va_Pc [.ref h0] (cn_st D kA ws sz)) (cn_Q D ws sz (fun w => w = ws)) 0 0 (va_A ws sz) := by
  refine cn_mth (own := RX4) rfl (by decide +kernel) (Nat.le_of_ble_eq_true rfl) ?_
  intro p e s m below meth c ls hC hr hlk hnm hsz hI hl
  subst hsz
  have hx := hC.1.1
  have hb := hC.1.2.1
  have hl : lv_has ls 1 [(0, .ref h0)] := hl
  refine lv_aload_n hx hb dX4_init_0 rfl (lv_at hl 0 rfl) ?_
  refine cn_obj hC hl.1 q_38 ⟨Nat.le_refl _, Nat.le_refl _⟩ dX4_init_1 ?_
  exact cn_vr hC hr hlk hI rfl (Nat.le_refl _) (Nat.le_refl _) dX4_init_4
theorem c_X5_init {l : Launch} {D : va_G} {kA : Nat → ClassId} (h0 sz : Nat) (ws : va_W) : Met l yX5_init (fm_w yX5_init cX5_init 1 none) { frames := 1, cells := 0, slots := 0, locals := 12 } (va_Pc [.ref h0] (cn_st D kA ws sz)) (cn_Q D ws sz (fun w => w = ws)) 0 0 (va_A ws sz) := by
  refine cn_mth (own := RX5) rfl (by decide +kernel) (Nat.le_of_ble_eq_true rfl) ?_
  intro p e s m below meth c ls hC hr hlk hnm hsz hI hl
  subst hsz
  have hx := hC.1.1
  have hb := hC.1.2.1
  have hl : lv_has ls 1 [(0, .ref h0)] := hl
  refine lv_aload_n hx hb dX5_init_0 rfl (lv_at hl 0 rfl) ?_
  refine cn_obj hC hl.1 q_87 ⟨Nat.le_refl _, Nat.le_refl _⟩ dX5_init_1 ?_
  exact cn_vr hC hr hlk hI rfl (Nat.le_refl _) (Nat.le_refl _) dX5_init_4
theorem c_X0_init {l : Launch} {D : va_G} {kA : Nat → ClassId} (h0 sz : Nat) (ws : va_W) : Met l yX0_init (fm_w yX0_init cX0_init 1 none) { frames := 2, cells := 0, slots := 0, locals := 32 } (va_Pc [.ref h0] (cn_st D kA ws sz)) (cn_Q D ws sz (fun w => w = ws)) 0 0 (va_A ws sz) := by
  refine cn_mth (own := RX0) rfl (by decide +kernel) (Nat.le_of_ble_eq_true rfl) ?_
  intro p e s m below meth c ls hC hr hlk hnm hsz hI hl
  subst hsz
  have hx := hC.1.1
  have hb := hC.1.2.1
  have hl : lv_has ls 1 [(0, .ref h0)] := hl
  refine lv_aload_n hx hb dX0_init_0 rfl (lv_at hl 0 rfl) ?_
  refine cn_ret (ws := []) (wc := ws) hI (cn_runN (ws := []) (wc := ws) (As := []) (rest := []) hC hI (c_X4_init h0 s.heap.size ws) mc_X4_init (List.mem_of_getElem? (i := 2) rfl) ⟨rfl, rfl⟩ ⟨Nat.le_of_ble_eq_true rfl, Nat.le_of_ble_eq_true rfl⟩ rfl hl.1 rfl (Nat.le_of_ble_eq_true rfl) dX0_init_1 ⟨Nat.le_refl _, Nat.le_refl _⟩) (fun w H locs hp hI => ?_)
  exact cn_vr hC hr hlk hI hp (Nat.le_refl _) (Nat.le_refl _) dX0_init_4
theorem c_X1_init {l : Launch} {D : va_G} {kA : Nat → ClassId} (h0 sz : Nat) (ws : va_W) : Met l yX1_init (fm_w yX1_init cX1_init 1 none) { frames := 2, cells := 0, slots := 0, locals := 32 } (va_Pc [.ref h0] (cn_st D kA ws sz)) (cn_Q D ws sz (fun w => w = ws)) 0 0 (va_A ws sz) := by
  refine cn_mth (own := RX1) rfl (by decide +kernel) (Nat.le_of_ble_eq_true rfl) ?_
  intro p e s m below meth c ls hC hr hlk hnm hsz hI hl
  subst hsz
  have hx := hC.1.1
  have hb := hC.1.2.1
  have hl : lv_has ls 1 [(0, .ref h0)] := hl
  refine lv_aload_n hx hb dX1_init_0 rfl (lv_at hl 0 rfl) ?_
  refine cn_ret (ws := []) (wc := ws) hI (cn_runN (ws := []) (wc := ws) (As := []) (rest := []) hC hI (c_X4_init h0 s.heap.size ws) mc_X4_init (List.mem_of_getElem? (i := 4) rfl) ⟨rfl, rfl⟩ ⟨Nat.le_of_ble_eq_true rfl, Nat.le_of_ble_eq_true rfl⟩ rfl hl.1 rfl (Nat.le_of_ble_eq_true rfl) dX1_init_1 ⟨Nat.le_refl _, Nat.le_refl _⟩) (fun w H locs hp hI => ?_)
  exact cn_vr hC hr hlk hI hp (Nat.le_refl _) (Nat.le_refl _) dX1_init_4
theorem c_X6_init {l : Launch} {D : va_G} {kA : Nat → ClassId} (h0 sz : Nat) (ws : va_W) : Met l yX6_init (fm_w yX6_init cX6_init 1 none) { frames := 2, cells := 0, slots := 0, locals := 32 } (va_Pc [.ref h0] (cn_st D kA ws sz)) (cn_Q D ws sz (fun w => w = ws)) 0 0 (va_A ws sz) := by
  refine cn_mth (own := RX6) rfl (by decide +kernel) (Nat.le_of_ble_eq_true rfl) ?_
  intro p e s m below meth c ls hC hr hlk hnm hsz hI hl
  subst hsz
  have hx := hC.1.1
  have hb := hC.1.2.1
  have hl : lv_has ls 1 [(0, .ref h0)] := hl
  refine lv_aload_n hx hb dX6_init_0 rfl (lv_at hl 0 rfl) ?_
  refine cn_ret (ws := []) (wc := ws) hI (cn_runN (ws := []) (wc := ws) (As := []) (rest := []) hC hI (c_X4_init h0 s.heap.size ws) mc_X4_init (List.mem_of_getElem? (i := 6) rfl) ⟨rfl, rfl⟩ ⟨Nat.le_of_ble_eq_true rfl, Nat.le_of_ble_eq_true rfl⟩ rfl hl.1 rfl (Nat.le_of_ble_eq_true rfl) dX6_init_1 ⟨Nat.le_refl _, Nat.le_refl _⟩) (fun w H locs hp hI => ?_)
  exact cn_vr hC hr hlk hI hp (Nat.le_refl _) (Nat.le_refl _) dX6_init_4
theorem c_X3_init {l : Launch} {D : va_G} {kA : Nat → ClassId} (h0 sz : Nat) (ws : va_W) : Met l yX3_init (fm_w yX3_init cX3_init 1 none) { frames := 3, cells := 0, slots := 0, locals := 52 } (va_Pc [.ref h0] (cn_st D kA ws sz)) (cn_Q D ws sz (fun w => w = ws)) 0 0 (va_A ws sz) := by
  refine cn_mth (own := RX3) rfl (by decide +kernel) (Nat.le_of_ble_eq_true rfl) ?_
  intro p e s m below meth c ls hC hr hlk hnm hsz hI hl
  subst hsz
  have hx := hC.1.1
  have hb := hC.1.2.1
  have hl : lv_has ls 1 [(0, .ref h0)] := hl
  refine lv_aload_n hx hb dX3_init_0 rfl (lv_at hl 0 rfl) ?_
  refine cn_ret (ws := []) (wc := ws) hI (cn_runN (ws := []) (wc := ws) (As := []) (rest := []) hC hI (c_X1_init h0 s.heap.size ws) mc_X1_init (List.mem_of_getElem? (i := 8) rfl) ⟨rfl, rfl⟩ ⟨Nat.le_of_ble_eq_true rfl, Nat.le_of_ble_eq_true rfl⟩ rfl hl.1 rfl (Nat.le_of_ble_eq_true rfl) dX3_init_1 ⟨Nat.le_refl _, Nat.le_refl _⟩) (fun w H locs hp hI => ?_)
  exact cn_vr hC hr hlk hI hp (Nat.le_refl _) (Nat.le_refl _) dX3_init_4
theorem c_X2_init {l : Launch} {D : va_G} {kA : Nat → ClassId} (h0 sz : Nat) (ws : va_W) : Met l yX2_init (fm_w yX2_init cX2_init 1 none) { frames := 3, cells := 0, slots := 0, locals := 52 } (va_Pc [.ref h0] (cn_st D kA ws sz)) (cn_Q D ws sz (fun w => w = ws)) 0 0 (va_A ws sz) := by
  refine cn_mth (own := RX2) rfl (by decide +kernel) (Nat.le_of_ble_eq_true rfl) ?_
  intro p e s m below meth c ls hC hr hlk hnm hsz hI hl
  subst hsz
  have hx := hC.1.1
  have hb := hC.1.2.1
  have hl : lv_has ls 1 [(0, .ref h0)] := hl
  refine lv_aload_n hx hb dX2_init_0 rfl (lv_at hl 0 rfl) ?_
  refine cn_ret (ws := []) (wc := ws) hI (cn_runN (ws := []) (wc := ws) (As := []) (rest := []) hC hI (c_X0_init h0 s.heap.size ws) mc_X0_init (List.mem_of_getElem? (i := 10) rfl) ⟨rfl, rfl⟩ ⟨Nat.le_of_ble_eq_true rfl, Nat.le_of_ble_eq_true rfl⟩ rfl hl.1 rfl (Nat.le_of_ble_eq_true rfl) dX2_init_1 ⟨Nat.le_refl _, Nat.le_refl _⟩) (fun w H locs hp hI => ?_)
  exact cn_vr hC hr hlk hI hp (Nat.le_refl _) (Nat.le_refl _) dX2_init_4
def w_X7 (kA : Nat → ClassId) (h0 : Nat) (w : va_W) : Prop := ∃ q : Nat, w = [(h0, .inr (7, [.ref q, .int 0, .int 0, .int 0, .int 0])), (q, .inl (kA 14, 6, .inl (fun _ => 0)))]
theorem c_X7_init {l : Launch} {D : va_G} {kA : Nat → ClassId} (h0 sz : Nat) : Met l yX7_init (fm_w yX7_init cX7_init 1 none) { frames := 1, cells := 1, slots := 6, locals := 12 } (va_Pc [.ref h0] (cn_st D kA [(h0, .inr (7, [.null, .int 0, .int 0, .int 0, .int 0]))] sz)) (cn_Q D [(h0, .inr (7, [.null, .int 0, .int 0, .int 0, .int 0]))] sz (w_X7 kA h0)) 1 6 (va_A [(h0, .inr (7, [.null, .int 0, .int 0, .int 0, .int 0]))] sz) := by
  refine cn_mth (own := RX7) rfl (by decide +kernel) (Nat.le_of_ble_eq_true rfl) ?_
  intro p e s m below meth c ls hC hr hlk hnm hsz hI hl
  subst hsz
  have hx := hC.1.1
  have hb := hC.1.2.1
  have hl : lv_has ls 1 [(0, .ref h0)] := hl
  refine lv_aload_n hx hb dX7_init_0 rfl (lv_at hl 0 rfl) ?_
  refine cn_obj hC hl.1 q_105 ⟨Nat.le_refl _, Nat.le_refl _⟩ dX7_init_1 ?_
  refine lv_aload_n hx hb dX7_init_4 rfl (lv_at hl 0 rfl) ?_
  refine lv_bipush (v := (6 : Int32)) hx hb dX7_init_5 (by decide) ?_
  refine cn_newI (N := 6) hC hI (by decide) (by decide) (by decide) (Nat.le_of_ble_eq_true rfl) (Nat.le_of_ble_eq_true rfl) dX7_init_7 (fun q H hI => ?_)
  refine cn_put (fs := [.null, .int 0, .int 0, .int 0, .int 0]) hC hI ff_X7_0 hnm rfl rfl q_106 (by decide) dX7_init_9 (fun H locs hI => ?_)
  exact cn_vr hC hr hlk hI ⟨q, rfl⟩ (Nat.le_of_ble_eq_true rfl) (Nat.le_of_ble_eq_true rfl) dX7_init_12
def w_X8 (kA : Nat → ClassId) (h0 : Nat) (w : va_W) : Prop := ∃ q : Nat, w = [(h0, .inr (8, [.ref q, .int 0, .int 0])), (q, .inl (kA 15, 40, .inr (.inl (fun _ => 0))))]
theorem c_X8_init {l : Launch} {D : va_G} {kA : Nat → ClassId} (h0 sz : Nat) : Met l yX8_init (fm_w yX8_init cX8_init 1 none) { frames := 1, cells := 1, slots := 40, locals := 12 } (va_Pc [.ref h0] (cn_st D kA [(h0, .inr (8, [.null, .int 0, .int 0]))] sz)) (cn_Q D [(h0, .inr (8, [.null, .int 0, .int 0]))] sz (w_X8 kA h0)) 1 40 (va_A [(h0, .inr (8, [.null, .int 0, .int 0]))] sz) := by
  refine cn_mth (own := RX8) rfl (by decide +kernel) (Nat.le_of_ble_eq_true rfl) ?_
  intro p e s m below meth c ls hC hr hlk hnm hsz hI hl
  subst hsz
  have hx := hC.1.1
  have hb := hC.1.2.1
  have hl : lv_has ls 1 [(0, .ref h0)] := hl
  refine lv_aload_n hx hb dX8_init_0 rfl (lv_at hl 0 rfl) ?_
  refine cn_obj hC hl.1 q_164 ⟨Nat.le_refl _, Nat.le_refl _⟩ dX8_init_1 ?_
  refine lv_aload_n hx hb dX8_init_4 rfl (lv_at hl 0 rfl) ?_
  refine lv_bipush (v := (40 : Int32)) hx hb dX8_init_5 (by decide) ?_
  refine cn_newL (N := 40) hC hI (by decide) (by decide) (by decide) (Nat.le_of_ble_eq_true rfl) (Nat.le_of_ble_eq_true rfl) dX8_init_7 (fun q H hI => ?_)
  refine cn_put (fs := [.null, .int 0, .int 0]) hC hI ff_X8_0 hnm rfl rfl q_165 (by decide) dX8_init_9 (fun H locs hI => ?_)
  exact cn_vr hC hr hlk hI ⟨q, rfl⟩ (Nat.le_of_ble_eq_true rfl) (Nat.le_of_ble_eq_true rfl) dX8_init_12
def w_X9 (kA : Nat → ClassId) (h0 : Nat) (w : va_W) : Prop := ∃ q : Nat, w = [(h0, .inr (9, [.ref q, .int 0, .int 0, .int 0, .int 0, .int 0])), (q, .inl (kA 14, 120, .inl (fun _ => 0)))]
theorem c_X9_init {l : Launch} {D : va_G} {kA : Nat → ClassId} (h0 sz : Nat) : Met l yX9_init (fm_w yX9_init cX9_init 1 none) { frames := 1, cells := 1, slots := 120, locals := 12 } (va_Pc [.ref h0] (cn_st D kA [(h0, .inr (9, [.null, .int 0, .int 0, .int 0, .int 0, .int 0]))] sz)) (cn_Q D [(h0, .inr (9, [.null, .int 0, .int 0, .int 0, .int 0, .int 0]))] sz (w_X9 kA h0)) 1 120 (va_A [(h0, .inr (9, [.null, .int 0, .int 0, .int 0, .int 0, .int 0]))] sz) := by
  refine cn_mth (own := RX9) rfl (by decide +kernel) (Nat.le_of_ble_eq_true rfl) ?_
  intro p e s m below meth c ls hC hr hlk hnm hsz hI hl
  subst hsz
  have hx := hC.1.1
  have hb := hC.1.2.1
  have hl : lv_has ls 1 [(0, .ref h0)] := hl
  refine lv_aload_n hx hb dX9_init_0 rfl (lv_at hl 0 rfl) ?_
  refine cn_obj hC hl.1 q_184 ⟨Nat.le_refl _, Nat.le_refl _⟩ dX9_init_1 ?_
  refine lv_aload_n hx hb dX9_init_4 rfl (lv_at hl 0 rfl) ?_
  refine lv_bipush (v := (120 : Int32)) hx hb dX9_init_5 (by decide) ?_
  refine cn_newI (N := 120) hC hI (by decide) (by decide) (by decide) (Nat.le_of_ble_eq_true rfl) (Nat.le_of_ble_eq_true rfl) dX9_init_7 (fun q H hI => ?_)
  refine cn_put (fs := [.null, .int 0, .int 0, .int 0, .int 0, .int 0]) hC hI ff_X9_0 hnm rfl rfl q_185 (by decide) dX9_init_9 (fun H locs hI => ?_)
  exact cn_vr hC hr hlk hI ⟨q, rfl⟩ (Nat.le_of_ble_eq_true rfl) (Nat.le_of_ble_eq_true rfl) dX9_init_12
