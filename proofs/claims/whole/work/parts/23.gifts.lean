def m_X11_swapInRow (a1 : Int32) (a2 : Int32) (σ : fm_M) : Option (Unit × fm_M) := fm_g (fm_in1 a1 6) (fm_g (fm_in1 a2 6) (fm_g (fm_in1 a1 6) (fm_let (fm_sI σ 95 a1.toNatClampNeg (σ.1 95 a2.toNatClampNeg)) fun σ4 => (fm_g (fm_in1 a2 6) (fm_let (fm_sI σ4 95 a2.toNatClampNeg (σ.1 95 a1.toNatClampNeg)) fun σ7 => (some ((), σ7)))))))
set_option maxHeartbeats 4000000 in
set_option maxRecDepth 100000 in
theorem c_X11_swapInRow {l : Launch} {G : fm_G} (hJ : fm_J G) {a1 : Int32} {a2 : Int32} {σ : fm_M} {o : Unit × fm_M}  (hf : m_X11_swapInRow a1 a2 σ = some o) : Met l yX11_swapInRow (fm_w yX11_swapInRow cX11_swapInRow 4 none) { frames := 0, cells := 0, slots := 0, locals := 0 } (va_Pc [.ref (G.2.1 0), .int a1, .int a2] (fm_st G σ)) (fm_Qv G o) 0 0 (fm_A G) := by
  refine fm_mth (own := RX11) hJ rfl (by decide +kernel) (Nat.le_of_ble_eq_true rfl) ?_
  intro p e s m below meth c ls hC hr hlk hI hl
  have hx := hC.1.1
  have hb := hC.1.2.1
  have hown := hC.1.2.2.2.1
  have hts := hC.1.2.2.2.2
  have hl : lv_has ls 4 [(0, .ref (G.2.1 0)), (1, .int a1), (2, .int a2)] := hl
  rw [m_X11_swapInRow] at hf
  refine lv_aload_n hx hb dX11_swapInRow_0 rfl (lv_at hl 0 rfl) ?_
  refine fm_gr hC hI fd_X11_7 fc_0 fr_0_7 q_212 dX11_swapInRow_1 ?_
  refine lv_iload_n hx hb dX11_swapInRow_4 rfl (lv_at hl 1 rfl) ?_
  obtain ⟨hg1, hf⟩ := fm_gE hf
  refine fm_iald hC hI fc_95 fl_95 hg1 dX11_swapInRow_5 ?_
  refine lv_istore_n (lv' := [(3, .int (σ.1 95 a1.toNatClampNeg)), (0, .ref (G.2.1 0)), (1, .int a1), (2, .int a2)]) hx hb dX11_swapInRow_6 rfl hl (Nat.le_of_ble_eq_true rfl) rfl (fun ls hl => ?_)
  refine lv_aload_n hx hb dX11_swapInRow_7 rfl (lv_at hl 1 rfl) ?_
  refine fm_gr hC hI fd_X11_7 fc_0 fr_0_7 q_212 dX11_swapInRow_8 ?_
  refine lv_iload_n hx hb dX11_swapInRow_11 rfl (lv_at hl 2 rfl) ?_
  refine lv_aload_n hx hb dX11_swapInRow_12 rfl (lv_at hl 1 rfl) ?_
  refine fm_gr hC hI fd_X11_7 fc_0 fr_0_7 q_212 dX11_swapInRow_13 ?_
  refine lv_iload_n hx hb dX11_swapInRow_16 rfl (lv_at hl 3 rfl) ?_
  obtain ⟨hg2, hf⟩ := fm_gE hf
  refine fm_iald hC hI fc_95 fl_95 hg2 dX11_swapInRow_17 ?_
  obtain ⟨hg3, hf⟩ := fm_gE hf
  obtain ⟨σ4, e5, hf⟩ := fm_letE hf
  refine fm_iast hC hI fc_95 fl_95 hg3 e5 dX11_swapInRow_18 (fun H locs hI => ?_)
  refine lv_aload_n hx hb dX11_swapInRow_19 rfl (lv_at hl 1 rfl) ?_
  refine fm_gr hC hI fd_X11_7 fc_0 fr_0_7 q_212 dX11_swapInRow_20 ?_
  refine lv_iload_n hx hb dX11_swapInRow_23 rfl (lv_at hl 3 rfl) ?_
  refine lv_iload_n hx hb dX11_swapInRow_24 rfl (lv_at hl 0 rfl) ?_
  obtain ⟨hg6, hf⟩ := fm_gE hf
  obtain ⟨σ7, e8, hf⟩ := fm_letE hf
  refine fm_iast hC hI fc_95 fl_95 hg6 e8 dX11_swapInRow_25 (fun H locs hI => ?_)
  exact fm_rv hC hI hr hlk hf dX11_swapInRow_26
def m_X11_startRow_29 (kc : Int32 → Int32 → Int32 → Int32 → fm_M → Option (Unit × fm_M)) : Nat → Int32 → Int32 → Int32 → Int32 → fm_M → Option (Unit × fm_M)
  | 0, _, _, _, _, _ => none
  | n + 1, z1, z2, z3, z4, σ => if z4 ≤ 0 then (kc z1 z2 z3 z4 σ) else (fm_g (fm_in1 (z4 - (1 : Int32)) 6) (fm_g (fm_in1 z4 6) (if (σ.1 95 (z4 - (1 : Int32)).toNatClampNeg) ≤ (σ.1 95 z4.toNatClampNeg) then (kc z1 z2 z3 z4 σ) else (fm_b (m_X11_swapInRow (z4 - (1 : Int32)) z4 σ) fun _u10 σ11 => (m_X11_startRow_29 kc n z1 z2 z3 (z4 + (-1 : Int32)) σ11)))))
def m_X11_startRow_2 (kc : Int32 → Int32 → Int32 → fm_M → Option (Unit × fm_M)) : Nat → Int32 → Int32 → Int32 → fm_M → Option (Unit × fm_M)
  | 0, _, _, _, _ => none
  | n + 1, z1, z2, z3, σ => if z2 ≤ z3 then (kc z1 z2 z3 σ) else (fm_g (fm_in1 z1 8) (fm_b (m_X7_paperAt (8 + 9 + 2 * z1.toNatClampNeg) z3 σ) fun r2 σ3 => (fm_g (fm_in1 z3 6) (fm_let (fm_sI σ3 95 z3.toNatClampNeg r2) fun σ6 => (m_X11_startRow_29 (fun (x1_y13 : Int32) (x2_y13 : Int32) (x3_y13 : Int32) (x4_y13 : Int32) (σ_y13 : fm_M) => m_X11_startRow_2 kc n x1_y13 x2_y13 (x3_y13 + (1 : Int32)) σ_y13) fm_fu z1 z2 z3 z3 σ6)))))
def m_X11_startRow (a1 : Int32) (a2 : Int32) (σ : fm_M) : Option (Unit × fm_M) := m_X11_startRow_2 (fun (x1_y14 : Int32) (x2_y14 : Int32) (x3_y14 : Int32) (σ_y14 : fm_M) => some ((), σ_y14)) fm_fu a1 a2 (0 : Int32) σ
set_option maxHeartbeats 4000000 in
set_option maxRecDepth 100000 in
theorem w_X11_startRow_29 {p : Program} {l : Launch} {e : Env} {s : State} {m : MethodId} {args : Array Value} {below : List Frame} {meth : Method} {c : Code} {G : fm_G} {o : Unit × fm_M} {kc : Int32 → Int32 → Int32 → Int32 → fm_M → Option (Unit × fm_M)} (hC : fm_C G p m c cX11_startRow 5 s args RX11) (hr : meth.sig.returnType = none) (hlk : meth.locks = false) (hk : ∀ (z1 : Int32) (z2 : Int32) (z3 : Int32) (z4 : Int32) (σ : fm_M) (H : Heap) (locs : List Loc) (ls : Array Slot), fm_I G σ s H locs → lv_has ls 5 [(0, .ref (G.2.1 0)), (1, .int z1), (2, .int z2), (3, .int z3), (4, .int z4)] → kc z1 z2 z3 z4 σ = some o → W p l e { frames := 1, cells := 0, slots := 0, locals := 23 } s m args below meth c H locs 0 0 (MQ below (fm_Qv G o) args s 0 0 (fm_A G)) (F0 m 69 ls [])) (n : Nat) : ∀ (z1 : Int32) (z2 : Int32) (z3 : Int32) (z4 : Int32) (σ : fm_M) (H : Heap) (locs : List Loc) (ls : Array Slot), fm_I G σ s H locs → lv_has ls 5 [(0, .ref (G.2.1 0)), (1, .int z1), (2, .int z2), (3, .int z3), (4, .int z4)] → m_X11_startRow_29 kc n z1 z2 z3 z4 σ = some o → W p l e { frames := 1, cells := 0, slots := 0, locals := 23 } s m args below meth c H locs 0 0 (MQ below (fm_Qv G o) args s 0 0 (fm_A G)) (F0 m 29 ls []) := by
  have hx := hC.1.1
  have hb := hC.1.2.1
  have hown := hC.1.2.2.2.1
  have hts := hC.1.2.2.2.2
  induction n with
  | zero =>
    intro z1 z2 z3 z4 σ H locs ls hI hl hf
    cases hf
  | succ n ih =>
    intro z1 z2 z3 z4 σ H locs ls hI hl hf
    rw [m_X11_startRow_29] at hf
    refine lv_iload hx hb dX11_startRow_29 (lv_at hl 4 rfl) ?_
    refine lv_if_le (tgt := 69) hx hb dX11_startRow_31 (by decide) (fun hc => ?_) (fun hc => ?_)
    · have hf := fm_pT hf hc
      exact hk z1 z2 z3 z4 σ _ _ _ hI (lv_sub hl [0, 1, 2, 3, 4] rfl) hf
    · have hf := fm_pF hf hc
      refine lv_aload_n hx hb dX11_startRow_34 rfl (lv_at hl 0 rfl) ?_
      refine fm_gr hC hI fd_X11_7 fc_0 fr_0_7 q_212 dX11_startRow_35 ?_
      refine lv_iload hx hb dX11_startRow_38 (lv_at hl 4 rfl) ?_
      refine lv_iconst (v := (1 : Int32)) hx hb dX11_startRow_40 (by decide) ?_
      refine lv_isub hx hb dX11_startRow_41 ?_
      obtain ⟨hg8, hf⟩ := fm_gE hf
      refine fm_iald hC hI fc_95 fl_95 hg8 dX11_startRow_42 ?_
      refine lv_aload_n hx hb dX11_startRow_43 rfl (lv_at hl 0 rfl) ?_
      refine fm_gr hC hI fd_X11_7 fc_0 fr_0_7 q_212 dX11_startRow_44 ?_
      refine lv_iload hx hb dX11_startRow_47 (lv_at hl 4 rfl) ?_
      obtain ⟨hg9, hf⟩ := fm_gE hf
      refine fm_iald hC hI fc_95 fl_95 hg9 dX11_startRow_49 ?_
      refine lv_icmp_le (tgt := 69) hx hb dX11_startRow_50 (by decide) (fun hc => ?_) (fun hc => ?_)
      · have hf := fm_pT hf hc
        exact hk z1 z2 z3 z4 σ _ _ _ hI (lv_sub hl [0, 1, 2, 3, 4] rfl) hf
      · have hf := fm_pF hf hc
        refine lv_aload_n hx hb dX11_startRow_53 rfl (lv_at hl 0 rfl) ?_
        refine lv_iload hx hb dX11_startRow_54 (lv_at hl 4 rfl) ?_
        refine lv_iconst (v := (1 : Int32)) hx hb dX11_startRow_56 (by decide) ?_
        refine lv_isub hx hb dX11_startRow_57 ?_
        refine lv_iload hx hb dX11_startRow_58 (lv_at hl 4 rfl) ?_
        obtain ⟨_u10, σ11, hq12, hf⟩ := fm_bE hf
        refine fm_cv hI (fm_runV (As := [.int (z4 - (1 : Int32)), .int z4]) (rest := []) (rm := { frames := 0, cells := 0, slots := 0, locals := 0 }) hC hI (c_X11_swapInRow hC.2.2.1 hq12) mV_X11_swapInRow q_562 ⟨rfl, rfl⟩ ⟨Nat.le_of_ble_eq_true rfl, Nat.le_of_ble_eq_true rfl⟩ fc_0 rfl (by decide) rfl hl.1 rfl (Nat.le_of_ble_eq_true rfl) dX11_startRow_60 ⟨Nat.zero_le _, Nat.zero_le _⟩) (fun H locs hI => ?_)
        refine lv_iinc (v := (z4 + (-1 : Int32))) (lv' := [(4, .int (z4 + (-1 : Int32))), (0, .ref (G.2.1 0)), (1, .int z1), (2, .int z2), (3, .int z3)]) hx hb dX11_startRow_63 hl (k := 4) rfl rfl (Nat.le_of_ble_eq_true rfl) rfl (fun ls hl => ?_)
        refine lv_goto (tgt := 29) hx hb dX11_startRow_66 (by decide) ?_
        exact ih z1 z2 z3 (z4 + (-1 : Int32)) σ11 _ _ _ hI (lv_sub hl [1, 2, 3, 4, 0] rfl) hf
set_option maxHeartbeats 4000000 in
set_option maxRecDepth 100000 in
theorem w_X11_startRow_2 {p : Program} {l : Launch} {e : Env} {s : State} {m : MethodId} {args : Array Value} {below : List Frame} {meth : Method} {c : Code} {G : fm_G} {o : Unit × fm_M} {kc : Int32 → Int32 → Int32 → fm_M → Option (Unit × fm_M)} (hC : fm_C G p m c cX11_startRow 5 s args RX11) (hr : meth.sig.returnType = none) (hlk : meth.locks = false) (hk : ∀ (z1 : Int32) (z2 : Int32) (z3 : Int32) (σ : fm_M) (H : Heap) (locs : List Loc) (ls : Array Slot), fm_I G σ s H locs → lv_has ls 5 [(0, .ref (G.2.1 0)), (1, .int z1), (2, .int z2), (3, .int z3)] → kc z1 z2 z3 σ = some o → W p l e { frames := 1, cells := 0, slots := 0, locals := 23 } s m args below meth c H locs 0 0 (MQ below (fm_Qv G o) args s 0 0 (fm_A G)) (F0 m 75 ls [])) (n : Nat) : ∀ (z1 : Int32) (z2 : Int32) (z3 : Int32) (σ : fm_M) (H : Heap) (locs : List Loc) (ls : Array Slot), fm_I G σ s H locs → lv_has ls 5 [(0, .ref (G.2.1 0)), (1, .int z1), (2, .int z2), (3, .int z3)] → m_X11_startRow_2 kc n z1 z2 z3 σ = some o → W p l e { frames := 1, cells := 0, slots := 0, locals := 23 } s m args below meth c H locs 0 0 (MQ below (fm_Qv G o) args s 0 0 (fm_A G)) (F0 m 2 ls []) := by
  have hx := hC.1.1
  have hb := hC.1.2.1
  have hown := hC.1.2.2.2.1
  have hts := hC.1.2.2.2.2
  induction n with
  | zero =>
    intro z1 z2 z3 σ H locs ls hI hl hf
    cases hf
  | succ n ih =>
    intro z1 z2 z3 σ H locs ls hI hl hf
    rw [m_X11_startRow_2] at hf
    refine lv_iload_n hx hb dX11_startRow_2 rfl (lv_at hl 3 rfl) ?_
    refine lv_iload_n hx hb dX11_startRow_3 rfl (lv_at hl 2 rfl) ?_
    refine lv_icmp_ge (tgt := 75) hx hb dX11_startRow_4 (by decide) (fun hc => ?_) (fun hc => ?_)
    · have hf := fm_pT hf hc
      exact hk z1 z2 z3 σ _ _ _ hI (lv_sub hl [0, 1, 2, 3] rfl) hf
    · have hf := fm_pF hf hc
      refine lv_aload_n hx hb dX11_startRow_7 rfl (lv_at hl 0 rfl) ?_
      refine fm_gr hC hI fd_X11_7 fc_0 fr_0_7 q_212 dX11_startRow_8 ?_
      refine lv_iload_n hx hb dX11_startRow_11 rfl (lv_at hl 3 rfl) ?_
      refine lv_aload_n hx hb dX11_startRow_12 rfl (lv_at hl 0 rfl) ?_
      refine fm_gr hC hI fd_X11_0 fc_0 fr_0_0 q_205 dX11_startRow_13 ?_
      refine fm_gr hC hI fd_X10_2 fc_8 fr_8_2 q_135 dX11_startRow_16 ?_
      refine lv_iload_n hx hb dX11_startRow_19 rfl (lv_at hl 1 rfl) ?_
      obtain ⟨hg1, hf⟩ := fm_gE hf
      refine fm_aald (t0 := 5) hC hI fc_16 (by decide) (by decide) rfl fl_16 hg1 (fm_T4 (x := z1) fc_8 hg1).2 dX11_startRow_20 ?_
      refine lv_iload_n hx hb dX11_startRow_21 rfl (lv_at hl 3 rfl) ?_
      obtain ⟨r2, σ3, hq4, hf⟩ := fm_bE hf
      refine fm_ci hI (fm_runV (As := [.int z3]) (rest := [.int z3, .ref (G.2.1 95)]) (rm := { frames := 0, cells := 0, slots := 0, locals := 0 }) hC hI (c_X7_paperAt hC.2.2.1 (fm_T4 (x := z1) fc_8 hg1).1 hq4) mV_X7_paperAt q_430 ⟨rfl, rfl⟩ ⟨Nat.le_of_ble_eq_true rfl, Nat.le_of_ble_eq_true rfl⟩ (fm_T4 (x := z1) fc_8 hg1).1 rfl (by decide) rfl hl.1 rfl (Nat.le_of_ble_eq_true rfl) dX11_startRow_22 ⟨Nat.zero_le _, Nat.zero_le _⟩) (fun H locs hI => ?_)
      obtain ⟨hg5, hf⟩ := fm_gE hf
      obtain ⟨σ6, e7, hf⟩ := fm_letE hf
      refine fm_iast hC hI fc_95 fl_95 hg5 e7 dX11_startRow_25 (fun H locs hI => ?_)
      refine lv_iload_n hx hb dX11_startRow_26 rfl (lv_at hl 3 rfl) ?_
      refine lv_istore (lv' := [(4, .int z3), (0, .ref (G.2.1 0)), (1, .int z1), (2, .int z2), (3, .int z3)]) hx hb dX11_startRow_27 hl (Nat.le_of_ble_eq_true rfl) rfl (fun ls hl => ?_)
      refine w_X11_startRow_29 hC hr hlk (fun x1_y13 x2_y13 x3_y13 x4_y13 σ_y13 H locs ls hI hl hf => ?_) fm_fu z1 z2 z3 z3 σ6 _ _ _ hI (lv_sub hl [1, 2, 3, 4, 0] rfl) hf
      refine lv_iinc (v := (x3_y13 + (1 : Int32))) (lv' := [(3, .int (x3_y13 + (1 : Int32))), (0, .ref (G.2.1 0)), (1, .int x1_y13), (2, .int x2_y13), (4, .int x4_y13)]) hx hb dX11_startRow_69 hl (k := 3) rfl rfl (Nat.le_of_ble_eq_true rfl) rfl (fun ls hl => ?_)
      refine lv_goto (tgt := 2) hx hb dX11_startRow_72 (by decide) ?_
      exact ih x1_y13 x2_y13 (x3_y13 + (1 : Int32)) σ_y13 _ _ _ hI (lv_sub hl [1, 2, 3, 0] rfl) hf
set_option maxHeartbeats 4000000 in
set_option maxRecDepth 100000 in
theorem c_X11_startRow {l : Launch} {G : fm_G} (hJ : fm_J G) {a1 : Int32} {a2 : Int32} {σ : fm_M} {o : Unit × fm_M}  (hf : m_X11_startRow a1 a2 σ = some o) : Met l yX11_startRow (fm_w yX11_startRow cX11_startRow 5 none) { frames := 1, cells := 0, slots := 0, locals := 23 } (va_Pc [.ref (G.2.1 0), .int a1, .int a2] (fm_st G σ)) (fm_Qv G o) 0 0 (fm_A G) := by
  refine fm_mth (own := RX11) hJ rfl (by decide +kernel) (Nat.le_of_ble_eq_true rfl) ?_
  intro p e s m below meth c ls hC hr hlk hI hl
  have hx := hC.1.1
  have hb := hC.1.2.1
  have hown := hC.1.2.2.2.1
  have hts := hC.1.2.2.2.2
  have hl : lv_has ls 5 [(0, .ref (G.2.1 0)), (1, .int a1), (2, .int a2)] := hl
  rw [m_X11_startRow] at hf
  refine lv_iconst (v := (0 : Int32)) hx hb dX11_startRow_0 (by decide) ?_
  refine lv_istore_n (lv' := [(3, .int (0 : Int32)), (0, .ref (G.2.1 0)), (1, .int a1), (2, .int a2)]) hx hb dX11_startRow_1 rfl hl (Nat.le_of_ble_eq_true rfl) rfl (fun ls hl => ?_)
  refine w_X11_startRow_2 hC hr hlk (fun x1_y14 x2_y14 x3_y14 σ_y14 H locs ls hI hl hf => ?_) fm_fu a1 a2 (0 : Int32) σ _ _ _ hI (lv_sub hl [1, 2, 3, 0] rfl) hf
  exact fm_rv hC hI hr hlk hf dX11_startRow_75
def m_X11_rowAsNumber_4 (kc : Int32 → Int32 → Int32 → fm_M → Option (Int32 × fm_M)) : Nat → Int32 → Int32 → Int32 → fm_M → Option (Int32 × fm_M)
  | 0, _, _, _, _ => none
  | n + 1, z1, z2, z3, σ => if z1 ≤ z3 then (kc z1 z2 z3 σ) else (fm_g (fm_in1 z3 6) (m_X11_rowAsNumber_4 kc n z1 (((z2 * (10 : Int32)) + (σ.1 95 z3.toNatClampNeg)) + (1 : Int32)) (z3 + (1 : Int32)) σ))
def m_X11_rowAsNumber (a1 : Int32) (σ : fm_M) : Option (Int32 × fm_M) := m_X11_rowAsNumber_4 (fun (x1_y2 : Int32) (x2_y2 : Int32) (x3_y2 : Int32) (σ_y2 : fm_M) => some (x2_y2, σ_y2)) fm_fu a1 (0 : Int32) (0 : Int32) σ
set_option maxHeartbeats 4000000 in
set_option maxRecDepth 100000 in
theorem w_X11_rowAsNumber_4 {p : Program} {l : Launch} {e : Env} {s : State} {m : MethodId} {args : Array Value} {below : List Frame} {meth : Method} {c : Code} {G : fm_G} {o : Int32 × fm_M} {kc : Int32 → Int32 → Int32 → fm_M → Option (Int32 × fm_M)} (hC : fm_C G p m c cX11_rowAsNumber 4 s args RX11) (hr : meth.sig.returnType = (some .int)) (hlk : meth.locks = false) (hk : ∀ (z1 : Int32) (z2 : Int32) (z3 : Int32) (σ : fm_M) (H : Heap) (locs : List Loc) (ls : Array Slot), fm_I G σ s H locs → lv_has ls 4 [(0, .ref (G.2.1 0)), (1, .int z1), (2, .int z2), (3, .int z3)] → kc z1 z2 z3 σ = some o → W p l e { frames := 0, cells := 0, slots := 0, locals := 0 } s m args below meth c H locs 0 0 (MQ below (fm_Qi G o) args s 0 0 (fm_A G)) (F0 m 29 ls [])) (n : Nat) : ∀ (z1 : Int32) (z2 : Int32) (z3 : Int32) (σ : fm_M) (H : Heap) (locs : List Loc) (ls : Array Slot), fm_I G σ s H locs → lv_has ls 4 [(0, .ref (G.2.1 0)), (1, .int z1), (2, .int z2), (3, .int z3)] → m_X11_rowAsNumber_4 kc n z1 z2 z3 σ = some o → W p l e { frames := 0, cells := 0, slots := 0, locals := 0 } s m args below meth c H locs 0 0 (MQ below (fm_Qi G o) args s 0 0 (fm_A G)) (F0 m 4 ls []) := by
  have hx := hC.1.1
  have hb := hC.1.2.1
  have hown := hC.1.2.2.2.1
  have hts := hC.1.2.2.2.2
  induction n with
  | zero =>
    intro z1 z2 z3 σ H locs ls hI hl hf
    cases hf
  | succ n ih =>
    intro z1 z2 z3 σ H locs ls hI hl hf
    rw [m_X11_rowAsNumber_4] at hf
    refine lv_iload_n hx hb dX11_rowAsNumber_4 rfl (lv_at hl 3 rfl) ?_
    refine lv_iload_n hx hb dX11_rowAsNumber_5 rfl (lv_at hl 1 rfl) ?_
    refine lv_icmp_ge (tgt := 29) hx hb dX11_rowAsNumber_6 (by decide) (fun hc => ?_) (fun hc => ?_)
    · have hf := fm_pT hf hc
      exact hk z1 z2 z3 σ _ _ _ hI (lv_sub hl [0, 1, 2, 3] rfl) hf
    · have hf := fm_pF hf hc
      refine lv_iload_n hx hb dX11_rowAsNumber_9 rfl (lv_at hl 2 rfl) ?_
      refine lv_bipush (v := (10 : Int32)) hx hb dX11_rowAsNumber_10 (by decide) ?_
      refine lv_imul hx hb dX11_rowAsNumber_12 ?_
      refine lv_aload_n hx hb dX11_rowAsNumber_13 rfl (lv_at hl 0 rfl) ?_
      refine fm_gr hC hI fd_X11_7 fc_0 fr_0_7 q_212 dX11_rowAsNumber_14 ?_
      refine lv_iload_n hx hb dX11_rowAsNumber_17 rfl (lv_at hl 3 rfl) ?_
      obtain ⟨hg1, hf⟩ := fm_gE hf
      refine fm_iald hC hI fc_95 fl_95 hg1 dX11_rowAsNumber_18 ?_
      refine lv_iadd hx hb dX11_rowAsNumber_19 ?_
      refine lv_iconst (v := (1 : Int32)) hx hb dX11_rowAsNumber_20 (by decide) ?_
      refine lv_iadd hx hb dX11_rowAsNumber_21 ?_
      refine lv_istore_n (lv' := [(2, .int (((z2 * (10 : Int32)) + (σ.1 95 z3.toNatClampNeg)) + (1 : Int32))), (0, .ref (G.2.1 0)), (1, .int z1), (3, .int z3)]) hx hb dX11_rowAsNumber_22 rfl hl (Nat.le_of_ble_eq_true rfl) rfl (fun ls hl => ?_)
      refine lv_iinc (v := (z3 + (1 : Int32))) (lv' := [(3, .int (z3 + (1 : Int32))), (2, .int (((z2 * (10 : Int32)) + (σ.1 95 z3.toNatClampNeg)) + (1 : Int32))), (0, .ref (G.2.1 0)), (1, .int z1)]) hx hb dX11_rowAsNumber_23 hl (k := 3) rfl rfl (Nat.le_of_ble_eq_true rfl) rfl (fun ls hl => ?_)
      refine lv_goto (tgt := 4) hx hb dX11_rowAsNumber_26 (by decide) ?_
      exact ih z1 (((z2 * (10 : Int32)) + (σ.1 95 z3.toNatClampNeg)) + (1 : Int32)) (z3 + (1 : Int32)) σ _ _ _ hI (lv_sub hl [2, 3, 1, 0] rfl) hf
set_option maxHeartbeats 4000000 in
set_option maxRecDepth 100000 in
theorem c_X11_rowAsNumber {l : Launch} {G : fm_G} (hJ : fm_J G) {a1 : Int32} {σ : fm_M} {o : Int32 × fm_M}  (hf : m_X11_rowAsNumber a1 σ = some o) : Met l yX11_rowAsNumber (fm_w yX11_rowAsNumber cX11_rowAsNumber 4 (some .int)) { frames := 0, cells := 0, slots := 0, locals := 0 } (va_Pc [.ref (G.2.1 0), .int a1] (fm_st G σ)) (fm_Qi G o) 0 0 (fm_A G) := by
  refine fm_mth (own := RX11) hJ rfl (by decide +kernel) (Nat.le_of_ble_eq_true rfl) ?_
  intro p e s m below meth c ls hC hr hlk hI hl
  have hx := hC.1.1
  have hb := hC.1.2.1
  have hown := hC.1.2.2.2.1
  have hts := hC.1.2.2.2.2
  have hl : lv_has ls 4 [(0, .ref (G.2.1 0)), (1, .int a1)] := hl
  rw [m_X11_rowAsNumber] at hf
  refine lv_iconst (v := (0 : Int32)) hx hb dX11_rowAsNumber_0 (by decide) ?_
  refine lv_istore_n (lv' := [(2, .int (0 : Int32)), (0, .ref (G.2.1 0)), (1, .int a1)]) hx hb dX11_rowAsNumber_1 rfl hl (Nat.le_of_ble_eq_true rfl) rfl (fun ls hl => ?_)
  refine lv_iconst (v := (0 : Int32)) hx hb dX11_rowAsNumber_2 (by decide) ?_
  refine lv_istore_n (lv' := [(3, .int (0 : Int32)), (2, .int (0 : Int32)), (0, .ref (G.2.1 0)), (1, .int a1)]) hx hb dX11_rowAsNumber_3 rfl hl (Nat.le_of_ble_eq_true rfl) rfl (fun ls hl => ?_)
  refine w_X11_rowAsNumber_4 hC hr hlk (fun x1_y2 x2_y2 x3_y2 σ_y2 H locs ls hI hl hf => ?_) fm_fu a1 (0 : Int32) (0 : Int32) σ _ _ _ hI (lv_sub hl [2, 3, 1, 0] rfl) hf
  refine lv_iload_n hx hb dX11_rowAsNumber_29 rfl (lv_at hl 2 rfl) ?_
  exact fm_ri hC hI hr hlk hf dX11_rowAsNumber_30
def m_X11_nextRow_4 (kc : Int32 → Int32 → fm_M → Option (Int32 × fm_M)) : Nat → Int32 → Int32 → fm_M → Option (Int32 × fm_M)
  | 0, _, _, _ => none
  | n + 1, z1, z2, σ => if z2 < 0 then (kc z1 z2 σ) else (fm_g (fm_in1 z2 6) (fm_g (fm_in1 (z2 + (1 : Int32)) 6) (if (σ.1 95 z2.toNatClampNeg) < (σ.1 95 (z2 + (1 : Int32)).toNatClampNeg) then (kc z1 z2 σ) else (m_X11_nextRow_4 kc n z1 (z2 + (-1 : Int32)) σ))))
def m_X11_nextRow_41 (kc : Int32 → Int32 → Int32 → fm_M → Option (Int32 × fm_M)) : Nat → Int32 → Int32 → Int32 → fm_M → Option (Int32 × fm_M)
  | 0, _, _, _, _ => none
  | n + 1, z1, z2, z3, σ => if z3 ≤ z2 then (kc z1 z2 z3 σ) else (fm_g (fm_in1 z3 6) (fm_g (fm_in1 z2 6) (if (σ.1 95 z2.toNatClampNeg) < (σ.1 95 z3.toNatClampNeg) then (kc z1 z2 z3 σ) else (m_X11_nextRow_41 kc n z1 z2 (z3 + (-1 : Int32)) σ))))
def m_X11_nextRow_83 (kc : Int32 → Int32 → fm_M → Option (Int32 × fm_M)) : Nat → Int32 → Int32 → fm_M → Option (Int32 × fm_M)
  | 0, _, _, _ => none
  | n + 1, z4, z5, σ => if z5 ≤ z4 then (kc z4 z5 σ) else (fm_b (m_X11_swapInRow z4 z5 σ) fun _u10 σ11 => (m_X11_nextRow_83 kc n (z4 + (1 : Int32)) (z5 + (-1 : Int32)) σ11))
def m_X11_nextRow (a1 : Int32) (σ : fm_M) : Option (Int32 × fm_M) := m_X11_nextRow_4 (fun (x1_y3 : Int32) (x2_y3 : Int32) (σ_y3 : fm_M) => if 0 ≤ x2_y3 then (m_X11_nextRow_41 (fun (x1_y6 : Int32) (x2_y6 : Int32) (x3_y6 : Int32) (σ_y6 : fm_M) => fm_b (m_X11_swapInRow x2_y6 x3_y6 σ_y6) fun _u7 σ8 => (m_X11_nextRow_83 (fun (x4_y13 : Int32) (x5_y13 : Int32) (σ_y13 : fm_M) => some ((1 : Int32), σ_y13)) fm_fu (x2_y6 + (1 : Int32)) (x1_y6 - (1 : Int32)) σ8)) fm_fu x1_y3 x2_y3 (x1_y3 - (1 : Int32)) σ_y3) else (some ((0 : Int32), σ_y3))) fm_fu a1 (a1 - (2 : Int32)) σ
set_option maxHeartbeats 4000000 in
set_option maxRecDepth 100000 in
theorem w_X11_nextRow_4 {p : Program} {l : Launch} {e : Env} {s : State} {m : MethodId} {args : Array Value} {below : List Frame} {meth : Method} {c : Code} {G : fm_G} {o : Int32 × fm_M} {kc : Int32 → Int32 → fm_M → Option (Int32 × fm_M)} (hC : fm_C G p m c cX11_nextRow 6 s args RX11) (hr : meth.sig.returnType = (some .boolean)) (hlk : meth.locks = false) (hk : ∀ (z1 : Int32) (z2 : Int32) (σ : fm_M) (H : Heap) (locs : List Loc) (ls : Array Slot), fm_I G σ s H locs → lv_has ls 6 [(0, .ref (G.2.1 0)), (1, .int z1), (2, .int z2)] → kc z1 z2 σ = some o → W p l e { frames := 1, cells := 0, slots := 0, locals := 23 } s m args below meth c H locs 0 0 (MQ below (fm_Qi G o) args s 0 0 (fm_A G)) (F0 m 31 ls [])) (n : Nat) : ∀ (z1 : Int32) (z2 : Int32) (σ : fm_M) (H : Heap) (locs : List Loc) (ls : Array Slot), fm_I G σ s H locs → lv_has ls 6 [(0, .ref (G.2.1 0)), (1, .int z1), (2, .int z2)] → m_X11_nextRow_4 kc n z1 z2 σ = some o → W p l e { frames := 1, cells := 0, slots := 0, locals := 23 } s m args below meth c H locs 0 0 (MQ below (fm_Qi G o) args s 0 0 (fm_A G)) (F0 m 4 ls []) := by
  have hx := hC.1.1
  have hb := hC.1.2.1
  have hown := hC.1.2.2.2.1
  have hts := hC.1.2.2.2.2
  induction n with
  | zero =>
    intro z1 z2 σ H locs ls hI hl hf
    cases hf
  | succ n ih =>
    intro z1 z2 σ H locs ls hI hl hf
    rw [m_X11_nextRow_4] at hf
    refine lv_iload_n hx hb dX11_nextRow_4 rfl (lv_at hl 2 rfl) ?_
    refine lv_if_lt (tgt := 31) hx hb dX11_nextRow_5 (by decide) (fun hc => ?_) (fun hc => ?_)
    · have hf := fm_pT hf hc
      exact hk z1 z2 σ _ _ _ hI (lv_sub hl [0, 1, 2] rfl) hf
    · have hf := fm_pF hf hc
      refine lv_aload_n hx hb dX11_nextRow_8 rfl (lv_at hl 0 rfl) ?_
      refine fm_gr hC hI fd_X11_7 fc_0 fr_0_7 q_212 dX11_nextRow_9 ?_
      refine lv_iload_n hx hb dX11_nextRow_12 rfl (lv_at hl 2 rfl) ?_
      obtain ⟨hg1, hf⟩ := fm_gE hf
      refine fm_iald hC hI fc_95 fl_95 hg1 dX11_nextRow_13 ?_
      refine lv_aload_n hx hb dX11_nextRow_14 rfl (lv_at hl 0 rfl) ?_
      refine fm_gr hC hI fd_X11_7 fc_0 fr_0_7 q_212 dX11_nextRow_15 ?_
      refine lv_iload_n hx hb dX11_nextRow_18 rfl (lv_at hl 2 rfl) ?_
      refine lv_iconst (v := (1 : Int32)) hx hb dX11_nextRow_19 (by decide) ?_
      refine lv_iadd hx hb dX11_nextRow_20 ?_
      obtain ⟨hg2, hf⟩ := fm_gE hf
      refine fm_iald hC hI fc_95 fl_95 hg2 dX11_nextRow_21 ?_
      refine lv_icmp_lt (tgt := 31) hx hb dX11_nextRow_22 (by decide) (fun hc => ?_) (fun hc => ?_)
      · have hf := fm_pT hf hc
        exact hk z1 z2 σ _ _ _ hI (lv_sub hl [0, 1, 2] rfl) hf
      · have hf := fm_pF hf hc
        refine lv_iinc (v := (z2 + (-1 : Int32))) (lv' := [(2, .int (z2 + (-1 : Int32))), (0, .ref (G.2.1 0)), (1, .int z1)]) hx hb dX11_nextRow_25 hl (k := 2) rfl rfl (Nat.le_of_ble_eq_true rfl) rfl (fun ls hl => ?_)
        refine lv_goto (tgt := 4) hx hb dX11_nextRow_28 (by decide) ?_
        exact ih z1 (z2 + (-1 : Int32)) σ _ _ _ hI (lv_sub hl [1, 2, 0] rfl) hf
set_option maxHeartbeats 4000000 in
set_option maxRecDepth 100000 in
theorem w_X11_nextRow_41 {p : Program} {l : Launch} {e : Env} {s : State} {m : MethodId} {args : Array Value} {below : List Frame} {meth : Method} {c : Code} {G : fm_G} {o : Int32 × fm_M} {kc : Int32 → Int32 → Int32 → fm_M → Option (Int32 × fm_M)} (hC : fm_C G p m c cX11_nextRow 6 s args RX11) (hr : meth.sig.returnType = (some .boolean)) (hlk : meth.locks = false) (hk : ∀ (z1 : Int32) (z2 : Int32) (z3 : Int32) (σ : fm_M) (H : Heap) (locs : List Loc) (ls : Array Slot), fm_I G σ s H locs → lv_has ls 6 [(0, .ref (G.2.1 0)), (1, .int z1), (2, .int z2), (3, .int z3)] → kc z1 z2 z3 σ = some o → W p l e { frames := 1, cells := 0, slots := 0, locals := 23 } s m args below meth c H locs 0 0 (MQ below (fm_Qi G o) args s 0 0 (fm_A G)) (F0 m 67 ls [])) (n : Nat) : ∀ (z1 : Int32) (z2 : Int32) (z3 : Int32) (σ : fm_M) (H : Heap) (locs : List Loc) (ls : Array Slot), fm_I G σ s H locs → lv_has ls 6 [(0, .ref (G.2.1 0)), (1, .int z1), (2, .int z2), (3, .int z3)] → m_X11_nextRow_41 kc n z1 z2 z3 σ = some o → W p l e { frames := 1, cells := 0, slots := 0, locals := 23 } s m args below meth c H locs 0 0 (MQ below (fm_Qi G o) args s 0 0 (fm_A G)) (F0 m 41 ls []) := by
  have hx := hC.1.1
  have hb := hC.1.2.1
  have hown := hC.1.2.2.2.1
  have hts := hC.1.2.2.2.2
  induction n with
  | zero =>
    intro z1 z2 z3 σ H locs ls hI hl hf
    cases hf
  | succ n ih =>
    intro z1 z2 z3 σ H locs ls hI hl hf
    rw [m_X11_nextRow_41] at hf
    refine lv_iload_n hx hb dX11_nextRow_41 rfl (lv_at hl 3 rfl) ?_
    refine lv_iload_n hx hb dX11_nextRow_42 rfl (lv_at hl 2 rfl) ?_
    refine lv_icmp_le (tgt := 67) hx hb dX11_nextRow_43 (by decide) (fun hc => ?_) (fun hc => ?_)
    · have hf := fm_pT hf hc
      exact hk z1 z2 z3 σ _ _ _ hI (lv_sub hl [0, 1, 2, 3] rfl) hf
    · have hf := fm_pF hf hc
      refine lv_aload_n hx hb dX11_nextRow_46 rfl (lv_at hl 0 rfl) ?_
      refine fm_gr hC hI fd_X11_7 fc_0 fr_0_7 q_212 dX11_nextRow_47 ?_
      refine lv_iload_n hx hb dX11_nextRow_50 rfl (lv_at hl 3 rfl) ?_
      obtain ⟨hg4, hf⟩ := fm_gE hf
      refine fm_iald hC hI fc_95 fl_95 hg4 dX11_nextRow_51 ?_
      refine lv_aload_n hx hb dX11_nextRow_52 rfl (lv_at hl 0 rfl) ?_
      refine fm_gr hC hI fd_X11_7 fc_0 fr_0_7 q_212 dX11_nextRow_53 ?_
      refine lv_iload_n hx hb dX11_nextRow_56 rfl (lv_at hl 2 rfl) ?_
      obtain ⟨hg5, hf⟩ := fm_gE hf
      refine fm_iald hC hI fc_95 fl_95 hg5 dX11_nextRow_57 ?_
      refine lv_icmp_gt (tgt := 67) hx hb dX11_nextRow_58 (by decide) (fun hc => ?_) (fun hc => ?_)
      · have hf := fm_pT hf hc
        exact hk z1 z2 z3 σ _ _ _ hI (lv_sub hl [0, 1, 2, 3] rfl) hf
      · have hf := fm_pF hf hc
        refine lv_iinc (v := (z3 + (-1 : Int32))) (lv' := [(3, .int (z3 + (-1 : Int32))), (0, .ref (G.2.1 0)), (1, .int z1), (2, .int z2)]) hx hb dX11_nextRow_61 hl (k := 3) rfl rfl (Nat.le_of_ble_eq_true rfl) rfl (fun ls hl => ?_)
        refine lv_goto (tgt := 41) hx hb dX11_nextRow_64 (by decide) ?_
        exact ih z1 z2 (z3 + (-1 : Int32)) σ _ _ _ hI (lv_sub hl [1, 2, 3, 0] rfl) hf
set_option maxHeartbeats 4000000 in
set_option maxRecDepth 100000 in
theorem w_X11_nextRow_83 {p : Program} {l : Launch} {e : Env} {s : State} {m : MethodId} {args : Array Value} {below : List Frame} {meth : Method} {c : Code} {G : fm_G} {o : Int32 × fm_M} {kc : Int32 → Int32 → fm_M → Option (Int32 × fm_M)} (hC : fm_C G p m c cX11_nextRow 6 s args RX11) (hr : meth.sig.returnType = (some .boolean)) (hlk : meth.locks = false) (hk : ∀ (z4 : Int32) (z5 : Int32) (σ : fm_M) (H : Heap) (locs : List Loc) (ls : Array Slot), fm_I G σ s H locs → lv_has ls 6 [(0, .ref (G.2.1 0)), (4, .int z4), (5, .int z5)] → kc z4 z5 σ = some o → W p l e { frames := 1, cells := 0, slots := 0, locals := 23 } s m args below meth c H locs 0 0 (MQ below (fm_Qi G o) args s 0 0 (fm_A G)) (F0 m 107 ls [])) (n : Nat) : ∀ (z4 : Int32) (z5 : Int32) (σ : fm_M) (H : Heap) (locs : List Loc) (ls : Array Slot), fm_I G σ s H locs → lv_has ls 6 [(0, .ref (G.2.1 0)), (4, .int z4), (5, .int z5)] → m_X11_nextRow_83 kc n z4 z5 σ = some o → W p l e { frames := 1, cells := 0, slots := 0, locals := 23 } s m args below meth c H locs 0 0 (MQ below (fm_Qi G o) args s 0 0 (fm_A G)) (F0 m 83 ls []) := by
  have hx := hC.1.1
  have hb := hC.1.2.1
  have hown := hC.1.2.2.2.1
  have hts := hC.1.2.2.2.2
  induction n with
  | zero =>
    intro z4 z5 σ H locs ls hI hl hf
    cases hf
  | succ n ih =>
    intro z4 z5 σ H locs ls hI hl hf
    rw [m_X11_nextRow_83] at hf
    refine lv_iload hx hb dX11_nextRow_83 (lv_at hl 1 rfl) ?_
    refine lv_iload hx hb dX11_nextRow_85 (lv_at hl 2 rfl) ?_
    refine lv_icmp_ge (tgt := 107) hx hb dX11_nextRow_87 (by decide) (fun hc => ?_) (fun hc => ?_)
    · have hf := fm_pT hf hc
      exact hk z4 z5 σ _ _ _ hI (lv_sub hl [0, 1, 2] rfl) hf
    · have hf := fm_pF hf hc
      refine lv_aload_n hx hb dX11_nextRow_90 rfl (lv_at hl 0 rfl) ?_
      refine lv_iload hx hb dX11_nextRow_91 (lv_at hl 1 rfl) ?_
      refine lv_iload hx hb dX11_nextRow_93 (lv_at hl 2 rfl) ?_
      obtain ⟨_u10, σ11, hq12, hf⟩ := fm_bE hf
      refine fm_cv hI (fm_runV (As := [.int z4, .int z5]) (rest := []) (rm := { frames := 0, cells := 0, slots := 0, locals := 0 }) hC hI (c_X11_swapInRow hC.2.2.1 hq12) mV_X11_swapInRow q_562 ⟨rfl, rfl⟩ ⟨Nat.le_of_ble_eq_true rfl, Nat.le_of_ble_eq_true rfl⟩ fc_0 rfl (by decide) rfl hl.1 rfl (Nat.le_of_ble_eq_true rfl) dX11_nextRow_95 ⟨Nat.zero_le _, Nat.zero_le _⟩) (fun H locs hI => ?_)
      refine lv_iinc (v := (z4 + (1 : Int32))) (lv' := [(4, .int (z4 + (1 : Int32))), (0, .ref (G.2.1 0)), (5, .int z5)]) hx hb dX11_nextRow_98 hl (k := 1) rfl rfl (Nat.le_of_ble_eq_true rfl) rfl (fun ls hl => ?_)
      refine lv_iinc (v := (z5 + (-1 : Int32))) (lv' := [(5, .int (z5 + (-1 : Int32))), (4, .int (z4 + (1 : Int32))), (0, .ref (G.2.1 0))]) hx hb dX11_nextRow_101 hl (k := 2) rfl rfl (Nat.le_of_ble_eq_true rfl) rfl (fun ls hl => ?_)
      refine lv_goto (tgt := 83) hx hb dX11_nextRow_104 (by decide) ?_
      exact ih (z4 + (1 : Int32)) (z5 + (-1 : Int32)) σ11 _ _ _ hI (lv_sub hl [2, 1, 0] rfl) hf
set_option maxHeartbeats 4000000 in
set_option maxRecDepth 100000 in
theorem c_X11_nextRow {l : Launch} {G : fm_G} (hJ : fm_J G) {a1 : Int32} {σ : fm_M} {o : Int32 × fm_M}  (hf : m_X11_nextRow a1 σ = some o) : Met l yX11_nextRow (fm_w yX11_nextRow cX11_nextRow 6 (some .boolean)) { frames := 1, cells := 0, slots := 0, locals := 23 } (va_Pc [.ref (G.2.1 0), .int a1] (fm_st G σ)) (fm_Qi G o) 0 0 (fm_A G) := by
  refine fm_mth (own := RX11) hJ rfl (by decide +kernel) (Nat.le_of_ble_eq_true rfl) ?_
  intro p e s m below meth c ls hC hr hlk hI hl
  have hx := hC.1.1
  have hb := hC.1.2.1
  have hown := hC.1.2.2.2.1
  have hts := hC.1.2.2.2.2
  have hl : lv_has ls 6 [(0, .ref (G.2.1 0)), (1, .int a1)] := hl
  rw [m_X11_nextRow] at hf
  refine lv_iload_n hx hb dX11_nextRow_0 rfl (lv_at hl 1 rfl) ?_
  refine lv_iconst (v := (2 : Int32)) hx hb dX11_nextRow_1 (by decide) ?_
  refine lv_isub hx hb dX11_nextRow_2 ?_
  refine lv_istore_n (lv' := [(2, .int (a1 - (2 : Int32))), (0, .ref (G.2.1 0)), (1, .int a1)]) hx hb dX11_nextRow_3 rfl hl (Nat.le_of_ble_eq_true rfl) rfl (fun ls hl => ?_)
  refine w_X11_nextRow_4 hC hr hlk (fun x1_y3 x2_y3 σ_y3 H locs ls hI hl hf => ?_) fm_fu a1 (a1 - (2 : Int32)) σ _ _ _ hI (lv_sub hl [1, 2, 0] rfl) hf
  refine lv_iload_n hx hb dX11_nextRow_31 rfl (lv_at hl 2 rfl) ?_
  refine lv_if_ge (tgt := 37) hx hb dX11_nextRow_32 (by decide) (fun hc => ?_) (fun hc => ?_)
  · have hf := fm_pT hf hc
    refine lv_iload_n hx hb dX11_nextRow_37 rfl (lv_at hl 1 rfl) ?_
    refine lv_iconst (v := (1 : Int32)) hx hb dX11_nextRow_38 (by decide) ?_
    refine lv_isub hx hb dX11_nextRow_39 ?_
    refine lv_istore_n (lv' := [(3, .int (x1_y3 - (1 : Int32))), (0, .ref (G.2.1 0)), (1, .int x1_y3), (2, .int x2_y3)]) hx hb dX11_nextRow_40 rfl hl (Nat.le_of_ble_eq_true rfl) rfl (fun ls hl => ?_)
    refine w_X11_nextRow_41 hC hr hlk (fun x1_y6 x2_y6 x3_y6 σ_y6 H locs ls hI hl hf => ?_) fm_fu x1_y3 x2_y3 (x1_y3 - (1 : Int32)) σ_y3 _ _ _ hI (lv_sub hl [1, 2, 3, 0] rfl) hf
    refine lv_aload_n hx hb dX11_nextRow_67 rfl (lv_at hl 0 rfl) ?_
    refine lv_iload_n hx hb dX11_nextRow_68 rfl (lv_at hl 2 rfl) ?_
    refine lv_iload_n hx hb dX11_nextRow_69 rfl (lv_at hl 3 rfl) ?_
    obtain ⟨_u7, σ8, hq9, hf⟩ := fm_bE hf
    refine fm_cv hI (fm_runV (As := [.int x2_y6, .int x3_y6]) (rest := []) (rm := { frames := 0, cells := 0, slots := 0, locals := 0 }) hC hI (c_X11_swapInRow hC.2.2.1 hq9) mV_X11_swapInRow q_562 ⟨rfl, rfl⟩ ⟨Nat.le_of_ble_eq_true rfl, Nat.le_of_ble_eq_true rfl⟩ fc_0 rfl (by decide) rfl hl.1 rfl (Nat.le_of_ble_eq_true rfl) dX11_nextRow_70 ⟨Nat.zero_le _, Nat.zero_le _⟩) (fun H locs hI => ?_)
    refine lv_iload_n hx hb dX11_nextRow_73 rfl (lv_at hl 2 rfl) ?_
    refine lv_iconst (v := (1 : Int32)) hx hb dX11_nextRow_74 (by decide) ?_
    refine lv_iadd hx hb dX11_nextRow_75 ?_
    refine lv_istore (lv' := [(4, .int (x2_y6 + (1 : Int32))), (0, .ref (G.2.1 0)), (1, .int x1_y6), (2, .int x2_y6), (3, .int x3_y6)]) hx hb dX11_nextRow_76 hl (Nat.le_of_ble_eq_true rfl) rfl (fun ls hl => ?_)
    refine lv_iload_n hx hb dX11_nextRow_78 rfl (lv_at hl 2 rfl) ?_
    refine lv_iconst (v := (1 : Int32)) hx hb dX11_nextRow_79 (by decide) ?_
    refine lv_isub hx hb dX11_nextRow_80 ?_
    refine lv_istore (lv' := [(5, .int (x1_y6 - (1 : Int32))), (4, .int (x2_y6 + (1 : Int32))), (0, .ref (G.2.1 0)), (1, .int x1_y6), (2, .int x2_y6), (3, .int x3_y6)]) hx hb dX11_nextRow_81 hl (Nat.le_of_ble_eq_true rfl) rfl (fun ls hl => ?_)
    refine w_X11_nextRow_83 hC hr hlk (fun x4_y13 x5_y13 σ_y13 H locs ls hI hl hf => ?_) fm_fu (x2_y6 + (1 : Int32)) (x1_y6 - (1 : Int32)) σ8 _ _ _ hI (lv_sub hl [2, 1, 0] rfl) hf
    refine lv_iconst (v := (1 : Int32)) hx hb dX11_nextRow_107 (by decide) ?_
    exact fm_rz hC hI hr hlk (by decide) hf dX11_nextRow_108
  · have hf := fm_pF hf hc
    refine lv_iconst (v := (0 : Int32)) hx hb dX11_nextRow_35 (by decide) ?_
    exact fm_rz hC hI hr hlk (by decide) hf dX11_nextRow_36
def m_X11_order_79 (kc : Int32 → Int32 → Int32 → Int32 → Int32 → Int32 → Int32 → fm_M → Option (Int32 × fm_M)) : Nat → Int32 → Int32 → Int32 → Int32 → Int32 → Int32 → Int32 → fm_M → Option (Int32 × fm_M)
  | 0, _, _, _, _, _, _, _, _ => none
  | n + 1, z1, z2, z3, z4, z5, z6, z7, σ => if (120 : Int32) ≤ z7 then (kc z1 z2 z3 z4 z5 z6 z7 σ) else (if z6 = 0 then (kc z1 z2 z3 z4 z5 z6 z7 σ) else (fm_b (m_X11_startTrial  σ) fun _u14 σ15 => (fm_g (fm_in1 z1 8) (fm_b (m_X7_layAnew (58 + 9 + 2 * z1.toNatClampNeg) z3 σ15) fun _u18 σ19 => (fm_b (m_X10_goOn 58 z2 σ19) fun _u21 σ22 => (fm_b (m_X10_joyOfAll 58 σ22) fun r24 σ25 => (fm_j (fun (x4_J27 : Int32) (x5_J27 : Int32) (σ_J27 : fm_M) => fm_b (m_X11_nextRow z3 σ_J27) fun r28 σ29 => (m_X11_order_79 kc n z1 z2 z3 x4_J27 x5_J27 r28 (z7 + (1 : Int32)) σ29)) (fun J27 => if r24 ≤ z5 then (J27 z4 z5 σ25) else (fm_b (m_X11_rowAsNumber z3 σ25) fun r31 σ32 => (J27 r31 r24 σ32))))))))))
def m_X11_order (a1 : Int32) (a2 : Int32) (σ : fm_M) : Option (Int32 × fm_M) := fm_b (m_X11_isPresent a1 σ) fun r1 σ2 => (if r1 = 0 then (fm_b (m_X11_tell (-1000000001 : Int32) σ2) fun r4 σ5 => (some (r4, σ5))) else (fm_b (m_X11_within a2 (1 : Int32) (10 : Int32) σ2) fun r7 σ8 => (if r7 = 0 then (fm_b (m_X11_tell (-1000000001 : Int32) σ8) fun r41 σ42 => (some (r41, σ42))) else (fm_g (fm_in1 a1 8) (if (σ8.1 (8 + 9 + 2 * a1.toNatClampNeg) 1) = 0 then (fm_b (m_X11_tell (-1000000004 : Int32) σ8) fun r38 σ39 => (some (r38, σ39))) else (if (σ8.1 (8 + 9 + 2 * a1.toNatClampNeg) 1) ≤ (5 : Int32) then (fm_b (m_X11_startRow a1 (σ8.1 (8 + 9 + 2 * a1.toNatClampNeg) 1) σ8) fun _u11 σ12 => (m_X11_order_79 (fun (x1_y34 : Int32) (x2_y34 : Int32) (x3_y34 : Int32) (x4_y34 : Int32) (x5_y34 : Int32) (x6_y34 : Int32) (x7_y34 : Int32) (σ_y34 : fm_M) => some (x4_y34, σ_y34)) fm_fu a1 a2 (σ8.1 (8 + 9 + 2 * a1.toNatClampNeg) 1) (0 : Int32) (-1 : Int32) (1 : Int32) (0 : Int32) σ12)) else (fm_b (m_X11_tell (-1000000007 : Int32) σ8) fun r35 σ36 => (some (r35, σ36)))))))))
set_option maxHeartbeats 4000000 in
set_option maxRecDepth 100000 in
theorem w_X11_order_79 {p : Program} {l : Launch} {e : Env} {s : State} {m : MethodId} {args : Array Value} {below : List Frame} {meth : Method} {c : Code} {G : fm_G} {o : Int32 × fm_M} {kc : Int32 → Int32 → Int32 → Int32 → Int32 → Int32 → Int32 → fm_M → Option (Int32 × fm_M)} (hC : fm_C G p m c cX11_order 9 s args RX11) (hr : meth.sig.returnType = (some .int)) (hlk : meth.locks = false) (hk : ∀ (z1 : Int32) (z2 : Int32) (z3 : Int32) (z4 : Int32) (z5 : Int32) (z6 : Int32) (z7 : Int32) (σ : fm_M) (H : Heap) (locs : List Loc) (ls : Array Slot), fm_I G σ s H locs → lv_has ls 9 [(0, .ref (G.2.1 0)), (1, .int z1), (2, .int z2), (3, .int z3), (4, .int z4), (5, .int z5), (6, .int z6), (7, .int z7)] → kc z1 z2 z3 z4 z5 z6 z7 σ = some o → W p l e { frames := 6, cells := 0, slots := 0, locals := 140 } s m args below meth c H locs 0 0 (MQ below (fm_Qi G o) args s 0 0 (fm_A G)) (F0 m 160 ls [])) (n : Nat) : ∀ (z1 : Int32) (z2 : Int32) (z3 : Int32) (z4 : Int32) (z5 : Int32) (z6 : Int32) (z7 : Int32) (σ : fm_M) (H : Heap) (locs : List Loc) (ls : Array Slot), fm_I G σ s H locs → lv_has ls 9 [(0, .ref (G.2.1 0)), (1, .int z1), (2, .int z2), (3, .int z3), (4, .int z4), (5, .int z5), (6, .int z6), (7, .int z7)] → m_X11_order_79 kc n z1 z2 z3 z4 z5 z6 z7 σ = some o → W p l e { frames := 6, cells := 0, slots := 0, locals := 140 } s m args below meth c H locs 0 0 (MQ below (fm_Qi G o) args s 0 0 (fm_A G)) (F0 m 79 ls []) := by
  have hx := hC.1.1
  have hb := hC.1.2.1
  have hown := hC.1.2.2.2.1
  have hts := hC.1.2.2.2.2
  induction n with
  | zero =>
    intro z1 z2 z3 z4 z5 z6 z7 σ H locs ls hI hl hf
    cases hf
  | succ n ih =>
    intro z1 z2 z3 z4 z5 z6 z7 σ H locs ls hI hl hf
    rw [m_X11_order_79] at hf
    refine lv_iload hx hb dX11_order_79 (lv_at hl 7 rfl) ?_
    refine lv_bipush (v := (120 : Int32)) hx hb dX11_order_81 (by decide) ?_
    refine lv_icmp_ge (tgt := 160) hx hb dX11_order_83 (by decide) (fun hc => ?_) (fun hc => ?_)
    · have hf := fm_pT hf hc
      exact hk z1 z2 z3 z4 z5 z6 z7 σ _ _ _ hI (lv_sub hl [0, 1, 2, 3, 4, 5, 6, 7] rfl) hf
    · have hf := fm_pF hf hc
      refine lv_iload hx hb dX11_order_86 (lv_at hl 6 rfl) ?_
      refine lv_if_eq (tgt := 160) hx hb dX11_order_88 (by decide) (fun hc => ?_) (fun hc => ?_)
      · have hf := fm_pT hf hc
        exact hk z1 z2 z3 z4 z5 z6 z7 σ _ _ _ hI (lv_sub hl [0, 1, 2, 3, 4, 5, 6, 7] rfl) hf
      · have hf := fm_pF hf hc
        refine lv_aload_n hx hb dX11_order_91 rfl (lv_at hl 0 rfl) ?_
        obtain ⟨_u14, σ15, hq16, hf⟩ := fm_bE hf
        refine fm_cv hI (fm_runV (As := []) (rest := []) (rm := { frames := 2, cells := 0, slots := 0, locals := 44 }) hC hI (c_X11_startTrial hC.2.2.1 hq16) mV_X11_startTrial q_508 ⟨rfl, rfl⟩ ⟨Nat.le_of_ble_eq_true rfl, Nat.le_of_ble_eq_true rfl⟩ fc_0 rfl (by decide) rfl hl.1 rfl (Nat.le_of_ble_eq_true rfl) dX11_order_92 ⟨Nat.zero_le _, Nat.zero_le _⟩) (fun H locs hI => ?_)
        refine lv_aload_n hx hb dX11_order_95 rfl (lv_at hl 0 rfl) ?_
        refine fm_gr hC hI fd_X11_2 fc_0 fr_0_2 q_207 dX11_order_96 ?_
        refine fm_gr hC hI fd_X10_2 fc_58 fr_58_2 q_135 dX11_order_99 ?_
        refine lv_iload_n hx hb dX11_order_102 rfl (lv_at hl 1 rfl) ?_
        obtain ⟨hg17, hf⟩ := fm_gE hf
        refine fm_aald (t0 := 5) hC hI fc_66 (by decide) (by decide) rfl fl_66 hg17 (fm_T4 (x := z1) fc_58 hg17).2 dX11_order_103 ?_
        refine lv_aload_n hx hb dX11_order_104 rfl (lv_at hl 0 rfl) ?_
        refine fm_gr hC hI fd_X11_7 fc_0 fr_0_7 q_212 dX11_order_105 ?_
        refine lv_iload_n hx hb dX11_order_108 rfl (lv_at hl 3 rfl) ?_
        obtain ⟨_u18, σ19, hq20, hf⟩ := fm_bE hf
        refine fm_cv hI (fm_runV (As := [.ref (G.2.1 95), .int z3]) (rest := []) (rm := { frames := 1, cells := 0, slots := 0, locals := 22 }) hC hI (c_X7_layAnew hC.2.2.1 (fm_T4 (x := z1) fc_58 hg17).1 hq20) mV_X7_layAnew q_566 ⟨rfl, rfl⟩ ⟨Nat.le_of_ble_eq_true rfl, Nat.le_of_ble_eq_true rfl⟩ (fm_T4 (x := z1) fc_58 hg17).1 rfl (by decide) rfl hl.1 rfl (Nat.le_of_ble_eq_true rfl) dX11_order_109 ⟨Nat.zero_le _, Nat.zero_le _⟩) (fun H locs hI => ?_)
        refine lv_aload_n hx hb dX11_order_112 rfl (lv_at hl 0 rfl) ?_
        refine fm_gr hC hI fd_X11_2 fc_0 fr_0_2 q_207 dX11_order_113 ?_
        refine lv_iload_n hx hb dX11_order_116 rfl (lv_at hl 2 rfl) ?_
        obtain ⟨_u21, σ22, hq23, hf⟩ := fm_bE hf
        refine fm_cv hI (fm_runV (As := [.int z2]) (rest := []) (rm := { frames := 5, cells := 0, slots := 0, locals := 118 }) hC hI (c_X10_goOn hC.2.2.1 fc_58 hq23) mV_X10_goOn q_460 ⟨rfl, rfl⟩ ⟨Nat.le_of_ble_eq_true rfl, Nat.le_of_ble_eq_true rfl⟩ fc_58 rfl (by decide) rfl hl.1 rfl (Nat.le_of_ble_eq_true rfl) dX11_order_117 ⟨Nat.zero_le _, Nat.zero_le _⟩) (fun H locs hI => ?_)
        refine lv_aload_n hx hb dX11_order_120 rfl (lv_at hl 0 rfl) ?_
        refine fm_gr hC hI fd_X11_2 fc_0 fr_0_2 q_207 dX11_order_121 ?_
        obtain ⟨r24, σ25, hq26, hf⟩ := fm_bE hf
        refine fm_ci hI (fm_runV (As := []) (rest := []) (rm := { frames := 0, cells := 0, slots := 0, locals := 0 }) hC hI (c_X10_joyOfAll hC.2.2.1 fc_58 hq26) mV_X10_joyOfAll q_491 ⟨rfl, rfl⟩ ⟨Nat.le_of_ble_eq_true rfl, Nat.le_of_ble_eq_true rfl⟩ fc_58 rfl (by decide) rfl hl.1 rfl (Nat.le_of_ble_eq_true rfl) dX11_order_124 ⟨Nat.zero_le _, Nat.zero_le _⟩) (fun H locs hI => ?_)
        refine lv_istore (lv' := [(8, .int r24), (0, .ref (G.2.1 0)), (1, .int z1), (2, .int z2), (3, .int z3), (4, .int z4), (5, .int z5), (6, .int z6), (7, .int z7)]) hx hb dX11_order_127 hl (Nat.le_of_ble_eq_true rfl) rfl (fun ls hl => ?_)
        refine lv_iload hx hb dX11_order_129 (lv_at hl 0 rfl) ?_
        refine lv_iload hx hb dX11_order_131 (lv_at hl 6 rfl) ?_
        obtain ⟨J27, eJ27, hf⟩ := fm_jE hf
        have hJ27 : ∀ (x4_J27 : Int32) (x5_J27 : Int32) (σ_J27 : fm_M) (H : Heap) (locs : List Loc) (ls : Array Slot), fm_I G σ_J27 s H locs → lv_has ls 9 [(0, .ref (G.2.1 0)), (1, .int z1), (2, .int z2), (3, .int z3), (4, .int x4_J27), (5, .int x5_J27), (7, .int z7)] → J27 x4_J27 x5_J27 σ_J27 = some o → W p l e { frames := 6, cells := 0, slots := 0, locals := 140 } s m args below meth c H locs 0 0 (MQ below (fm_Qi G o) args s 0 0 (fm_A G)) (F0 m 147 ls []) := by
          intro x4_J27 x5_J27 σ_J27 H locs ls hI hl hf
          subst eJ27
          refine lv_aload_n hx hb dX11_order_147 rfl (lv_at hl 0 rfl) ?_
          refine lv_iload_n hx hb dX11_order_148 rfl (lv_at hl 3 rfl) ?_
          obtain ⟨r28, σ29, hq30, hf⟩ := fm_bE hf
          refine fm_ci hI (fm_runV (As := [.int z3]) (rest := []) (rm := { frames := 1, cells := 0, slots := 0, locals := 23 }) hC hI (c_X11_nextRow hC.2.2.1 hq30) mV_X11_nextRow q_578 ⟨rfl, rfl⟩ ⟨Nat.le_of_ble_eq_true rfl, Nat.le_of_ble_eq_true rfl⟩ fc_0 rfl (by decide) rfl hl.1 rfl (Nat.le_of_ble_eq_true rfl) dX11_order_149 ⟨Nat.zero_le _, Nat.zero_le _⟩) (fun H locs hI => ?_)
          refine lv_istore (lv' := [(6, .int r28), (0, .ref (G.2.1 0)), (1, .int z1), (2, .int z2), (3, .int z3), (4, .int x4_J27), (5, .int x5_J27), (7, .int z7)]) hx hb dX11_order_152 hl (Nat.le_of_ble_eq_true rfl) rfl (fun ls hl => ?_)
          refine lv_iinc (v := (z7 + (1 : Int32))) (lv' := [(7, .int (z7 + (1 : Int32))), (6, .int r28), (0, .ref (G.2.1 0)), (1, .int z1), (2, .int z2), (3, .int z3), (4, .int x4_J27), (5, .int x5_J27)]) hx hb dX11_order_154 hl (k := 7) rfl rfl (Nat.le_of_ble_eq_true rfl) rfl (fun ls hl => ?_)
          refine lv_goto (tgt := 79) hx hb dX11_order_157 (by decide) ?_
          exact ih z1 z2 z3 x4_J27 x5_J27 r28 (z7 + (1 : Int32)) σ29 _ _ _ hI (lv_sub hl [2, 3, 4, 5, 6, 7, 1, 0] rfl) hf
        refine lv_icmp_le (tgt := 147) hx hb dX11_order_133 (by decide) (fun hc => ?_) (fun hc => ?_)
        · have hf := fm_pT hf hc
          exact hJ27 z4 z5 σ25 _ _ _ hI (lv_sub hl [1, 2, 3, 4, 5, 6, 8] rfl) hf
        · have hf := fm_pF hf hc
          refine lv_iload hx hb dX11_order_136 (lv_at hl 0 rfl) ?_
          refine lv_istore (lv' := [(5, .int r24), (8, .int r24), (0, .ref (G.2.1 0)), (1, .int z1), (2, .int z2), (3, .int z3), (4, .int z4), (6, .int z6), (7, .int z7)]) hx hb dX11_order_138 hl (Nat.le_of_ble_eq_true rfl) rfl (fun ls hl => ?_)
          refine lv_aload_n hx hb dX11_order_140 rfl (lv_at hl 2 rfl) ?_
          refine lv_iload_n hx hb dX11_order_141 rfl (lv_at hl 5 rfl) ?_
          obtain ⟨r31, σ32, hq33, hf⟩ := fm_bE hf
          refine fm_ci hI (fm_runV (As := [.int z3]) (rest := []) (rm := { frames := 0, cells := 0, slots := 0, locals := 0 }) hC hI (c_X11_rowAsNumber hC.2.2.1 hq33) mV_X11_rowAsNumber q_574 ⟨rfl, rfl⟩ ⟨Nat.le_of_ble_eq_true rfl, Nat.le_of_ble_eq_true rfl⟩ fc_0 rfl (by decide) rfl hl.1 rfl (Nat.le_of_ble_eq_true rfl) dX11_order_142 ⟨Nat.zero_le _, Nat.zero_le _⟩) (fun H locs hI => ?_)
          refine lv_istore (lv' := [(4, .int r31), (5, .int r24), (8, .int r24), (0, .ref (G.2.1 0)), (1, .int z1), (2, .int z2), (3, .int z3), (6, .int z6), (7, .int z7)]) hx hb dX11_order_145 hl (Nat.le_of_ble_eq_true rfl) rfl (fun ls hl => ?_)
          exact hJ27 r31 r24 σ32 _ _ _ hI (lv_sub hl [3, 4, 5, 6, 0, 1, 8] rfl) hf
set_option maxHeartbeats 4000000 in
set_option maxRecDepth 100000 in
theorem c_X11_order {l : Launch} {G : fm_G} (hJ : fm_J G) {a1 : Int32} {a2 : Int32} {σ : fm_M} {o : Int32 × fm_M}  (hf : m_X11_order a1 a2 σ = some o) : Met l yX11_order (fm_w yX11_order cX11_order 9 (some .int)) { frames := 6, cells := 0, slots := 0, locals := 140 } (va_Pc [.ref (G.2.1 0), .int a1, .int a2] (fm_st G σ)) (fm_Qi G o) 0 0 (fm_A G) := by
  refine fm_mth (own := RX11) hJ rfl (by decide +kernel) (Nat.le_of_ble_eq_true rfl) ?_
  intro p e s m below meth c ls hC hr hlk hI hl
  have hx := hC.1.1
  have hb := hC.1.2.1
  have hown := hC.1.2.2.2.1
  have hts := hC.1.2.2.2.2
  have hl : lv_has ls 9 [(0, .ref (G.2.1 0)), (1, .int a1), (2, .int a2)] := hl
  rw [m_X11_order] at hf
  refine lv_aload_n hx hb dX11_order_0 rfl (lv_at hl 0 rfl) ?_
  refine lv_iload_n hx hb dX11_order_1 rfl (lv_at hl 1 rfl) ?_
  obtain ⟨r1, σ2, hq3, hf⟩ := fm_bE hf
  refine fm_ci hI (fm_runV (As := [.int a1]) (rest := []) (rm := { frames := 1, cells := 0, slots := 0, locals := 22 }) hC hI (c_X11_isPresent hC.2.2.1 hq3) mV_X11_isPresent q_274 ⟨rfl, rfl⟩ ⟨Nat.le_of_ble_eq_true rfl, Nat.le_of_ble_eq_true rfl⟩ fc_0 rfl (by decide) rfl hl.1 rfl (Nat.le_of_ble_eq_true rfl) dX11_order_2 ⟨Nat.zero_le _, Nat.zero_le _⟩) (fun H locs hI => ?_)
  refine lv_if_eq (tgt := 18) hx hb dX11_order_5 (by decide) (fun hc => ?_) (fun hc => ?_)
  · have hf := fm_pT hf hc
    refine lv_aload_n hx hb dX11_order_18 rfl (lv_at hl 0 rfl) ?_
    refine lv_ldc (v := (-1000000001 : Int32)) hx hb hown (hts _ q_240) dX11_order_19 ?_
    obtain ⟨r4, σ5, hq6, hf⟩ := fm_bE hf
    refine fm_ci hI (fm_runV (As := [.int (-1000000001 : Int32)]) (rest := []) (rm := { frames := 1, cells := 0, slots := 0, locals := 22 }) hC hI (c_X11_tell hC.2.2.1 hq6) mV_X11_tell q_241 ⟨rfl, rfl⟩ ⟨Nat.le_of_ble_eq_true rfl, Nat.le_of_ble_eq_true rfl⟩ fc_0 rfl (by decide) rfl hl.1 rfl (Nat.le_of_ble_eq_true rfl) dX11_order_21 ⟨Nat.zero_le _, Nat.zero_le _⟩) (fun H locs hI => ?_)
    exact fm_ri hC hI hr hlk hf dX11_order_24
  · have hf := fm_pF hf hc
    refine lv_iload_n hx hb dX11_order_8 rfl (lv_at hl 2 rfl) ?_
    refine lv_iconst (v := (1 : Int32)) hx hb dX11_order_9 (by decide) ?_
    refine lv_bipush (v := (10 : Int32)) hx hb dX11_order_10 (by decide) ?_
    obtain ⟨r7, σ8, hq9, hf⟩ := fm_bE hf
    refine fm_ci hI (fm_runS (As := [.int a2, .int (1 : Int32), .int (10 : Int32)]) (rest := []) (rm := { frames := 0, cells := 0, slots := 0, locals := 0 }) hC hI (c_X11_within hC.2.2.1 hq9) mS_X11_within q_237 ⟨rfl, rfl⟩ ⟨Nat.le_of_ble_eq_true rfl, Nat.le_of_ble_eq_true rfl⟩ rfl hl.1 rfl (Nat.le_of_ble_eq_true rfl) dX11_order_12 ⟨Nat.zero_le _, Nat.zero_le _⟩) (fun H locs hI => ?_)
    refine lv_if_ne (tgt := 25) hx hb dX11_order_15 (by decide) (fun hc => ?_) (fun hc => ?_)
    · have hf := fm_pF hf hc
      refine lv_aload_n hx hb dX11_order_25 rfl (lv_at hl 0 rfl) ?_
      refine fm_gr hC hI fd_X11_0 fc_0 fr_0_0 q_205 dX11_order_26 ?_
      refine fm_gr hC hI fd_X10_2 fc_8 fr_8_2 q_135 dX11_order_29 ?_
      refine lv_iload_n hx hb dX11_order_32 rfl (lv_at hl 1 rfl) ?_
      obtain ⟨hg10, hf⟩ := fm_gE hf
      refine fm_aald (t0 := 5) hC hI fc_16 (by decide) (by decide) rfl fl_16 hg10 (fm_T4 (x := a1) fc_8 hg10).2 dX11_order_33 ?_
      refine fm_gi hC hI fd_X7_1 (fm_T4 (x := a1) fc_8 hg10).1 q_108 dX11_order_34 ?_
      refine lv_istore_n (lv' := [(3, .int (σ8.1 (8 + 9 + 2 * a1.toNatClampNeg) 1)), (0, .ref (G.2.1 0)), (1, .int a1), (2, .int a2)]) hx hb dX11_order_37 rfl hl (Nat.le_of_ble_eq_true rfl) rfl (fun ls hl => ?_)
      refine lv_iload_n hx hb dX11_order_38 rfl (lv_at hl 0 rfl) ?_
      refine lv_if_ne (tgt := 49) hx hb dX11_order_39 (by decide) (fun hc => ?_) (fun hc => ?_)
      · have hf := fm_pF hf hc
        refine lv_iload_n hx hb dX11_order_49 rfl (lv_at hl 0 rfl) ?_
        refine lv_iconst (v := (5 : Int32)) hx hb dX11_order_50 (by decide) ?_
        refine lv_icmp_le (tgt := 61) hx hb dX11_order_51 (by decide) (fun hc => ?_) (fun hc => ?_)
        · have hf := fm_pT hf hc
          refine lv_aload_n hx hb dX11_order_61 rfl (lv_at hl 1 rfl) ?_
          refine lv_iload_n hx hb dX11_order_62 rfl (lv_at hl 2 rfl) ?_
          refine lv_iload_n hx hb dX11_order_63 rfl (lv_at hl 0 rfl) ?_
          obtain ⟨_u11, σ12, hq13, hf⟩ := fm_bE hf
          refine fm_cv hI (fm_runV (As := [.int a1, .int (σ8.1 (8 + 9 + 2 * a1.toNatClampNeg) 1)]) (rest := []) (rm := { frames := 1, cells := 0, slots := 0, locals := 23 }) hC hI (c_X11_startRow hC.2.2.1 hq13) mV_X11_startRow q_558 ⟨rfl, rfl⟩ ⟨Nat.le_of_ble_eq_true rfl, Nat.le_of_ble_eq_true rfl⟩ fc_0 rfl (by decide) rfl hl.1 rfl (Nat.le_of_ble_eq_true rfl) dX11_order_64 ⟨Nat.zero_le _, Nat.zero_le _⟩) (fun H locs hI => ?_)
          refine lv_iconst (v := (0 : Int32)) hx hb dX11_order_67 (by decide) ?_
          refine lv_istore (lv' := [(4, .int (0 : Int32)), (3, .int (σ8.1 (8 + 9 + 2 * a1.toNatClampNeg) 1)), (0, .ref (G.2.1 0)), (1, .int a1), (2, .int a2)]) hx hb dX11_order_68 hl (Nat.le_of_ble_eq_true rfl) rfl (fun ls hl => ?_)
          refine lv_iconst (v := (-1 : Int32)) hx hb dX11_order_70 (by decide) ?_
          refine lv_istore (lv' := [(5, .int (-1 : Int32)), (4, .int (0 : Int32)), (3, .int (σ8.1 (8 + 9 + 2 * a1.toNatClampNeg) 1)), (0, .ref (G.2.1 0)), (1, .int a1), (2, .int a2)]) hx hb dX11_order_71 hl (Nat.le_of_ble_eq_true rfl) rfl (fun ls hl => ?_)
          refine lv_iconst (v := (1 : Int32)) hx hb dX11_order_73 (by decide) ?_
          refine lv_istore (lv' := [(6, .int (1 : Int32)), (5, .int (-1 : Int32)), (4, .int (0 : Int32)), (3, .int (σ8.1 (8 + 9 + 2 * a1.toNatClampNeg) 1)), (0, .ref (G.2.1 0)), (1, .int a1), (2, .int a2)]) hx hb dX11_order_74 hl (Nat.le_of_ble_eq_true rfl) rfl (fun ls hl => ?_)
          refine lv_iconst (v := (0 : Int32)) hx hb dX11_order_76 (by decide) ?_
          refine lv_istore (lv' := [(7, .int (0 : Int32)), (6, .int (1 : Int32)), (5, .int (-1 : Int32)), (4, .int (0 : Int32)), (3, .int (σ8.1 (8 + 9 + 2 * a1.toNatClampNeg) 1)), (0, .ref (G.2.1 0)), (1, .int a1), (2, .int a2)]) hx hb dX11_order_77 hl (Nat.le_of_ble_eq_true rfl) rfl (fun ls hl => ?_)
          refine w_X11_order_79 hC hr hlk (fun x1_y34 x2_y34 x3_y34 x4_y34 x5_y34 x6_y34 x7_y34 σ_y34 H locs ls hI hl hf => ?_) fm_fu a1 a2 (σ8.1 (8 + 9 + 2 * a1.toNatClampNeg) 1) (0 : Int32) (-1 : Int32) (1 : Int32) (0 : Int32) σ12 _ _ _ hI (lv_sub hl [5, 6, 7, 4, 3, 2, 1, 0] rfl) hf
          refine lv_iload hx hb dX11_order_160 (lv_at hl 4 rfl) ?_
          exact fm_ri hC hI hr hlk hf dX11_order_162
        · have hf := fm_pF hf hc
          refine lv_aload_n hx hb dX11_order_54 rfl (lv_at hl 1 rfl) ?_
          refine lv_ldc (v := (-1000000007 : Int32)) hx hb hown (hts _ q_557) dX11_order_55 ?_
          obtain ⟨r35, σ36, hq37, hf⟩ := fm_bE hf
          refine fm_ci hI (fm_runV (As := [.int (-1000000007 : Int32)]) (rest := []) (rm := { frames := 1, cells := 0, slots := 0, locals := 22 }) hC hI (c_X11_tell hC.2.2.1 hq37) mV_X11_tell q_241 ⟨rfl, rfl⟩ ⟨Nat.le_of_ble_eq_true rfl, Nat.le_of_ble_eq_true rfl⟩ fc_0 rfl (by decide) rfl hl.1 rfl (Nat.le_of_ble_eq_true rfl) dX11_order_57 ⟨Nat.zero_le _, Nat.zero_le _⟩) (fun H locs hI => ?_)
          exact fm_ri hC hI hr hlk hf dX11_order_60
      · have hf := fm_pT hf hc
        refine lv_aload_n hx hb dX11_order_42 rfl (lv_at hl 1 rfl) ?_
        refine lv_ldc (v := (-1000000004 : Int32)) hx hb hown (hts _ q_282) dX11_order_43 ?_
        obtain ⟨r38, σ39, hq40, hf⟩ := fm_bE hf
        refine fm_ci hI (fm_runV (As := [.int (-1000000004 : Int32)]) (rest := []) (rm := { frames := 1, cells := 0, slots := 0, locals := 22 }) hC hI (c_X11_tell hC.2.2.1 hq40) mV_X11_tell q_241 ⟨rfl, rfl⟩ ⟨Nat.le_of_ble_eq_true rfl, Nat.le_of_ble_eq_true rfl⟩ fc_0 rfl (by decide) rfl hl.1 rfl (Nat.le_of_ble_eq_true rfl) dX11_order_45 ⟨Nat.zero_le _, Nat.zero_le _⟩) (fun H locs hI => ?_)
        exact fm_ri hC hI hr hlk hf dX11_order_48
    · have hf := fm_pT hf hc
      refine lv_aload_n hx hb dX11_order_18 rfl (lv_at hl 0 rfl) ?_
      refine lv_ldc (v := (-1000000001 : Int32)) hx hb hown (hts _ q_240) dX11_order_19 ?_
      obtain ⟨r41, σ42, hq43, hf⟩ := fm_bE hf
      refine fm_ci hI (fm_runV (As := [.int (-1000000001 : Int32)]) (rest := []) (rm := { frames := 1, cells := 0, slots := 0, locals := 22 }) hC hI (c_X11_tell hC.2.2.1 hq43) mV_X11_tell q_241 ⟨rfl, rfl⟩ ⟨Nat.le_of_ble_eq_true rfl, Nat.le_of_ble_eq_true rfl⟩ fc_0 rfl (by decide) rfl hl.1 rfl (Nat.le_of_ble_eq_true rfl) dX11_order_21 ⟨Nat.zero_le _, Nat.zero_le _⟩) (fun H locs hI => ?_)
      exact fm_ri hC hI hr hlk hf dX11_order_24
def m_X11_happiest_50 (kc : Int32 → Int32 → fm_M → Option (Int32 × fm_M)) : Nat → Int32 → Int32 → fm_M → Option (Int32 × fm_M)
  | 0, _, _, _ => none
  | n + 1, z2, z3, σ => if (σ.1 58 4) ≤ z3 then (kc z2 z3 σ) else (fm_g (fm_in1 z3 6) (fm_g (fm_in1 z2 6) (if (σ.1 (58 + 2 + z3.toNatClampNeg) 1) ≤ (σ.1 (58 + 2 + z2.toNatClampNeg) 1) then (m_X11_happiest_50 kc n z2 (z3 + (1 : Int32)) σ) else (m_X11_happiest_50 kc n z3 (z3 + (1 : Int32)) σ))))
def m_X11_happiest (a1 : Int32) (σ : fm_M) : Option (Int32 × fm_M) := fm_b (m_X11_within a1 (0 : Int32) (60 : Int32) σ) fun r1 σ2 => (if r1 = 0 then (fm_b (m_X11_tell (-1000000001 : Int32) σ2) fun r16 σ17 => (some (r16, σ17))) else (if (σ2.1 8 4) = 0 then (fm_b (m_X11_tell (-1000000004 : Int32) σ2) fun r13 σ14 => (some (r13, σ14))) else (fm_b (m_X11_startTrial  σ2) fun _u4 σ5 => (fm_b (m_X10_goOn 58 a1 σ5) fun _u7 σ8 => (m_X11_happiest_50 (fun (x2_y12 : Int32) (x3_y12 : Int32) (σ_y12 : fm_M) => some (x2_y12, σ_y12)) fm_fu (0 : Int32) (1 : Int32) σ8)))))
set_option maxHeartbeats 4000000 in
set_option maxRecDepth 100000 in
theorem w_X11_happiest_50 {p : Program} {l : Launch} {e : Env} {s : State} {m : MethodId} {args : Array Value} {below : List Frame} {meth : Method} {c : Code} {G : fm_G} {o : Int32 × fm_M} {kc : Int32 → Int32 → fm_M → Option (Int32 × fm_M)} (hC : fm_C G p m c cX11_happiest 4 s args RX11) (hr : meth.sig.returnType = (some .int)) (hlk : meth.locks = false) (hk : ∀ (z2 : Int32) (z3 : Int32) (σ : fm_M) (H : Heap) (locs : List Loc) (ls : Array Slot), fm_I G σ s H locs → lv_has ls 4 [(0, .ref (G.2.1 0)), (2, .int z2), (3, .int z3)] → kc z2 z3 σ = some o → W p l e { frames := 6, cells := 0, slots := 0, locals := 140 } s m args below meth c H locs 0 0 (MQ below (fm_Qi G o) args s 0 0 (fm_A G)) (F0 m 96 ls [])) (n : Nat) : ∀ (z2 : Int32) (z3 : Int32) (σ : fm_M) (H : Heap) (locs : List Loc) (ls : Array Slot), fm_I G σ s H locs → lv_has ls 4 [(0, .ref (G.2.1 0)), (2, .int z2), (3, .int z3)] → m_X11_happiest_50 kc n z2 z3 σ = some o → W p l e { frames := 6, cells := 0, slots := 0, locals := 140 } s m args below meth c H locs 0 0 (MQ below (fm_Qi G o) args s 0 0 (fm_A G)) (F0 m 50 ls []) := by
  have hx := hC.1.1
  have hb := hC.1.2.1
  have hown := hC.1.2.2.2.1
  have hts := hC.1.2.2.2.2
  induction n with
  | zero =>
    intro z2 z3 σ H locs ls hI hl hf
    cases hf
  | succ n ih =>
    intro z2 z3 σ H locs ls hI hl hf
    rw [m_X11_happiest_50] at hf
    refine lv_iload_n hx hb dX11_happiest_50 rfl (lv_at hl 2 rfl) ?_
    refine lv_aload_n hx hb dX11_happiest_51 rfl (lv_at hl 0 rfl) ?_
    refine fm_gr hC hI fd_X11_2 fc_0 fr_0_2 q_207 dX11_happiest_52 ?_
    refine fm_gi hC hI fd_X10_4 fc_58 q_140 dX11_happiest_55 ?_
    refine lv_icmp_ge (tgt := 96) hx hb dX11_happiest_58 (by decide) (fun hc => ?_) (fun hc => ?_)
    · have hf := fm_pT hf hc
      exact hk z2 z3 σ _ _ _ hI (lv_sub hl [0, 1, 2] rfl) hf
    · have hf := fm_pF hf hc
      refine lv_aload_n hx hb dX11_happiest_61 rfl (lv_at hl 0 rfl) ?_
      refine fm_gr hC hI fd_X11_2 fc_0 fr_0_2 q_207 dX11_happiest_62 ?_
      refine fm_gr hC hI fd_X10_1 fc_58 fr_58_1 q_133 dX11_happiest_65 ?_
      refine lv_iload_n hx hb dX11_happiest_68 rfl (lv_at hl 2 rfl) ?_
      obtain ⟨hg10, hf⟩ := fm_gE hf
      refine fm_aald (t0 := 4) hC hI fc_59 (by decide) (by decide) rfl fl_59 hg10 (fm_T3 (x := z3) fc_58 hg10).2 dX11_happiest_69 ?_
      refine fm_gi hC hI fd_X5_1 (fm_T3 (x := z3) fc_58 hg10).1 q_93 dX11_happiest_70 ?_
      refine lv_aload_n hx hb dX11_happiest_73 rfl (lv_at hl 0 rfl) ?_
      refine fm_gr hC hI fd_X11_2 fc_0 fr_0_2 q_207 dX11_happiest_74 ?_
      refine fm_gr hC hI fd_X10_1 fc_58 fr_58_1 q_133 dX11_happiest_77 ?_
      refine lv_iload_n hx hb dX11_happiest_80 rfl (lv_at hl 1 rfl) ?_
      obtain ⟨hg11, hf⟩ := fm_gE hf
      refine fm_aald (t0 := 4) hC hI fc_59 (by decide) (by decide) rfl fl_59 hg11 (fm_T3 (x := z2) fc_58 hg11).2 dX11_happiest_81 ?_
      refine fm_gi hC hI fd_X5_1 (fm_T3 (x := z2) fc_58 hg11).1 q_93 dX11_happiest_82 ?_
      refine lv_icmp_le (tgt := 90) hx hb dX11_happiest_85 (by decide) (fun hc => ?_) (fun hc => ?_)
      · have hf := fm_pT hf hc
        refine lv_iinc (v := (z3 + (1 : Int32))) (lv' := [(3, .int (z3 + (1 : Int32))), (0, .ref (G.2.1 0)), (2, .int z2)]) hx hb dX11_happiest_90 hl (k := 2) rfl rfl (Nat.le_of_ble_eq_true rfl) rfl (fun ls hl => ?_)
        refine lv_goto (tgt := 50) hx hb dX11_happiest_93 (by decide) ?_
        exact ih z2 (z3 + (1 : Int32)) σ _ _ _ hI (lv_sub hl [1, 2, 0] rfl) hf
      · have hf := fm_pF hf hc
        refine lv_iload_n hx hb dX11_happiest_88 rfl (lv_at hl 2 rfl) ?_
        refine lv_istore_n (lv' := [(2, .int z3), (0, .ref (G.2.1 0)), (3, .int z3)]) hx hb dX11_happiest_89 rfl hl (Nat.le_of_ble_eq_true rfl) rfl (fun ls hl => ?_)
        refine lv_iinc (v := (z3 + (1 : Int32))) (lv' := [(3, .int (z3 + (1 : Int32))), (2, .int z3), (0, .ref (G.2.1 0))]) hx hb dX11_happiest_90 hl (k := 2) rfl rfl (Nat.le_of_ble_eq_true rfl) rfl (fun ls hl => ?_)
        refine lv_goto (tgt := 50) hx hb dX11_happiest_93 (by decide) ?_
        exact ih z3 (z3 + (1 : Int32)) σ _ _ _ hI (lv_sub hl [2, 1, 0] rfl) hf
set_option maxHeartbeats 4000000 in
set_option maxRecDepth 100000 in
theorem c_X11_happiest {l : Launch} {G : fm_G} (hJ : fm_J G) {a1 : Int32} {σ : fm_M} {o : Int32 × fm_M}  (hf : m_X11_happiest a1 σ = some o) : Met l yX11_happiest (fm_w yX11_happiest cX11_happiest 4 (some .int)) { frames := 6, cells := 0, slots := 0, locals := 140 } (va_Pc [.ref (G.2.1 0), .int a1] (fm_st G σ)) (fm_Qi G o) 0 0 (fm_A G) := by
  refine fm_mth (own := RX11) hJ rfl (by decide +kernel) (Nat.le_of_ble_eq_true rfl) ?_
  intro p e s m below meth c ls hC hr hlk hI hl
  have hx := hC.1.1
  have hb := hC.1.2.1
  have hown := hC.1.2.2.2.1
  have hts := hC.1.2.2.2.2
  have hl : lv_has ls 4 [(0, .ref (G.2.1 0)), (1, .int a1)] := hl
  rw [m_X11_happiest] at hf
  refine lv_iload_n hx hb dX11_happiest_0 rfl (lv_at hl 1 rfl) ?_
  refine lv_iconst (v := (0 : Int32)) hx hb dX11_happiest_1 (by decide) ?_
  refine lv_bipush (v := (60 : Int32)) hx hb dX11_happiest_2 (by decide) ?_
  obtain ⟨r1, σ2, hq3, hf⟩ := fm_bE hf
  refine fm_ci hI (fm_runS (As := [.int a1, .int (0 : Int32), .int (60 : Int32)]) (rest := []) (rm := { frames := 0, cells := 0, slots := 0, locals := 0 }) hC hI (c_X11_within hC.2.2.1 hq3) mS_X11_within q_237 ⟨rfl, rfl⟩ ⟨Nat.le_of_ble_eq_true rfl, Nat.le_of_ble_eq_true rfl⟩ rfl hl.1 rfl (Nat.le_of_ble_eq_true rfl) dX11_happiest_4 ⟨Nat.zero_le _, Nat.zero_le _⟩) (fun H locs hI => ?_)
  refine lv_if_ne (tgt := 17) hx hb dX11_happiest_7 (by decide) (fun hc => ?_) (fun hc => ?_)
  · have hf := fm_pF hf hc
    refine lv_aload_n hx hb dX11_happiest_17 rfl (lv_at hl 0 rfl) ?_
    refine fm_gr hC hI fd_X11_0 fc_0 fr_0_0 q_205 dX11_happiest_18 ?_
    refine fm_gi hC hI fd_X10_4 fc_8 q_140 dX11_happiest_21 ?_
    refine lv_if_ne (tgt := 34) hx hb dX11_happiest_24 (by decide) (fun hc => ?_) (fun hc => ?_)
    · have hf := fm_pF hf hc
      refine lv_aload_n hx hb dX11_happiest_34 rfl (lv_at hl 0 rfl) ?_
      obtain ⟨_u4, σ5, hq6, hf⟩ := fm_bE hf
      refine fm_cv hI (fm_runV (As := []) (rest := []) (rm := { frames := 2, cells := 0, slots := 0, locals := 44 }) hC hI (c_X11_startTrial hC.2.2.1 hq6) mV_X11_startTrial q_508 ⟨rfl, rfl⟩ ⟨Nat.le_of_ble_eq_true rfl, Nat.le_of_ble_eq_true rfl⟩ fc_0 rfl (by decide) rfl hl.1 rfl (Nat.le_of_ble_eq_true rfl) dX11_happiest_35 ⟨Nat.zero_le _, Nat.zero_le _⟩) (fun H locs hI => ?_)
      refine lv_aload_n hx hb dX11_happiest_38 rfl (lv_at hl 0 rfl) ?_
      refine fm_gr hC hI fd_X11_2 fc_0 fr_0_2 q_207 dX11_happiest_39 ?_
      refine lv_iload_n hx hb dX11_happiest_42 rfl (lv_at hl 1 rfl) ?_
      obtain ⟨_u7, σ8, hq9, hf⟩ := fm_bE hf
      refine fm_cv hI (fm_runV (As := [.int a1]) (rest := []) (rm := { frames := 5, cells := 0, slots := 0, locals := 118 }) hC hI (c_X10_goOn hC.2.2.1 fc_58 hq9) mV_X10_goOn q_460 ⟨rfl, rfl⟩ ⟨Nat.le_of_ble_eq_true rfl, Nat.le_of_ble_eq_true rfl⟩ fc_58 rfl (by decide) rfl hl.1 rfl (Nat.le_of_ble_eq_true rfl) dX11_happiest_43 ⟨Nat.zero_le _, Nat.zero_le _⟩) (fun H locs hI => ?_)
      refine lv_iconst (v := (0 : Int32)) hx hb dX11_happiest_46 (by decide) ?_
      refine lv_istore_n (lv' := [(2, .int (0 : Int32)), (0, .ref (G.2.1 0)), (1, .int a1)]) hx hb dX11_happiest_47 rfl hl (Nat.le_of_ble_eq_true rfl) rfl (fun ls hl => ?_)
      refine lv_iconst (v := (1 : Int32)) hx hb dX11_happiest_48 (by decide) ?_
      refine lv_istore_n (lv' := [(3, .int (1 : Int32)), (2, .int (0 : Int32)), (0, .ref (G.2.1 0)), (1, .int a1)]) hx hb dX11_happiest_49 rfl hl (Nat.le_of_ble_eq_true rfl) rfl (fun ls hl => ?_)
      refine w_X11_happiest_50 hC hr hlk (fun x2_y12 x3_y12 σ_y12 H locs ls hI hl hf => ?_) fm_fu (0 : Int32) (1 : Int32) σ8 _ _ _ hI (lv_sub hl [2, 1, 0] rfl) hf
      refine lv_iload_n hx hb dX11_happiest_96 rfl (lv_at hl 1 rfl) ?_
      exact fm_ri hC hI hr hlk hf dX11_happiest_97
    · have hf := fm_pT hf hc
      refine lv_aload_n hx hb dX11_happiest_27 rfl (lv_at hl 0 rfl) ?_
      refine lv_ldc (v := (-1000000004 : Int32)) hx hb hown (hts _ q_282) dX11_happiest_28 ?_
      obtain ⟨r13, σ14, hq15, hf⟩ := fm_bE hf
      refine fm_ci hI (fm_runV (As := [.int (-1000000004 : Int32)]) (rest := []) (rm := { frames := 1, cells := 0, slots := 0, locals := 22 }) hC hI (c_X11_tell hC.2.2.1 hq15) mV_X11_tell q_241 ⟨rfl, rfl⟩ ⟨Nat.le_of_ble_eq_true rfl, Nat.le_of_ble_eq_true rfl⟩ fc_0 rfl (by decide) rfl hl.1 rfl (Nat.le_of_ble_eq_true rfl) dX11_happiest_30 ⟨Nat.zero_le _, Nat.zero_le _⟩) (fun H locs hI => ?_)
      exact fm_ri hC hI hr hlk hf dX11_happiest_33
  · have hf := fm_pT hf hc
    refine lv_aload_n hx hb dX11_happiest_10 rfl (lv_at hl 0 rfl) ?_
    refine lv_ldc (v := (-1000000001 : Int32)) hx hb hown (hts _ q_240) dX11_happiest_11 ?_
    obtain ⟨r16, σ17, hq18, hf⟩ := fm_bE hf
    refine fm_ci hI (fm_runV (As := [.int (-1000000001 : Int32)]) (rest := []) (rm := { frames := 1, cells := 0, slots := 0, locals := 22 }) hC hI (c_X11_tell hC.2.2.1 hq18) mV_X11_tell q_241 ⟨rfl, rfl⟩ ⟨Nat.le_of_ble_eq_true rfl, Nat.le_of_ble_eq_true rfl⟩ fc_0 rfl (by decide) rfl hl.1 rfl (Nat.le_of_ble_eq_true rfl) dX11_happiest_13 ⟨Nat.zero_le _, Nat.zero_le _⟩) (fun H locs hI => ?_)
    exact fm_ri hC hI hr hlk hf dX11_happiest_16
def m_X11_enough_88 (kc : Int32 → Int32 → Int32 → Int32 → Int32 → Int32 → fm_M → Option (Int32 × fm_M)) : Nat → Int32 → Int32 → Int32 → Int32 → Int32 → Int32 → fm_M → Option (Int32 × fm_M)
  | 0, _, _, _, _, _, _, _ => none
  | n + 1, z1, z2, z3, z4, z5, z6, σ => if z5 ≤ z6 then (kc z1 z2 z3 z4 z5 z6 σ) else (fm_g (fm_in1 z1 8) (fm_b (m_X7_layAbout (58 + 9 + 2 * z1.toNatClampNeg) z2 σ) fun _u22 σ23 => (m_X11_enough_88 kc n z1 z2 z3 z4 z5 (z6 + (1 : Int32)) σ23)))
def m_X11_enough_74 (kc : Int32 → Int32 → Int32 → Int32 → Int32 → fm_M → Option (Int32 × fm_M)) : Nat → Int32 → Int32 → Int32 → Int32 → Int32 → fm_M → Option (Int32 × fm_M)
  | 0, _, _, _, _, _, _ => none
  | n + 1, z1, z2, z3, z4, z5, σ => if z4 < z5 then (kc z1 z2 z3 z4 z5 σ) else (fm_b (m_X11_startTrial  σ) fun _u18 σ19 => (m_X11_enough_88 (fun (x1_y25 : Int32) (x2_y25 : Int32) (x3_y25 : Int32) (x4_y25 : Int32) (x5_y25 : Int32) (x6_y25 : Int32) (σ_y25 : fm_M) => fm_b (m_X10_goOn 58 x3_y25 σ_y25) fun _u26 σ27 => (fm_g (fm_in1 x1_y25 8) (if (σ27.1 (58 + 9 + 2 * x1_y25.toNatClampNeg) 4) = 0 then (some (x5_y25, σ27)) else (m_X11_enough_74 kc n x1_y25 x2_y25 x3_y25 x4_y25 (x5_y25 + (1 : Int32)) σ27)))) fm_fu z1 z2 z3 z4 z5 (0 : Int32) σ19))
def m_X11_enough (a1 : Int32) (a2 : Int32) (a3 : Int32) (σ : fm_M) : Option (Int32 × fm_M) := fm_b (m_X11_isPresent a1 σ) fun r1 σ2 => (if r1 = 0 then (fm_b (m_X11_tell (-1000000001 : Int32) σ2) fun r4 σ5 => (some (r4, σ5))) else (fm_b (m_X11_isPaper a2 σ2) fun r7 σ8 => (if r7 = 0 then (fm_b (m_X11_tell (-1000000001 : Int32) σ8) fun r10 σ11 => (some (r10, σ11))) else (fm_b (m_X11_within a3 (1 : Int32) (30 : Int32) σ8) fun r13 σ14 => (if r13 = 0 then (fm_b (m_X11_tell (-1000000001 : Int32) σ14) fun r37 σ38 => (some (r37, σ38))) else (fm_g (fm_in1 a1 8) (if (σ14.1 (8 + 9 + 2 * a1.toNatClampNeg) 4) = 0 then (fm_g (fm_in1 a1 8) (m_X11_enough_74 (fun (x1_y30 : Int32) (x2_y30 : Int32) (x3_y30 : Int32) (x4_y30 : Int32) (x5_y30 : Int32) (σ_y30 : fm_M) => fm_b (m_X11_tell (-1000000004 : Int32) σ_y30) fun r31 σ32 => (some (r31, σ32))) fm_fu a1 a2 a3 ((6 : Int32) - (σ14.1 (8 + 9 + 2 * a1.toNatClampNeg) 1)) (0 : Int32) σ14)) else (fm_b (m_X11_tell (-1000000005 : Int32) σ14) fun r34 σ35 => (some (r34, σ35))))))))))
set_option maxHeartbeats 4000000 in
set_option maxRecDepth 100000 in
theorem w_X11_enough_88 {p : Program} {l : Launch} {e : Env} {s : State} {m : MethodId} {args : Array Value} {below : List Frame} {meth : Method} {c : Code} {G : fm_G} {o : Int32 × fm_M} {kc : Int32 → Int32 → Int32 → Int32 → Int32 → Int32 → fm_M → Option (Int32 × fm_M)} (hC : fm_C G p m c cX11_enough 7 s args RX11) (hr : meth.sig.returnType = (some .int)) (hlk : meth.locks = false) (hk : ∀ (z1 : Int32) (z2 : Int32) (z3 : Int32) (z4 : Int32) (z5 : Int32) (z6 : Int32) (σ : fm_M) (H : Heap) (locs : List Loc) (ls : Array Slot), fm_I G σ s H locs → lv_has ls 7 [(0, .ref (G.2.1 0)), (1, .int z1), (2, .int z2), (3, .int z3), (4, .int z4), (5, .int z5), (6, .int z6)] → kc z1 z2 z3 z4 z5 z6 σ = some o → W p l e { frames := 6, cells := 0, slots := 0, locals := 140 } s m args below meth c H locs 0 0 (MQ below (fm_Qi G o) args s 0 0 (fm_A G)) (F0 m 114 ls [])) (n : Nat) : ∀ (z1 : Int32) (z2 : Int32) (z3 : Int32) (z4 : Int32) (z5 : Int32) (z6 : Int32) (σ : fm_M) (H : Heap) (locs : List Loc) (ls : Array Slot), fm_I G σ s H locs → lv_has ls 7 [(0, .ref (G.2.1 0)), (1, .int z1), (2, .int z2), (3, .int z3), (4, .int z4), (5, .int z5), (6, .int z6)] → m_X11_enough_88 kc n z1 z2 z3 z4 z5 z6 σ = some o → W p l e { frames := 6, cells := 0, slots := 0, locals := 140 } s m args below meth c H locs 0 0 (MQ below (fm_Qi G o) args s 0 0 (fm_A G)) (F0 m 88 ls []) := by
  have hx := hC.1.1
  have hb := hC.1.2.1
  have hown := hC.1.2.2.2.1
  have hts := hC.1.2.2.2.2
  induction n with
  | zero =>
    intro z1 z2 z3 z4 z5 z6 σ H locs ls hI hl hf
    cases hf
  | succ n ih =>
    intro z1 z2 z3 z4 z5 z6 σ H locs ls hI hl hf
    rw [m_X11_enough_88] at hf
    refine lv_iload hx hb dX11_enough_88 (lv_at hl 6 rfl) ?_
    refine lv_iload hx hb dX11_enough_90 (lv_at hl 5 rfl) ?_
    refine lv_icmp_ge (tgt := 114) hx hb dX11_enough_92 (by decide) (fun hc => ?_) (fun hc => ?_)
    · have hf := fm_pT hf hc
      exact hk z1 z2 z3 z4 z5 z6 σ _ _ _ hI (lv_sub hl [0, 1, 2, 3, 4, 5, 6] rfl) hf
    · have hf := fm_pF hf hc
      refine lv_aload_n hx hb dX11_enough_95 rfl (lv_at hl 0 rfl) ?_
      refine fm_gr hC hI fd_X11_2 fc_0 fr_0_2 q_207 dX11_enough_96 ?_
      refine fm_gr hC hI fd_X10_2 fc_58 fr_58_2 q_135 dX11_enough_99 ?_
      refine lv_iload_n hx hb dX11_enough_102 rfl (lv_at hl 1 rfl) ?_
      obtain ⟨hg21, hf⟩ := fm_gE hf
      refine fm_aald (t0 := 5) hC hI fc_66 (by decide) (by decide) rfl fl_66 hg21 (fm_T4 (x := z1) fc_58 hg21).2 dX11_enough_103 ?_
      refine lv_iload_n hx hb dX11_enough_104 rfl (lv_at hl 2 rfl) ?_
      obtain ⟨_u22, σ23, hq24, hf⟩ := fm_bE hf
      refine fm_cv hI (fm_runV (As := [.int z2]) (rest := []) (rm := { frames := 0, cells := 0, slots := 0, locals := 0 }) hC hI (c_X7_layAbout hC.2.2.1 (fm_T4 (x := z1) fc_58 hg21).1 hq24) mV_X7_layAbout q_439 ⟨rfl, rfl⟩ ⟨Nat.le_of_ble_eq_true rfl, Nat.le_of_ble_eq_true rfl⟩ (fm_T4 (x := z1) fc_58 hg21).1 rfl (by decide) rfl hl.1 rfl (Nat.le_of_ble_eq_true rfl) dX11_enough_105 ⟨Nat.zero_le _, Nat.zero_le _⟩) (fun H locs hI => ?_)
      refine lv_iinc (v := (z6 + (1 : Int32))) (lv' := [(6, .int (z6 + (1 : Int32))), (0, .ref (G.2.1 0)), (1, .int z1), (2, .int z2), (3, .int z3), (4, .int z4), (5, .int z5)]) hx hb dX11_enough_108 hl (k := 6) rfl rfl (Nat.le_of_ble_eq_true rfl) rfl (fun ls hl => ?_)
      refine lv_goto (tgt := 88) hx hb dX11_enough_111 (by decide) ?_
      exact ih z1 z2 z3 z4 z5 (z6 + (1 : Int32)) σ23 _ _ _ hI (lv_sub hl [1, 2, 3, 4, 5, 6, 0] rfl) hf
set_option maxHeartbeats 4000000 in
set_option maxRecDepth 100000 in
theorem w_X11_enough_74 {p : Program} {l : Launch} {e : Env} {s : State} {m : MethodId} {args : Array Value} {below : List Frame} {meth : Method} {c : Code} {G : fm_G} {o : Int32 × fm_M} {kc : Int32 → Int32 → Int32 → Int32 → Int32 → fm_M → Option (Int32 × fm_M)} (hC : fm_C G p m c cX11_enough 7 s args RX11) (hr : meth.sig.returnType = (some .int)) (hlk : meth.locks = false) (hk : ∀ (z1 : Int32) (z2 : Int32) (z3 : Int32) (z4 : Int32) (z5 : Int32) (σ : fm_M) (H : Heap) (locs : List Loc) (ls : Array Slot), fm_I G σ s H locs → lv_has ls 7 [(0, .ref (G.2.1 0)), (1, .int z1), (2, .int z2), (3, .int z3), (4, .int z4), (5, .int z5)] → kc z1 z2 z3 z4 z5 σ = some o → W p l e { frames := 6, cells := 0, slots := 0, locals := 140 } s m args below meth c H locs 0 0 (MQ below (fm_Qi G o) args s 0 0 (fm_A G)) (F0 m 146 ls [])) (n : Nat) : ∀ (z1 : Int32) (z2 : Int32) (z3 : Int32) (z4 : Int32) (z5 : Int32) (σ : fm_M) (H : Heap) (locs : List Loc) (ls : Array Slot), fm_I G σ s H locs → lv_has ls 7 [(0, .ref (G.2.1 0)), (1, .int z1), (2, .int z2), (3, .int z3), (4, .int z4), (5, .int z5)] → m_X11_enough_74 kc n z1 z2 z3 z4 z5 σ = some o → W p l e { frames := 6, cells := 0, slots := 0, locals := 140 } s m args below meth c H locs 0 0 (MQ below (fm_Qi G o) args s 0 0 (fm_A G)) (F0 m 74 ls []) := by
  have hx := hC.1.1
  have hb := hC.1.2.1
  have hown := hC.1.2.2.2.1
  have hts := hC.1.2.2.2.2
  induction n with
  | zero =>
    intro z1 z2 z3 z4 z5 σ H locs ls hI hl hf
    cases hf
  | succ n ih =>
    intro z1 z2 z3 z4 z5 σ H locs ls hI hl hf
    rw [m_X11_enough_74] at hf
    refine lv_iload hx hb dX11_enough_74 (lv_at hl 5 rfl) ?_
    refine lv_iload hx hb dX11_enough_76 (lv_at hl 4 rfl) ?_
    refine lv_icmp_gt (tgt := 146) hx hb dX11_enough_78 (by decide) (fun hc => ?_) (fun hc => ?_)
    · have hf := fm_pT hf hc
      exact hk z1 z2 z3 z4 z5 σ _ _ _ hI (lv_sub hl [0, 1, 2, 3, 4, 5] rfl) hf
    · have hf := fm_pF hf hc
      refine lv_aload_n hx hb dX11_enough_81 rfl (lv_at hl 0 rfl) ?_
      obtain ⟨_u18, σ19, hq20, hf⟩ := fm_bE hf
      refine fm_cv hI (fm_runV (As := []) (rest := []) (rm := { frames := 2, cells := 0, slots := 0, locals := 44 }) hC hI (c_X11_startTrial hC.2.2.1 hq20) mV_X11_startTrial q_508 ⟨rfl, rfl⟩ ⟨Nat.le_of_ble_eq_true rfl, Nat.le_of_ble_eq_true rfl⟩ fc_0 rfl (by decide) rfl hl.1 rfl (Nat.le_of_ble_eq_true rfl) dX11_enough_82 ⟨Nat.zero_le _, Nat.zero_le _⟩) (fun H locs hI => ?_)
      refine lv_iconst (v := (0 : Int32)) hx hb dX11_enough_85 (by decide) ?_
      refine lv_istore (lv' := [(6, .int (0 : Int32)), (0, .ref (G.2.1 0)), (1, .int z1), (2, .int z2), (3, .int z3), (4, .int z4), (5, .int z5)]) hx hb dX11_enough_86 hl (Nat.le_of_ble_eq_true rfl) rfl (fun ls hl => ?_)
      refine w_X11_enough_88 hC hr hlk (fun x1_y25 x2_y25 x3_y25 x4_y25 x5_y25 x6_y25 σ_y25 H locs ls hI hl hf => ?_) fm_fu z1 z2 z3 z4 z5 (0 : Int32) σ19 _ _ _ hI (lv_sub hl [1, 2, 3, 4, 5, 6, 0] rfl) hf
      refine lv_aload_n hx hb dX11_enough_114 rfl (lv_at hl 0 rfl) ?_
      refine fm_gr hC hI fd_X11_2 fc_0 fr_0_2 q_207 dX11_enough_115 ?_
      refine lv_iload_n hx hb dX11_enough_118 rfl (lv_at hl 3 rfl) ?_
      obtain ⟨_u26, σ27, hq28, hf⟩ := fm_bE hf
      refine fm_cv hI (fm_runV (As := [.int x3_y25]) (rest := []) (rm := { frames := 5, cells := 0, slots := 0, locals := 118 }) hC hI (c_X10_goOn hC.2.2.1 fc_58 hq28) mV_X10_goOn q_460 ⟨rfl, rfl⟩ ⟨Nat.le_of_ble_eq_true rfl, Nat.le_of_ble_eq_true rfl⟩ fc_58 rfl (by decide) rfl hl.1 rfl (Nat.le_of_ble_eq_true rfl) dX11_enough_119 ⟨Nat.zero_le _, Nat.zero_le _⟩) (fun H locs hI => ?_)
      refine lv_aload_n hx hb dX11_enough_122 rfl (lv_at hl 0 rfl) ?_
      refine fm_gr hC hI fd_X11_2 fc_0 fr_0_2 q_207 dX11_enough_123 ?_
      refine fm_gr hC hI fd_X10_2 fc_58 fr_58_2 q_135 dX11_enough_126 ?_
      refine lv_iload_n hx hb dX11_enough_129 rfl (lv_at hl 1 rfl) ?_
      obtain ⟨hg29, hf⟩ := fm_gE hf
      refine fm_aald (t0 := 5) hC hI fc_66 (by decide) (by decide) rfl fl_66 hg29 (fm_T4 (x := x1_y25) fc_58 hg29).2 dX11_enough_130 ?_
      refine fm_gi hC hI fd_X7_4 (fm_T4 (x := x1_y25) fc_58 hg29).1 q_118 dX11_enough_131 ?_
      refine lv_if_ne (tgt := 140) hx hb dX11_enough_134 (by decide) (fun hc => ?_) (fun hc => ?_)
      · have hf := fm_pF hf hc
        refine lv_iinc (v := (x5_y25 + (1 : Int32))) (lv' := [(5, .int (x5_y25 + (1 : Int32))), (0, .ref (G.2.1 0)), (1, .int x1_y25), (2, .int x2_y25), (3, .int x3_y25), (4, .int x4_y25), (6, .int x6_y25)]) hx hb dX11_enough_140 hl (k := 5) rfl rfl (Nat.le_of_ble_eq_true rfl) rfl (fun ls hl => ?_)
        refine lv_goto (tgt := 74) hx hb dX11_enough_143 (by decide) ?_
        exact ih x1_y25 x2_y25 x3_y25 x4_y25 (x5_y25 + (1 : Int32)) σ27 _ _ _ hI (lv_sub hl [1, 2, 3, 4, 5, 0] rfl) hf
      · have hf := fm_pT hf hc
        refine lv_iload hx hb dX11_enough_137 (lv_at hl 5 rfl) ?_
        exact fm_ri hC hI hr hlk hf dX11_enough_139
set_option maxHeartbeats 4000000 in
set_option maxRecDepth 100000 in
theorem c_X11_enough {l : Launch} {G : fm_G} (hJ : fm_J G) {a1 : Int32} {a2 : Int32} {a3 : Int32} {σ : fm_M} {o : Int32 × fm_M}  (hf : m_X11_enough a1 a2 a3 σ = some o) : Met l yX11_enough (fm_w yX11_enough cX11_enough 7 (some .int)) { frames := 6, cells := 0, slots := 0, locals := 140 } (va_Pc [.ref (G.2.1 0), .int a1, .int a2, .int a3] (fm_st G σ)) (fm_Qi G o) 0 0 (fm_A G) := by
  refine fm_mth (own := RX11) hJ rfl (by decide +kernel) (Nat.le_of_ble_eq_true rfl) ?_
  intro p e s m below meth c ls hC hr hlk hI hl
  have hx := hC.1.1
  have hb := hC.1.2.1
  have hown := hC.1.2.2.2.1
  have hts := hC.1.2.2.2.2
  have hl : lv_has ls 7 [(0, .ref (G.2.1 0)), (1, .int a1), (2, .int a2), (3, .int a3)] := hl
  rw [m_X11_enough] at hf
  refine lv_aload_n hx hb dX11_enough_0 rfl (lv_at hl 0 rfl) ?_
  refine lv_iload_n hx hb dX11_enough_1 rfl (lv_at hl 1 rfl) ?_
  obtain ⟨r1, σ2, hq3, hf⟩ := fm_bE hf
  refine fm_ci hI (fm_runV (As := [.int a1]) (rest := []) (rm := { frames := 1, cells := 0, slots := 0, locals := 22 }) hC hI (c_X11_isPresent hC.2.2.1 hq3) mV_X11_isPresent q_274 ⟨rfl, rfl⟩ ⟨Nat.le_of_ble_eq_true rfl, Nat.le_of_ble_eq_true rfl⟩ fc_0 rfl (by decide) rfl hl.1 rfl (Nat.le_of_ble_eq_true rfl) dX11_enough_2 ⟨Nat.zero_le _, Nat.zero_le _⟩) (fun H locs hI => ?_)
  refine lv_if_eq (tgt := 25) hx hb dX11_enough_5 (by decide) (fun hc => ?_) (fun hc => ?_)
  · have hf := fm_pT hf hc
    refine lv_aload_n hx hb dX11_enough_25 rfl (lv_at hl 0 rfl) ?_
    refine lv_ldc (v := (-1000000001 : Int32)) hx hb hown (hts _ q_240) dX11_enough_26 ?_
    obtain ⟨r4, σ5, hq6, hf⟩ := fm_bE hf
    refine fm_ci hI (fm_runV (As := [.int (-1000000001 : Int32)]) (rest := []) (rm := { frames := 1, cells := 0, slots := 0, locals := 22 }) hC hI (c_X11_tell hC.2.2.1 hq6) mV_X11_tell q_241 ⟨rfl, rfl⟩ ⟨Nat.le_of_ble_eq_true rfl, Nat.le_of_ble_eq_true rfl⟩ fc_0 rfl (by decide) rfl hl.1 rfl (Nat.le_of_ble_eq_true rfl) dX11_enough_28 ⟨Nat.zero_le _, Nat.zero_le _⟩) (fun H locs hI => ?_)
    exact fm_ri hC hI hr hlk hf dX11_enough_31
  · have hf := fm_pF hf hc
    refine lv_iload_n hx hb dX11_enough_8 rfl (lv_at hl 2 rfl) ?_
    obtain ⟨r7, σ8, hq9, hf⟩ := fm_bE hf
    refine fm_ci hI (fm_runS (As := [.int a2]) (rest := []) (rm := { frames := 1, cells := 0, slots := 0, locals := 22 }) hC hI (c_X11_isPaper hC.2.2.1 hq9) mS_X11_isPaper q_435 ⟨rfl, rfl⟩ ⟨Nat.le_of_ble_eq_true rfl, Nat.le_of_ble_eq_true rfl⟩ rfl hl.1 rfl (Nat.le_of_ble_eq_true rfl) dX11_enough_9 ⟨Nat.zero_le _, Nat.zero_le _⟩) (fun H locs hI => ?_)
    refine lv_if_eq (tgt := 25) hx hb dX11_enough_12 (by decide) (fun hc => ?_) (fun hc => ?_)
    · have hf := fm_pT hf hc
      refine lv_aload_n hx hb dX11_enough_25 rfl (lv_at hl 0 rfl) ?_
      refine lv_ldc (v := (-1000000001 : Int32)) hx hb hown (hts _ q_240) dX11_enough_26 ?_
      obtain ⟨r10, σ11, hq12, hf⟩ := fm_bE hf
      refine fm_ci hI (fm_runV (As := [.int (-1000000001 : Int32)]) (rest := []) (rm := { frames := 1, cells := 0, slots := 0, locals := 22 }) hC hI (c_X11_tell hC.2.2.1 hq12) mV_X11_tell q_241 ⟨rfl, rfl⟩ ⟨Nat.le_of_ble_eq_true rfl, Nat.le_of_ble_eq_true rfl⟩ fc_0 rfl (by decide) rfl hl.1 rfl (Nat.le_of_ble_eq_true rfl) dX11_enough_28 ⟨Nat.zero_le _, Nat.zero_le _⟩) (fun H locs hI => ?_)
      exact fm_ri hC hI hr hlk hf dX11_enough_31
    · have hf := fm_pF hf hc
      refine lv_iload_n hx hb dX11_enough_15 rfl (lv_at hl 3 rfl) ?_
      refine lv_iconst (v := (1 : Int32)) hx hb dX11_enough_16 (by decide) ?_
      refine lv_bipush (v := (30 : Int32)) hx hb dX11_enough_17 (by decide) ?_
      obtain ⟨r13, σ14, hq15, hf⟩ := fm_bE hf
      refine fm_ci hI (fm_runS (As := [.int a3, .int (1 : Int32), .int (30 : Int32)]) (rest := []) (rm := { frames := 0, cells := 0, slots := 0, locals := 0 }) hC hI (c_X11_within hC.2.2.1 hq15) mS_X11_within q_237 ⟨rfl, rfl⟩ ⟨Nat.le_of_ble_eq_true rfl, Nat.le_of_ble_eq_true rfl⟩ rfl hl.1 rfl (Nat.le_of_ble_eq_true rfl) dX11_enough_19 ⟨Nat.zero_le _, Nat.zero_le _⟩) (fun H locs hI => ?_)
      refine lv_if_ne (tgt := 32) hx hb dX11_enough_22 (by decide) (fun hc => ?_) (fun hc => ?_)
      · have hf := fm_pF hf hc
        refine lv_aload_n hx hb dX11_enough_32 rfl (lv_at hl 0 rfl) ?_
        refine fm_gr hC hI fd_X11_0 fc_0 fr_0_0 q_205 dX11_enough_33 ?_
        refine fm_gr hC hI fd_X10_2 fc_8 fr_8_2 q_135 dX11_enough_36 ?_
        refine lv_iload_n hx hb dX11_enough_39 rfl (lv_at hl 1 rfl) ?_
        obtain ⟨hg16, hf⟩ := fm_gE hf
        refine fm_aald (t0 := 5) hC hI fc_16 (by decide) (by decide) rfl fl_16 hg16 (fm_T4 (x := a1) fc_8 hg16).2 dX11_enough_40 ?_
        refine fm_gi hC hI fd_X7_4 (fm_T4 (x := a1) fc_8 hg16).1 q_118 dX11_enough_41 ?_
        refine lv_if_eq (tgt := 54) hx hb dX11_enough_44 (by decide) (fun hc => ?_) (fun hc => ?_)
        · have hf := fm_pT hf hc
          refine lv_bipush (v := (6 : Int32)) hx hb dX11_enough_54 (by decide) ?_
          refine lv_aload_n hx hb dX11_enough_56 rfl (lv_at hl 0 rfl) ?_
          refine fm_gr hC hI fd_X11_0 fc_0 fr_0_0 q_205 dX11_enough_57 ?_
          refine fm_gr hC hI fd_X10_2 fc_8 fr_8_2 q_135 dX11_enough_60 ?_
          refine lv_iload_n hx hb dX11_enough_63 rfl (lv_at hl 1 rfl) ?_
          obtain ⟨hg17, hf⟩ := fm_gE hf
          refine fm_aald (t0 := 5) hC hI fc_16 (by decide) (by decide) rfl fl_16 hg17 (fm_T4 (x := a1) fc_8 hg17).2 dX11_enough_64 ?_
          refine fm_gi hC hI fd_X7_1 (fm_T4 (x := a1) fc_8 hg17).1 q_108 dX11_enough_65 ?_
          refine lv_isub hx hb dX11_enough_68 ?_
          refine lv_istore (lv' := [(4, .int ((6 : Int32) - (σ14.1 (8 + 9 + 2 * a1.toNatClampNeg) 1))), (0, .ref (G.2.1 0)), (1, .int a1), (2, .int a2), (3, .int a3)]) hx hb dX11_enough_69 hl (Nat.le_of_ble_eq_true rfl) rfl (fun ls hl => ?_)
          refine lv_iconst (v := (0 : Int32)) hx hb dX11_enough_71 (by decide) ?_
          refine lv_istore (lv' := [(5, .int (0 : Int32)), (4, .int ((6 : Int32) - (σ14.1 (8 + 9 + 2 * a1.toNatClampNeg) 1))), (0, .ref (G.2.1 0)), (1, .int a1), (2, .int a2), (3, .int a3)]) hx hb dX11_enough_72 hl (Nat.le_of_ble_eq_true rfl) rfl (fun ls hl => ?_)
          refine w_X11_enough_74 hC hr hlk (fun x1_y30 x2_y30 x3_y30 x4_y30 x5_y30 σ_y30 H locs ls hI hl hf => ?_) fm_fu a1 a2 a3 ((6 : Int32) - (σ14.1 (8 + 9 + 2 * a1.toNatClampNeg) 1)) (0 : Int32) σ14 _ _ _ hI (lv_sub hl [2, 3, 4, 5, 1, 0] rfl) hf
          refine lv_aload_n hx hb dX11_enough_146 rfl (lv_at hl 0 rfl) ?_
          refine lv_ldc (v := (-1000000004 : Int32)) hx hb hown (hts _ q_282) dX11_enough_147 ?_
          obtain ⟨r31, σ32, hq33, hf⟩ := fm_bE hf
          refine fm_ci hI (fm_runV (As := [.int (-1000000004 : Int32)]) (rest := []) (rm := { frames := 1, cells := 0, slots := 0, locals := 22 }) hC hI (c_X11_tell hC.2.2.1 hq33) mV_X11_tell q_241 ⟨rfl, rfl⟩ ⟨Nat.le_of_ble_eq_true rfl, Nat.le_of_ble_eq_true rfl⟩ fc_0 rfl (by decide) rfl hl.1 rfl (Nat.le_of_ble_eq_true rfl) dX11_enough_149 ⟨Nat.zero_le _, Nat.zero_le _⟩) (fun H locs hI => ?_)
          exact fm_ri hC hI hr hlk hf dX11_enough_152
        · have hf := fm_pF hf hc
          refine lv_aload_n hx hb dX11_enough_47 rfl (lv_at hl 0 rfl) ?_
          refine lv_ldc (v := (-1000000005 : Int32)) hx hb hown (hts _ q_438) dX11_enough_48 ?_
          obtain ⟨r34, σ35, hq36, hf⟩ := fm_bE hf
          refine fm_ci hI (fm_runV (As := [.int (-1000000005 : Int32)]) (rest := []) (rm := { frames := 1, cells := 0, slots := 0, locals := 22 }) hC hI (c_X11_tell hC.2.2.1 hq36) mV_X11_tell q_241 ⟨rfl, rfl⟩ ⟨Nat.le_of_ble_eq_true rfl, Nat.le_of_ble_eq_true rfl⟩ fc_0 rfl (by decide) rfl hl.1 rfl (Nat.le_of_ble_eq_true rfl) dX11_enough_50 ⟨Nat.zero_le _, Nat.zero_le _⟩) (fun H locs hI => ?_)
          exact fm_ri hC hI hr hlk hf dX11_enough_53
      · have hf := fm_pT hf hc
        refine lv_aload_n hx hb dX11_enough_25 rfl (lv_at hl 0 rfl) ?_
        refine lv_ldc (v := (-1000000001 : Int32)) hx hb hown (hts _ q_240) dX11_enough_26 ?_
        obtain ⟨r37, σ38, hq39, hf⟩ := fm_bE hf
        refine fm_ci hI (fm_runV (As := [.int (-1000000001 : Int32)]) (rest := []) (rm := { frames := 1, cells := 0, slots := 0, locals := 22 }) hC hI (c_X11_tell hC.2.2.1 hq39) mV_X11_tell q_241 ⟨rfl, rfl⟩ ⟨Nat.le_of_ble_eq_true rfl, Nat.le_of_ble_eq_true rfl⟩ fc_0 rfl (by decide) rfl hl.1 rfl (Nat.le_of_ble_eq_true rfl) dX11_enough_28 ⟨Nat.zero_le _, Nat.zero_le _⟩) (fun H locs hI => ?_)
        exact fm_ri hC hI hr hlk hf dX11_enough_31
def m_X11_feed_41 (kc : Int32 → Int32 → fm_M → Option (Int32 × fm_M)) : Nat → Int32 → Int32 → fm_M → Option (Int32 × fm_M)
  | 0, _, _, _ => none
  | n + 1, z1, z3, σ => if z3 < 0 then (kc z1 z3 σ) else (fm_b (m_X9_add ((z1.toUInt32 >>> (Int32.toUInt32 ((8 : Int32) * z3) &&& Int32.toUInt32 31)).toInt32 &&& (255 : Int32)) σ) fun _u4 σ5 => (m_X11_feed_41 kc n z1 (z3 + (-1 : Int32)) σ5))
def m_X11_feed (a1 : Int32) (a2 : Int32) (σ : fm_M) : Option (Int32 × fm_M) := fm_b (m_X11_within a2 (1 : Int32) (4 : Int32) σ) fun r1 σ2 => (if r1 = 0 then (fm_b (m_X11_tell (-1000000001 : Int32) σ2) fun r11 σ12 => (some (r11, σ12))) else (if ((σ2.1 92 1) + a2) ≤ (120 : Int32) then (m_X11_feed_41 (fun (x1_y7 : Int32) (x3_y7 : Int32) (σ_y7 : fm_M) => some ((σ_y7.1 92 1), σ_y7)) fm_fu a1 (a2 - (1 : Int32)) σ2) else (fm_b (m_X11_tell (-1000000002 : Int32) σ2) fun r8 σ9 => (some (r8, σ9)))))
set_option maxHeartbeats 4000000 in
set_option maxRecDepth 100000 in
theorem w_X11_feed_41 {p : Program} {l : Launch} {e : Env} {s : State} {m : MethodId} {args : Array Value} {below : List Frame} {meth : Method} {c : Code} {G : fm_G} {o : Int32 × fm_M} {kc : Int32 → Int32 → fm_M → Option (Int32 × fm_M)} (hC : fm_C G p m c cX11_feed 4 s args RX11) (hr : meth.sig.returnType = (some .int)) (hlk : meth.locks = false) (hk : ∀ (z1 : Int32) (z3 : Int32) (σ : fm_M) (H : Heap) (locs : List Loc) (ls : Array Slot), fm_I G σ s H locs → lv_has ls 4 [(0, .ref (G.2.1 0)), (1, .int z1), (3, .int z3)] → kc z1 z3 σ = some o → W p l e { frames := 2, cells := 0, slots := 0, locals := 44 } s m args below meth c H locs 0 0 (MQ below (fm_Qi G o) args s 0 0 (fm_A G)) (F0 m 68 ls [])) (n : Nat) : ∀ (z1 : Int32) (z3 : Int32) (σ : fm_M) (H : Heap) (locs : List Loc) (ls : Array Slot), fm_I G σ s H locs → lv_has ls 4 [(0, .ref (G.2.1 0)), (1, .int z1), (3, .int z3)] → m_X11_feed_41 kc n z1 z3 σ = some o → W p l e { frames := 2, cells := 0, slots := 0, locals := 44 } s m args below meth c H locs 0 0 (MQ below (fm_Qi G o) args s 0 0 (fm_A G)) (F0 m 41 ls []) := by
  have hx := hC.1.1
  have hb := hC.1.2.1
  have hown := hC.1.2.2.2.1
  have hts := hC.1.2.2.2.2
  induction n with
  | zero =>
    intro z1 z3 σ H locs ls hI hl hf
    cases hf
  | succ n ih =>
    intro z1 z3 σ H locs ls hI hl hf
    rw [m_X11_feed_41] at hf
    refine lv_iload_n hx hb dX11_feed_41 rfl (lv_at hl 2 rfl) ?_
    refine lv_if_lt (tgt := 68) hx hb dX11_feed_42 (by decide) (fun hc => ?_) (fun hc => ?_)
    · have hf := fm_pT hf hc
      exact hk z1 z3 σ _ _ _ hI (lv_sub hl [0, 1, 2] rfl) hf
    · have hf := fm_pF hf hc
      refine lv_aload_n hx hb dX11_feed_45 rfl (lv_at hl 0 rfl) ?_
      refine fm_gr hC hI fd_X11_5 fc_0 fr_0_5 q_210 dX11_feed_46 ?_
      refine lv_iload_n hx hb dX11_feed_49 rfl (lv_at hl 1 rfl) ?_
      refine lv_bipush (v := (8 : Int32)) hx hb dX11_feed_50 (by decide) ?_
      refine lv_iload_n hx hb dX11_feed_52 rfl (lv_at hl 2 rfl) ?_
      refine lv_imul hx hb dX11_feed_53 ?_
      refine lv_iushr (v := (z1.toUInt32 >>> (Int32.toUInt32 ((8 : Int32) * z3) &&& Int32.toUInt32 31)).toInt32) hx hb dX11_feed_54 rfl ?_
      refine lv_sipush (v := (255 : Int32)) hx hb dX11_feed_55 (by decide) ?_
      refine lv_iand hx hb dX11_feed_58 ?_
      obtain ⟨_u4, σ5, hq6, hf⟩ := fm_bE hf
      refine fm_cv hI (fm_runV (As := [.int ((z1.toUInt32 >>> (Int32.toUInt32 ((8 : Int32) * z3) &&& Int32.toUInt32 31)).toInt32 &&& (255 : Int32))]) (rest := []) (rm := { frames := 0, cells := 0, slots := 0, locals := 0 }) hC hI (c_X9_add hC.2.2.1 hq6) mV_X9_add q_594 ⟨rfl, rfl⟩ ⟨Nat.le_of_ble_eq_true rfl, Nat.le_of_ble_eq_true rfl⟩ fc_92 rfl (by decide) rfl hl.1 rfl (Nat.le_of_ble_eq_true rfl) dX11_feed_59 ⟨Nat.zero_le _, Nat.zero_le _⟩) (fun H locs hI => ?_)
      refine lv_iinc (v := (z3 + (-1 : Int32))) (lv' := [(3, .int (z3 + (-1 : Int32))), (0, .ref (G.2.1 0)), (1, .int z1)]) hx hb dX11_feed_62 hl (k := 2) rfl rfl (Nat.le_of_ble_eq_true rfl) rfl (fun ls hl => ?_)
      refine lv_goto (tgt := 41) hx hb dX11_feed_65 (by decide) ?_
      exact ih z1 (z3 + (-1 : Int32)) σ5 _ _ _ hI (lv_sub hl [1, 2, 0] rfl) hf
set_option maxHeartbeats 4000000 in
set_option maxRecDepth 100000 in
theorem c_X11_feed {l : Launch} {G : fm_G} (hJ : fm_J G) {a1 : Int32} {a2 : Int32} {σ : fm_M} {o : Int32 × fm_M}  (hf : m_X11_feed a1 a2 σ = some o) : Met l yX11_feed (fm_w yX11_feed cX11_feed 4 (some .int)) { frames := 2, cells := 0, slots := 0, locals := 44 } (va_Pc [.ref (G.2.1 0), .int a1, .int a2] (fm_st G σ)) (fm_Qi G o) 0 0 (fm_A G) := by
  refine fm_mth (own := RX11) hJ rfl (by decide +kernel) (Nat.le_of_ble_eq_true rfl) ?_
  intro p e s m below meth c ls hC hr hlk hI hl
  have hx := hC.1.1
  have hb := hC.1.2.1
  have hown := hC.1.2.2.2.1
  have hts := hC.1.2.2.2.2
  have hl : lv_has ls 4 [(0, .ref (G.2.1 0)), (1, .int a1), (2, .int a2)] := hl
  rw [m_X11_feed] at hf
  refine lv_iload_n hx hb dX11_feed_0 rfl (lv_at hl 2 rfl) ?_
  refine lv_iconst (v := (1 : Int32)) hx hb dX11_feed_1 (by decide) ?_
  refine lv_iconst (v := (4 : Int32)) hx hb dX11_feed_2 (by decide) ?_
  obtain ⟨r1, σ2, hq3, hf⟩ := fm_bE hf
  refine fm_ci hI (fm_runS (As := [.int a2, .int (1 : Int32), .int (4 : Int32)]) (rest := []) (rm := { frames := 0, cells := 0, slots := 0, locals := 0 }) hC hI (c_X11_within hC.2.2.1 hq3) mS_X11_within q_237 ⟨rfl, rfl⟩ ⟨Nat.le_of_ble_eq_true rfl, Nat.le_of_ble_eq_true rfl⟩ rfl hl.1 rfl (Nat.le_of_ble_eq_true rfl) dX11_feed_3 ⟨Nat.zero_le _, Nat.zero_le _⟩) (fun H locs hI => ?_)
  refine lv_if_ne (tgt := 16) hx hb dX11_feed_6 (by decide) (fun hc => ?_) (fun hc => ?_)
  · have hf := fm_pF hf hc
    refine lv_aload_n hx hb dX11_feed_16 rfl (lv_at hl 0 rfl) ?_
    refine fm_gr hC hI fd_X11_5 fc_0 fr_0_5 q_210 dX11_feed_17 ?_
    refine fm_gi hC hI fd_X9_1 fc_92 q_187 dX11_feed_20 ?_
    refine lv_iload_n hx hb dX11_feed_23 rfl (lv_at hl 2 rfl) ?_
    refine lv_iadd hx hb dX11_feed_24 ?_
    refine lv_bipush (v := (120 : Int32)) hx hb dX11_feed_25 (by decide) ?_
    refine lv_icmp_le (tgt := 37) hx hb dX11_feed_27 (by decide) (fun hc => ?_) (fun hc => ?_)
    · have hf := fm_pT hf hc
      refine lv_iload_n hx hb dX11_feed_37 rfl (lv_at hl 2 rfl) ?_
      refine lv_iconst (v := (1 : Int32)) hx hb dX11_feed_38 (by decide) ?_
      refine lv_isub hx hb dX11_feed_39 ?_
      refine lv_istore_n (lv' := [(3, .int (a2 - (1 : Int32))), (0, .ref (G.2.1 0)), (1, .int a1), (2, .int a2)]) hx hb dX11_feed_40 rfl hl (Nat.le_of_ble_eq_true rfl) rfl (fun ls hl => ?_)
      refine w_X11_feed_41 hC hr hlk (fun x1_y7 x3_y7 σ_y7 H locs ls hI hl hf => ?_) fm_fu a1 (a2 - (1 : Int32)) σ2 _ _ _ hI (lv_sub hl [1, 2, 0] rfl) hf
      refine lv_aload_n hx hb dX11_feed_68 rfl (lv_at hl 0 rfl) ?_
      refine fm_gr hC hI fd_X11_5 fc_0 fr_0_5 q_210 dX11_feed_69 ?_
      refine fm_gi hC hI fd_X9_1 fc_92 q_187 dX11_feed_72 ?_
      exact fm_ri hC hI hr hlk hf dX11_feed_75
    · have hf := fm_pF hf hc
      refine lv_aload_n hx hb dX11_feed_30 rfl (lv_at hl 0 rfl) ?_
      refine lv_ldc (v := (-1000000002 : Int32)) hx hb hown (hts _ q_245) dX11_feed_31 ?_
      obtain ⟨r8, σ9, hq10, hf⟩ := fm_bE hf
      refine fm_ci hI (fm_runV (As := [.int (-1000000002 : Int32)]) (rest := []) (rm := { frames := 1, cells := 0, slots := 0, locals := 22 }) hC hI (c_X11_tell hC.2.2.1 hq10) mV_X11_tell q_241 ⟨rfl, rfl⟩ ⟨Nat.le_of_ble_eq_true rfl, Nat.le_of_ble_eq_true rfl⟩ fc_0 rfl (by decide) rfl hl.1 rfl (Nat.le_of_ble_eq_true rfl) dX11_feed_33 ⟨Nat.zero_le _, Nat.zero_le _⟩) (fun H locs hI => ?_)
      exact fm_ri hC hI hr hlk hf dX11_feed_36
  · have hf := fm_pT hf hc
    refine lv_aload_n hx hb dX11_feed_9 rfl (lv_at hl 0 rfl) ?_
    refine lv_ldc (v := (-1000000001 : Int32)) hx hb hown (hts _ q_240) dX11_feed_10 ?_
    obtain ⟨r11, σ12, hq13, hf⟩ := fm_bE hf
    refine fm_ci hI (fm_runV (As := [.int (-1000000001 : Int32)]) (rest := []) (rm := { frames := 1, cells := 0, slots := 0, locals := 22 }) hC hI (c_X11_tell hC.2.2.1 hq13) mV_X11_tell q_241 ⟨rfl, rfl⟩ ⟨Nat.le_of_ble_eq_true rfl, Nat.le_of_ble_eq_true rfl⟩ fc_0 rfl (by decide) rfl hl.1 rfl (Nat.le_of_ble_eq_true rfl) dX11_feed_12 ⟨Nat.zero_le _, Nat.zero_le _⟩) (fun H locs hI => ?_)
    exact fm_ri hC hI hr hlk hf dX11_feed_15
def m_X11_wipe  (σ : fm_M) : Option (Int32 × fm_M) := fm_let (fm_sI σ 92 1 (0 : Int32)) fun σ1 => (some ((σ.1 92 1), σ1))
set_option maxHeartbeats 4000000 in
set_option maxRecDepth 100000 in
theorem c_X11_wipe {l : Launch} {G : fm_G} (hJ : fm_J G) {σ : fm_M} {o : Int32 × fm_M}  (hf : m_X11_wipe  σ = some o) : Met l yX11_wipe (fm_w yX11_wipe cX11_wipe 2 (some .int)) { frames := 0, cells := 0, slots := 0, locals := 0 } (va_Pc [.ref (G.2.1 0)] (fm_st G σ)) (fm_Qi G o) 0 0 (fm_A G) := by
  refine fm_mth (own := RX11) hJ rfl (by decide +kernel) (Nat.le_of_ble_eq_true rfl) ?_
  intro p e s m below meth c ls hC hr hlk hI hl
  have hx := hC.1.1
  have hb := hC.1.2.1
  have hown := hC.1.2.2.2.1
  have hts := hC.1.2.2.2.2
  have hl : lv_has ls 2 [(0, .ref (G.2.1 0))] := hl
  rw [m_X11_wipe] at hf
  refine lv_aload_n hx hb dX11_wipe_0 rfl (lv_at hl 0 rfl) ?_
  refine fm_gr hC hI fd_X11_5 fc_0 fr_0_5 q_210 dX11_wipe_1 ?_
  refine fm_gi hC hI fd_X9_1 fc_92 q_187 dX11_wipe_4 ?_
  refine lv_istore_n (lv' := [(1, .int (σ.1 92 1)), (0, .ref (G.2.1 0))]) hx hb dX11_wipe_7 rfl hl (Nat.le_of_ble_eq_true rfl) rfl (fun ls hl => ?_)
  refine lv_aload_n hx hb dX11_wipe_8 rfl (lv_at hl 1 rfl) ?_
  refine fm_gr hC hI fd_X11_5 fc_0 fr_0_5 q_210 dX11_wipe_9 ?_
  refine lv_iconst (v := (0 : Int32)) hx hb dX11_wipe_12 (by decide) ?_
  obtain ⟨σ1, e2, hf⟩ := fm_letE hf
  refine fm_pi hC hI fp_X9_1 fc_92 ⟨rfl, rfl⟩ e2 q_187 dX11_wipe_13 (fun H locs hI => ?_)
  refine lv_iload_n hx hb dX11_wipe_16 rfl (lv_at hl 0 rfl) ?_
  exact fm_ri hC hI hr hlk hf dX11_wipe_17
def m_X11_town  (σ : fm_M) : Option (Int32 × fm_M) := fm_b (m_X11_startTrial  σ) fun _u1 σ2 => (fm_b (m_X9_readTown 58 σ2) fun r4 σ5 => (fm_let (fm_sI σ5 92 1 (0 : Int32)) fun σ7 => (if r4 < 0 then (some (r4, σ7)) else (fm_b (m_X10_become 8 58 σ7) fun _u9 σ10 => (some (r4, σ10))))))
set_option maxHeartbeats 4000000 in
set_option maxRecDepth 100000 in
theorem c_X11_town {l : Launch} {G : fm_G} (hJ : fm_J G) {σ : fm_M} {o : Int32 × fm_M}  (hf : m_X11_town  σ = some o) : Met l yX11_town (fm_w yX11_town cX11_town 2 (some .int)) { frames := 10, cells := 0, slots := 0, locals := 216 } (va_Pc [.ref (G.2.1 0)] (fm_st G σ)) (fm_Qi G o) 0 0 (fm_A G) := by
  refine fm_mth (own := RX11) hJ rfl (by decide +kernel) (Nat.le_of_ble_eq_true rfl) ?_
  intro p e s m below meth c ls hC hr hlk hI hl
  have hx := hC.1.1
  have hb := hC.1.2.1
  have hown := hC.1.2.2.2.1
  have hts := hC.1.2.2.2.2
  have hl : lv_has ls 2 [(0, .ref (G.2.1 0))] := hl
  rw [m_X11_town] at hf
  refine lv_aload_n hx hb dX11_town_0 rfl (lv_at hl 0 rfl) ?_
  obtain ⟨_u1, σ2, hq3, hf⟩ := fm_bE hf
  refine fm_cv hI (fm_runV (As := []) (rest := []) (rm := { frames := 2, cells := 0, slots := 0, locals := 44 }) hC hI (c_X11_startTrial hC.2.2.1 hq3) mV_X11_startTrial q_508 ⟨rfl, rfl⟩ ⟨Nat.le_of_ble_eq_true rfl, Nat.le_of_ble_eq_true rfl⟩ fc_0 rfl (by decide) rfl hl.1 rfl (Nat.le_of_ble_eq_true rfl) dX11_town_1 ⟨Nat.zero_le _, Nat.zero_le _⟩) (fun H locs hI => ?_)
  refine lv_aload_n hx hb dX11_town_4 rfl (lv_at hl 0 rfl) ?_
  refine fm_gr hC hI fd_X11_5 fc_0 fr_0_5 q_210 dX11_town_5 ?_
  refine lv_aload_n hx hb dX11_town_8 rfl (lv_at hl 0 rfl) ?_
  refine fm_gr hC hI fd_X11_2 fc_0 fr_0_2 q_207 dX11_town_9 ?_
  obtain ⟨r4, σ5, hq6, hf⟩ := fm_bE hf
  refine fm_ci hI (fm_runV (As := [.ref (G.2.1 58)]) (rest := []) (rm := { frames := 9, cells := 0, slots := 0, locals := 194 }) hC hI (c_X9_readTown hC.2.2.1 fc_58 hq6) mV_X9_readTown q_606 ⟨rfl, rfl⟩ ⟨Nat.le_of_ble_eq_true rfl, Nat.le_of_ble_eq_true rfl⟩ fc_92 rfl (by decide) rfl hl.1 rfl (Nat.le_of_ble_eq_true rfl) dX11_town_12 ⟨Nat.zero_le _, Nat.zero_le _⟩) (fun H locs hI => ?_)
  refine lv_istore_n (lv' := [(1, .int r4), (0, .ref (G.2.1 0))]) hx hb dX11_town_15 rfl hl (Nat.le_of_ble_eq_true rfl) rfl (fun ls hl => ?_)
  refine lv_aload_n hx hb dX11_town_16 rfl (lv_at hl 1 rfl) ?_
  refine fm_gr hC hI fd_X11_5 fc_0 fr_0_5 q_210 dX11_town_17 ?_
  refine lv_iconst (v := (0 : Int32)) hx hb dX11_town_20 (by decide) ?_
  obtain ⟨σ7, e8, hf⟩ := fm_letE hf
  refine fm_pi hC hI fp_X9_1 fc_92 ⟨rfl, rfl⟩ e8 q_187 dX11_town_21 (fun H locs hI => ?_)
  refine lv_iload_n hx hb dX11_town_24 rfl (lv_at hl 0 rfl) ?_
  refine lv_if_lt (tgt := 39) hx hb dX11_town_25 (by decide) (fun hc => ?_) (fun hc => ?_)
  · have hf := fm_pT hf hc
    refine lv_iload_n hx hb dX11_town_39 rfl (lv_at hl 0 rfl) ?_
    exact fm_ri hC hI hr hlk hf dX11_town_40
  · have hf := fm_pF hf hc
    refine lv_aload_n hx hb dX11_town_28 rfl (lv_at hl 1 rfl) ?_
    refine fm_gr hC hI fd_X11_0 fc_0 fr_0_0 q_205 dX11_town_29 ?_
    refine lv_aload_n hx hb dX11_town_32 rfl (lv_at hl 1 rfl) ?_
    refine fm_gr hC hI fd_X11_2 fc_0 fr_0_2 q_207 dX11_town_33 ?_
    obtain ⟨_u9, σ10, hq11, hf⟩ := fm_bE hf
    refine fm_cv hI (fm_runV (As := [.ref (G.2.1 58)]) (rest := []) (rm := { frames := 1, cells := 0, slots := 0, locals := 22 }) hC hI (c_X10_become hC.2.2.1 fc_8 fc_58 hq11) mV_X10_become q_512 ⟨rfl, rfl⟩ ⟨Nat.le_of_ble_eq_true rfl, Nat.le_of_ble_eq_true rfl⟩ fc_8 rfl (by decide) rfl hl.1 rfl (Nat.le_of_ble_eq_true rfl) dX11_town_36 ⟨Nat.zero_le _, Nat.zero_le _⟩) (fun H locs hI => ?_)
    refine lv_iload_n hx hb dX11_town_39 rfl (lv_at hl 0 rfl) ?_
    exact fm_ri hC hI hr hlk hf dX11_town_40
def m_X11_isSheet (a0 : Int32) (σ : fm_M) : Option (Int32 × fm_M) := fm_b (m_X11_within a0 (0 : Int32) (3 : Int32) σ) fun r1 σ2 => (fm_g (fm_bz r1) (some (r1, σ2)))
set_option maxHeartbeats 4000000 in
set_option maxRecDepth 100000 in
theorem c_X11_isSheet {l : Launch} {G : fm_G} (hJ : fm_J G) {a0 : Int32} {σ : fm_M} {o : Int32 × fm_M}  (hf : m_X11_isSheet a0 σ = some o) : Met l yX11_isSheet (fm_w yX11_isSheet cX11_isSheet 1 (some .boolean)) { frames := 1, cells := 0, slots := 0, locals := 22 } (va_Pc [.int a0] (fm_st G σ)) (fm_Qi G o) 0 0 (fm_A G) := by
  refine fm_mth (own := RX11) hJ rfl (by decide +kernel) (Nat.le_of_ble_eq_true rfl) ?_
  intro p e s m below meth c ls hC hr hlk hI hl
  have hx := hC.1.1
  have hb := hC.1.2.1
  have hown := hC.1.2.2.2.1
  have hts := hC.1.2.2.2.2
  have hl : lv_has ls 1 [(0, .int a0)] := hl
  rw [m_X11_isSheet] at hf
  refine lv_iload_n hx hb dX11_isSheet_0 rfl (lv_at hl 0 rfl) ?_
  refine lv_iconst (v := (0 : Int32)) hx hb dX11_isSheet_1 (by decide) ?_
  refine lv_iconst (v := (3 : Int32)) hx hb dX11_isSheet_2 (by decide) ?_
  obtain ⟨r1, σ2, hq3, hf⟩ := fm_bE hf
  refine fm_ci hI (fm_runS (As := [.int a0, .int (0 : Int32), .int (3 : Int32)]) (rest := []) (rm := { frames := 0, cells := 0, slots := 0, locals := 0 }) hC hI (c_X11_within hC.2.2.1 hq3) mS_X11_within q_237 ⟨rfl, rfl⟩ ⟨Nat.le_of_ble_eq_true rfl, Nat.le_of_ble_eq_true rfl⟩ rfl hl.1 rfl (Nat.le_of_ble_eq_true rfl) dX11_isSheet_3 ⟨Nat.zero_le _, Nat.zero_le _⟩) (fun H locs hI => ?_)
  obtain ⟨hg4, hf⟩ := fm_gE hf
  exact fm_rz hC hI hr hlk hg4 hf dX11_isSheet_6
def m_X11_sheet (a1 : Int32) (a2 : Int32) (a3 : Int32) (σ : fm_M) : Option (Int32 × fm_M) := fm_b (m_X11_isSheet a1 σ) fun r1 σ2 => (if r1 = 0 then (fm_b (m_X11_tell (-1000000001 : Int32) σ2) fun r4 σ5 => (some (r4, σ5))) else (if a2 = 0 then (if 0 ≤ a3 then (if a3 ≤ (40 : Int32) then (fm_g (fm_in1 a1 4) (fm_j (fun (v0_J8 : Int32) (σ_J8 : fm_M) => fm_b (m_X8_begin (84 + 2 * a1.toNatClampNeg) a2 v0_J8 σ_J8) fun _u9 σ10 => (fm_g (fm_in1 a1 4) (some ((σ10.1 (84 + 2 * a1.toNatClampNeg) 2), σ10)))) (fun J8 => if a2 = 0 then (J8 (0 : Int32) σ2) else (J8 a3 σ2)))) else (fm_b (m_X11_tell (-1000000001 : Int32) σ2) fun r13 σ14 => (some (r13, σ14)))) else (fm_b (m_X11_tell (-1000000007 : Int32) σ2) fun r16 σ17 => (some (r16, σ17)))) else (if a2 = (8 : Int32) then (if 0 ≤ a3 then (if a3 ≤ (40 : Int32) then (fm_g (fm_in1 a1 4) (fm_j (fun (v0_J20 : Int32) (σ_J20 : fm_M) => fm_b (m_X8_begin (84 + 2 * a1.toNatClampNeg) a2 v0_J20 σ_J20) fun _u21 σ22 => (fm_g (fm_in1 a1 4) (some ((σ22.1 (84 + 2 * a1.toNatClampNeg) 2), σ22)))) (fun J20 => if a2 = 0 then (J20 (0 : Int32) σ2) else (J20 a3 σ2)))) else (fm_b (m_X11_tell (-1000000001 : Int32) σ2) fun r25 σ26 => (some (r25, σ26)))) else (fm_b (m_X11_tell (-1000000007 : Int32) σ2) fun r28 σ29 => (some (r28, σ29)))) else (if a2 = (16 : Int32) then (if 0 ≤ a3 then (if a3 ≤ (40 : Int32) then (fm_g (fm_in1 a1 4) (fm_j (fun (v0_J32 : Int32) (σ_J32 : fm_M) => fm_b (m_X8_begin (84 + 2 * a1.toNatClampNeg) a2 v0_J32 σ_J32) fun _u33 σ34 => (fm_g (fm_in1 a1 4) (some ((σ34.1 (84 + 2 * a1.toNatClampNeg) 2), σ34)))) (fun J32 => if a2 = 0 then (J32 (0 : Int32) σ2) else (J32 a3 σ2)))) else (fm_b (m_X11_tell (-1000000001 : Int32) σ2) fun r37 σ38 => (some (r37, σ38)))) else (fm_b (m_X11_tell (-1000000007 : Int32) σ2) fun r40 σ41 => (some (r40, σ41)))) else (if a2 = (64 : Int32) then (if 0 ≤ a3 then (if a3 ≤ (40 : Int32) then (fm_g (fm_in1 a1 4) (fm_j (fun (v0_J44 : Int32) (σ_J44 : fm_M) => fm_b (m_X8_begin (84 + 2 * a1.toNatClampNeg) a2 v0_J44 σ_J44) fun _u45 σ46 => (fm_g (fm_in1 a1 4) (some ((σ46.1 (84 + 2 * a1.toNatClampNeg) 2), σ46)))) (fun J44 => if a2 = 0 then (J44 (0 : Int32) σ2) else (J44 a3 σ2)))) else (fm_b (m_X11_tell (-1000000001 : Int32) σ2) fun r49 σ50 => (some (r49, σ50)))) else (fm_b (m_X11_tell (-1000000007 : Int32) σ2) fun r52 σ53 => (some (r52, σ53)))) else (fm_b (m_X11_tell (-1000000001 : Int32) σ2) fun r55 σ56 => (some (r55, σ56))))))))
set_option maxHeartbeats 4000000 in
set_option maxRecDepth 100000 in
theorem c_X11_sheet {l : Launch} {G : fm_G} (hJ : fm_J G) {a1 : Int32} {a2 : Int32} {a3 : Int32} {σ : fm_M} {o : Int32 × fm_M}  (hf : m_X11_sheet a1 a2 a3 σ = some o) : Met l yX11_sheet (fm_w yX11_sheet cX11_sheet 4 (some .int)) { frames := 2, cells := 0, slots := 0, locals := 44 } (va_Pc [.ref (G.2.1 0), .int a1, .int a2, .int a3] (fm_st G σ)) (fm_Qi G o) 0 0 (fm_A G) := by
  refine fm_mth (own := RX11) hJ rfl (by decide +kernel) (Nat.le_of_ble_eq_true rfl) ?_
  intro p e s m below meth c ls hC hr hlk hI hl
  have hx := hC.1.1
  have hb := hC.1.2.1
  have hown := hC.1.2.2.2.1
  have hts := hC.1.2.2.2.2
  have hl : lv_has ls 4 [(0, .ref (G.2.1 0)), (1, .int a1), (2, .int a2), (3, .int a3)] := hl
  rw [m_X11_sheet] at hf
  refine lv_iload_n hx hb dX11_sheet_0 rfl (lv_at hl 1 rfl) ?_
  obtain ⟨r1, σ2, hq3, hf⟩ := fm_bE hf
  refine fm_ci hI (fm_runS (As := [.int a1]) (rest := []) (rm := { frames := 1, cells := 0, slots := 0, locals := 22 }) hC hI (c_X11_isSheet hC.2.2.1 hq3) mS_X11_isSheet q_716 ⟨rfl, rfl⟩ ⟨Nat.le_of_ble_eq_true rfl, Nat.le_of_ble_eq_true rfl⟩ rfl hl.1 rfl (Nat.le_of_ble_eq_true rfl) dX11_sheet_1 ⟨Nat.zero_le _, Nat.zero_le _⟩) (fun H locs hI => ?_)
  refine lv_if_eq (tgt := 29) hx hb dX11_sheet_4 (by decide) (fun hc => ?_) (fun hc => ?_)
  · have hf := fm_pT hf hc
    refine lv_aload_n hx hb dX11_sheet_29 rfl (lv_at hl 0 rfl) ?_
    refine lv_ldc (v := (-1000000001 : Int32)) hx hb hown (hts _ q_240) dX11_sheet_30 ?_
    obtain ⟨r4, σ5, hq6, hf⟩ := fm_bE hf
    refine fm_ci hI (fm_runV (As := [.int (-1000000001 : Int32)]) (rest := []) (rm := { frames := 1, cells := 0, slots := 0, locals := 22 }) hC hI (c_X11_tell hC.2.2.1 hq6) mV_X11_tell q_241 ⟨rfl, rfl⟩ ⟨Nat.le_of_ble_eq_true rfl, Nat.le_of_ble_eq_true rfl⟩ fc_0 rfl (by decide) rfl hl.1 rfl (Nat.le_of_ble_eq_true rfl) dX11_sheet_32 ⟨Nat.zero_le _, Nat.zero_le _⟩) (fun H locs hI => ?_)
    exact fm_ri hC hI hr hlk hf dX11_sheet_35
  · have hf := fm_pF hf hc
    refine lv_iload_n hx hb dX11_sheet_7 rfl (lv_at hl 2 rfl) ?_
    refine lv_if_eq (tgt := 36) hx hb dX11_sheet_8 (by decide) (fun hc => ?_) (fun hc => ?_)
    · have hf := fm_pT hf hc
      refine lv_iload_n hx hb dX11_sheet_36 rfl (lv_at hl 3 rfl) ?_
      refine lv_if_ge (tgt := 47) hx hb dX11_sheet_37 (by decide) (fun hc => ?_) (fun hc => ?_)
      · have hf := fm_pT hf hc
        refine lv_iload_n hx hb dX11_sheet_47 rfl (lv_at hl 3 rfl) ?_
        refine lv_bipush (v := (40 : Int32)) hx hb dX11_sheet_48 (by decide) ?_
        refine lv_icmp_le (tgt := 60) hx hb dX11_sheet_50 (by decide) (fun hc => ?_) (fun hc => ?_)
        · have hf := fm_pT hf hc
          refine lv_aload_n hx hb dX11_sheet_60 rfl (lv_at hl 0 rfl) ?_
          refine fm_gr hC hI fd_X11_4 fc_0 fr_0_4 q_209 dX11_sheet_61 ?_
          refine lv_iload_n hx hb dX11_sheet_64 rfl (lv_at hl 1 rfl) ?_
          obtain ⟨hg7, hf⟩ := fm_gE hf
          refine fm_aald (t0 := 6) hC hI fc_83 (by decide) (by decide) rfl fl_83 hg7 (fm_V0 (x := a1) hg7).2 dX11_sheet_65 ?_
          refine lv_iload_n hx hb dX11_sheet_66 rfl (lv_at hl 2 rfl) ?_
          refine lv_iload_n hx hb dX11_sheet_67 rfl (lv_at hl 2 rfl) ?_
          obtain ⟨J8, eJ8, hf⟩ := fm_jE hf
          have hJ8 : ∀ (v0_J8 : Int32) (σ_J8 : fm_M) (H : Heap) (locs : List Loc) (ls : Array Slot), fm_I G σ_J8 s H locs → lv_has ls 4 [(0, .ref (G.2.1 0)), (1, .int a1)] → J8 v0_J8 σ_J8 = some o → W p l e { frames := 2, cells := 0, slots := 0, locals := 44 } s m ([.ref (G.2.1 0), .int a1, .int a2, .int a3] : List Value).toArray below meth c H locs 0 0 (MQ below (fm_Qi G o) ([.ref (G.2.1 0), .int a1, .int a2, .int a3] : List Value).toArray s 0 0 (fm_A G)) (F0 m 76 ls [.int v0_J8, .int a2, .ref (G.2.1 (84 + 2 * a1.toNatClampNeg))]) := by
            intro v0_J8 σ_J8 H locs ls hI hl hf
            subst eJ8
            obtain ⟨_u9, σ10, hq11, hf⟩ := fm_bE hf
            refine fm_cv hI (fm_runV (As := [.int a2, .int v0_J8]) (rest := []) (rm := { frames := 0, cells := 0, slots := 0, locals := 0 }) hC hI (c_X8_begin hC.2.2.1 (fm_V0 (x := a1) hg7).1 hq11) mV_X8_begin q_719 ⟨rfl, rfl⟩ ⟨Nat.le_of_ble_eq_true rfl, Nat.le_of_ble_eq_true rfl⟩ (fm_V0 (x := a1) hg7).1 rfl (by decide) rfl hl.1 rfl (Nat.le_of_ble_eq_true rfl) dX11_sheet_76 ⟨Nat.zero_le _, Nat.zero_le _⟩) (fun H locs hI => ?_)
            refine lv_aload_n hx hb dX11_sheet_79 rfl (lv_at hl 0 rfl) ?_
            refine fm_gr hC hI fd_X11_4 fc_0 fr_0_4 q_209 dX11_sheet_80 ?_
            refine lv_iload_n hx hb dX11_sheet_83 rfl (lv_at hl 1 rfl) ?_
            obtain ⟨hg12, hf⟩ := fm_gE hf
            refine fm_aald (t0 := 6) hC hI fc_83 (by decide) (by decide) rfl fl_83 hg12 (fm_V0 (x := a1) hg12).2 dX11_sheet_84 ?_
            refine fm_gi hC hI fd_X8_2 (fm_V0 (x := a1) hg12).1 q_170 dX11_sheet_85 ?_
            exact fm_ri hC hI hr hlk hf dX11_sheet_88
          refine lv_if_ne (tgt := 75) hx hb dX11_sheet_68 (by decide) (fun hc => ?_) (fun hc => ?_)
          · have hf := fm_pF hf hc
            refine lv_iload_n hx hb dX11_sheet_75 rfl (lv_at hl 3 rfl) ?_
            exact hJ8 a3 σ2 _ _ _ hI (lv_sub hl [0, 1] rfl) hf
          · have hf := fm_pT hf hc
            refine lv_iconst (v := (0 : Int32)) hx hb dX11_sheet_71 (by decide) ?_
            refine lv_goto (tgt := 76) hx hb dX11_sheet_72 (by decide) ?_
            exact hJ8 (0 : Int32) σ2 _ _ _ hI (lv_sub hl [0, 1] rfl) hf
        · have hf := fm_pF hf hc
          refine lv_aload_n hx hb dX11_sheet_53 rfl (lv_at hl 0 rfl) ?_
          refine lv_ldc (v := (-1000000001 : Int32)) hx hb hown (hts _ q_240) dX11_sheet_54 ?_
          obtain ⟨r13, σ14, hq15, hf⟩ := fm_bE hf
          refine fm_ci hI (fm_runV (As := [.int (-1000000001 : Int32)]) (rest := []) (rm := { frames := 1, cells := 0, slots := 0, locals := 22 }) hC hI (c_X11_tell hC.2.2.1 hq15) mV_X11_tell q_241 ⟨rfl, rfl⟩ ⟨Nat.le_of_ble_eq_true rfl, Nat.le_of_ble_eq_true rfl⟩ fc_0 rfl (by decide) rfl hl.1 rfl (Nat.le_of_ble_eq_true rfl) dX11_sheet_56 ⟨Nat.zero_le _, Nat.zero_le _⟩) (fun H locs hI => ?_)
          exact fm_ri hC hI hr hlk hf dX11_sheet_59
      · have hf := fm_pF hf hc
        refine lv_aload_n hx hb dX11_sheet_40 rfl (lv_at hl 0 rfl) ?_
        refine lv_ldc (v := (-1000000007 : Int32)) hx hb hown (hts _ q_557) dX11_sheet_41 ?_
        obtain ⟨r16, σ17, hq18, hf⟩ := fm_bE hf
        refine fm_ci hI (fm_runV (As := [.int (-1000000007 : Int32)]) (rest := []) (rm := { frames := 1, cells := 0, slots := 0, locals := 22 }) hC hI (c_X11_tell hC.2.2.1 hq18) mV_X11_tell q_241 ⟨rfl, rfl⟩ ⟨Nat.le_of_ble_eq_true rfl, Nat.le_of_ble_eq_true rfl⟩ fc_0 rfl (by decide) rfl hl.1 rfl (Nat.le_of_ble_eq_true rfl) dX11_sheet_43 ⟨Nat.zero_le _, Nat.zero_le _⟩) (fun H locs hI => ?_)
        exact fm_ri hC hI hr hlk hf dX11_sheet_46
    · have hf := fm_pF hf hc
      refine lv_iload_n hx hb dX11_sheet_11 rfl (lv_at hl 2 rfl) ?_
      refine lv_bipush (v := (8 : Int32)) hx hb dX11_sheet_12 (by decide) ?_
      refine lv_icmp_eq (tgt := 36) hx hb dX11_sheet_14 (by decide) (fun hc => ?_) (fun hc => ?_)
      · have hf := fm_pT hf hc
        refine lv_iload_n hx hb dX11_sheet_36 rfl (lv_at hl 3 rfl) ?_
        refine lv_if_ge (tgt := 47) hx hb dX11_sheet_37 (by decide) (fun hc => ?_) (fun hc => ?_)
        · have hf := fm_pT hf hc
          refine lv_iload_n hx hb dX11_sheet_47 rfl (lv_at hl 3 rfl) ?_
          refine lv_bipush (v := (40 : Int32)) hx hb dX11_sheet_48 (by decide) ?_
          refine lv_icmp_le (tgt := 60) hx hb dX11_sheet_50 (by decide) (fun hc => ?_) (fun hc => ?_)
          · have hf := fm_pT hf hc
            refine lv_aload_n hx hb dX11_sheet_60 rfl (lv_at hl 0 rfl) ?_
            refine fm_gr hC hI fd_X11_4 fc_0 fr_0_4 q_209 dX11_sheet_61 ?_
            refine lv_iload_n hx hb dX11_sheet_64 rfl (lv_at hl 1 rfl) ?_
            obtain ⟨hg19, hf⟩ := fm_gE hf
            refine fm_aald (t0 := 6) hC hI fc_83 (by decide) (by decide) rfl fl_83 hg19 (fm_V0 (x := a1) hg19).2 dX11_sheet_65 ?_
            refine lv_iload_n hx hb dX11_sheet_66 rfl (lv_at hl 2 rfl) ?_
            refine lv_iload_n hx hb dX11_sheet_67 rfl (lv_at hl 2 rfl) ?_
            obtain ⟨J20, eJ20, hf⟩ := fm_jE hf
            have hJ20 : ∀ (v0_J20 : Int32) (σ_J20 : fm_M) (H : Heap) (locs : List Loc) (ls : Array Slot), fm_I G σ_J20 s H locs → lv_has ls 4 [(0, .ref (G.2.1 0)), (1, .int a1)] → J20 v0_J20 σ_J20 = some o → W p l e { frames := 2, cells := 0, slots := 0, locals := 44 } s m ([.ref (G.2.1 0), .int a1, .int a2, .int a3] : List Value).toArray below meth c H locs 0 0 (MQ below (fm_Qi G o) ([.ref (G.2.1 0), .int a1, .int a2, .int a3] : List Value).toArray s 0 0 (fm_A G)) (F0 m 76 ls [.int v0_J20, .int a2, .ref (G.2.1 (84 + 2 * a1.toNatClampNeg))]) := by
              intro v0_J20 σ_J20 H locs ls hI hl hf
              subst eJ20
              obtain ⟨_u21, σ22, hq23, hf⟩ := fm_bE hf
              refine fm_cv hI (fm_runV (As := [.int a2, .int v0_J20]) (rest := []) (rm := { frames := 0, cells := 0, slots := 0, locals := 0 }) hC hI (c_X8_begin hC.2.2.1 (fm_V0 (x := a1) hg19).1 hq23) mV_X8_begin q_719 ⟨rfl, rfl⟩ ⟨Nat.le_of_ble_eq_true rfl, Nat.le_of_ble_eq_true rfl⟩ (fm_V0 (x := a1) hg19).1 rfl (by decide) rfl hl.1 rfl (Nat.le_of_ble_eq_true rfl) dX11_sheet_76 ⟨Nat.zero_le _, Nat.zero_le _⟩) (fun H locs hI => ?_)
              refine lv_aload_n hx hb dX11_sheet_79 rfl (lv_at hl 0 rfl) ?_
              refine fm_gr hC hI fd_X11_4 fc_0 fr_0_4 q_209 dX11_sheet_80 ?_
              refine lv_iload_n hx hb dX11_sheet_83 rfl (lv_at hl 1 rfl) ?_
              obtain ⟨hg24, hf⟩ := fm_gE hf
              refine fm_aald (t0 := 6) hC hI fc_83 (by decide) (by decide) rfl fl_83 hg24 (fm_V0 (x := a1) hg24).2 dX11_sheet_84 ?_
              refine fm_gi hC hI fd_X8_2 (fm_V0 (x := a1) hg24).1 q_170 dX11_sheet_85 ?_
              exact fm_ri hC hI hr hlk hf dX11_sheet_88
            refine lv_if_ne (tgt := 75) hx hb dX11_sheet_68 (by decide) (fun hc => ?_) (fun hc => ?_)
            · have hf := fm_pF hf hc
              refine lv_iload_n hx hb dX11_sheet_75 rfl (lv_at hl 3 rfl) ?_
              exact hJ20 a3 σ2 _ _ _ hI (lv_sub hl [0, 1] rfl) hf
            · have hf := fm_pT hf hc
              refine lv_iconst (v := (0 : Int32)) hx hb dX11_sheet_71 (by decide) ?_
              refine lv_goto (tgt := 76) hx hb dX11_sheet_72 (by decide) ?_
              exact hJ20 (0 : Int32) σ2 _ _ _ hI (lv_sub hl [0, 1] rfl) hf
          · have hf := fm_pF hf hc
            refine lv_aload_n hx hb dX11_sheet_53 rfl (lv_at hl 0 rfl) ?_
            refine lv_ldc (v := (-1000000001 : Int32)) hx hb hown (hts _ q_240) dX11_sheet_54 ?_
            obtain ⟨r25, σ26, hq27, hf⟩ := fm_bE hf
            refine fm_ci hI (fm_runV (As := [.int (-1000000001 : Int32)]) (rest := []) (rm := { frames := 1, cells := 0, slots := 0, locals := 22 }) hC hI (c_X11_tell hC.2.2.1 hq27) mV_X11_tell q_241 ⟨rfl, rfl⟩ ⟨Nat.le_of_ble_eq_true rfl, Nat.le_of_ble_eq_true rfl⟩ fc_0 rfl (by decide) rfl hl.1 rfl (Nat.le_of_ble_eq_true rfl) dX11_sheet_56 ⟨Nat.zero_le _, Nat.zero_le _⟩) (fun H locs hI => ?_)
            exact fm_ri hC hI hr hlk hf dX11_sheet_59
        · have hf := fm_pF hf hc
          refine lv_aload_n hx hb dX11_sheet_40 rfl (lv_at hl 0 rfl) ?_
          refine lv_ldc (v := (-1000000007 : Int32)) hx hb hown (hts _ q_557) dX11_sheet_41 ?_
          obtain ⟨r28, σ29, hq30, hf⟩ := fm_bE hf
          refine fm_ci hI (fm_runV (As := [.int (-1000000007 : Int32)]) (rest := []) (rm := { frames := 1, cells := 0, slots := 0, locals := 22 }) hC hI (c_X11_tell hC.2.2.1 hq30) mV_X11_tell q_241 ⟨rfl, rfl⟩ ⟨Nat.le_of_ble_eq_true rfl, Nat.le_of_ble_eq_true rfl⟩ fc_0 rfl (by decide) rfl hl.1 rfl (Nat.le_of_ble_eq_true rfl) dX11_sheet_43 ⟨Nat.zero_le _, Nat.zero_le _⟩) (fun H locs hI => ?_)
          exact fm_ri hC hI hr hlk hf dX11_sheet_46
      · have hf := fm_pF hf hc
        refine lv_iload_n hx hb dX11_sheet_17 rfl (lv_at hl 2 rfl) ?_
        refine lv_bipush (v := (16 : Int32)) hx hb dX11_sheet_18 (by decide) ?_
        refine lv_icmp_eq (tgt := 36) hx hb dX11_sheet_20 (by decide) (fun hc => ?_) (fun hc => ?_)
        · have hf := fm_pT hf hc
          refine lv_iload_n hx hb dX11_sheet_36 rfl (lv_at hl 3 rfl) ?_
          refine lv_if_ge (tgt := 47) hx hb dX11_sheet_37 (by decide) (fun hc => ?_) (fun hc => ?_)
          · have hf := fm_pT hf hc
            refine lv_iload_n hx hb dX11_sheet_47 rfl (lv_at hl 3 rfl) ?_
            refine lv_bipush (v := (40 : Int32)) hx hb dX11_sheet_48 (by decide) ?_
            refine lv_icmp_le (tgt := 60) hx hb dX11_sheet_50 (by decide) (fun hc => ?_) (fun hc => ?_)
            · have hf := fm_pT hf hc
              refine lv_aload_n hx hb dX11_sheet_60 rfl (lv_at hl 0 rfl) ?_
              refine fm_gr hC hI fd_X11_4 fc_0 fr_0_4 q_209 dX11_sheet_61 ?_
              refine lv_iload_n hx hb dX11_sheet_64 rfl (lv_at hl 1 rfl) ?_
              obtain ⟨hg31, hf⟩ := fm_gE hf
              refine fm_aald (t0 := 6) hC hI fc_83 (by decide) (by decide) rfl fl_83 hg31 (fm_V0 (x := a1) hg31).2 dX11_sheet_65 ?_
              refine lv_iload_n hx hb dX11_sheet_66 rfl (lv_at hl 2 rfl) ?_
              refine lv_iload_n hx hb dX11_sheet_67 rfl (lv_at hl 2 rfl) ?_
              obtain ⟨J32, eJ32, hf⟩ := fm_jE hf
              have hJ32 : ∀ (v0_J32 : Int32) (σ_J32 : fm_M) (H : Heap) (locs : List Loc) (ls : Array Slot), fm_I G σ_J32 s H locs → lv_has ls 4 [(0, .ref (G.2.1 0)), (1, .int a1)] → J32 v0_J32 σ_J32 = some o → W p l e { frames := 2, cells := 0, slots := 0, locals := 44 } s m ([.ref (G.2.1 0), .int a1, .int a2, .int a3] : List Value).toArray below meth c H locs 0 0 (MQ below (fm_Qi G o) ([.ref (G.2.1 0), .int a1, .int a2, .int a3] : List Value).toArray s 0 0 (fm_A G)) (F0 m 76 ls [.int v0_J32, .int a2, .ref (G.2.1 (84 + 2 * a1.toNatClampNeg))]) := by
                intro v0_J32 σ_J32 H locs ls hI hl hf
                subst eJ32
                obtain ⟨_u33, σ34, hq35, hf⟩ := fm_bE hf
                refine fm_cv hI (fm_runV (As := [.int a2, .int v0_J32]) (rest := []) (rm := { frames := 0, cells := 0, slots := 0, locals := 0 }) hC hI (c_X8_begin hC.2.2.1 (fm_V0 (x := a1) hg31).1 hq35) mV_X8_begin q_719 ⟨rfl, rfl⟩ ⟨Nat.le_of_ble_eq_true rfl, Nat.le_of_ble_eq_true rfl⟩ (fm_V0 (x := a1) hg31).1 rfl (by decide) rfl hl.1 rfl (Nat.le_of_ble_eq_true rfl) dX11_sheet_76 ⟨Nat.zero_le _, Nat.zero_le _⟩) (fun H locs hI => ?_)
                refine lv_aload_n hx hb dX11_sheet_79 rfl (lv_at hl 0 rfl) ?_
                refine fm_gr hC hI fd_X11_4 fc_0 fr_0_4 q_209 dX11_sheet_80 ?_
                refine lv_iload_n hx hb dX11_sheet_83 rfl (lv_at hl 1 rfl) ?_
                obtain ⟨hg36, hf⟩ := fm_gE hf
                refine fm_aald (t0 := 6) hC hI fc_83 (by decide) (by decide) rfl fl_83 hg36 (fm_V0 (x := a1) hg36).2 dX11_sheet_84 ?_
                refine fm_gi hC hI fd_X8_2 (fm_V0 (x := a1) hg36).1 q_170 dX11_sheet_85 ?_
                exact fm_ri hC hI hr hlk hf dX11_sheet_88
              refine lv_if_ne (tgt := 75) hx hb dX11_sheet_68 (by decide) (fun hc => ?_) (fun hc => ?_)
              · have hf := fm_pF hf hc
                refine lv_iload_n hx hb dX11_sheet_75 rfl (lv_at hl 3 rfl) ?_
                exact hJ32 a3 σ2 _ _ _ hI (lv_sub hl [0, 1] rfl) hf
              · have hf := fm_pT hf hc
                refine lv_iconst (v := (0 : Int32)) hx hb dX11_sheet_71 (by decide) ?_
                refine lv_goto (tgt := 76) hx hb dX11_sheet_72 (by decide) ?_
                exact hJ32 (0 : Int32) σ2 _ _ _ hI (lv_sub hl [0, 1] rfl) hf
            · have hf := fm_pF hf hc
              refine lv_aload_n hx hb dX11_sheet_53 rfl (lv_at hl 0 rfl) ?_
              refine lv_ldc (v := (-1000000001 : Int32)) hx hb hown (hts _ q_240) dX11_sheet_54 ?_
              obtain ⟨r37, σ38, hq39, hf⟩ := fm_bE hf
              refine fm_ci hI (fm_runV (As := [.int (-1000000001 : Int32)]) (rest := []) (rm := { frames := 1, cells := 0, slots := 0, locals := 22 }) hC hI (c_X11_tell hC.2.2.1 hq39) mV_X11_tell q_241 ⟨rfl, rfl⟩ ⟨Nat.le_of_ble_eq_true rfl, Nat.le_of_ble_eq_true rfl⟩ fc_0 rfl (by decide) rfl hl.1 rfl (Nat.le_of_ble_eq_true rfl) dX11_sheet_56 ⟨Nat.zero_le _, Nat.zero_le _⟩) (fun H locs hI => ?_)
              exact fm_ri hC hI hr hlk hf dX11_sheet_59
          · have hf := fm_pF hf hc
            refine lv_aload_n hx hb dX11_sheet_40 rfl (lv_at hl 0 rfl) ?_
            refine lv_ldc (v := (-1000000007 : Int32)) hx hb hown (hts _ q_557) dX11_sheet_41 ?_
            obtain ⟨r40, σ41, hq42, hf⟩ := fm_bE hf
            refine fm_ci hI (fm_runV (As := [.int (-1000000007 : Int32)]) (rest := []) (rm := { frames := 1, cells := 0, slots := 0, locals := 22 }) hC hI (c_X11_tell hC.2.2.1 hq42) mV_X11_tell q_241 ⟨rfl, rfl⟩ ⟨Nat.le_of_ble_eq_true rfl, Nat.le_of_ble_eq_true rfl⟩ fc_0 rfl (by decide) rfl hl.1 rfl (Nat.le_of_ble_eq_true rfl) dX11_sheet_43 ⟨Nat.zero_le _, Nat.zero_le _⟩) (fun H locs hI => ?_)
            exact fm_ri hC hI hr hlk hf dX11_sheet_46
        · have hf := fm_pF hf hc
          refine lv_iload_n hx hb dX11_sheet_23 rfl (lv_at hl 2 rfl) ?_
          refine lv_bipush (v := (64 : Int32)) hx hb dX11_sheet_24 (by decide) ?_
          refine lv_icmp_eq (tgt := 36) hx hb dX11_sheet_26 (by decide) (fun hc => ?_) (fun hc => ?_)
          · have hf := fm_pT hf hc
            refine lv_iload_n hx hb dX11_sheet_36 rfl (lv_at hl 3 rfl) ?_
            refine lv_if_ge (tgt := 47) hx hb dX11_sheet_37 (by decide) (fun hc => ?_) (fun hc => ?_)
            · have hf := fm_pT hf hc
              refine lv_iload_n hx hb dX11_sheet_47 rfl (lv_at hl 3 rfl) ?_
              refine lv_bipush (v := (40 : Int32)) hx hb dX11_sheet_48 (by decide) ?_
              refine lv_icmp_le (tgt := 60) hx hb dX11_sheet_50 (by decide) (fun hc => ?_) (fun hc => ?_)
              · have hf := fm_pT hf hc
                refine lv_aload_n hx hb dX11_sheet_60 rfl (lv_at hl 0 rfl) ?_
                refine fm_gr hC hI fd_X11_4 fc_0 fr_0_4 q_209 dX11_sheet_61 ?_
                refine lv_iload_n hx hb dX11_sheet_64 rfl (lv_at hl 1 rfl) ?_
                obtain ⟨hg43, hf⟩ := fm_gE hf
                refine fm_aald (t0 := 6) hC hI fc_83 (by decide) (by decide) rfl fl_83 hg43 (fm_V0 (x := a1) hg43).2 dX11_sheet_65 ?_
                refine lv_iload_n hx hb dX11_sheet_66 rfl (lv_at hl 2 rfl) ?_
                refine lv_iload_n hx hb dX11_sheet_67 rfl (lv_at hl 2 rfl) ?_
                obtain ⟨J44, eJ44, hf⟩ := fm_jE hf
                have hJ44 : ∀ (v0_J44 : Int32) (σ_J44 : fm_M) (H : Heap) (locs : List Loc) (ls : Array Slot), fm_I G σ_J44 s H locs → lv_has ls 4 [(0, .ref (G.2.1 0)), (1, .int a1)] → J44 v0_J44 σ_J44 = some o → W p l e { frames := 2, cells := 0, slots := 0, locals := 44 } s m ([.ref (G.2.1 0), .int a1, .int a2, .int a3] : List Value).toArray below meth c H locs 0 0 (MQ below (fm_Qi G o) ([.ref (G.2.1 0), .int a1, .int a2, .int a3] : List Value).toArray s 0 0 (fm_A G)) (F0 m 76 ls [.int v0_J44, .int a2, .ref (G.2.1 (84 + 2 * a1.toNatClampNeg))]) := by
                  intro v0_J44 σ_J44 H locs ls hI hl hf
                  subst eJ44
                  obtain ⟨_u45, σ46, hq47, hf⟩ := fm_bE hf
                  refine fm_cv hI (fm_runV (As := [.int a2, .int v0_J44]) (rest := []) (rm := { frames := 0, cells := 0, slots := 0, locals := 0 }) hC hI (c_X8_begin hC.2.2.1 (fm_V0 (x := a1) hg43).1 hq47) mV_X8_begin q_719 ⟨rfl, rfl⟩ ⟨Nat.le_of_ble_eq_true rfl, Nat.le_of_ble_eq_true rfl⟩ (fm_V0 (x := a1) hg43).1 rfl (by decide) rfl hl.1 rfl (Nat.le_of_ble_eq_true rfl) dX11_sheet_76 ⟨Nat.zero_le _, Nat.zero_le _⟩) (fun H locs hI => ?_)
                  refine lv_aload_n hx hb dX11_sheet_79 rfl (lv_at hl 0 rfl) ?_
                  refine fm_gr hC hI fd_X11_4 fc_0 fr_0_4 q_209 dX11_sheet_80 ?_
                  refine lv_iload_n hx hb dX11_sheet_83 rfl (lv_at hl 1 rfl) ?_
                  obtain ⟨hg48, hf⟩ := fm_gE hf
                  refine fm_aald (t0 := 6) hC hI fc_83 (by decide) (by decide) rfl fl_83 hg48 (fm_V0 (x := a1) hg48).2 dX11_sheet_84 ?_
                  refine fm_gi hC hI fd_X8_2 (fm_V0 (x := a1) hg48).1 q_170 dX11_sheet_85 ?_
                  exact fm_ri hC hI hr hlk hf dX11_sheet_88
                refine lv_if_ne (tgt := 75) hx hb dX11_sheet_68 (by decide) (fun hc => ?_) (fun hc => ?_)
                · have hf := fm_pF hf hc
                  refine lv_iload_n hx hb dX11_sheet_75 rfl (lv_at hl 3 rfl) ?_
                  exact hJ44 a3 σ2 _ _ _ hI (lv_sub hl [0, 1] rfl) hf
                · have hf := fm_pT hf hc
                  refine lv_iconst (v := (0 : Int32)) hx hb dX11_sheet_71 (by decide) ?_
                  refine lv_goto (tgt := 76) hx hb dX11_sheet_72 (by decide) ?_
                  exact hJ44 (0 : Int32) σ2 _ _ _ hI (lv_sub hl [0, 1] rfl) hf
              · have hf := fm_pF hf hc
                refine lv_aload_n hx hb dX11_sheet_53 rfl (lv_at hl 0 rfl) ?_
                refine lv_ldc (v := (-1000000001 : Int32)) hx hb hown (hts _ q_240) dX11_sheet_54 ?_
                obtain ⟨r49, σ50, hq51, hf⟩ := fm_bE hf
                refine fm_ci hI (fm_runV (As := [.int (-1000000001 : Int32)]) (rest := []) (rm := { frames := 1, cells := 0, slots := 0, locals := 22 }) hC hI (c_X11_tell hC.2.2.1 hq51) mV_X11_tell q_241 ⟨rfl, rfl⟩ ⟨Nat.le_of_ble_eq_true rfl, Nat.le_of_ble_eq_true rfl⟩ fc_0 rfl (by decide) rfl hl.1 rfl (Nat.le_of_ble_eq_true rfl) dX11_sheet_56 ⟨Nat.zero_le _, Nat.zero_le _⟩) (fun H locs hI => ?_)
                exact fm_ri hC hI hr hlk hf dX11_sheet_59
            · have hf := fm_pF hf hc
              refine lv_aload_n hx hb dX11_sheet_40 rfl (lv_at hl 0 rfl) ?_
              refine lv_ldc (v := (-1000000007 : Int32)) hx hb hown (hts _ q_557) dX11_sheet_41 ?_
              obtain ⟨r52, σ53, hq54, hf⟩ := fm_bE hf
              refine fm_ci hI (fm_runV (As := [.int (-1000000007 : Int32)]) (rest := []) (rm := { frames := 1, cells := 0, slots := 0, locals := 22 }) hC hI (c_X11_tell hC.2.2.1 hq54) mV_X11_tell q_241 ⟨rfl, rfl⟩ ⟨Nat.le_of_ble_eq_true rfl, Nat.le_of_ble_eq_true rfl⟩ fc_0 rfl (by decide) rfl hl.1 rfl (Nat.le_of_ble_eq_true rfl) dX11_sheet_43 ⟨Nat.zero_le _, Nat.zero_le _⟩) (fun H locs hI => ?_)
              exact fm_ri hC hI hr hlk hf dX11_sheet_46
          · have hf := fm_pF hf hc
            refine lv_aload_n hx hb dX11_sheet_29 rfl (lv_at hl 0 rfl) ?_
            refine lv_ldc (v := (-1000000001 : Int32)) hx hb hown (hts _ q_240) dX11_sheet_30 ?_
            obtain ⟨r55, σ56, hq57, hf⟩ := fm_bE hf
            refine fm_ci hI (fm_runV (As := [.int (-1000000001 : Int32)]) (rest := []) (rm := { frames := 1, cells := 0, slots := 0, locals := 22 }) hC hI (c_X11_tell hC.2.2.1 hq57) mV_X11_tell q_241 ⟨rfl, rfl⟩ ⟨Nat.le_of_ble_eq_true rfl, Nat.le_of_ble_eq_true rfl⟩ fc_0 rfl (by decide) rfl hl.1 rfl (Nat.le_of_ble_eq_true rfl) dX11_sheet_32 ⟨Nat.zero_le _, Nat.zero_le _⟩) (fun H locs hI => ?_)
            exact fm_ri hC hI hr hlk hf dX11_sheet_35
def m_X11_write (a1 : Int32) (a2 : Int32) (a3 : Int64) (σ : fm_M) : Option (Int64 × fm_M) := fm_b (m_X11_isSheet a1 σ) fun r1 σ2 => (if r1 = 0 then (fm_b (m_X11_tell (-1000000001 : Int32) σ2) fun r24 σ25 => (some ((r24.toInt64), σ25))) else (fm_g (fm_in1 a1 4) (fm_b (m_X8_isMissing (84 + 2 * a1.toNatClampNeg) σ2) fun r5 σ6 => (if r5 = 0 then (fm_g (fm_in1 a1 4) (fm_b (m_X11_within a2 (0 : Int32) ((σ6.1 (84 + 2 * a1.toNatClampNeg) 2) - (1 : Int32)) σ6) fun r9 σ10 => (if r9 = 0 then (fm_b (m_X11_tell (-1000000001 : Int32) σ10) fun r18 σ19 => (some ((r18.toInt64), σ19))) else (fm_g (fm_in1 a1 4) (fm_g (fm_in1 a2 40) (fm_g (fm_in1 a1 4) (fm_b (m_X8_put (84 + 2 * a1.toNatClampNeg) a2 a3 σ10) fun _u15 σ16 => (some ((σ10.2 ((84 + 2 * a1.toNatClampNeg) + 1) a2.toNatClampNeg), σ16))))))))) else (fm_b (m_X11_tell (-1000000006 : Int32) σ6) fun r21 σ22 => (some ((r21.toInt64), σ22)))))))
set_option maxHeartbeats 4000000 in
set_option maxRecDepth 100000 in
theorem c_X11_write {l : Launch} {G : fm_G} (hJ : fm_J G) {a1 : Int32} {a2 : Int32} {a3 : Int64} {σ : fm_M} {o : Int64 × fm_M}  (hf : m_X11_write a1 a2 a3 σ = some o) : Met l yX11_write (fm_w yX11_write cX11_write 7 (some .long)) { frames := 2, cells := 0, slots := 0, locals := 44 } (va_Pc [.ref (G.2.1 0), .int a1, .int a2, .long a3] (fm_st G σ)) (fm_Ql G o) 0 0 (fm_A G) := by
  refine fm_mth (own := RX11) hJ rfl (by decide +kernel) (Nat.le_of_ble_eq_true rfl) ?_
  intro p e s m below meth c ls hC hr hlk hI hl
  have hx := hC.1.1
  have hb := hC.1.2.1
  have hown := hC.1.2.2.2.1
  have hts := hC.1.2.2.2.2
  have hl : lv_has ls 7 [(0, .ref (G.2.1 0)), (1, .int a1), (2, .int a2), (3, .long a3)] := hl
  rw [m_X11_write] at hf
  refine lv_iload_n hx hb dX11_write_0 rfl (lv_at hl 1 rfl) ?_
  obtain ⟨r1, σ2, hq3, hf⟩ := fm_bE hf
  refine fm_ci hI (fm_runS (As := [.int a1]) (rest := []) (rm := { frames := 1, cells := 0, slots := 0, locals := 22 }) hC hI (c_X11_isSheet hC.2.2.1 hq3) mS_X11_isSheet q_716 ⟨rfl, rfl⟩ ⟨Nat.le_of_ble_eq_true rfl, Nat.le_of_ble_eq_true rfl⟩ rfl hl.1 rfl (Nat.le_of_ble_eq_true rfl) dX11_write_1 ⟨Nat.zero_le _, Nat.zero_le _⟩) (fun H locs hI => ?_)
  refine lv_if_ne (tgt := 15) hx hb dX11_write_4 (by decide) (fun hc => ?_) (fun hc => ?_)
  · have hf := fm_pF hf hc
    refine lv_aload_n hx hb dX11_write_15 rfl (lv_at hl 0 rfl) ?_
    refine fm_gr hC hI fd_X11_4 fc_0 fr_0_4 q_209 dX11_write_16 ?_
    refine lv_iload_n hx hb dX11_write_19 rfl (lv_at hl 1 rfl) ?_
    obtain ⟨hg4, hf⟩ := fm_gE hf
    refine fm_aald (t0 := 6) hC hI fc_83 (by decide) (by decide) rfl fl_83 hg4 (fm_V0 (x := a1) hg4).2 dX11_write_20 ?_
    obtain ⟨r5, σ6, hq7, hf⟩ := fm_bE hf
    refine fm_ci hI (fm_runV (As := []) (rest := []) (rm := { frames := 0, cells := 0, slots := 0, locals := 0 }) hC hI (c_X8_isMissing hC.2.2.1 (fm_V0 (x := a1) hg4).1 hq7) mV_X8_isMissing q_727 ⟨rfl, rfl⟩ ⟨Nat.le_of_ble_eq_true rfl, Nat.le_of_ble_eq_true rfl⟩ (fm_V0 (x := a1) hg4).1 rfl (by decide) rfl hl.1 rfl (Nat.le_of_ble_eq_true rfl) dX11_write_21 ⟨Nat.zero_le _, Nat.zero_le _⟩) (fun H locs hI => ?_)
    refine lv_if_eq (tgt := 35) hx hb dX11_write_24 (by decide) (fun hc => ?_) (fun hc => ?_)
    · have hf := fm_pT hf hc
      refine lv_iload_n hx hb dX11_write_35 rfl (lv_at hl 2 rfl) ?_
      refine lv_iconst (v := (0 : Int32)) hx hb dX11_write_36 (by decide) ?_
      refine lv_aload_n hx hb dX11_write_37 rfl (lv_at hl 0 rfl) ?_
      refine fm_gr hC hI fd_X11_4 fc_0 fr_0_4 q_209 dX11_write_38 ?_
      refine lv_iload_n hx hb dX11_write_41 rfl (lv_at hl 1 rfl) ?_
      obtain ⟨hg8, hf⟩ := fm_gE hf
      refine fm_aald (t0 := 6) hC hI fc_83 (by decide) (by decide) rfl fl_83 hg8 (fm_V0 (x := a1) hg8).2 dX11_write_42 ?_
      refine fm_gi hC hI fd_X8_2 (fm_V0 (x := a1) hg8).1 q_170 dX11_write_43 ?_
      refine lv_iconst (v := (1 : Int32)) hx hb dX11_write_46 (by decide) ?_
      refine lv_isub hx hb dX11_write_47 ?_
      obtain ⟨r9, σ10, hq11, hf⟩ := fm_bE hf
      refine fm_ci hI (fm_runS (As := [.int a2, .int (0 : Int32), .int ((σ6.1 (84 + 2 * a1.toNatClampNeg) 2) - (1 : Int32))]) (rest := []) (rm := { frames := 0, cells := 0, slots := 0, locals := 0 }) hC hI (c_X11_within hC.2.2.1 hq11) mS_X11_within q_237 ⟨rfl, rfl⟩ ⟨Nat.le_of_ble_eq_true rfl, Nat.le_of_ble_eq_true rfl⟩ rfl hl.1 rfl (Nat.le_of_ble_eq_true rfl) dX11_write_48 ⟨Nat.zero_le _, Nat.zero_le _⟩) (fun H locs hI => ?_)
      refine lv_if_ne (tgt := 62) hx hb dX11_write_51 (by decide) (fun hc => ?_) (fun hc => ?_)
      · have hf := fm_pF hf hc
        refine lv_aload_n hx hb dX11_write_62 rfl (lv_at hl 0 rfl) ?_
        refine fm_gr hC hI fd_X11_4 fc_0 fr_0_4 q_209 dX11_write_63 ?_
        refine lv_iload_n hx hb dX11_write_66 rfl (lv_at hl 1 rfl) ?_
        obtain ⟨hg12, hf⟩ := fm_gE hf
        refine fm_aald (t0 := 6) hC hI fc_83 (by decide) (by decide) rfl fl_83 hg12 (fm_V0 (x := a1) hg12).2 dX11_write_67 ?_
        refine fm_gr hC hI fd_X8_0 (fm_V0 (x := a1) hg12).1 (fm_S0 (fm_V0 (x := a1) hg12).1).2.1 q_166 dX11_write_68 ?_
        refine lv_iload_n hx hb dX11_write_71 rfl (lv_at hl 2 rfl) ?_
        obtain ⟨hg13, hf⟩ := fm_gE hf
        refine fm_lald hC hI (fm_S0 (fm_V0 (x := a1) hg12).1).1 (fm_S0 (fm_V0 (x := a1) hg12).1).2.2 hg13 dX11_write_72 ?_
        refine lv_lstore (lv' := [(5, .long (σ10.2 ((84 + 2 * a1.toNatClampNeg) + 1) a2.toNatClampNeg)), (0, .ref (G.2.1 0)), (1, .int a1), (2, .int a2), (3, .long a3)]) hx hb dX11_write_73 hl (Nat.le_of_ble_eq_true rfl) rfl (fun ls hl => ?_)
        refine lv_aload_n hx hb dX11_write_75 rfl (lv_at hl 1 rfl) ?_
        refine fm_gr hC hI fd_X11_4 fc_0 fr_0_4 q_209 dX11_write_76 ?_
        refine lv_iload_n hx hb dX11_write_79 rfl (lv_at hl 2 rfl) ?_
        obtain ⟨hg14, hf⟩ := fm_gE hf
        refine fm_aald (t0 := 6) hC hI fc_83 (by decide) (by decide) rfl fl_83 hg14 (fm_V0 (x := a1) hg14).2 dX11_write_80 ?_
        refine lv_iload_n hx hb dX11_write_81 rfl (lv_at hl 3 rfl) ?_
        refine lv_lload_n hx hb dX11_write_82 rfl (lv_at hl 4 rfl) ?_
        obtain ⟨_u15, σ16, hq17, hf⟩ := fm_bE hf
        refine fm_cv hI (fm_runV (As := [.int a2, .long a3]) (rest := []) (rm := { frames := 0, cells := 0, slots := 0, locals := 0 }) hC hI (c_X8_put hC.2.2.1 (fm_V0 (x := a1) hg14).1 hq17) mV_X8_put q_732 ⟨rfl, rfl⟩ ⟨Nat.le_of_ble_eq_true rfl, Nat.le_of_ble_eq_true rfl⟩ (fm_V0 (x := a1) hg14).1 rfl (by decide) rfl hl.1 rfl (Nat.le_of_ble_eq_true rfl) dX11_write_83 ⟨Nat.zero_le _, Nat.zero_le _⟩) (fun H locs hI => ?_)
        refine lv_lload hx hb dX11_write_86 (lv_at hl 0 rfl) ?_
        exact fm_rl hC hI hr hlk hf dX11_write_88
      · have hf := fm_pT hf hc
        refine lv_aload_n hx hb dX11_write_54 rfl (lv_at hl 0 rfl) ?_
        refine lv_ldc (v := (-1000000001 : Int32)) hx hb hown (hts _ q_240) dX11_write_55 ?_
        obtain ⟨r18, σ19, hq20, hf⟩ := fm_bE hf
        refine fm_ci hI (fm_runV (As := [.int (-1000000001 : Int32)]) (rest := []) (rm := { frames := 1, cells := 0, slots := 0, locals := 22 }) hC hI (c_X11_tell hC.2.2.1 hq20) mV_X11_tell q_241 ⟨rfl, rfl⟩ ⟨Nat.le_of_ble_eq_true rfl, Nat.le_of_ble_eq_true rfl⟩ fc_0 rfl (by decide) rfl hl.1 rfl (Nat.le_of_ble_eq_true rfl) dX11_write_57 ⟨Nat.zero_le _, Nat.zero_le _⟩) (fun H locs hI => ?_)
        refine lv_i2l (v := r18.toInt64) hx hb dX11_write_60 rfl ?_
        exact fm_rl hC hI hr hlk hf dX11_write_61
    · have hf := fm_pF hf hc
      refine lv_aload_n hx hb dX11_write_27 rfl (lv_at hl 0 rfl) ?_
      refine lv_ldc (v := (-1000000006 : Int32)) hx hb hown (hts _ q_731) dX11_write_28 ?_
      obtain ⟨r21, σ22, hq23, hf⟩ := fm_bE hf
      refine fm_ci hI (fm_runV (As := [.int (-1000000006 : Int32)]) (rest := []) (rm := { frames := 1, cells := 0, slots := 0, locals := 22 }) hC hI (c_X11_tell hC.2.2.1 hq23) mV_X11_tell q_241 ⟨rfl, rfl⟩ ⟨Nat.le_of_ble_eq_true rfl, Nat.le_of_ble_eq_true rfl⟩ fc_0 rfl (by decide) rfl hl.1 rfl (Nat.le_of_ble_eq_true rfl) dX11_write_30 ⟨Nat.zero_le _, Nat.zero_le _⟩) (fun H locs hI => ?_)
      refine lv_i2l (v := r21.toInt64) hx hb dX11_write_33 rfl ?_
      exact fm_rl hC hI hr hlk hf dX11_write_34
  · have hf := fm_pT hf hc
    refine lv_aload_n hx hb dX11_write_7 rfl (lv_at hl 0 rfl) ?_
    refine lv_ldc (v := (-1000000001 : Int32)) hx hb hown (hts _ q_240) dX11_write_8 ?_
    obtain ⟨r24, σ25, hq26, hf⟩ := fm_bE hf
    refine fm_ci hI (fm_runV (As := [.int (-1000000001 : Int32)]) (rest := []) (rm := { frames := 1, cells := 0, slots := 0, locals := 22 }) hC hI (c_X11_tell hC.2.2.1 hq26) mV_X11_tell q_241 ⟨rfl, rfl⟩ ⟨Nat.le_of_ble_eq_true rfl, Nat.le_of_ble_eq_true rfl⟩ fc_0 rfl (by decide) rfl hl.1 rfl (Nat.le_of_ble_eq_true rfl) dX11_write_10 ⟨Nat.zero_le _, Nat.zero_le _⟩) (fun H locs hI => ?_)
    refine lv_i2l (v := r24.toInt64) hx hb dX11_write_13 rfl ?_
    exact fm_rl hC hI hr hlk hf dX11_write_14
def m_X11_copy (a1 : Int32) (a2 : Int32) (a3 : Int32) (a4 : Int32) (a5 : Int32) (σ : fm_M) : Option (Int32 × fm_M) := fm_b (m_X11_isSheet a1 σ) fun r1 σ2 => (if r1 = 0 then (fm_b (m_X11_tell (-1000000001 : Int32) σ2) fun r4 σ5 => (some (r4, σ5))) else (fm_b (m_X11_isSheet a3 σ2) fun r7 σ8 => (if r7 = 0 then (fm_b (m_X11_tell (-1000000001 : Int32) σ8) fun r48 σ49 => (some (r48, σ49))) else (fm_g (fm_in1 a1 4) (fm_b (m_X8_isMissing (84 + 2 * a1.toNatClampNeg) σ8) fun r11 σ12 => (if r11 = 0 then (fm_g (fm_in1 a3 4) (fm_b (m_X8_isMissing (84 + 2 * a3.toNatClampNeg) σ12) fun r18 σ19 => (if r18 = 0 then (fm_g (fm_in1 a1 4) (fm_g (fm_in1 a3 4) (if (σ19.1 (84 + 2 * a1.toNatClampNeg) 1) = (σ19.1 (84 + 2 * a3.toNatClampNeg) 1) then (fm_g (fm_in1 a1 4) (fm_b (m_X8_holds (84 + 2 * a1.toNatClampNeg) a2 a5 σ19) fun r24 σ25 => (if r24 = 0 then (fm_b (m_X11_tell (-1000000001 : Int32) σ25) fun r27 σ28 => (some (r27, σ28))) else (fm_g (fm_in1 a3 4) (fm_b (m_X8_holds (84 + 2 * a3.toNatClampNeg) a4 a5 σ25) fun r31 σ32 => (if r31 = 0 then (fm_b (m_X11_tell (-1000000001 : Int32) σ32) fun r39 σ40 => (some (r39, σ40))) else (fm_g (fm_in1 a1 4) (fm_g (fm_in1 a3 4) (fm_g (fm_cpk a2 a4 a5 40 40) (fm_let (fm_cpL σ32 ((84 + 2 * a1.toNatClampNeg) + 1) ((84 + 2 * a3.toNatClampNeg) + 1) a2.toNatClampNeg a4.toNatClampNeg a5.toNatClampNeg) fun σ37 => (some (a5, σ37)))))))))))) else (fm_b (m_X11_tell (-1000000003 : Int32) σ19) fun r42 σ43 => (some (r42, σ43)))))) else (fm_b (m_X11_tell (-1000000006 : Int32) σ19) fun r45 σ46 => (some (r45, σ46)))))) else (fm_b (m_X11_tell (-1000000006 : Int32) σ12) fun r14 σ15 => (some (r14, σ15)))))))))
set_option maxHeartbeats 4000000 in
set_option maxRecDepth 100000 in
theorem c_X11_copy {l : Launch} {G : fm_G} (hJ : fm_J G) {a1 : Int32} {a2 : Int32} {a3 : Int32} {a4 : Int32} {a5 : Int32} {σ : fm_M} {o : Int32 × fm_M}  (hf : m_X11_copy a1 a2 a3 a4 a5 σ = some o) : Met l yX11_copy (fm_w yX11_copy cX11_copy 6 (some .int)) { frames := 2, cells := 0, slots := 0, locals := 60 } (va_Pc [.ref (G.2.1 0), .int a1, .int a2, .int a3, .int a4, .int a5] (fm_st G σ)) (fm_Qi G o) 0 0 (fm_A G) := by
  refine fm_mth (own := RX11) hJ rfl (by decide +kernel) (Nat.le_of_ble_eq_true rfl) ?_
  intro p e s m below meth c ls hC hr hlk hI hl
  have hx := hC.1.1
  have hb := hC.1.2.1
  have hown := hC.1.2.2.2.1
  have hts := hC.1.2.2.2.2
  have hl : lv_has ls 6 [(0, .ref (G.2.1 0)), (1, .int a1), (2, .int a2), (3, .int a3), (4, .int a4), (5, .int a5)] := hl
  rw [m_X11_copy] at hf
  refine lv_iload_n hx hb dX11_copy_0 rfl (lv_at hl 1 rfl) ?_
  obtain ⟨r1, σ2, hq3, hf⟩ := fm_bE hf
  refine fm_ci hI (fm_runS (As := [.int a1]) (rest := []) (rm := { frames := 1, cells := 0, slots := 0, locals := 22 }) hC hI (c_X11_isSheet hC.2.2.1 hq3) mS_X11_isSheet q_716 ⟨rfl, rfl⟩ ⟨Nat.le_of_ble_eq_true rfl, Nat.le_of_ble_eq_true rfl⟩ rfl hl.1 rfl (Nat.le_of_ble_eq_true rfl) dX11_copy_1 ⟨Nat.zero_le _, Nat.zero_le _⟩) (fun H locs hI => ?_)
  refine lv_if_eq (tgt := 14) hx hb dX11_copy_4 (by decide) (fun hc => ?_) (fun hc => ?_)
  · have hf := fm_pT hf hc
    refine lv_aload_n hx hb dX11_copy_14 rfl (lv_at hl 0 rfl) ?_
    refine lv_ldc (v := (-1000000001 : Int32)) hx hb hown (hts _ q_240) dX11_copy_15 ?_
    obtain ⟨r4, σ5, hq6, hf⟩ := fm_bE hf
    refine fm_ci hI (fm_runV (As := [.int (-1000000001 : Int32)]) (rest := []) (rm := { frames := 1, cells := 0, slots := 0, locals := 22 }) hC hI (c_X11_tell hC.2.2.1 hq6) mV_X11_tell q_241 ⟨rfl, rfl⟩ ⟨Nat.le_of_ble_eq_true rfl, Nat.le_of_ble_eq_true rfl⟩ fc_0 rfl (by decide) rfl hl.1 rfl (Nat.le_of_ble_eq_true rfl) dX11_copy_17 ⟨Nat.zero_le _, Nat.zero_le _⟩) (fun H locs hI => ?_)
    exact fm_ri hC hI hr hlk hf dX11_copy_20
  · have hf := fm_pF hf hc
    refine lv_iload_n hx hb dX11_copy_7 rfl (lv_at hl 3 rfl) ?_
    obtain ⟨r7, σ8, hq9, hf⟩ := fm_bE hf
    refine fm_ci hI (fm_runS (As := [.int a3]) (rest := []) (rm := { frames := 1, cells := 0, slots := 0, locals := 22 }) hC hI (c_X11_isSheet hC.2.2.1 hq9) mS_X11_isSheet q_716 ⟨rfl, rfl⟩ ⟨Nat.le_of_ble_eq_true rfl, Nat.le_of_ble_eq_true rfl⟩ rfl hl.1 rfl (Nat.le_of_ble_eq_true rfl) dX11_copy_8 ⟨Nat.zero_le _, Nat.zero_le _⟩) (fun H locs hI => ?_)
    refine lv_if_ne (tgt := 21) hx hb dX11_copy_11 (by decide) (fun hc => ?_) (fun hc => ?_)
    · have hf := fm_pF hf hc
      refine lv_aload_n hx hb dX11_copy_21 rfl (lv_at hl 0 rfl) ?_
      refine fm_gr hC hI fd_X11_4 fc_0 fr_0_4 q_209 dX11_copy_22 ?_
      refine lv_iload_n hx hb dX11_copy_25 rfl (lv_at hl 1 rfl) ?_
      obtain ⟨hg10, hf⟩ := fm_gE hf
      refine fm_aald (t0 := 6) hC hI fc_83 (by decide) (by decide) rfl fl_83 hg10 (fm_V0 (x := a1) hg10).2 dX11_copy_26 ?_
      obtain ⟨r11, σ12, hq13, hf⟩ := fm_bE hf
      refine fm_ci hI (fm_runV (As := []) (rest := []) (rm := { frames := 0, cells := 0, slots := 0, locals := 0 }) hC hI (c_X8_isMissing hC.2.2.1 (fm_V0 (x := a1) hg10).1 hq13) mV_X8_isMissing q_727 ⟨rfl, rfl⟩ ⟨Nat.le_of_ble_eq_true rfl, Nat.le_of_ble_eq_true rfl⟩ (fm_V0 (x := a1) hg10).1 rfl (by decide) rfl hl.1 rfl (Nat.le_of_ble_eq_true rfl) dX11_copy_27 ⟨Nat.zero_le _, Nat.zero_le _⟩) (fun H locs hI => ?_)
      refine lv_if_ne (tgt := 45) hx hb dX11_copy_30 (by decide) (fun hc => ?_) (fun hc => ?_)
      · have hf := fm_pF hf hc
        refine lv_aload_n hx hb dX11_copy_45 rfl (lv_at hl 0 rfl) ?_
        refine lv_ldc (v := (-1000000006 : Int32)) hx hb hown (hts _ q_731) dX11_copy_46 ?_
        obtain ⟨r14, σ15, hq16, hf⟩ := fm_bE hf
        refine fm_ci hI (fm_runV (As := [.int (-1000000006 : Int32)]) (rest := []) (rm := { frames := 1, cells := 0, slots := 0, locals := 22 }) hC hI (c_X11_tell hC.2.2.1 hq16) mV_X11_tell q_241 ⟨rfl, rfl⟩ ⟨Nat.le_of_ble_eq_true rfl, Nat.le_of_ble_eq_true rfl⟩ fc_0 rfl (by decide) rfl hl.1 rfl (Nat.le_of_ble_eq_true rfl) dX11_copy_48 ⟨Nat.zero_le _, Nat.zero_le _⟩) (fun H locs hI => ?_)
        exact fm_ri hC hI hr hlk hf dX11_copy_51
      · have hf := fm_pT hf hc
        refine lv_aload_n hx hb dX11_copy_33 rfl (lv_at hl 0 rfl) ?_
        refine fm_gr hC hI fd_X11_4 fc_0 fr_0_4 q_209 dX11_copy_34 ?_
        refine lv_iload_n hx hb dX11_copy_37 rfl (lv_at hl 3 rfl) ?_
        obtain ⟨hg17, hf⟩ := fm_gE hf
        refine fm_aald (t0 := 6) hC hI fc_83 (by decide) (by decide) rfl fl_83 hg17 (fm_V0 (x := a3) hg17).2 dX11_copy_38 ?_
        obtain ⟨r18, σ19, hq20, hf⟩ := fm_bE hf
        refine fm_ci hI (fm_runV (As := []) (rest := []) (rm := { frames := 0, cells := 0, slots := 0, locals := 0 }) hC hI (c_X8_isMissing hC.2.2.1 (fm_V0 (x := a3) hg17).1 hq20) mV_X8_isMissing q_727 ⟨rfl, rfl⟩ ⟨Nat.le_of_ble_eq_true rfl, Nat.le_of_ble_eq_true rfl⟩ (fm_V0 (x := a3) hg17).1 rfl (by decide) rfl hl.1 rfl (Nat.le_of_ble_eq_true rfl) dX11_copy_39 ⟨Nat.zero_le _, Nat.zero_le _⟩) (fun H locs hI => ?_)
        refine lv_if_eq (tgt := 52) hx hb dX11_copy_42 (by decide) (fun hc => ?_) (fun hc => ?_)
        · have hf := fm_pT hf hc
          refine lv_aload_n hx hb dX11_copy_52 rfl (lv_at hl 0 rfl) ?_
          refine fm_gr hC hI fd_X11_4 fc_0 fr_0_4 q_209 dX11_copy_53 ?_
          refine lv_iload_n hx hb dX11_copy_56 rfl (lv_at hl 1 rfl) ?_
          obtain ⟨hg21, hf⟩ := fm_gE hf
          refine fm_aald (t0 := 6) hC hI fc_83 (by decide) (by decide) rfl fl_83 hg21 (fm_V0 (x := a1) hg21).2 dX11_copy_57 ?_
          refine fm_gi hC hI fd_X8_1 (fm_V0 (x := a1) hg21).1 q_168 dX11_copy_58 ?_
          refine lv_aload_n hx hb dX11_copy_61 rfl (lv_at hl 0 rfl) ?_
          refine fm_gr hC hI fd_X11_4 fc_0 fr_0_4 q_209 dX11_copy_62 ?_
          refine lv_iload_n hx hb dX11_copy_65 rfl (lv_at hl 3 rfl) ?_
          obtain ⟨hg22, hf⟩ := fm_gE hf
          refine fm_aald (t0 := 6) hC hI fc_83 (by decide) (by decide) rfl fl_83 hg22 (fm_V0 (x := a3) hg22).2 dX11_copy_66 ?_
          refine fm_gi hC hI fd_X8_1 (fm_V0 (x := a3) hg22).1 q_168 dX11_copy_67 ?_
          refine lv_icmp_eq (tgt := 80) hx hb dX11_copy_70 (by decide) (fun hc => ?_) (fun hc => ?_)
          · have hf := fm_pT hf hc
            refine lv_aload_n hx hb dX11_copy_80 rfl (lv_at hl 0 rfl) ?_
            refine fm_gr hC hI fd_X11_4 fc_0 fr_0_4 q_209 dX11_copy_81 ?_
            refine lv_iload_n hx hb dX11_copy_84 rfl (lv_at hl 1 rfl) ?_
            obtain ⟨hg23, hf⟩ := fm_gE hf
            refine fm_aald (t0 := 6) hC hI fc_83 (by decide) (by decide) rfl fl_83 hg23 (fm_V0 (x := a1) hg23).2 dX11_copy_85 ?_
            refine lv_iload_n hx hb dX11_copy_86 rfl (lv_at hl 2 rfl) ?_
            refine lv_iload hx hb dX11_copy_87 (lv_at hl 5 rfl) ?_
            obtain ⟨r24, σ25, hq26, hf⟩ := fm_bE hf
            refine fm_ci hI (fm_runV (As := [.int a2, .int a5]) (rest := []) (rm := { frames := 0, cells := 0, slots := 0, locals := 0 }) hC hI (c_X8_holds hC.2.2.1 (fm_V0 (x := a1) hg23).1 hq26) mV_X8_holds q_740 ⟨rfl, rfl⟩ ⟨Nat.le_of_ble_eq_true rfl, Nat.le_of_ble_eq_true rfl⟩ (fm_V0 (x := a1) hg23).1 rfl (by decide) rfl hl.1 rfl (Nat.le_of_ble_eq_true rfl) dX11_copy_89 ⟨Nat.zero_le _, Nat.zero_le _⟩) (fun H locs hI => ?_)
            refine lv_if_eq (tgt := 111) hx hb dX11_copy_92 (by decide) (fun hc => ?_) (fun hc => ?_)
            · have hf := fm_pT hf hc
              refine lv_aload_n hx hb dX11_copy_111 rfl (lv_at hl 0 rfl) ?_
              refine lv_ldc (v := (-1000000001 : Int32)) hx hb hown (hts _ q_240) dX11_copy_112 ?_
              obtain ⟨r27, σ28, hq29, hf⟩ := fm_bE hf
              refine fm_ci hI (fm_runV (As := [.int (-1000000001 : Int32)]) (rest := []) (rm := { frames := 1, cells := 0, slots := 0, locals := 22 }) hC hI (c_X11_tell hC.2.2.1 hq29) mV_X11_tell q_241 ⟨rfl, rfl⟩ ⟨Nat.le_of_ble_eq_true rfl, Nat.le_of_ble_eq_true rfl⟩ fc_0 rfl (by decide) rfl hl.1 rfl (Nat.le_of_ble_eq_true rfl) dX11_copy_114 ⟨Nat.zero_le _, Nat.zero_le _⟩) (fun H locs hI => ?_)
              exact fm_ri hC hI hr hlk hf dX11_copy_117
            · have hf := fm_pF hf hc
              refine lv_aload_n hx hb dX11_copy_95 rfl (lv_at hl 0 rfl) ?_
              refine fm_gr hC hI fd_X11_4 fc_0 fr_0_4 q_209 dX11_copy_96 ?_
              refine lv_iload_n hx hb dX11_copy_99 rfl (lv_at hl 3 rfl) ?_
              obtain ⟨hg30, hf⟩ := fm_gE hf
              refine fm_aald (t0 := 6) hC hI fc_83 (by decide) (by decide) rfl fl_83 hg30 (fm_V0 (x := a3) hg30).2 dX11_copy_100 ?_
              refine lv_iload hx hb dX11_copy_101 (lv_at hl 4 rfl) ?_
              refine lv_iload hx hb dX11_copy_103 (lv_at hl 5 rfl) ?_
              obtain ⟨r31, σ32, hq33, hf⟩ := fm_bE hf
              refine fm_ci hI (fm_runV (As := [.int a4, .int a5]) (rest := []) (rm := { frames := 0, cells := 0, slots := 0, locals := 0 }) hC hI (c_X8_holds hC.2.2.1 (fm_V0 (x := a3) hg30).1 hq33) mV_X8_holds q_740 ⟨rfl, rfl⟩ ⟨Nat.le_of_ble_eq_true rfl, Nat.le_of_ble_eq_true rfl⟩ (fm_V0 (x := a3) hg30).1 rfl (by decide) rfl hl.1 rfl (Nat.le_of_ble_eq_true rfl) dX11_copy_105 ⟨Nat.zero_le _, Nat.zero_le _⟩) (fun H locs hI => ?_)
              refine lv_if_ne (tgt := 118) hx hb dX11_copy_108 (by decide) (fun hc => ?_) (fun hc => ?_)
              · have hf := fm_pF hf hc
                refine lv_aload_n hx hb dX11_copy_118 rfl (lv_at hl 0 rfl) ?_
                refine fm_gr hC hI fd_X11_4 fc_0 fr_0_4 q_209 dX11_copy_119 ?_
                refine lv_iload_n hx hb dX11_copy_122 rfl (lv_at hl 1 rfl) ?_
                obtain ⟨hg34, hf⟩ := fm_gE hf
                refine fm_aald (t0 := 6) hC hI fc_83 (by decide) (by decide) rfl fl_83 hg34 (fm_V0 (x := a1) hg34).2 dX11_copy_123 ?_
                refine fm_gr hC hI fd_X8_0 (fm_V0 (x := a1) hg34).1 (fm_S0 (fm_V0 (x := a1) hg34).1).2.1 q_166 dX11_copy_124 ?_
                refine lv_iload_n hx hb dX11_copy_127 rfl (lv_at hl 2 rfl) ?_
                refine lv_aload_n hx hb dX11_copy_128 rfl (lv_at hl 0 rfl) ?_
                refine fm_gr hC hI fd_X11_4 fc_0 fr_0_4 q_209 dX11_copy_129 ?_
                refine lv_iload_n hx hb dX11_copy_132 rfl (lv_at hl 3 rfl) ?_
                obtain ⟨hg35, hf⟩ := fm_gE hf
                refine fm_aald (t0 := 6) hC hI fc_83 (by decide) (by decide) rfl fl_83 hg35 (fm_V0 (x := a3) hg35).2 dX11_copy_133 ?_
                refine fm_gr hC hI fd_X8_0 (fm_V0 (x := a3) hg35).1 (fm_S0 (fm_V0 (x := a3) hg35).1).2.1 q_166 dX11_copy_134 ?_
                refine lv_iload hx hb dX11_copy_137 (lv_at hl 4 rfl) ?_
                refine lv_iload hx hb dX11_copy_139 (lv_at hl 5 rfl) ?_
                obtain ⟨hg36, hf⟩ := fm_gE hf
                obtain ⟨σ37, e38, hf⟩ := fm_letE hf
                refine fm_copyl hC hI hl.1 q_744 q_746 q_745 q_19 (fm_S0 (fm_V0 (x := a1) hg34).1).1 (fm_S0 (fm_V0 (x := a3) hg35).1).1 (fm_S0 (fm_V0 (x := a1) hg34).1).2.2 (fm_S0 (fm_V0 (x := a3) hg35).1).2.2 hg36 e38 (Nat.le_of_ble_eq_true rfl) (by decide +kernel) dX11_copy_141 (fun H locs hI => ?_)
                refine lv_iload hx hb dX11_copy_144 (lv_at hl 5 rfl) ?_
                exact fm_ri hC hI hr hlk hf dX11_copy_146
              · have hf := fm_pT hf hc
                refine lv_aload_n hx hb dX11_copy_111 rfl (lv_at hl 0 rfl) ?_
                refine lv_ldc (v := (-1000000001 : Int32)) hx hb hown (hts _ q_240) dX11_copy_112 ?_
                obtain ⟨r39, σ40, hq41, hf⟩ := fm_bE hf
                refine fm_ci hI (fm_runV (As := [.int (-1000000001 : Int32)]) (rest := []) (rm := { frames := 1, cells := 0, slots := 0, locals := 22 }) hC hI (c_X11_tell hC.2.2.1 hq41) mV_X11_tell q_241 ⟨rfl, rfl⟩ ⟨Nat.le_of_ble_eq_true rfl, Nat.le_of_ble_eq_true rfl⟩ fc_0 rfl (by decide) rfl hl.1 rfl (Nat.le_of_ble_eq_true rfl) dX11_copy_114 ⟨Nat.zero_le _, Nat.zero_le _⟩) (fun H locs hI => ?_)
                exact fm_ri hC hI hr hlk hf dX11_copy_117
          · have hf := fm_pF hf hc
            refine lv_aload_n hx hb dX11_copy_73 rfl (lv_at hl 0 rfl) ?_
            refine lv_ldc (v := (-1000000003 : Int32)) hx hb hown (hts _ q_402) dX11_copy_74 ?_
            obtain ⟨r42, σ43, hq44, hf⟩ := fm_bE hf
            refine fm_ci hI (fm_runV (As := [.int (-1000000003 : Int32)]) (rest := []) (rm := { frames := 1, cells := 0, slots := 0, locals := 22 }) hC hI (c_X11_tell hC.2.2.1 hq44) mV_X11_tell q_241 ⟨rfl, rfl⟩ ⟨Nat.le_of_ble_eq_true rfl, Nat.le_of_ble_eq_true rfl⟩ fc_0 rfl (by decide) rfl hl.1 rfl (Nat.le_of_ble_eq_true rfl) dX11_copy_76 ⟨Nat.zero_le _, Nat.zero_le _⟩) (fun H locs hI => ?_)
            exact fm_ri hC hI hr hlk hf dX11_copy_79
        · have hf := fm_pF hf hc
          refine lv_aload_n hx hb dX11_copy_45 rfl (lv_at hl 0 rfl) ?_
          refine lv_ldc (v := (-1000000006 : Int32)) hx hb hown (hts _ q_731) dX11_copy_46 ?_
          obtain ⟨r45, σ46, hq47, hf⟩ := fm_bE hf
          refine fm_ci hI (fm_runV (As := [.int (-1000000006 : Int32)]) (rest := []) (rm := { frames := 1, cells := 0, slots := 0, locals := 22 }) hC hI (c_X11_tell hC.2.2.1 hq47) mV_X11_tell q_241 ⟨rfl, rfl⟩ ⟨Nat.le_of_ble_eq_true rfl, Nat.le_of_ble_eq_true rfl⟩ fc_0 rfl (by decide) rfl hl.1 rfl (Nat.le_of_ble_eq_true rfl) dX11_copy_48 ⟨Nat.zero_le _, Nat.zero_le _⟩) (fun H locs hI => ?_)
          exact fm_ri hC hI hr hlk hf dX11_copy_51
    · have hf := fm_pT hf hc
      refine lv_aload_n hx hb dX11_copy_14 rfl (lv_at hl 0 rfl) ?_
      refine lv_ldc (v := (-1000000001 : Int32)) hx hb hown (hts _ q_240) dX11_copy_15 ?_
      obtain ⟨r48, σ49, hq50, hf⟩ := fm_bE hf
      refine fm_ci hI (fm_runV (As := [.int (-1000000001 : Int32)]) (rest := []) (rm := { frames := 1, cells := 0, slots := 0, locals := 22 }) hC hI (c_X11_tell hC.2.2.1 hq50) mV_X11_tell q_241 ⟨rfl, rfl⟩ ⟨Nat.le_of_ble_eq_true rfl, Nat.le_of_ble_eq_true rfl⟩ fc_0 rfl (by decide) rfl hl.1 rfl (Nat.le_of_ble_eq_true rfl) dX11_copy_17 ⟨Nat.zero_le _, Nat.zero_le _⟩) (fun H locs hI => ?_)
      exact fm_ri hC hI hr hlk hf dX11_copy_20
def m_X11_lays_96 (kc : Int32 → Nat → Int32 → Int32 → fm_M → Option (Int32 × fm_M)) : Nat → Int32 → Nat → Int32 → Int32 → fm_M → Option (Int32 × fm_M)
  | 0, _, _, _, _, _ => none
  | n + 1, z1, z3, z4, z5, σ => if z4 ≤ z5 then (kc z1 z3 z4 z5 σ) else (fm_g (fm_in1 z1 4) (fm_g (fm_in1 z5 40) (if (lg_cmp (σ.2 ((84 + 2 * z1.toNatClampNeg) + 1) z5.toNatClampNeg) (0 : Int64)) < 0 then (kc z1 z3 z4 z5 σ) else (if (lg_cmp (σ.2 ((84 + 2 * z1.toNatClampNeg) + 1) z5.toNatClampNeg) (4 : Int64)) < 0 then (fm_b (m_X7_layInnermost z3 ((σ.2 ((84 + 2 * z1.toNatClampNeg) + 1) z5.toNatClampNeg).toInt32) σ) fun _u17 σ18 => (m_X11_lays_96 kc n z1 z3 z4 (z5 + (1 : Int32)) σ18)) else (kc z1 z3 z4 z5 σ)))))
def m_X11_lays (a1 : Int32) (a2 : Int32) (σ : fm_M) : Option (Int32 × fm_M) := fm_b (m_X11_isSheet a1 σ) fun r1 σ2 => (if r1 = 0 then (fm_b (m_X11_tell (-1000000001 : Int32) σ2) fun r30 σ31 => (some (r30, σ31))) else (fm_g (fm_in1 a1 4) (fm_b (m_X8_isMissing (84 + 2 * a1.toNatClampNeg) σ2) fun r5 σ6 => (if r5 = 0 then (fm_b (m_X11_isPresent a2 σ6) fun r8 σ9 => (if r8 = 0 then (fm_b (m_X11_tell (-1000000001 : Int32) σ9) fun r24 σ25 => (some (r24, σ25))) else (fm_g (fm_in1 a2 8) (if (σ9.1 (8 + 9 + 2 * a2.toNatClampNeg) 4) = 0 then (fm_let (fm_sI σ9 (8 + 9 + 2 * a2.toNatClampNeg) 1 (0 : Int32)) fun σ12 => (fm_g (fm_in1 a1 4) (m_X11_lays_96 (fun (x1_y20 : Int32) (x3_y20 : Nat) (x4_y20 : Int32) (x5_y20 : Int32) (σ_y20 : fm_M) => some ((σ_y20.1 x3_y20 1), σ_y20)) fm_fu a1 (8 + 9 + 2 * a2.toNatClampNeg) (if (6 : Int32) < (σ12.1 (84 + 2 * a1.toNatClampNeg) 2) then (6 : Int32) else (σ12.1 (84 + 2 * a1.toNatClampNeg) 2)) (0 : Int32) σ12))) else (fm_b (m_X11_tell (-1000000005 : Int32) σ9) fun r21 σ22 => (some (r21, σ22))))))) else (fm_b (m_X11_tell (-1000000006 : Int32) σ6) fun r27 σ28 => (some (r27, σ28)))))))
set_option maxHeartbeats 4000000 in
set_option maxRecDepth 100000 in
theorem w_X11_lays_96 {p : Program} {l : Launch} {e : Env} {s : State} {m : MethodId} {args : Array Value} {below : List Frame} {meth : Method} {c : Code} {G : fm_G} {o : Int32 × fm_M} {kc : Int32 → Nat → Int32 → Int32 → fm_M → Option (Int32 × fm_M)} (hC : fm_C G p m c cX11_lays 8 s args RX11) (hr : meth.sig.returnType = (some .int)) (hlk : meth.locks = false) (hk : ∀ (z1 : Int32) (z3 : Nat) (z4 : Int32) (z5 : Int32) (σ : fm_M) (H : Heap) (locs : List Loc) (ls : Array Slot), fm_ct z3 = 7 → fm_I G σ s H locs → lv_has ls 8 [(0, .ref (G.2.1 0)), (1, .int z1), (3, .ref (G.2.1 z3)), (4, .int z4), (5, .int z5)] → kc z1 z3 z4 z5 σ = some o → W p l e { frames := 2, cells := 0, slots := 0, locals := 44 } s m args below meth c H locs 0 0 (MQ below (fm_Qi G o) args s 0 0 (fm_A G)) (F0 m 149 ls [])) (n : Nat) : ∀ (z1 : Int32) (z3 : Nat) (z4 : Int32) (z5 : Int32) (σ : fm_M) (H : Heap) (locs : List Loc) (ls : Array Slot), fm_ct z3 = 7 → fm_I G σ s H locs → lv_has ls 8 [(0, .ref (G.2.1 0)), (1, .int z1), (3, .ref (G.2.1 z3)), (4, .int z4), (5, .int z5)] → m_X11_lays_96 kc n z1 z3 z4 z5 σ = some o → W p l e { frames := 2, cells := 0, slots := 0, locals := 44 } s m args below meth c H locs 0 0 (MQ below (fm_Qi G o) args s 0 0 (fm_A G)) (F0 m 96 ls []) := by
  have hx := hC.1.1
  have hb := hC.1.2.1
  have hown := hC.1.2.2.2.1
  have hts := hC.1.2.2.2.2
  induction n with
  | zero =>
    intro z1 z3 z4 z5 σ H locs ls hz3 hI hl hf
    cases hf
  | succ n ih =>
    intro z1 z3 z4 z5 σ H locs ls hz3 hI hl hf
    rw [m_X11_lays_96] at hf
    refine lv_iload hx hb dX11_lays_96 (lv_at hl 4 rfl) ?_
    refine lv_iload hx hb dX11_lays_98 (lv_at hl 3 rfl) ?_
    refine lv_icmp_ge (tgt := 149) hx hb dX11_lays_100 (by decide) (fun hc => ?_) (fun hc => ?_)
    · have hf := fm_pT hf hc
      exact hk z1 z3 z4 z5 σ _ _ _ hz3 hI (lv_sub hl [0, 1, 2, 3, 4] rfl) hf
    · have hf := fm_pF hf hc
      refine lv_aload_n hx hb dX11_lays_103 rfl (lv_at hl 0 rfl) ?_
      refine fm_gr hC hI fd_X11_4 fc_0 fr_0_4 q_209 dX11_lays_104 ?_
      refine lv_iload_n hx hb dX11_lays_107 rfl (lv_at hl 1 rfl) ?_
      obtain ⟨hg15, hf⟩ := fm_gE hf
      refine fm_aald (t0 := 6) hC hI fc_83 (by decide) (by decide) rfl fl_83 hg15 (fm_V0 (x := z1) hg15).2 dX11_lays_108 ?_
      refine fm_gr hC hI fd_X8_0 (fm_V0 (x := z1) hg15).1 (fm_S0 (fm_V0 (x := z1) hg15).1).2.1 q_166 dX11_lays_109 ?_
      refine lv_iload hx hb dX11_lays_112 (lv_at hl 4 rfl) ?_
      obtain ⟨hg16, hf⟩ := fm_gE hf
      refine fm_lald hC hI (fm_S0 (fm_V0 (x := z1) hg15).1).1 (fm_S0 (fm_V0 (x := z1) hg15).1).2.2 hg16 dX11_lays_114 ?_
      refine lv_lstore (lv' := [(6, .long (σ.2 ((84 + 2 * z1.toNatClampNeg) + 1) z5.toNatClampNeg)), (0, .ref (G.2.1 0)), (1, .int z1), (3, .ref (G.2.1 z3)), (4, .int z4), (5, .int z5)]) hx hb dX11_lays_115 hl (Nat.le_of_ble_eq_true rfl) rfl (fun ls hl => ?_)
      refine lv_lload hx hb dX11_lays_117 (lv_at hl 0 rfl) ?_
      refine lv_lconst (v := (0 : Int64)) hx hb dX11_lays_119 (by decide) ?_
      refine W.lcmp hx hb dX11_lays_120 ?_
      refine lv_if_lt (tgt := 149) hx hb dX11_lays_121 (by decide) (fun hc => ?_) (fun hc => ?_)
      · have hf := fm_pT hf hc
        exact hk z1 z3 z4 z5 σ _ _ _ hz3 hI (lv_sub hl [1, 2, 3, 4, 5] rfl) hf
      · have hf := fm_pF hf hc
        refine lv_lload hx hb dX11_lays_124 (lv_at hl 0 rfl) ?_
        refine lv_ldc2 (v := (4 : Int64)) hx hb hown (hts _ q_752) dX11_lays_126 ?_
        refine W.lcmp hx hb dX11_lays_129 ?_
        refine lv_if_lt (tgt := 136) hx hb dX11_lays_130 (by decide) (fun hc => ?_) (fun hc => ?_)
        · have hf := fm_pT hf hc
          refine lv_aload_n hx hb dX11_lays_136 rfl (lv_at hl 3 rfl) ?_
          refine lv_lload hx hb dX11_lays_137 (lv_at hl 0 rfl) ?_
          refine lv_l2i (v := (σ.2 ((84 + 2 * z1.toNatClampNeg) + 1) z5.toNatClampNeg).toInt32) hx hb dX11_lays_139 rfl ?_
          obtain ⟨_u17, σ18, hq19, hf⟩ := fm_bE hf
          refine fm_cv hI (fm_runV (As := [.int ((σ.2 ((84 + 2 * z1.toNatClampNeg) + 1) z5.toNatClampNeg).toInt32)]) (rest := []) (rm := { frames := 0, cells := 0, slots := 0, locals := 0 }) hC hI (c_X7_layInnermost hC.2.2.1 hz3 hq19) mV_X7_layInnermost q_753 ⟨rfl, rfl⟩ ⟨Nat.le_of_ble_eq_true rfl, Nat.le_of_ble_eq_true rfl⟩ hz3 rfl (by decide) rfl hl.1 rfl (Nat.le_of_ble_eq_true rfl) dX11_lays_140 ⟨Nat.zero_le _, Nat.zero_le _⟩) (fun H locs hI => ?_)
          refine lv_iinc (v := (z5 + (1 : Int32))) (lv' := [(5, .int (z5 + (1 : Int32))), (6, .long (σ.2 ((84 + 2 * z1.toNatClampNeg) + 1) z5.toNatClampNeg)), (0, .ref (G.2.1 0)), (1, .int z1), (3, .ref (G.2.1 z3)), (4, .int z4)]) hx hb dX11_lays_143 hl (k := 5) rfl rfl (Nat.le_of_ble_eq_true rfl) rfl (fun ls hl => ?_)
          refine lv_goto (tgt := 96) hx hb dX11_lays_146 (by decide) ?_
          exact ih z1 z3 z4 (z5 + (1 : Int32)) σ18 _ _ _ hz3 hI (lv_sub hl [2, 3, 4, 5, 0] rfl) hf
        · have hf := fm_pF hf hc
          refine lv_goto (tgt := 149) hx hb dX11_lays_133 (by decide) ?_
          exact hk z1 z3 z4 z5 σ _ _ _ hz3 hI (lv_sub hl [1, 2, 3, 4, 5] rfl) hf
set_option maxHeartbeats 4000000 in
set_option maxRecDepth 100000 in
theorem c_X11_lays {l : Launch} {G : fm_G} (hJ : fm_J G) {a1 : Int32} {a2 : Int32} {σ : fm_M} {o : Int32 × fm_M}  (hf : m_X11_lays a1 a2 σ = some o) : Met l yX11_lays (fm_w yX11_lays cX11_lays 8 (some .int)) { frames := 2, cells := 0, slots := 0, locals := 44 } (va_Pc [.ref (G.2.1 0), .int a1, .int a2] (fm_st G σ)) (fm_Qi G o) 0 0 (fm_A G) := by
  refine fm_mth (own := RX11) hJ rfl (by decide +kernel) (Nat.le_of_ble_eq_true rfl) ?_
  intro p e s m below meth c ls hC hr hlk hI hl
  have hx := hC.1.1
  have hb := hC.1.2.1
  have hown := hC.1.2.2.2.1
  have hts := hC.1.2.2.2.2
  have hl : lv_has ls 8 [(0, .ref (G.2.1 0)), (1, .int a1), (2, .int a2)] := hl
  rw [m_X11_lays] at hf
  refine lv_iload_n hx hb dX11_lays_0 rfl (lv_at hl 1 rfl) ?_
  obtain ⟨r1, σ2, hq3, hf⟩ := fm_bE hf
  refine fm_ci hI (fm_runS (As := [.int a1]) (rest := []) (rm := { frames := 1, cells := 0, slots := 0, locals := 22 }) hC hI (c_X11_isSheet hC.2.2.1 hq3) mS_X11_isSheet q_716 ⟨rfl, rfl⟩ ⟨Nat.le_of_ble_eq_true rfl, Nat.le_of_ble_eq_true rfl⟩ rfl hl.1 rfl (Nat.le_of_ble_eq_true rfl) dX11_lays_1 ⟨Nat.zero_le _, Nat.zero_le _⟩) (fun H locs hI => ?_)
  refine lv_if_ne (tgt := 14) hx hb dX11_lays_4 (by decide) (fun hc => ?_) (fun hc => ?_)
  · have hf := fm_pF hf hc
    refine lv_aload_n hx hb dX11_lays_14 rfl (lv_at hl 0 rfl) ?_
    refine fm_gr hC hI fd_X11_4 fc_0 fr_0_4 q_209 dX11_lays_15 ?_
    refine lv_iload_n hx hb dX11_lays_18 rfl (lv_at hl 1 rfl) ?_
    obtain ⟨hg4, hf⟩ := fm_gE hf
    refine fm_aald (t0 := 6) hC hI fc_83 (by decide) (by decide) rfl fl_83 hg4 (fm_V0 (x := a1) hg4).2 dX11_lays_19 ?_
    obtain ⟨r5, σ6, hq7, hf⟩ := fm_bE hf
    refine fm_ci hI (fm_runV (As := []) (rest := []) (rm := { frames := 0, cells := 0, slots := 0, locals := 0 }) hC hI (c_X8_isMissing hC.2.2.1 (fm_V0 (x := a1) hg4).1 hq7) mV_X8_isMissing q_727 ⟨rfl, rfl⟩ ⟨Nat.le_of_ble_eq_true rfl, Nat.le_of_ble_eq_true rfl⟩ (fm_V0 (x := a1) hg4).1 rfl (by decide) rfl hl.1 rfl (Nat.le_of_ble_eq_true rfl) dX11_lays_20 ⟨Nat.zero_le _, Nat.zero_le _⟩) (fun H locs hI => ?_)
    refine lv_if_eq (tgt := 33) hx hb dX11_lays_23 (by decide) (fun hc => ?_) (fun hc => ?_)
    · have hf := fm_pT hf hc
      refine lv_aload_n hx hb dX11_lays_33 rfl (lv_at hl 0 rfl) ?_
      refine lv_iload_n hx hb dX11_lays_34 rfl (lv_at hl 2 rfl) ?_
      obtain ⟨r8, σ9, hq10, hf⟩ := fm_bE hf
      refine fm_ci hI (fm_runV (As := [.int a2]) (rest := []) (rm := { frames := 1, cells := 0, slots := 0, locals := 22 }) hC hI (c_X11_isPresent hC.2.2.1 hq10) mV_X11_isPresent q_274 ⟨rfl, rfl⟩ ⟨Nat.le_of_ble_eq_true rfl, Nat.le_of_ble_eq_true rfl⟩ fc_0 rfl (by decide) rfl hl.1 rfl (Nat.le_of_ble_eq_true rfl) dX11_lays_35 ⟨Nat.zero_le _, Nat.zero_le _⟩) (fun H locs hI => ?_)
      refine lv_if_ne (tgt := 48) hx hb dX11_lays_38 (by decide) (fun hc => ?_) (fun hc => ?_)
      · have hf := fm_pF hf hc
        refine lv_aload_n hx hb dX11_lays_48 rfl (lv_at hl 0 rfl) ?_
        refine fm_gr hC hI fd_X11_0 fc_0 fr_0_0 q_205 dX11_lays_49 ?_
        refine fm_gr hC hI fd_X10_2 fc_8 fr_8_2 q_135 dX11_lays_52 ?_
        refine lv_iload_n hx hb dX11_lays_55 rfl (lv_at hl 2 rfl) ?_
        obtain ⟨hg11, hf⟩ := fm_gE hf
        refine fm_aald (t0 := 5) hC hI fc_16 (by decide) (by decide) rfl fl_16 hg11 (fm_T4 (x := a2) fc_8 hg11).2 dX11_lays_56 ?_
        refine lv_astore_n (lv' := [(3, .ref (G.2.1 (8 + 9 + 2 * a2.toNatClampNeg))), (0, .ref (G.2.1 0)), (1, .int a1), (2, .int a2)]) hx hb dX11_lays_57 rfl hl (Nat.le_of_ble_eq_true rfl) rfl (fun ls hl => ?_)
        refine lv_aload_n hx hb dX11_lays_58 rfl (lv_at hl 0 rfl) ?_
        refine fm_gi hC hI fd_X7_4 (fm_T4 (x := a2) fc_8 hg11).1 q_118 dX11_lays_59 ?_
        refine lv_if_eq (tgt := 72) hx hb dX11_lays_62 (by decide) (fun hc => ?_) (fun hc => ?_)
        · have hf := fm_pT hf hc
          refine lv_aload_n hx hb dX11_lays_72 rfl (lv_at hl 0 rfl) ?_
          refine lv_iconst (v := (0 : Int32)) hx hb dX11_lays_73 (by decide) ?_
          obtain ⟨σ12, e13, hf⟩ := fm_letE hf
          refine fm_pi hC hI fp_X7_1 (fm_T4 (x := a2) fc_8 hg11).1 ⟨rfl, rfl⟩ e13 q_108 dX11_lays_74 (fun H locs hI => ?_)
          refine lv_aload_n hx hb dX11_lays_77 rfl (lv_at hl 1 rfl) ?_
          refine fm_gr hC hI fd_X11_4 fc_0 fr_0_4 q_209 dX11_lays_78 ?_
          refine lv_iload_n hx hb dX11_lays_81 rfl (lv_at hl 2 rfl) ?_
          obtain ⟨hg14, hf⟩ := fm_gE hf
          refine fm_aald (t0 := 6) hC hI fc_83 (by decide) (by decide) rfl fl_83 hg14 (fm_V0 (x := a1) hg14).2 dX11_lays_82 ?_
          refine fm_gi hC hI fd_X8_2 (fm_V0 (x := a1) hg14).1 q_170 dX11_lays_83 ?_
          refine lv_bipush (v := (6 : Int32)) hx hb dX11_lays_86 (by decide) ?_
          refine va_mmin hx hb (hC.1.2.2.1.trans hl.1.symm) hown (hts _ q_751) (hts _ q_320) (hts _ q_14) (hts _ q_321) (Nat.le_of_ble_eq_true rfl) (Nat.le_of_ble_eq_true rfl) (Nat.zero_le _) (Nat.zero_le _) dX11_lays_88 ?_
          refine lv_istore (lv' := [(4, .int (if (6 : Int32) < (σ12.1 (84 + 2 * a1.toNatClampNeg) 2) then (6 : Int32) else (σ12.1 (84 + 2 * a1.toNatClampNeg) 2))), (3, .ref (G.2.1 (8 + 9 + 2 * a2.toNatClampNeg))), (0, .ref (G.2.1 0)), (1, .int a1), (2, .int a2)]) hx hb dX11_lays_91 hl (Nat.le_of_ble_eq_true rfl) rfl (fun ls hl => ?_)
          refine lv_iconst (v := (0 : Int32)) hx hb dX11_lays_93 (by decide) ?_
          refine lv_istore (lv' := [(5, .int (0 : Int32)), (4, .int (if (6 : Int32) < (σ12.1 (84 + 2 * a1.toNatClampNeg) 2) then (6 : Int32) else (σ12.1 (84 + 2 * a1.toNatClampNeg) 2))), (3, .ref (G.2.1 (8 + 9 + 2 * a2.toNatClampNeg))), (0, .ref (G.2.1 0)), (1, .int a1), (2, .int a2)]) hx hb dX11_lays_94 hl (Nat.le_of_ble_eq_true rfl) rfl (fun ls hl => ?_)
          refine w_X11_lays_96 hC hr hlk (fun x1_y20 x3_y20 x4_y20 x5_y20 σ_y20 H locs ls hx3_y20 hI hl hf => ?_) fm_fu a1 (8 + 9 + 2 * a2.toNatClampNeg) (if (6 : Int32) < (σ12.1 (84 + 2 * a1.toNatClampNeg) 2) then (6 : Int32) else (σ12.1 (84 + 2 * a1.toNatClampNeg) 2)) (0 : Int32) σ12 _ _ _ (fm_T4 (x := a2) fc_8 hg11).1 hI (lv_sub hl [3, 4, 2, 1, 0] rfl) hf
          refine lv_aload_n hx hb dX11_lays_149 rfl (lv_at hl 2 rfl) ?_
          refine fm_gi hC hI fd_X7_1 hx3_y20 q_108 dX11_lays_150 ?_
          exact fm_ri hC hI hr hlk hf dX11_lays_153
        · have hf := fm_pF hf hc
          refine lv_aload_n hx hb dX11_lays_65 rfl (lv_at hl 1 rfl) ?_
          refine lv_ldc (v := (-1000000005 : Int32)) hx hb hown (hts _ q_438) dX11_lays_66 ?_
          obtain ⟨r21, σ22, hq23, hf⟩ := fm_bE hf
          refine fm_ci hI (fm_runV (As := [.int (-1000000005 : Int32)]) (rest := []) (rm := { frames := 1, cells := 0, slots := 0, locals := 22 }) hC hI (c_X11_tell hC.2.2.1 hq23) mV_X11_tell q_241 ⟨rfl, rfl⟩ ⟨Nat.le_of_ble_eq_true rfl, Nat.le_of_ble_eq_true rfl⟩ fc_0 rfl (by decide) rfl hl.1 rfl (Nat.le_of_ble_eq_true rfl) dX11_lays_68 ⟨Nat.zero_le _, Nat.zero_le _⟩) (fun H locs hI => ?_)
          exact fm_ri hC hI hr hlk hf dX11_lays_71
      · have hf := fm_pT hf hc
        refine lv_aload_n hx hb dX11_lays_41 rfl (lv_at hl 0 rfl) ?_
        refine lv_ldc (v := (-1000000001 : Int32)) hx hb hown (hts _ q_240) dX11_lays_42 ?_
        obtain ⟨r24, σ25, hq26, hf⟩ := fm_bE hf
        refine fm_ci hI (fm_runV (As := [.int (-1000000001 : Int32)]) (rest := []) (rm := { frames := 1, cells := 0, slots := 0, locals := 22 }) hC hI (c_X11_tell hC.2.2.1 hq26) mV_X11_tell q_241 ⟨rfl, rfl⟩ ⟨Nat.le_of_ble_eq_true rfl, Nat.le_of_ble_eq_true rfl⟩ fc_0 rfl (by decide) rfl hl.1 rfl (Nat.le_of_ble_eq_true rfl) dX11_lays_44 ⟨Nat.zero_le _, Nat.zero_le _⟩) (fun H locs hI => ?_)
        exact fm_ri hC hI hr hlk hf dX11_lays_47
    · have hf := fm_pF hf hc
      refine lv_aload_n hx hb dX11_lays_26 rfl (lv_at hl 0 rfl) ?_
      refine lv_ldc (v := (-1000000006 : Int32)) hx hb hown (hts _ q_731) dX11_lays_27 ?_
      obtain ⟨r27, σ28, hq29, hf⟩ := fm_bE hf
      refine fm_ci hI (fm_runV (As := [.int (-1000000006 : Int32)]) (rest := []) (rm := { frames := 1, cells := 0, slots := 0, locals := 22 }) hC hI (c_X11_tell hC.2.2.1 hq29) mV_X11_tell q_241 ⟨rfl, rfl⟩ ⟨Nat.le_of_ble_eq_true rfl, Nat.le_of_ble_eq_true rfl⟩ fc_0 rfl (by decide) rfl hl.1 rfl (Nat.le_of_ble_eq_true rfl) dX11_lays_29 ⟨Nat.zero_le _, Nat.zero_le _⟩) (fun H locs hI => ?_)
      exact fm_ri hC hI hr hlk hf dX11_lays_32
  · have hf := fm_pT hf hc
    refine lv_aload_n hx hb dX11_lays_7 rfl (lv_at hl 0 rfl) ?_
    refine lv_ldc (v := (-1000000001 : Int32)) hx hb hown (hts _ q_240) dX11_lays_8 ?_
    obtain ⟨r30, σ31, hq32, hf⟩ := fm_bE hf
    refine fm_ci hI (fm_runV (As := [.int (-1000000001 : Int32)]) (rest := []) (rm := { frames := 1, cells := 0, slots := 0, locals := 22 }) hC hI (c_X11_tell hC.2.2.1 hq32) mV_X11_tell q_241 ⟨rfl, rfl⟩ ⟨Nat.le_of_ble_eq_true rfl, Nat.le_of_ble_eq_true rfl⟩ fc_0 rfl (by decide) rfl hl.1 rfl (Nat.le_of_ble_eq_true rfl) dX11_lays_10 ⟨Nat.zero_le _, Nat.zero_le _⟩) (fun H locs hI => ?_)
    exact fm_ri hC hI hr hlk hf dX11_lays_13
def m_X11_book_54 (kc : Int32 → Int32 → Int32 → fm_M → Option (Int32 × fm_M)) : Nat → Int32 → Int32 → Int32 → fm_M → Option (Int32 × fm_M)
  | 0, _, _, _, _ => none
  | n + 1, z1, z2, z3, σ => fm_g (fm_in1 z1 4) (if (σ.1 (84 + 2 * z1.toNatClampNeg) 2) ≤ z3 then (kc z1 z2 z3 σ) else (fm_g (fm_in1 z1 4) (fm_g (fm_in1 z2 6) (fm_b (m_X8_put (84 + 2 * z1.toNatClampNeg) z3 ((σ.1 (58 + 2 + z2.toNatClampNeg) 1).toInt64) σ) fun _u17 σ18 => (fm_b (m_X10_oneDay 58 σ18) fun _u20 σ21 => (m_X11_book_54 kc n z1 z2 (z3 + (1 : Int32)) σ21))))))
def m_X11_book (a1 : Int32) (a2 : Int32) (σ : fm_M) : Option (Int32 × fm_M) := fm_b (m_X11_isSheet a1 σ) fun r1 σ2 => (if r1 = 0 then (fm_b (m_X11_tell (-1000000001 : Int32) σ2) fun r31 σ32 => (some (r31, σ32))) else (fm_g (fm_in1 a1 4) (fm_b (m_X8_isMissing (84 + 2 * a1.toNatClampNeg) σ2) fun r5 σ6 => (if r5 = 0 then (fm_b (m_X11_isPerson a2 σ6) fun r8 σ9 => (if r8 = 0 then (fm_b (m_X11_tell (-1000000001 : Int32) σ9) fun r25 σ26 => (some (r25, σ26))) else (fm_b (m_X11_startTrial  σ9) fun _u11 σ12 => (m_X11_book_54 (fun (x1_y23 : Int32) (x2_y23 : Int32) (x3_y23 : Int32) (σ_y23 : fm_M) => fm_g (fm_in1 x1_y23 4) (some ((σ_y23.1 (84 + 2 * x1_y23.toNatClampNeg) 2), σ_y23))) fm_fu a1 a2 (0 : Int32) σ12)))) else (fm_b (m_X11_tell (-1000000006 : Int32) σ6) fun r28 σ29 => (some (r28, σ29)))))))
set_option maxHeartbeats 4000000 in
set_option maxRecDepth 100000 in
theorem w_X11_book_54 {p : Program} {l : Launch} {e : Env} {s : State} {m : MethodId} {args : Array Value} {below : List Frame} {meth : Method} {c : Code} {G : fm_G} {o : Int32 × fm_M} {kc : Int32 → Int32 → Int32 → fm_M → Option (Int32 × fm_M)} (hC : fm_C G p m c cX11_book 4 s args RX11) (hr : meth.sig.returnType = (some .int)) (hlk : meth.locks = false) (hk : ∀ (z1 : Int32) (z2 : Int32) (z3 : Int32) (σ : fm_M) (H : Heap) (locs : List Loc) (ls : Array Slot), fm_I G σ s H locs → lv_has ls 4 [(0, .ref (G.2.1 0)), (1, .int z1), (2, .int z2), (3, .int z3)] → kc z1 z2 z3 σ = some o → W p l e { frames := 5, cells := 0, slots := 0, locals := 118 } s m args below meth c H locs 0 0 (MQ below (fm_Qi G o) args s 0 0 (fm_A G)) (F0 m 103 ls [])) (n : Nat) : ∀ (z1 : Int32) (z2 : Int32) (z3 : Int32) (σ : fm_M) (H : Heap) (locs : List Loc) (ls : Array Slot), fm_I G σ s H locs → lv_has ls 4 [(0, .ref (G.2.1 0)), (1, .int z1), (2, .int z2), (3, .int z3)] → m_X11_book_54 kc n z1 z2 z3 σ = some o → W p l e { frames := 5, cells := 0, slots := 0, locals := 118 } s m args below meth c H locs 0 0 (MQ below (fm_Qi G o) args s 0 0 (fm_A G)) (F0 m 54 ls []) := by
  have hx := hC.1.1
  have hb := hC.1.2.1
  have hown := hC.1.2.2.2.1
  have hts := hC.1.2.2.2.2
  induction n with
  | zero =>
    intro z1 z2 z3 σ H locs ls hI hl hf
    cases hf
  | succ n ih =>
    intro z1 z2 z3 σ H locs ls hI hl hf
    rw [m_X11_book_54] at hf
    refine lv_iload_n hx hb dX11_book_54 rfl (lv_at hl 3 rfl) ?_
    refine lv_aload_n hx hb dX11_book_55 rfl (lv_at hl 0 rfl) ?_
    refine fm_gr hC hI fd_X11_4 fc_0 fr_0_4 q_209 dX11_book_56 ?_
    refine lv_iload_n hx hb dX11_book_59 rfl (lv_at hl 1 rfl) ?_
    obtain ⟨hg14, hf⟩ := fm_gE hf
    refine fm_aald (t0 := 6) hC hI fc_83 (by decide) (by decide) rfl fl_83 hg14 (fm_V0 (x := z1) hg14).2 dX11_book_60 ?_
    refine fm_gi hC hI fd_X8_2 (fm_V0 (x := z1) hg14).1 q_170 dX11_book_61 ?_
    refine lv_icmp_ge (tgt := 103) hx hb dX11_book_64 (by decide) (fun hc => ?_) (fun hc => ?_)
    · have hf := fm_pT hf hc
      exact hk z1 z2 z3 σ _ _ _ hI (lv_sub hl [0, 1, 2, 3] rfl) hf
    · have hf := fm_pF hf hc
      refine lv_aload_n hx hb dX11_book_67 rfl (lv_at hl 0 rfl) ?_
      refine fm_gr hC hI fd_X11_4 fc_0 fr_0_4 q_209 dX11_book_68 ?_
      refine lv_iload_n hx hb dX11_book_71 rfl (lv_at hl 1 rfl) ?_
      obtain ⟨hg15, hf⟩ := fm_gE hf
      refine fm_aald (t0 := 6) hC hI fc_83 (by decide) (by decide) rfl fl_83 hg15 (fm_V0 (x := z1) hg15).2 dX11_book_72 ?_
      refine lv_iload_n hx hb dX11_book_73 rfl (lv_at hl 3 rfl) ?_
      refine lv_aload_n hx hb dX11_book_74 rfl (lv_at hl 0 rfl) ?_
      refine fm_gr hC hI fd_X11_2 fc_0 fr_0_2 q_207 dX11_book_75 ?_
      refine fm_gr hC hI fd_X10_1 fc_58 fr_58_1 q_133 dX11_book_78 ?_
      refine lv_iload_n hx hb dX11_book_81 rfl (lv_at hl 2 rfl) ?_
      obtain ⟨hg16, hf⟩ := fm_gE hf
      refine fm_aald (t0 := 4) hC hI fc_59 (by decide) (by decide) rfl fl_59 hg16 (fm_T3 (x := z2) fc_58 hg16).2 dX11_book_82 ?_
      refine fm_gi hC hI fd_X5_1 (fm_T3 (x := z2) fc_58 hg16).1 q_93 dX11_book_83 ?_
      refine lv_i2l (v := (σ.1 (58 + 2 + z2.toNatClampNeg) 1).toInt64) hx hb dX11_book_86 rfl ?_
      obtain ⟨_u17, σ18, hq19, hf⟩ := fm_bE hf
      refine fm_cv hI (fm_runV (As := [.int z3, .long ((σ.1 (58 + 2 + z2.toNatClampNeg) 1).toInt64)]) (rest := []) (rm := { frames := 0, cells := 0, slots := 0, locals := 0 }) hC hI (c_X8_put hC.2.2.1 (fm_V0 (x := z1) hg15).1 hq19) mV_X8_put q_732 ⟨rfl, rfl⟩ ⟨Nat.le_of_ble_eq_true rfl, Nat.le_of_ble_eq_true rfl⟩ (fm_V0 (x := z1) hg15).1 rfl (by decide) rfl hl.1 rfl (Nat.le_of_ble_eq_true rfl) dX11_book_87 ⟨Nat.zero_le _, Nat.zero_le _⟩) (fun H locs hI => ?_)
      refine lv_aload_n hx hb dX11_book_90 rfl (lv_at hl 0 rfl) ?_
      refine fm_gr hC hI fd_X11_2 fc_0 fr_0_2 q_207 dX11_book_91 ?_
      obtain ⟨_u20, σ21, hq22, hf⟩ := fm_bE hf
      refine fm_cv hI (fm_runV (As := []) (rest := []) (rm := { frames := 4, cells := 0, slots := 0, locals := 94 }) hC hI (c_X10_oneDay hC.2.2.1 fc_58 hq22) mV_X10_oneDay q_532 ⟨rfl, rfl⟩ ⟨Nat.le_of_ble_eq_true rfl, Nat.le_of_ble_eq_true rfl⟩ fc_58 rfl (by decide) rfl hl.1 rfl (Nat.le_of_ble_eq_true rfl) dX11_book_94 ⟨Nat.zero_le _, Nat.zero_le _⟩) (fun H locs hI => ?_)
      refine lv_iinc (v := (z3 + (1 : Int32))) (lv' := [(3, .int (z3 + (1 : Int32))), (0, .ref (G.2.1 0)), (1, .int z1), (2, .int z2)]) hx hb dX11_book_97 hl (k := 3) rfl rfl (Nat.le_of_ble_eq_true rfl) rfl (fun ls hl => ?_)
      refine lv_goto (tgt := 54) hx hb dX11_book_100 (by decide) ?_
      exact ih z1 z2 (z3 + (1 : Int32)) σ21 _ _ _ hI (lv_sub hl [1, 2, 3, 0] rfl) hf
set_option maxHeartbeats 4000000 in
set_option maxRecDepth 100000 in
theorem c_X11_book {l : Launch} {G : fm_G} (hJ : fm_J G) {a1 : Int32} {a2 : Int32} {σ : fm_M} {o : Int32 × fm_M}  (hf : m_X11_book a1 a2 σ = some o) : Met l yX11_book (fm_w yX11_book cX11_book 4 (some .int)) { frames := 5, cells := 0, slots := 0, locals := 118 } (va_Pc [.ref (G.2.1 0), .int a1, .int a2] (fm_st G σ)) (fm_Qi G o) 0 0 (fm_A G) := by
  refine fm_mth (own := RX11) hJ rfl (by decide +kernel) (Nat.le_of_ble_eq_true rfl) ?_
  intro p e s m below meth c ls hC hr hlk hI hl
  have hx := hC.1.1
  have hb := hC.1.2.1
  have hown := hC.1.2.2.2.1
  have hts := hC.1.2.2.2.2
  have hl : lv_has ls 4 [(0, .ref (G.2.1 0)), (1, .int a1), (2, .int a2)] := hl
  rw [m_X11_book] at hf
  refine lv_iload_n hx hb dX11_book_0 rfl (lv_at hl 1 rfl) ?_
  obtain ⟨r1, σ2, hq3, hf⟩ := fm_bE hf
  refine fm_ci hI (fm_runS (As := [.int a1]) (rest := []) (rm := { frames := 1, cells := 0, slots := 0, locals := 22 }) hC hI (c_X11_isSheet hC.2.2.1 hq3) mS_X11_isSheet q_716 ⟨rfl, rfl⟩ ⟨Nat.le_of_ble_eq_true rfl, Nat.le_of_ble_eq_true rfl⟩ rfl hl.1 rfl (Nat.le_of_ble_eq_true rfl) dX11_book_1 ⟨Nat.zero_le _, Nat.zero_le _⟩) (fun H locs hI => ?_)
  refine lv_if_ne (tgt := 14) hx hb dX11_book_4 (by decide) (fun hc => ?_) (fun hc => ?_)
  · have hf := fm_pF hf hc
    refine lv_aload_n hx hb dX11_book_14 rfl (lv_at hl 0 rfl) ?_
    refine fm_gr hC hI fd_X11_4 fc_0 fr_0_4 q_209 dX11_book_15 ?_
    refine lv_iload_n hx hb dX11_book_18 rfl (lv_at hl 1 rfl) ?_
    obtain ⟨hg4, hf⟩ := fm_gE hf
    refine fm_aald (t0 := 6) hC hI fc_83 (by decide) (by decide) rfl fl_83 hg4 (fm_V0 (x := a1) hg4).2 dX11_book_19 ?_
    obtain ⟨r5, σ6, hq7, hf⟩ := fm_bE hf
    refine fm_ci hI (fm_runV (As := []) (rest := []) (rm := { frames := 0, cells := 0, slots := 0, locals := 0 }) hC hI (c_X8_isMissing hC.2.2.1 (fm_V0 (x := a1) hg4).1 hq7) mV_X8_isMissing q_727 ⟨rfl, rfl⟩ ⟨Nat.le_of_ble_eq_true rfl, Nat.le_of_ble_eq_true rfl⟩ (fm_V0 (x := a1) hg4).1 rfl (by decide) rfl hl.1 rfl (Nat.le_of_ble_eq_true rfl) dX11_book_20 ⟨Nat.zero_le _, Nat.zero_le _⟩) (fun H locs hI => ?_)
    refine lv_if_eq (tgt := 33) hx hb dX11_book_23 (by decide) (fun hc => ?_) (fun hc => ?_)
    · have hf := fm_pT hf hc
      refine lv_aload_n hx hb dX11_book_33 rfl (lv_at hl 0 rfl) ?_
      refine lv_iload_n hx hb dX11_book_34 rfl (lv_at hl 2 rfl) ?_
      obtain ⟨r8, σ9, hq10, hf⟩ := fm_bE hf
      refine fm_ci hI (fm_runV (As := [.int a2]) (rest := []) (rm := { frames := 1, cells := 0, slots := 0, locals := 22 }) hC hI (c_X11_isPerson hC.2.2.1 hq10) mV_X11_isPerson q_254 ⟨rfl, rfl⟩ ⟨Nat.le_of_ble_eq_true rfl, Nat.le_of_ble_eq_true rfl⟩ fc_0 rfl (by decide) rfl hl.1 rfl (Nat.le_of_ble_eq_true rfl) dX11_book_35 ⟨Nat.zero_le _, Nat.zero_le _⟩) (fun H locs hI => ?_)
      refine lv_if_ne (tgt := 48) hx hb dX11_book_38 (by decide) (fun hc => ?_) (fun hc => ?_)
      · have hf := fm_pF hf hc
        refine lv_aload_n hx hb dX11_book_48 rfl (lv_at hl 0 rfl) ?_
        obtain ⟨_u11, σ12, hq13, hf⟩ := fm_bE hf
        refine fm_cv hI (fm_runV (As := []) (rest := []) (rm := { frames := 2, cells := 0, slots := 0, locals := 44 }) hC hI (c_X11_startTrial hC.2.2.1 hq13) mV_X11_startTrial q_508 ⟨rfl, rfl⟩ ⟨Nat.le_of_ble_eq_true rfl, Nat.le_of_ble_eq_true rfl⟩ fc_0 rfl (by decide) rfl hl.1 rfl (Nat.le_of_ble_eq_true rfl) dX11_book_49 ⟨Nat.zero_le _, Nat.zero_le _⟩) (fun H locs hI => ?_)
        refine lv_iconst (v := (0 : Int32)) hx hb dX11_book_52 (by decide) ?_
        refine lv_istore_n (lv' := [(3, .int (0 : Int32)), (0, .ref (G.2.1 0)), (1, .int a1), (2, .int a2)]) hx hb dX11_book_53 rfl hl (Nat.le_of_ble_eq_true rfl) rfl (fun ls hl => ?_)
        refine w_X11_book_54 hC hr hlk (fun x1_y23 x2_y23 x3_y23 σ_y23 H locs ls hI hl hf => ?_) fm_fu a1 a2 (0 : Int32) σ12 _ _ _ hI (lv_sub hl [1, 2, 3, 0] rfl) hf
        refine lv_aload_n hx hb dX11_book_103 rfl (lv_at hl 0 rfl) ?_
        refine fm_gr hC hI fd_X11_4 fc_0 fr_0_4 q_209 dX11_book_104 ?_
        refine lv_iload_n hx hb dX11_book_107 rfl (lv_at hl 1 rfl) ?_
        obtain ⟨hg24, hf⟩ := fm_gE hf
        refine fm_aald (t0 := 6) hC hI fc_83 (by decide) (by decide) rfl fl_83 hg24 (fm_V0 (x := x1_y23) hg24).2 dX11_book_108 ?_
        refine fm_gi hC hI fd_X8_2 (fm_V0 (x := x1_y23) hg24).1 q_170 dX11_book_109 ?_
        exact fm_ri hC hI hr hlk hf dX11_book_112
      · have hf := fm_pT hf hc
        refine lv_aload_n hx hb dX11_book_41 rfl (lv_at hl 0 rfl) ?_
        refine lv_ldc (v := (-1000000001 : Int32)) hx hb hown (hts _ q_240) dX11_book_42 ?_
        obtain ⟨r25, σ26, hq27, hf⟩ := fm_bE hf
        refine fm_ci hI (fm_runV (As := [.int (-1000000001 : Int32)]) (rest := []) (rm := { frames := 1, cells := 0, slots := 0, locals := 22 }) hC hI (c_X11_tell hC.2.2.1 hq27) mV_X11_tell q_241 ⟨rfl, rfl⟩ ⟨Nat.le_of_ble_eq_true rfl, Nat.le_of_ble_eq_true rfl⟩ fc_0 rfl (by decide) rfl hl.1 rfl (Nat.le_of_ble_eq_true rfl) dX11_book_44 ⟨Nat.zero_le _, Nat.zero_le _⟩) (fun H locs hI => ?_)
        exact fm_ri hC hI hr hlk hf dX11_book_47
    · have hf := fm_pF hf hc
      refine lv_aload_n hx hb dX11_book_26 rfl (lv_at hl 0 rfl) ?_
      refine lv_ldc (v := (-1000000006 : Int32)) hx hb hown (hts _ q_731) dX11_book_27 ?_
      obtain ⟨r28, σ29, hq30, hf⟩ := fm_bE hf
      refine fm_ci hI (fm_runV (As := [.int (-1000000006 : Int32)]) (rest := []) (rm := { frames := 1, cells := 0, slots := 0, locals := 22 }) hC hI (c_X11_tell hC.2.2.1 hq30) mV_X11_tell q_241 ⟨rfl, rfl⟩ ⟨Nat.le_of_ble_eq_true rfl, Nat.le_of_ble_eq_true rfl⟩ fc_0 rfl (by decide) rfl hl.1 rfl (Nat.le_of_ble_eq_true rfl) dX11_book_29 ⟨Nat.zero_le _, Nat.zero_le _⟩) (fun H locs hI => ?_)
      exact fm_ri hC hI hr hlk hf dX11_book_32
  · have hf := fm_pT hf hc
    refine lv_aload_n hx hb dX11_book_7 rfl (lv_at hl 0 rfl) ?_
    refine lv_ldc (v := (-1000000001 : Int32)) hx hb hown (hts _ q_240) dX11_book_8 ?_
    obtain ⟨r31, σ32, hq33, hf⟩ := fm_bE hf
    refine fm_ci hI (fm_runV (As := [.int (-1000000001 : Int32)]) (rest := []) (rm := { frames := 1, cells := 0, slots := 0, locals := 22 }) hC hI (c_X11_tell hC.2.2.1 hq33) mV_X11_tell q_241 ⟨rfl, rfl⟩ ⟨Nat.le_of_ble_eq_true rfl, Nat.le_of_ble_eq_true rfl⟩ fc_0 rfl (by decide) rfl hl.1 rfl (Nat.le_of_ble_eq_true rfl) dX11_book_10 ⟨Nat.zero_le _, Nat.zero_le _⟩) (fun H locs hI => ?_)
    exact fm_ri hC hI hr hlk hf dX11_book_13
