def m_X12_kind_29 (kc : Int32 → Int32 → Int32 → Int32 → Int32 → fm_M → Option (Int32 × fm_M)) : Nat → Int32 → Int32 → Int32 → Int32 → Int32 → fm_M → Option (Int32 × fm_M)
  | 0, _, _, _, _, _, _ => none
  | n + 1, z1, z2, z3, z4, z5, σ => if (6 : Int32) ≤ z5 then (kc z1 z2 z3 z4 z5 σ) else (fm_b (m_X12_setsAside  σ) fun _u10 σ11 => (fm_b (m_X12_puts z1 (0 : Int32) z5 σ11) fun _u13 σ14 => (fm_b (m_X12_joyThen z1 z2 σ14) fun r16 σ17 => (fm_j (fun (v0_J19 : Int32) (σ_J19 : fm_M) => if r16 ≤ z4 then (m_X12_kind_29 kc n z1 z2 v0_J19 z4 (z5 + (1 : Int32)) σ_J19) else (m_X12_kind_29 kc n z1 z2 v0_J19 r16 (z5 + (1 : Int32)) σ_J19)) (fun J19 => if r16 ≤ z4 then (J19 z3 σ17) else (J19 z5 σ17))))))
def m_X12_kind (a1 : Int32) (a2 : Int32) (σ : fm_M) : Option (Int32 × fm_M) := fm_b (m_X12_isPerson a1 σ) fun r1 σ2 => (if r1 = 0 then (fm_b (m_X12_no (0 : Int32) σ2) fun r4 σ5 => (some (r4, σ5))) else (fm_b (m_X12_isSoon a2 σ2) fun r7 σ8 => (if r7 = 0 then (fm_b (m_X12_no (0 : Int32) σ8) fun r21 σ22 => (some (r21, σ22))) else (m_X12_kind_29 (fun (x1_y20 : Int32) (x2_y20 : Int32) (x3_y20 : Int32) (x4_y20 : Int32) (x5_y20 : Int32) (σ_y20 : fm_M) => some (x3_y20, σ_y20)) fm_fu a1 a2 (0 : Int32) (-1 : Int32) (0 : Int32) σ8))))
set_option maxHeartbeats 4000000 in
set_option maxRecDepth 100000 in
theorem w_X12_kind_29 {p : Program} {l : Launch} {e : Env} {s : State} {m : MethodId} {args : Array Value} {below : List Frame} {meth : Method} {c : Code} {G : fm_G} {o : Int32 × fm_M} {kc : Int32 → Int32 → Int32 → Int32 → Int32 → fm_M → Option (Int32 × fm_M)} (hC : fm_C G p m c cX12_kind 7 s args RX12) (hr : meth.sig.returnType = (some .int)) (hlk : meth.locks = false) (hk : ∀ (z1 : Int32) (z2 : Int32) (z3 : Int32) (z4 : Int32) (z5 : Int32) (σ : fm_M) (H : Heap) (locs : List Loc) (ls : Array Slot), fm_I G σ s H locs → lv_has ls 7 [(0, .ref (G.2.1 96)), (1, .int z1), (2, .int z2), (3, .int z3), (4, .int z4), (5, .int z5)] → kc z1 z2 z3 z4 z5 σ = some o → W p l e { frames := 7, cells := 0, slots := 0, locals := 159 } s m args below meth c H locs 0 0 (MQ below (fm_Qi G o) args s 0 0 (fm_A G)) (F0 m 92 ls [])) (n : Nat) : ∀ (z1 : Int32) (z2 : Int32) (z3 : Int32) (z4 : Int32) (z5 : Int32) (σ : fm_M) (H : Heap) (locs : List Loc) (ls : Array Slot), fm_I G σ s H locs → lv_has ls 7 [(0, .ref (G.2.1 96)), (1, .int z1), (2, .int z2), (3, .int z3), (4, .int z4), (5, .int z5)] → m_X12_kind_29 kc n z1 z2 z3 z4 z5 σ = some o → W p l e { frames := 7, cells := 0, slots := 0, locals := 159 } s m args below meth c H locs 0 0 (MQ below (fm_Qi G o) args s 0 0 (fm_A G)) (F0 m 29 ls []) := by
  have hx := hC.1.1
  have hb := hC.1.2.1
  have hown := hC.1.2.2.2.1
  have hts := hC.1.2.2.2.2
  induction n with
  | zero =>
    intro z1 z2 z3 z4 z5 σ H locs ls hI hl hf
    cases hf
  | succ n ih =>
    intro z1 z2 z3 z4 z5 σ H locs ls hI hl hf
    rw [m_X12_kind_29] at hf
    refine lv_iload hx hb dX12_kind_29 (lv_at hl 5 rfl) ?_
    refine lv_bipush (v := (6 : Int32)) hx hb dX12_kind_31 (by decide) ?_
    refine lv_icmp_ge (tgt := 92) hx hb dX12_kind_33 (by decide) (fun hc => ?_) (fun hc => ?_)
    · have hf := fm_pT hf hc
      exact hk z1 z2 z3 z4 z5 σ _ _ _ hI (lv_sub hl [0, 1, 2, 3, 4, 5] rfl) hf
    · have hf := fm_pF hf hc
      refine lv_aload_n hx hb dX12_kind_36 rfl (lv_at hl 0 rfl) ?_
      obtain ⟨_u10, σ11, hq12, hf⟩ := fm_bE hf
      refine fm_cv hI (fm_runV (As := []) (rest := []) (rm := { frames := 0, cells := 0, slots := 0, locals := 0 }) hC hI (c_X12_setsAside hC.2.2.1 hq12) mV_X12_setsAside q_1037 ⟨rfl, rfl⟩ ⟨Nat.le_of_ble_eq_true rfl, Nat.le_of_ble_eq_true rfl⟩ fc_96 rfl (by decide) rfl hl.1 rfl (Nat.le_of_ble_eq_true rfl) dX12_kind_37 ⟨Nat.zero_le _, Nat.zero_le _⟩) (fun H locs hI => ?_)
      refine lv_aload_n hx hb dX12_kind_40 rfl (lv_at hl 0 rfl) ?_
      refine lv_iload_n hx hb dX12_kind_41 rfl (lv_at hl 1 rfl) ?_
      refine lv_iconst (v := (0 : Int32)) hx hb dX12_kind_42 (by decide) ?_
      refine lv_iload hx hb dX12_kind_43 (lv_at hl 5 rfl) ?_
      obtain ⟨_u13, σ14, hq15, hf⟩ := fm_bE hf
      refine fm_cv hI (fm_runV (As := [.int z1, .int (0 : Int32), .int z5]) (rest := []) (rm := { frames := 0, cells := 0, slots := 0, locals := 0 }) hC hI (c_X12_puts hC.2.2.1 hq15) mV_X12_puts q_876 ⟨rfl, rfl⟩ ⟨Nat.le_of_ble_eq_true rfl, Nat.le_of_ble_eq_true rfl⟩ fc_96 rfl (by decide) rfl hl.1 rfl (Nat.le_of_ble_eq_true rfl) dX12_kind_45 ⟨Nat.zero_le _, Nat.zero_le _⟩) (fun H locs hI => ?_)
      refine lv_aload_n hx hb dX12_kind_48 rfl (lv_at hl 0 rfl) ?_
      refine lv_iload_n hx hb dX12_kind_49 rfl (lv_at hl 1 rfl) ?_
      refine lv_iload_n hx hb dX12_kind_50 rfl (lv_at hl 2 rfl) ?_
      obtain ⟨r16, σ17, hq18, hf⟩ := fm_bE hf
      refine fm_ci hI (fm_runV (As := [.int z1, .int z2]) (rest := []) (rm := { frames := 6, cells := 0, slots := 0, locals := 136 }) hC hI (c_X12_joyThen hC.2.2.1 hq18) mV_X12_joyThen q_1068 ⟨rfl, rfl⟩ ⟨Nat.le_of_ble_eq_true rfl, Nat.le_of_ble_eq_true rfl⟩ fc_96 rfl (by decide) rfl hl.1 rfl (Nat.le_of_ble_eq_true rfl) dX12_kind_51 ⟨Nat.zero_le _, Nat.zero_le _⟩) (fun H locs hI => ?_)
      refine lv_istore (lv' := [(6, .int r16), (0, .ref (G.2.1 96)), (1, .int z1), (2, .int z2), (3, .int z3), (4, .int z4), (5, .int z5)]) hx hb dX12_kind_54 hl (Nat.le_of_ble_eq_true rfl) rfl (fun ls hl => ?_)
      refine lv_iload hx hb dX12_kind_56 (lv_at hl 0 rfl) ?_
      refine lv_iload hx hb dX12_kind_58 (lv_at hl 5 rfl) ?_
      obtain ⟨J19, eJ19, hf⟩ := fm_jE hf
      have hJ19 : ∀ (v0_J19 : Int32) (σ_J19 : fm_M) (H : Heap) (locs : List Loc) (ls : Array Slot), fm_I G σ_J19 s H locs → lv_has ls 7 [(0, .ref (G.2.1 96)), (1, .int z1), (2, .int z2), (4, .int z4), (5, .int z5), (6, .int r16)] → J19 v0_J19 σ_J19 = some o → W p l e { frames := 7, cells := 0, slots := 0, locals := 159 } s m args below meth c H locs 0 0 (MQ below (fm_Qi G o) args s 0 0 (fm_A G)) (F0 m 69 ls [.int v0_J19]) := by
        intro v0_J19 σ_J19 H locs ls hI hl hf
        subst eJ19
        refine lv_istore_n (lv' := [(3, .int v0_J19), (0, .ref (G.2.1 96)), (1, .int z1), (2, .int z2), (4, .int z4), (5, .int z5), (6, .int r16)]) hx hb dX12_kind_69 rfl hl (Nat.le_of_ble_eq_true rfl) rfl (fun ls hl => ?_)
        refine lv_iload hx hb dX12_kind_70 (lv_at hl 6 rfl) ?_
        refine lv_iload hx hb dX12_kind_72 (lv_at hl 4 rfl) ?_
        refine lv_icmp_le (tgt := 82) hx hb dX12_kind_74 (by decide) (fun hc => ?_) (fun hc => ?_)
        · have hf := fm_pT hf hc
          refine lv_iload hx hb dX12_kind_82 (lv_at hl 4 rfl) ?_
          refine lv_istore (lv' := [(4, .int z4), (3, .int v0_J19), (0, .ref (G.2.1 96)), (1, .int z1), (2, .int z2), (5, .int z5), (6, .int r16)]) hx hb dX12_kind_84 hl (Nat.le_of_ble_eq_true rfl) rfl (fun ls hl => ?_)
          refine lv_iinc (v := (z5 + (1 : Int32))) (lv' := [(5, .int (z5 + (1 : Int32))), (4, .int z4), (3, .int v0_J19), (0, .ref (G.2.1 96)), (1, .int z1), (2, .int z2), (6, .int r16)]) hx hb dX12_kind_86 hl (k := 5) rfl rfl (Nat.le_of_ble_eq_true rfl) rfl (fun ls hl => ?_)
          refine lv_goto (tgt := 29) hx hb dX12_kind_89 (by decide) ?_
          exact ih z1 z2 v0_J19 z4 (z5 + (1 : Int32)) σ_J19 _ _ _ hI (lv_sub hl [3, 4, 5, 2, 1, 0] rfl) hf
        · have hf := fm_pF hf hc
          refine lv_iload hx hb dX12_kind_77 (lv_at hl 6 rfl) ?_
          refine lv_goto (tgt := 84) hx hb dX12_kind_79 (by decide) ?_
          refine lv_istore (lv' := [(4, .int r16), (3, .int v0_J19), (0, .ref (G.2.1 96)), (1, .int z1), (2, .int z2), (5, .int z5), (6, .int r16)]) hx hb dX12_kind_84 hl (Nat.le_of_ble_eq_true rfl) rfl (fun ls hl => ?_)
          refine lv_iinc (v := (z5 + (1 : Int32))) (lv' := [(5, .int (z5 + (1 : Int32))), (4, .int r16), (3, .int v0_J19), (0, .ref (G.2.1 96)), (1, .int z1), (2, .int z2), (6, .int r16)]) hx hb dX12_kind_86 hl (k := 5) rfl rfl (Nat.le_of_ble_eq_true rfl) rfl (fun ls hl => ?_)
          refine lv_goto (tgt := 29) hx hb dX12_kind_89 (by decide) ?_
          exact ih z1 z2 v0_J19 r16 (z5 + (1 : Int32)) σ_J19 _ _ _ hI (lv_sub hl [3, 4, 5, 2, 1, 0] rfl) hf
      refine lv_icmp_le (tgt := 68) hx hb dX12_kind_60 (by decide) (fun hc => ?_) (fun hc => ?_)
      · have hf := fm_pT hf hc
        refine lv_iload_n hx hb dX12_kind_68 rfl (lv_at hl 4 rfl) ?_
        exact hJ19 z3 σ17 _ _ _ hI (lv_sub hl [1, 2, 3, 5, 6, 0] rfl) hf
      · have hf := fm_pF hf hc
        refine lv_iload hx hb dX12_kind_63 (lv_at hl 6 rfl) ?_
        refine lv_goto (tgt := 69) hx hb dX12_kind_65 (by decide) ?_
        exact hJ19 z5 σ17 _ _ _ hI (lv_sub hl [1, 2, 3, 5, 6, 0] rfl) hf
set_option maxHeartbeats 4000000 in
set_option maxRecDepth 100000 in
theorem c_X12_kind {l : Launch} {G : fm_G} (hJ : fm_J G) {a1 : Int32} {a2 : Int32} {σ : fm_M} {o : Int32 × fm_M}  (hf : m_X12_kind a1 a2 σ = some o) : Met l yX12_kind (fm_w yX12_kind cX12_kind 7 (some .int)) { frames := 7, cells := 0, slots := 0, locals := 159 } (va_Pc [.ref (G.2.1 96), .int a1, .int a2] (fm_st G σ)) (fm_Qi G o) 0 0 (fm_A G) := by
  refine fm_mth (own := RX12) hJ rfl (by decide +kernel) (Nat.le_of_ble_eq_true rfl) ?_
  intro p e s m below meth c ls hC hr hlk hI hl
  have hx := hC.1.1
  have hb := hC.1.2.1
  have hown := hC.1.2.2.2.1
  have hts := hC.1.2.2.2.2
  have hl : lv_has ls 7 [(0, .ref (G.2.1 96)), (1, .int a1), (2, .int a2)] := hl
  rw [m_X12_kind] at hf
  refine lv_aload_n hx hb dX12_kind_0 rfl (lv_at hl 0 rfl) ?_
  refine lv_iload_n hx hb dX12_kind_1 rfl (lv_at hl 1 rfl) ?_
  obtain ⟨r1, σ2, hq3, hf⟩ := fm_bE hf
  refine fm_ci hI (fm_runV (As := [.int a1]) (rest := []) (rm := { frames := 1, cells := 0, slots := 0, locals := 22 }) hC hI (c_X12_isPerson hC.2.2.1 hq3) mV_X12_isPerson q_884 ⟨rfl, rfl⟩ ⟨Nat.le_of_ble_eq_true rfl, Nat.le_of_ble_eq_true rfl⟩ fc_96 rfl (by decide) rfl hl.1 rfl (Nat.le_of_ble_eq_true rfl) dX12_kind_2 ⟨Nat.zero_le _, Nat.zero_le _⟩) (fun H locs hI => ?_)
  refine lv_if_eq (tgt := 15) hx hb dX12_kind_5 (by decide) (fun hc => ?_) (fun hc => ?_)
  · have hf := fm_pT hf hc
    refine lv_aload_n hx hb dX12_kind_15 rfl (lv_at hl 0 rfl) ?_
    refine lv_iconst (v := (0 : Int32)) hx hb dX12_kind_16 (by decide) ?_
    obtain ⟨r4, σ5, hq6, hf⟩ := fm_bE hf
    refine fm_ci hI (fm_runV (As := [.int (0 : Int32)]) (rest := []) (rm := { frames := 0, cells := 0, slots := 0, locals := 0 }) hC hI (c_X12_no hC.2.2.1 hq6) mV_X12_no q_867 ⟨rfl, rfl⟩ ⟨Nat.le_of_ble_eq_true rfl, Nat.le_of_ble_eq_true rfl⟩ fc_96 rfl (by decide) rfl hl.1 rfl (Nat.le_of_ble_eq_true rfl) dX12_kind_17 ⟨Nat.zero_le _, Nat.zero_le _⟩) (fun H locs hI => ?_)
    exact fm_ri hC hI hr hlk hf dX12_kind_20
  · have hf := fm_pF hf hc
    refine lv_iload_n hx hb dX12_kind_8 rfl (lv_at hl 2 rfl) ?_
    obtain ⟨r7, σ8, hq9, hf⟩ := fm_bE hf
    refine fm_ci hI (fm_runS (As := [.int a2]) (rest := []) (rm := { frames := 1, cells := 0, slots := 0, locals := 22 }) hC hI (c_X12_isSoon hC.2.2.1 hq9) mS_X12_isSoon q_1065 ⟨rfl, rfl⟩ ⟨Nat.le_of_ble_eq_true rfl, Nat.le_of_ble_eq_true rfl⟩ rfl hl.1 rfl (Nat.le_of_ble_eq_true rfl) dX12_kind_9 ⟨Nat.zero_le _, Nat.zero_le _⟩) (fun H locs hI => ?_)
    refine lv_if_ne (tgt := 21) hx hb dX12_kind_12 (by decide) (fun hc => ?_) (fun hc => ?_)
    · have hf := fm_pF hf hc
      refine lv_iconst (v := (0 : Int32)) hx hb dX12_kind_21 (by decide) ?_
      refine lv_istore_n (lv' := [(3, .int (0 : Int32)), (0, .ref (G.2.1 96)), (1, .int a1), (2, .int a2)]) hx hb dX12_kind_22 rfl hl (Nat.le_of_ble_eq_true rfl) rfl (fun ls hl => ?_)
      refine lv_iconst (v := (-1 : Int32)) hx hb dX12_kind_23 (by decide) ?_
      refine lv_istore (lv' := [(4, .int (-1 : Int32)), (3, .int (0 : Int32)), (0, .ref (G.2.1 96)), (1, .int a1), (2, .int a2)]) hx hb dX12_kind_24 hl (Nat.le_of_ble_eq_true rfl) rfl (fun ls hl => ?_)
      refine lv_iconst (v := (0 : Int32)) hx hb dX12_kind_26 (by decide) ?_
      refine lv_istore (lv' := [(5, .int (0 : Int32)), (4, .int (-1 : Int32)), (3, .int (0 : Int32)), (0, .ref (G.2.1 96)), (1, .int a1), (2, .int a2)]) hx hb dX12_kind_27 hl (Nat.le_of_ble_eq_true rfl) rfl (fun ls hl => ?_)
      refine w_X12_kind_29 hC hr hlk (fun x1_y20 x2_y20 x3_y20 x4_y20 x5_y20 σ_y20 H locs ls hI hl hf => ?_) fm_fu a1 a2 (0 : Int32) (-1 : Int32) (0 : Int32) σ8 _ _ _ hI (lv_sub hl [3, 4, 5, 2, 1, 0] rfl) hf
      refine lv_iload_n hx hb dX12_kind_92 rfl (lv_at hl 3 rfl) ?_
      exact fm_ri hC hI hr hlk hf dX12_kind_93
    · have hf := fm_pT hf hc
      refine lv_aload_n hx hb dX12_kind_15 rfl (lv_at hl 0 rfl) ?_
      refine lv_iconst (v := (0 : Int32)) hx hb dX12_kind_16 (by decide) ?_
      obtain ⟨r21, σ22, hq23, hf⟩ := fm_bE hf
      refine fm_ci hI (fm_runV (As := [.int (0 : Int32)]) (rest := []) (rm := { frames := 0, cells := 0, slots := 0, locals := 0 }) hC hI (c_X12_no hC.2.2.1 hq23) mV_X12_no q_867 ⟨rfl, rfl⟩ ⟨Nat.le_of_ble_eq_true rfl, Nat.le_of_ble_eq_true rfl⟩ fc_96 rfl (by decide) rfl hl.1 rfl (Nat.le_of_ble_eq_true rfl) dX12_kind_17 ⟨Nat.zero_le _, Nat.zero_le _⟩) (fun H locs hI => ?_)
      exact fm_ri hC hI hr hlk hf dX12_kind_20
def m_X12_least_44 (kc : Int32 → Int32 → Int32 → Int32 → Int32 → fm_M → Option (Int32 × fm_M)) : Nat → Int32 → Int32 → Int32 → Int32 → Int32 → fm_M → Option (Int32 × fm_M)
  | 0, _, _, _, _, _, _ => none
  | n + 1, z1, z2, z3, z4, z5, σ => if (99 : Int32) < z5 then (kc z1 z2 z3 z4 z5 σ) else (fm_b (m_X12_setsAside  σ) fun _u22 σ23 => (fm_b (m_X12_lays1 z1 (1 : Int32) z5 σ23) fun _u25 σ26 => (fm_b (m_X12_joyThen z2 z3 σ26) fun r28 σ29 => (if r28 < z4 then (m_X12_least_44 kc n z1 z2 z3 z4 (z5 + (1 : Int32)) σ29) else (some (z5, σ29))))))
def m_X12_least (a1 : Int32) (a2 : Int32) (a3 : Int32) (a4 : Int32) (σ : fm_M) : Option (Int32 × fm_M) := fm_b (m_X12_isPresent a1 σ) fun r1 σ2 => (if r1 = 0 then (fm_b (m_X12_no (0 : Int32) σ2) fun r4 σ5 => (some (r4, σ5))) else (fm_b (m_X12_isPerson a2 σ2) fun r7 σ8 => (if r7 = 0 then (fm_b (m_X12_no (0 : Int32) σ8) fun r10 σ11 => (some (r10, σ11))) else (fm_b (m_X12_isSoon a3 σ8) fun r13 σ14 => (if r13 = 0 then (fm_b (m_X12_no (0 : Int32) σ14) fun r16 σ17 => (some (r16, σ17))) else (fm_b (m_X12_in1 a4 (0 : Int32) (9999 : Int32) σ14) fun r19 σ20 => (if r19 = 0 then (fm_b (m_X12_no (0 : Int32) σ20) fun r35 σ36 => (some (r35, σ36))) else (m_X12_least_44 (fun (x1_y31 : Int32) (x2_y31 : Int32) (x3_y31 : Int32) (x4_y31 : Int32) (x5_y31 : Int32) (σ_y31 : fm_M) => fm_b (m_X12_no (3 : Int32) σ_y31) fun r32 σ33 => (some (r32, σ33))) fm_fu a1 a2 a3 a4 (0 : Int32) σ20))))))))
set_option maxHeartbeats 4000000 in
set_option maxRecDepth 100000 in
theorem w_X12_least_44 {p : Program} {l : Launch} {e : Env} {s : State} {m : MethodId} {args : Array Value} {below : List Frame} {meth : Method} {c : Code} {G : fm_G} {o : Int32 × fm_M} {kc : Int32 → Int32 → Int32 → Int32 → Int32 → fm_M → Option (Int32 × fm_M)} (hC : fm_C G p m c cX12_least 6 s args RX12) (hr : meth.sig.returnType = (some .int)) (hlk : meth.locks = false) (hk : ∀ (z1 : Int32) (z2 : Int32) (z3 : Int32) (z4 : Int32) (z5 : Int32) (σ : fm_M) (H : Heap) (locs : List Loc) (ls : Array Slot), fm_I G σ s H locs → lv_has ls 6 [(0, .ref (G.2.1 96)), (1, .int z1), (2, .int z2), (3, .int z3), (4, .int z4), (5, .int z5)] → kc z1 z2 z3 z4 z5 σ = some o → W p l e { frames := 7, cells := 0, slots := 0, locals := 159 } s m args below meth c H locs 0 0 (MQ below (fm_Qi G o) args s 0 0 (fm_A G)) (F0 m 83 ls [])) (n : Nat) : ∀ (z1 : Int32) (z2 : Int32) (z3 : Int32) (z4 : Int32) (z5 : Int32) (σ : fm_M) (H : Heap) (locs : List Loc) (ls : Array Slot), fm_I G σ s H locs → lv_has ls 6 [(0, .ref (G.2.1 96)), (1, .int z1), (2, .int z2), (3, .int z3), (4, .int z4), (5, .int z5)] → m_X12_least_44 kc n z1 z2 z3 z4 z5 σ = some o → W p l e { frames := 7, cells := 0, slots := 0, locals := 159 } s m args below meth c H locs 0 0 (MQ below (fm_Qi G o) args s 0 0 (fm_A G)) (F0 m 44 ls []) := by
  have hx := hC.1.1
  have hb := hC.1.2.1
  have hown := hC.1.2.2.2.1
  have hts := hC.1.2.2.2.2
  induction n with
  | zero =>
    intro z1 z2 z3 z4 z5 σ H locs ls hI hl hf
    cases hf
  | succ n ih =>
    intro z1 z2 z3 z4 z5 σ H locs ls hI hl hf
    rw [m_X12_least_44] at hf
    refine lv_iload hx hb dX12_least_44 (lv_at hl 5 rfl) ?_
    refine lv_bipush (v := (99 : Int32)) hx hb dX12_least_46 (by decide) ?_
    refine lv_icmp_gt (tgt := 83) hx hb dX12_least_48 (by decide) (fun hc => ?_) (fun hc => ?_)
    · have hf := fm_pT hf hc
      exact hk z1 z2 z3 z4 z5 σ _ _ _ hI (lv_sub hl [0, 1, 2, 3, 4, 5] rfl) hf
    · have hf := fm_pF hf hc
      refine lv_aload_n hx hb dX12_least_51 rfl (lv_at hl 0 rfl) ?_
      obtain ⟨_u22, σ23, hq24, hf⟩ := fm_bE hf
      refine fm_cv hI (fm_runV (As := []) (rest := []) (rm := { frames := 0, cells := 0, slots := 0, locals := 0 }) hC hI (c_X12_setsAside hC.2.2.1 hq24) mV_X12_setsAside q_1037 ⟨rfl, rfl⟩ ⟨Nat.le_of_ble_eq_true rfl, Nat.le_of_ble_eq_true rfl⟩ fc_96 rfl (by decide) rfl hl.1 rfl (Nat.le_of_ble_eq_true rfl) dX12_least_52 ⟨Nat.zero_le _, Nat.zero_le _⟩) (fun H locs hI => ?_)
      refine lv_aload_n hx hb dX12_least_55 rfl (lv_at hl 0 rfl) ?_
      refine lv_iload_n hx hb dX12_least_56 rfl (lv_at hl 1 rfl) ?_
      refine lv_iconst (v := (1 : Int32)) hx hb dX12_least_57 (by decide) ?_
      refine lv_iload hx hb dX12_least_58 (lv_at hl 5 rfl) ?_
      obtain ⟨_u25, σ26, hq27, hf⟩ := fm_bE hf
      refine fm_cv hI (fm_runV (As := [.int z1, .int (1 : Int32), .int z5]) (rest := []) (rm := { frames := 0, cells := 0, slots := 0, locals := 0 }) hC hI (c_X12_lays1 hC.2.2.1 hq27) mV_X12_lays1 q_947 ⟨rfl, rfl⟩ ⟨Nat.le_of_ble_eq_true rfl, Nat.le_of_ble_eq_true rfl⟩ fc_96 rfl (by decide) rfl hl.1 rfl (Nat.le_of_ble_eq_true rfl) dX12_least_60 ⟨Nat.zero_le _, Nat.zero_le _⟩) (fun H locs hI => ?_)
      refine lv_aload_n hx hb dX12_least_63 rfl (lv_at hl 0 rfl) ?_
      refine lv_iload_n hx hb dX12_least_64 rfl (lv_at hl 2 rfl) ?_
      refine lv_iload_n hx hb dX12_least_65 rfl (lv_at hl 3 rfl) ?_
      obtain ⟨r28, σ29, hq30, hf⟩ := fm_bE hf
      refine fm_ci hI (fm_runV (As := [.int z2, .int z3]) (rest := []) (rm := { frames := 6, cells := 0, slots := 0, locals := 136 }) hC hI (c_X12_joyThen hC.2.2.1 hq30) mV_X12_joyThen q_1068 ⟨rfl, rfl⟩ ⟨Nat.le_of_ble_eq_true rfl, Nat.le_of_ble_eq_true rfl⟩ fc_96 rfl (by decide) rfl hl.1 rfl (Nat.le_of_ble_eq_true rfl) dX12_least_66 ⟨Nat.zero_le _, Nat.zero_le _⟩) (fun H locs hI => ?_)
      refine lv_iload hx hb dX12_least_69 (lv_at hl 4 rfl) ?_
      refine lv_icmp_lt (tgt := 77) hx hb dX12_least_71 (by decide) (fun hc => ?_) (fun hc => ?_)
      · have hf := fm_pT hf hc
        refine lv_iinc (v := (z5 + (1 : Int32))) (lv' := [(5, .int (z5 + (1 : Int32))), (0, .ref (G.2.1 96)), (1, .int z1), (2, .int z2), (3, .int z3), (4, .int z4)]) hx hb dX12_least_77 hl (k := 5) rfl rfl (Nat.le_of_ble_eq_true rfl) rfl (fun ls hl => ?_)
        refine lv_goto (tgt := 44) hx hb dX12_least_80 (by decide) ?_
        exact ih z1 z2 z3 z4 (z5 + (1 : Int32)) σ29 _ _ _ hI (lv_sub hl [1, 2, 3, 4, 5, 0] rfl) hf
      · have hf := fm_pF hf hc
        refine lv_iload hx hb dX12_least_74 (lv_at hl 5 rfl) ?_
        exact fm_ri hC hI hr hlk hf dX12_least_76
set_option maxHeartbeats 4000000 in
set_option maxRecDepth 100000 in
theorem c_X12_least {l : Launch} {G : fm_G} (hJ : fm_J G) {a1 : Int32} {a2 : Int32} {a3 : Int32} {a4 : Int32} {σ : fm_M} {o : Int32 × fm_M}  (hf : m_X12_least a1 a2 a3 a4 σ = some o) : Met l yX12_least (fm_w yX12_least cX12_least 6 (some .int)) { frames := 7, cells := 0, slots := 0, locals := 159 } (va_Pc [.ref (G.2.1 96), .int a1, .int a2, .int a3, .int a4] (fm_st G σ)) (fm_Qi G o) 0 0 (fm_A G) := by
  refine fm_mth (own := RX12) hJ rfl (by decide +kernel) (Nat.le_of_ble_eq_true rfl) ?_
  intro p e s m below meth c ls hC hr hlk hI hl
  have hx := hC.1.1
  have hb := hC.1.2.1
  have hown := hC.1.2.2.2.1
  have hts := hC.1.2.2.2.2
  have hl : lv_has ls 6 [(0, .ref (G.2.1 96)), (1, .int a1), (2, .int a2), (3, .int a3), (4, .int a4)] := hl
  rw [m_X12_least] at hf
  refine lv_aload_n hx hb dX12_least_0 rfl (lv_at hl 0 rfl) ?_
  refine lv_iload_n hx hb dX12_least_1 rfl (lv_at hl 1 rfl) ?_
  obtain ⟨r1, σ2, hq3, hf⟩ := fm_bE hf
  refine fm_ci hI (fm_runV (As := [.int a1]) (rest := []) (rm := { frames := 1, cells := 0, slots := 0, locals := 22 }) hC hI (c_X12_isPresent hC.2.2.1 hq3) mV_X12_isPresent q_904 ⟨rfl, rfl⟩ ⟨Nat.le_of_ble_eq_true rfl, Nat.le_of_ble_eq_true rfl⟩ fc_96 rfl (by decide) rfl hl.1 rfl (Nat.le_of_ble_eq_true rfl) dX12_least_2 ⟨Nat.zero_le _, Nat.zero_le _⟩) (fun H locs hI => ?_)
  refine lv_if_eq (tgt := 35) hx hb dX12_least_5 (by decide) (fun hc => ?_) (fun hc => ?_)
  · have hf := fm_pT hf hc
    refine lv_aload_n hx hb dX12_least_35 rfl (lv_at hl 0 rfl) ?_
    refine lv_iconst (v := (0 : Int32)) hx hb dX12_least_36 (by decide) ?_
    obtain ⟨r4, σ5, hq6, hf⟩ := fm_bE hf
    refine fm_ci hI (fm_runV (As := [.int (0 : Int32)]) (rest := []) (rm := { frames := 0, cells := 0, slots := 0, locals := 0 }) hC hI (c_X12_no hC.2.2.1 hq6) mV_X12_no q_867 ⟨rfl, rfl⟩ ⟨Nat.le_of_ble_eq_true rfl, Nat.le_of_ble_eq_true rfl⟩ fc_96 rfl (by decide) rfl hl.1 rfl (Nat.le_of_ble_eq_true rfl) dX12_least_37 ⟨Nat.zero_le _, Nat.zero_le _⟩) (fun H locs hI => ?_)
    exact fm_ri hC hI hr hlk hf dX12_least_40
  · have hf := fm_pF hf hc
    refine lv_aload_n hx hb dX12_least_8 rfl (lv_at hl 0 rfl) ?_
    refine lv_iload_n hx hb dX12_least_9 rfl (lv_at hl 2 rfl) ?_
    obtain ⟨r7, σ8, hq9, hf⟩ := fm_bE hf
    refine fm_ci hI (fm_runV (As := [.int a2]) (rest := []) (rm := { frames := 1, cells := 0, slots := 0, locals := 22 }) hC hI (c_X12_isPerson hC.2.2.1 hq9) mV_X12_isPerson q_884 ⟨rfl, rfl⟩ ⟨Nat.le_of_ble_eq_true rfl, Nat.le_of_ble_eq_true rfl⟩ fc_96 rfl (by decide) rfl hl.1 rfl (Nat.le_of_ble_eq_true rfl) dX12_least_10 ⟨Nat.zero_le _, Nat.zero_le _⟩) (fun H locs hI => ?_)
    refine lv_if_eq (tgt := 35) hx hb dX12_least_13 (by decide) (fun hc => ?_) (fun hc => ?_)
    · have hf := fm_pT hf hc
      refine lv_aload_n hx hb dX12_least_35 rfl (lv_at hl 0 rfl) ?_
      refine lv_iconst (v := (0 : Int32)) hx hb dX12_least_36 (by decide) ?_
      obtain ⟨r10, σ11, hq12, hf⟩ := fm_bE hf
      refine fm_ci hI (fm_runV (As := [.int (0 : Int32)]) (rest := []) (rm := { frames := 0, cells := 0, slots := 0, locals := 0 }) hC hI (c_X12_no hC.2.2.1 hq12) mV_X12_no q_867 ⟨rfl, rfl⟩ ⟨Nat.le_of_ble_eq_true rfl, Nat.le_of_ble_eq_true rfl⟩ fc_96 rfl (by decide) rfl hl.1 rfl (Nat.le_of_ble_eq_true rfl) dX12_least_37 ⟨Nat.zero_le _, Nat.zero_le _⟩) (fun H locs hI => ?_)
      exact fm_ri hC hI hr hlk hf dX12_least_40
    · have hf := fm_pF hf hc
      refine lv_iload_n hx hb dX12_least_16 rfl (lv_at hl 3 rfl) ?_
      obtain ⟨r13, σ14, hq15, hf⟩ := fm_bE hf
      refine fm_ci hI (fm_runS (As := [.int a3]) (rest := []) (rm := { frames := 1, cells := 0, slots := 0, locals := 22 }) hC hI (c_X12_isSoon hC.2.2.1 hq15) mS_X12_isSoon q_1065 ⟨rfl, rfl⟩ ⟨Nat.le_of_ble_eq_true rfl, Nat.le_of_ble_eq_true rfl⟩ rfl hl.1 rfl (Nat.le_of_ble_eq_true rfl) dX12_least_17 ⟨Nat.zero_le _, Nat.zero_le _⟩) (fun H locs hI => ?_)
      refine lv_if_eq (tgt := 35) hx hb dX12_least_20 (by decide) (fun hc => ?_) (fun hc => ?_)
      · have hf := fm_pT hf hc
        refine lv_aload_n hx hb dX12_least_35 rfl (lv_at hl 0 rfl) ?_
        refine lv_iconst (v := (0 : Int32)) hx hb dX12_least_36 (by decide) ?_
        obtain ⟨r16, σ17, hq18, hf⟩ := fm_bE hf
        refine fm_ci hI (fm_runV (As := [.int (0 : Int32)]) (rest := []) (rm := { frames := 0, cells := 0, slots := 0, locals := 0 }) hC hI (c_X12_no hC.2.2.1 hq18) mV_X12_no q_867 ⟨rfl, rfl⟩ ⟨Nat.le_of_ble_eq_true rfl, Nat.le_of_ble_eq_true rfl⟩ fc_96 rfl (by decide) rfl hl.1 rfl (Nat.le_of_ble_eq_true rfl) dX12_least_37 ⟨Nat.zero_le _, Nat.zero_le _⟩) (fun H locs hI => ?_)
        exact fm_ri hC hI hr hlk hf dX12_least_40
      · have hf := fm_pF hf hc
        refine lv_iload hx hb dX12_least_23 (lv_at hl 4 rfl) ?_
        refine lv_iconst (v := (0 : Int32)) hx hb dX12_least_25 (by decide) ?_
        refine lv_sipush (v := (9999 : Int32)) hx hb dX12_least_26 (by decide) ?_
        obtain ⟨r19, σ20, hq21, hf⟩ := fm_bE hf
        refine fm_ci hI (fm_runS (As := [.int a4, .int (0 : Int32), .int (9999 : Int32)]) (rest := []) (rm := { frames := 0, cells := 0, slots := 0, locals := 0 }) hC hI (c_X12_in1 hC.2.2.1 hq21) mS_X12_in1 q_864 ⟨rfl, rfl⟩ ⟨Nat.le_of_ble_eq_true rfl, Nat.le_of_ble_eq_true rfl⟩ rfl hl.1 rfl (Nat.le_of_ble_eq_true rfl) dX12_least_29 ⟨Nat.zero_le _, Nat.zero_le _⟩) (fun H locs hI => ?_)
        refine lv_if_ne (tgt := 41) hx hb dX12_least_32 (by decide) (fun hc => ?_) (fun hc => ?_)
        · have hf := fm_pF hf hc
          refine lv_iconst (v := (0 : Int32)) hx hb dX12_least_41 (by decide) ?_
          refine lv_istore (lv' := [(5, .int (0 : Int32)), (0, .ref (G.2.1 96)), (1, .int a1), (2, .int a2), (3, .int a3), (4, .int a4)]) hx hb dX12_least_42 hl (Nat.le_of_ble_eq_true rfl) rfl (fun ls hl => ?_)
          refine w_X12_least_44 hC hr hlk (fun x1_y31 x2_y31 x3_y31 x4_y31 x5_y31 σ_y31 H locs ls hI hl hf => ?_) fm_fu a1 a2 a3 a4 (0 : Int32) σ20 _ _ _ hI (lv_sub hl [1, 2, 3, 4, 5, 0] rfl) hf
          refine lv_aload_n hx hb dX12_least_83 rfl (lv_at hl 0 rfl) ?_
          refine lv_iconst (v := (3 : Int32)) hx hb dX12_least_84 (by decide) ?_
          obtain ⟨r32, σ33, hq34, hf⟩ := fm_bE hf
          refine fm_ci hI (fm_runV (As := [.int (3 : Int32)]) (rest := []) (rm := { frames := 0, cells := 0, slots := 0, locals := 0 }) hC hI (c_X12_no hC.2.2.1 hq34) mV_X12_no q_867 ⟨rfl, rfl⟩ ⟨Nat.le_of_ble_eq_true rfl, Nat.le_of_ble_eq_true rfl⟩ fc_96 rfl (by decide) rfl hl.1 rfl (Nat.le_of_ble_eq_true rfl) dX12_least_85 ⟨Nat.zero_le _, Nat.zero_le _⟩) (fun H locs hI => ?_)
          exact fm_ri hC hI hr hlk hf dX12_least_88
        · have hf := fm_pT hf hc
          refine lv_aload_n hx hb dX12_least_35 rfl (lv_at hl 0 rfl) ?_
          refine lv_iconst (v := (0 : Int32)) hx hb dX12_least_36 (by decide) ?_
          obtain ⟨r35, σ36, hq37, hf⟩ := fm_bE hf
          refine fm_ci hI (fm_runV (As := [.int (0 : Int32)]) (rest := []) (rm := { frames := 0, cells := 0, slots := 0, locals := 0 }) hC hI (c_X12_no hC.2.2.1 hq37) mV_X12_no q_867 ⟨rfl, rfl⟩ ⟨Nat.le_of_ble_eq_true rfl, Nat.le_of_ble_eq_true rfl⟩ fc_96 rfl (by decide) rfl hl.1 rfl (Nat.le_of_ble_eq_true rfl) dX12_least_37 ⟨Nat.zero_le _, Nat.zero_le _⟩) (fun H locs hI => ?_)
          exact fm_ri hC hI hr hlk hf dX12_least_40
def m_X12_isOrder_2 (kc : Int32 → Int32 → Int32 → fm_M → Option (Int32 × fm_M)) : Nat → Int32 → Int32 → Int32 → fm_M → Option (Int32 × fm_M)
  | 0, _, _, _, _ => none
  | n + 1, z1, z2, z3, σ => if (5 : Int32) ≤ z3 then (kc z1 z2 z3 σ) else (fm_g (fm_in1 z3 5) (fm_let (fm_sI σ 101 z3.toNatClampNeg (0 : Int32)) fun σ2 => (m_X12_isOrder_2 kc n z1 z2 (z3 + (1 : Int32)) σ2)))
def m_X12_isOrder_22 (kc : Int32 → Int32 → Int32 → fm_M → Option (Int32 × fm_M)) : Nat → Int32 → Int32 → Int32 → fm_M → Option (Int32 × fm_M)
  | 0, _, _, _, _ => none
  | n + 1, z1, z2, z3, σ => fm_b (m_X12_of1 z1 (0 : Int32) σ) fun r5 σ6 => (if r5 ≤ z3 then (kc z1 z2 z3 σ6) else (fm_b (m_X12_of1 z1 ((4 : Int32) + z3) σ6) fun r8 σ9 => (fm_g (fm_in1 ((1 : Int32) + r8) 5) (fm_g (fm_in1 ((1 : Int32) + r8) 5) (fm_let (fm_sI σ9 101 ((1 : Int32) + r8).toNatClampNeg ((σ9.1 101 ((1 : Int32) + r8).toNatClampNeg) + (1 : Int32))) fun σ13 => (m_X12_isOrder_22 kc n z1 z2 (z3 + (1 : Int32)) σ13))))))
def m_X12_isOrder_62 (kc : Int32 → Int32 → fm_M → Option (Int32 × fm_M)) : Nat → Int32 → Int32 → fm_M → Option (Int32 × fm_M)
  | 0, _, _, _ => none
  | n + 1, z3, z4, σ => if z4 ≤ 0 then (kc z3 z4 σ) else (if z3 = 0 then (kc z3 z4 σ) else (fm_b (m_X12_in1 (z4 - z4 / (10 : Int32) * (10 : Int32)) (1 : Int32) (4 : Int32) σ) fun r16 σ17 => (fm_j (fun (v0_J19 : Int32) (σ_J19 : fm_M) => fm_j (fun (v0_J20 : Int32) (σ_J20 : fm_M) => fm_g (fm_in1 v0_J20 5) (fm_g (fm_in1 v0_J20 5) (fm_let (fm_sI σ_J20 101 v0_J20.toNatClampNeg ((σ_J20.1 101 v0_J20.toNatClampNeg) - (1 : Int32))) fun σ23 => (m_X12_isOrder_62 kc n v0_J19 (z4 / (10 : Int32)) σ23)))) (fun J20 => if v0_J19 = 0 then (J20 (0 : Int32) σ_J19) else (J20 (z4 - z4 / (10 : Int32) * (10 : Int32)) σ_J19))) (fun J19 => if r16 = 0 then (J19 (0 : Int32) σ17) else (fm_g (fm_in1 (z4 - z4 / (10 : Int32) * (10 : Int32)) 5) (if (σ17.1 101 (z4 - z4 / (10 : Int32) * (10 : Int32)).toNatClampNeg) ≤ 0 then (J19 (0 : Int32) σ17) else (J19 (1 : Int32) σ17)))))))
def m_X12_isOrder (a1 : Int32) (a2 : Int32) (σ : fm_M) : Option (Int32 × fm_M) := m_X12_isOrder_2 (fun (x1_y4 : Int32) (x2_y4 : Int32) (x3_y4 : Int32) (σ_y4 : fm_M) => m_X12_isOrder_22 (fun (x1_y15 : Int32) (x2_y15 : Int32) (x3_y15 : Int32) (σ_y15 : fm_M) => m_X12_isOrder_62 (fun (x3_y26 : Int32) (x4_y26 : Int32) (σ_y26 : fm_M) => fm_g (fm_bz x3_y26) (some (x3_y26, σ_y26))) fm_fu (1 : Int32) x2_y15 σ_y15) fm_fu x1_y4 x2_y4 (0 : Int32) σ_y4) fm_fu a1 a2 (0 : Int32) σ
set_option maxHeartbeats 4000000 in
set_option maxRecDepth 100000 in
theorem w_X12_isOrder_2 {p : Program} {l : Launch} {e : Env} {s : State} {m : MethodId} {args : Array Value} {below : List Frame} {meth : Method} {c : Code} {G : fm_G} {o : Int32 × fm_M} {kc : Int32 → Int32 → Int32 → fm_M → Option (Int32 × fm_M)} (hC : fm_C G p m c cX12_isOrder 5 s args RX12) (hr : meth.sig.returnType = (some .boolean)) (hlk : meth.locks = false) (hk : ∀ (z1 : Int32) (z2 : Int32) (z3 : Int32) (σ : fm_M) (H : Heap) (locs : List Loc) (ls : Array Slot), fm_I G σ s H locs → lv_has ls 5 [(0, .ref (G.2.1 96)), (1, .int z1), (2, .int z2), (3, .int z3)] → kc z1 z2 z3 σ = some o → W p l e { frames := 1, cells := 0, slots := 0, locals := 22 } s m args below meth c H locs 0 0 (MQ below (fm_Qi G o) args s 0 0 (fm_A G)) (F0 m 20 ls [])) (n : Nat) : ∀ (z1 : Int32) (z2 : Int32) (z3 : Int32) (σ : fm_M) (H : Heap) (locs : List Loc) (ls : Array Slot), fm_I G σ s H locs → lv_has ls 5 [(0, .ref (G.2.1 96)), (1, .int z1), (2, .int z2), (3, .int z3)] → m_X12_isOrder_2 kc n z1 z2 z3 σ = some o → W p l e { frames := 1, cells := 0, slots := 0, locals := 22 } s m args below meth c H locs 0 0 (MQ below (fm_Qi G o) args s 0 0 (fm_A G)) (F0 m 2 ls []) := by
  have hx := hC.1.1
  have hb := hC.1.2.1
  have hown := hC.1.2.2.2.1
  have hts := hC.1.2.2.2.2
  induction n with
  | zero =>
    intro z1 z2 z3 σ H locs ls hI hl hf
    cases hf
  | succ n ih =>
    intro z1 z2 z3 σ H locs ls hI hl hf
    rw [m_X12_isOrder_2] at hf
    refine lv_iload_n hx hb dX12_isOrder_2 rfl (lv_at hl 3 rfl) ?_
    refine lv_iconst (v := (5 : Int32)) hx hb dX12_isOrder_3 (by decide) ?_
    refine lv_icmp_ge (tgt := 20) hx hb dX12_isOrder_4 (by decide) (fun hc => ?_) (fun hc => ?_)
    · have hf := fm_pT hf hc
      exact hk z1 z2 z3 σ _ _ _ hI (lv_sub hl [0, 1, 2, 3] rfl) hf
    · have hf := fm_pF hf hc
      refine lv_aload_n hx hb dX12_isOrder_7 rfl (lv_at hl 0 rfl) ?_
      refine fm_gr hC hI fd_X12_6 fc_96 fr_96_6 q_804 dX12_isOrder_8 ?_
      refine lv_iload_n hx hb dX12_isOrder_11 rfl (lv_at hl 3 rfl) ?_
      refine lv_iconst (v := (0 : Int32)) hx hb dX12_isOrder_12 (by decide) ?_
      obtain ⟨hg1, hf⟩ := fm_gE hf
      obtain ⟨σ2, e3, hf⟩ := fm_letE hf
      refine fm_iast hC hI fc_101 fl_101 hg1 e3 dX12_isOrder_13 (fun H locs hI => ?_)
      refine lv_iinc (v := (z3 + (1 : Int32))) (lv' := [(3, .int (z3 + (1 : Int32))), (0, .ref (G.2.1 96)), (1, .int z1), (2, .int z2)]) hx hb dX12_isOrder_14 hl (k := 3) rfl rfl (Nat.le_of_ble_eq_true rfl) rfl (fun ls hl => ?_)
      refine lv_goto (tgt := 2) hx hb dX12_isOrder_17 (by decide) ?_
      exact ih z1 z2 (z3 + (1 : Int32)) σ2 _ _ _ hI (lv_sub hl [1, 2, 3, 0] rfl) hf
set_option maxHeartbeats 4000000 in
set_option maxRecDepth 100000 in
theorem w_X12_isOrder_22 {p : Program} {l : Launch} {e : Env} {s : State} {m : MethodId} {args : Array Value} {below : List Frame} {meth : Method} {c : Code} {G : fm_G} {o : Int32 × fm_M} {kc : Int32 → Int32 → Int32 → fm_M → Option (Int32 × fm_M)} (hC : fm_C G p m c cX12_isOrder 5 s args RX12) (hr : meth.sig.returnType = (some .boolean)) (hlk : meth.locks = false) (hk : ∀ (z1 : Int32) (z2 : Int32) (z3 : Int32) (σ : fm_M) (H : Heap) (locs : List Loc) (ls : Array Slot), fm_I G σ s H locs → lv_has ls 5 [(0, .ref (G.2.1 96)), (1, .int z1), (2, .int z2), (3, .int z3)] → kc z1 z2 z3 σ = some o → W p l e { frames := 1, cells := 0, slots := 0, locals := 22 } s m args below meth c H locs 0 0 (MQ below (fm_Qi G o) args s 0 0 (fm_A G)) (F0 m 57 ls [])) (n : Nat) : ∀ (z1 : Int32) (z2 : Int32) (z3 : Int32) (σ : fm_M) (H : Heap) (locs : List Loc) (ls : Array Slot), fm_I G σ s H locs → lv_has ls 5 [(0, .ref (G.2.1 96)), (1, .int z1), (2, .int z2), (3, .int z3)] → m_X12_isOrder_22 kc n z1 z2 z3 σ = some o → W p l e { frames := 1, cells := 0, slots := 0, locals := 22 } s m args below meth c H locs 0 0 (MQ below (fm_Qi G o) args s 0 0 (fm_A G)) (F0 m 22 ls []) := by
  have hx := hC.1.1
  have hb := hC.1.2.1
  have hown := hC.1.2.2.2.1
  have hts := hC.1.2.2.2.2
  induction n with
  | zero =>
    intro z1 z2 z3 σ H locs ls hI hl hf
    cases hf
  | succ n ih =>
    intro z1 z2 z3 σ H locs ls hI hl hf
    rw [m_X12_isOrder_22] at hf
    refine lv_iload_n hx hb dX12_isOrder_22 rfl (lv_at hl 3 rfl) ?_
    refine lv_aload_n hx hb dX12_isOrder_23 rfl (lv_at hl 0 rfl) ?_
    refine lv_iload_n hx hb dX12_isOrder_24 rfl (lv_at hl 1 rfl) ?_
    refine lv_iconst (v := (0 : Int32)) hx hb dX12_isOrder_25 (by decide) ?_
    obtain ⟨r5, σ6, hq7, hf⟩ := fm_bE hf
    refine fm_ci hI (fm_runV (As := [.int z1, .int (0 : Int32)]) (rest := [.int z3]) (rm := { frames := 0, cells := 0, slots := 0, locals := 0 }) hC hI (c_X12_of1 hC.2.2.1 hq7) mV_X12_of1 q_896 ⟨rfl, rfl⟩ ⟨Nat.le_of_ble_eq_true rfl, Nat.le_of_ble_eq_true rfl⟩ fc_96 rfl (by decide) rfl hl.1 rfl (Nat.le_of_ble_eq_true rfl) dX12_isOrder_26 ⟨Nat.zero_le _, Nat.zero_le _⟩) (fun H locs hI => ?_)
    refine lv_icmp_ge (tgt := 57) hx hb dX12_isOrder_29 (by decide) (fun hc => ?_) (fun hc => ?_)
    · have hf := fm_pT hf hc
      exact hk z1 z2 z3 σ6 _ _ _ hI (lv_sub hl [0, 1, 2, 3] rfl) hf
    · have hf := fm_pF hf hc
      refine lv_aload_n hx hb dX12_isOrder_32 rfl (lv_at hl 0 rfl) ?_
      refine fm_gr hC hI fd_X12_6 fc_96 fr_96_6 q_804 dX12_isOrder_33 ?_
      refine lv_iconst (v := (1 : Int32)) hx hb dX12_isOrder_36 (by decide) ?_
      refine lv_aload_n hx hb dX12_isOrder_37 rfl (lv_at hl 0 rfl) ?_
      refine lv_iload_n hx hb dX12_isOrder_38 rfl (lv_at hl 1 rfl) ?_
      refine lv_iconst (v := (4 : Int32)) hx hb dX12_isOrder_39 (by decide) ?_
      refine lv_iload_n hx hb dX12_isOrder_40 rfl (lv_at hl 3 rfl) ?_
      refine lv_iadd hx hb dX12_isOrder_41 ?_
      obtain ⟨r8, σ9, hq10, hf⟩ := fm_bE hf
      refine fm_ci hI (fm_runV (As := [.int z1, .int ((4 : Int32) + z3)]) (rest := [.int (1 : Int32), .ref (G.2.1 101)]) (rm := { frames := 0, cells := 0, slots := 0, locals := 0 }) hC hI (c_X12_of1 hC.2.2.1 hq10) mV_X12_of1 q_896 ⟨rfl, rfl⟩ ⟨Nat.le_of_ble_eq_true rfl, Nat.le_of_ble_eq_true rfl⟩ fc_96 rfl (by decide) rfl hl.1 rfl (Nat.le_of_ble_eq_true rfl) dX12_isOrder_42 ⟨Nat.zero_le _, Nat.zero_le _⟩) (fun H locs hI => ?_)
      refine lv_iadd hx hb dX12_isOrder_45 ?_
      refine lv_dup2_11 hx hb dX12_isOrder_46 rfl rfl ?_
      obtain ⟨hg11, hf⟩ := fm_gE hf
      refine fm_iald hC hI fc_101 fl_101 hg11 dX12_isOrder_47 ?_
      refine lv_iconst (v := (1 : Int32)) hx hb dX12_isOrder_48 (by decide) ?_
      refine lv_iadd hx hb dX12_isOrder_49 ?_
      obtain ⟨hg12, hf⟩ := fm_gE hf
      obtain ⟨σ13, e14, hf⟩ := fm_letE hf
      refine fm_iast hC hI fc_101 fl_101 hg12 e14 dX12_isOrder_50 (fun H locs hI => ?_)
      refine lv_iinc (v := (z3 + (1 : Int32))) (lv' := [(3, .int (z3 + (1 : Int32))), (0, .ref (G.2.1 96)), (1, .int z1), (2, .int z2)]) hx hb dX12_isOrder_51 hl (k := 3) rfl rfl (Nat.le_of_ble_eq_true rfl) rfl (fun ls hl => ?_)
      refine lv_goto (tgt := 22) hx hb dX12_isOrder_54 (by decide) ?_
      exact ih z1 z2 (z3 + (1 : Int32)) σ13 _ _ _ hI (lv_sub hl [1, 2, 3, 0] rfl) hf
set_option maxHeartbeats 4000000 in
set_option maxRecDepth 100000 in
theorem w_X12_isOrder_62 {p : Program} {l : Launch} {e : Env} {s : State} {m : MethodId} {args : Array Value} {below : List Frame} {meth : Method} {c : Code} {G : fm_G} {o : Int32 × fm_M} {kc : Int32 → Int32 → fm_M → Option (Int32 × fm_M)} (hC : fm_C G p m c cX12_isOrder 5 s args RX12) (hr : meth.sig.returnType = (some .boolean)) (hlk : meth.locks = false) (hk : ∀ (z3 : Int32) (z4 : Int32) (σ : fm_M) (H : Heap) (locs : List Loc) (ls : Array Slot), fm_I G σ s H locs → lv_has ls 5 [(0, .ref (G.2.1 96)), (3, .int z3), (4, .int z4)] → kc z3 z4 σ = some o → W p l e { frames := 1, cells := 0, slots := 0, locals := 22 } s m args below meth c H locs 0 0 (MQ below (fm_Qi G o) args s 0 0 (fm_A G)) (F0 m 135 ls [])) (n : Nat) : ∀ (z3 : Int32) (z4 : Int32) (σ : fm_M) (H : Heap) (locs : List Loc) (ls : Array Slot), fm_I G σ s H locs → lv_has ls 5 [(0, .ref (G.2.1 96)), (3, .int z3), (4, .int z4)] → m_X12_isOrder_62 kc n z3 z4 σ = some o → W p l e { frames := 1, cells := 0, slots := 0, locals := 22 } s m args below meth c H locs 0 0 (MQ below (fm_Qi G o) args s 0 0 (fm_A G)) (F0 m 62 ls []) := by
  have hx := hC.1.1
  have hb := hC.1.2.1
  have hown := hC.1.2.2.2.1
  have hts := hC.1.2.2.2.2
  induction n with
  | zero =>
    intro z3 z4 σ H locs ls hI hl hf
    cases hf
  | succ n ih =>
    intro z3 z4 σ H locs ls hI hl hf
    rw [m_X12_isOrder_62] at hf
    refine lv_iload hx hb dX12_isOrder_62 (lv_at hl 2 rfl) ?_
    refine lv_if_le (tgt := 135) hx hb dX12_isOrder_64 (by decide) (fun hc => ?_) (fun hc => ?_)
    · have hf := fm_pT hf hc
      exact hk z3 z4 σ _ _ _ hI (lv_sub hl [0, 1, 2] rfl) hf
    · have hf := fm_pF hf hc
      refine lv_iload_n hx hb dX12_isOrder_67 rfl (lv_at hl 1 rfl) ?_
      refine lv_if_eq (tgt := 135) hx hb dX12_isOrder_68 (by decide) (fun hc => ?_) (fun hc => ?_)
      · have hf := fm_pT hf hc
        exact hk z3 z4 σ _ _ _ hI (lv_sub hl [0, 1, 2] rfl) hf
      · have hf := fm_pF hf hc
        refine lv_iload hx hb dX12_isOrder_71 (lv_at hl 2 rfl) ?_
        refine lv_bipush (v := (10 : Int32)) hx hb dX12_isOrder_73 (by decide) ?_
        refine lv_irem hx hb dX12_isOrder_75 (by decide) ?_
        refine lv_iconst (v := (1 : Int32)) hx hb dX12_isOrder_76 (by decide) ?_
        refine lv_iconst (v := (4 : Int32)) hx hb dX12_isOrder_77 (by decide) ?_
        obtain ⟨r16, σ17, hq18, hf⟩ := fm_bE hf
        refine fm_ci hI (fm_runS (As := [.int (z4 - z4 / (10 : Int32) * (10 : Int32)), .int (1 : Int32), .int (4 : Int32)]) (rest := []) (rm := { frames := 0, cells := 0, slots := 0, locals := 0 }) hC hI (c_X12_in1 hC.2.2.1 hq18) mS_X12_in1 q_864 ⟨rfl, rfl⟩ ⟨Nat.le_of_ble_eq_true rfl, Nat.le_of_ble_eq_true rfl⟩ rfl hl.1 rfl (Nat.le_of_ble_eq_true rfl) dX12_isOrder_78 ⟨Nat.zero_le _, Nat.zero_le _⟩) (fun H locs hI => ?_)
        obtain ⟨J19, eJ19, hf⟩ := fm_jE hf
        have hJ19 : ∀ (v0_J19 : Int32) (σ_J19 : fm_M) (H : Heap) (locs : List Loc) (ls : Array Slot), fm_I G σ_J19 s H locs → lv_has ls 5 [(0, .ref (G.2.1 96)), (4, .int z4)] → J19 v0_J19 σ_J19 = some o → W p l e { frames := 1, cells := 0, slots := 0, locals := 22 } s m args below meth c H locs 0 0 (MQ below (fm_Qi G o) args s 0 0 (fm_A G)) (F0 m 102 ls [.int v0_J19]) := by
          intro v0_J19 σ_J19 H locs ls hI hl hf
          subst eJ19
          refine lv_istore_n (lv' := [(3, .int v0_J19), (0, .ref (G.2.1 96)), (4, .int z4)]) hx hb dX12_isOrder_102 rfl hl (Nat.le_of_ble_eq_true rfl) rfl (fun ls hl => ?_)
          refine lv_aload_n hx hb dX12_isOrder_103 rfl (lv_at hl 1 rfl) ?_
          refine fm_gr hC hI fd_X12_6 fc_96 fr_96_6 q_804 dX12_isOrder_104 ?_
          refine lv_iload_n hx hb dX12_isOrder_107 rfl (lv_at hl 0 rfl) ?_
          obtain ⟨J20, eJ20, hf⟩ := fm_jE hf
          have hJ20 : ∀ (v0_J20 : Int32) (σ_J20 : fm_M) (H : Heap) (locs : List Loc) (ls : Array Slot), fm_I G σ_J20 s H locs → lv_has ls 5 [(0, .ref (G.2.1 96)), (3, .int v0_J19), (4, .int z4)] → J20 v0_J20 σ_J20 = some o → W p l e { frames := 1, cells := 0, slots := 0, locals := 22 } s m args below meth c H locs 0 0 (MQ below (fm_Qi G o) args s 0 0 (fm_A G)) (F0 m 120 ls [.int v0_J20, .ref (G.2.1 101)]) := by
            intro v0_J20 σ_J20 H locs ls hI hl hf
            subst eJ20
            refine lv_dup2_11 hx hb dX12_isOrder_120 rfl rfl ?_
            obtain ⟨hg21, hf⟩ := fm_gE hf
            refine fm_iald hC hI fc_101 fl_101 hg21 dX12_isOrder_121 ?_
            refine lv_iconst (v := (1 : Int32)) hx hb dX12_isOrder_122 (by decide) ?_
            refine lv_isub hx hb dX12_isOrder_123 ?_
            obtain ⟨hg22, hf⟩ := fm_gE hf
            obtain ⟨σ23, e24, hf⟩ := fm_letE hf
            refine fm_iast hC hI fc_101 fl_101 hg22 e24 dX12_isOrder_124 (fun H locs hI => ?_)
            refine lv_iload hx hb dX12_isOrder_125 (lv_at hl 2 rfl) ?_
            refine lv_bipush (v := (10 : Int32)) hx hb dX12_isOrder_127 (by decide) ?_
            refine lv_idiv hx hb dX12_isOrder_129 (by decide) ?_
            refine lv_istore (lv' := [(4, .int (z4 / (10 : Int32))), (0, .ref (G.2.1 96)), (3, .int v0_J19)]) hx hb dX12_isOrder_130 hl (Nat.le_of_ble_eq_true rfl) rfl (fun ls hl => ?_)
            refine lv_goto (tgt := 62) hx hb dX12_isOrder_132 (by decide) ?_
            exact ih v0_J19 (z4 / (10 : Int32)) σ23 _ _ _ hI (lv_sub hl [1, 2, 0] rfl) hf
          refine lv_if_eq (tgt := 119) hx hb dX12_isOrder_108 (by decide) (fun hc => ?_) (fun hc => ?_)
          · have hf := fm_pT hf hc
            refine lv_iconst (v := (0 : Int32)) hx hb dX12_isOrder_119 (by decide) ?_
            exact hJ20 (0 : Int32) σ_J19 _ _ _ hI (lv_sub hl [1, 0, 2] rfl) hf
          · have hf := fm_pF hf hc
            refine lv_iload hx hb dX12_isOrder_111 (lv_at hl 2 rfl) ?_
            refine lv_bipush (v := (10 : Int32)) hx hb dX12_isOrder_113 (by decide) ?_
            refine lv_irem hx hb dX12_isOrder_115 (by decide) ?_
            refine lv_goto (tgt := 120) hx hb dX12_isOrder_116 (by decide) ?_
            exact hJ20 (z4 - z4 / (10 : Int32) * (10 : Int32)) σ_J19 _ _ _ hI (lv_sub hl [1, 0, 2] rfl) hf
        refine lv_if_eq (tgt := 101) hx hb dX12_isOrder_81 (by decide) (fun hc => ?_) (fun hc => ?_)
        · have hf := fm_pT hf hc
          refine lv_iconst (v := (0 : Int32)) hx hb dX12_isOrder_101 (by decide) ?_
          exact hJ19 (0 : Int32) σ17 _ _ _ hI (lv_sub hl [0, 2] rfl) hf
        · have hf := fm_pF hf hc
          refine lv_aload_n hx hb dX12_isOrder_84 rfl (lv_at hl 0 rfl) ?_
          refine fm_gr hC hI fd_X12_6 fc_96 fr_96_6 q_804 dX12_isOrder_85 ?_
          refine lv_iload hx hb dX12_isOrder_88 (lv_at hl 2 rfl) ?_
          refine lv_bipush (v := (10 : Int32)) hx hb dX12_isOrder_90 (by decide) ?_
          refine lv_irem hx hb dX12_isOrder_92 (by decide) ?_
          obtain ⟨hg25, hf⟩ := fm_gE hf
          refine fm_iald hC hI fc_101 fl_101 hg25 dX12_isOrder_93 ?_
          refine lv_if_le (tgt := 101) hx hb dX12_isOrder_94 (by decide) (fun hc => ?_) (fun hc => ?_)
          · have hf := fm_pT hf hc
            refine lv_iconst (v := (0 : Int32)) hx hb dX12_isOrder_101 (by decide) ?_
            exact hJ19 (0 : Int32) σ17 _ _ _ hI (lv_sub hl [0, 2] rfl) hf
          · have hf := fm_pF hf hc
            refine lv_iconst (v := (1 : Int32)) hx hb dX12_isOrder_97 (by decide) ?_
            refine lv_goto (tgt := 102) hx hb dX12_isOrder_98 (by decide) ?_
            exact hJ19 (1 : Int32) σ17 _ _ _ hI (lv_sub hl [0, 2] rfl) hf
set_option maxHeartbeats 4000000 in
set_option maxRecDepth 100000 in
theorem c_X12_isOrder {l : Launch} {G : fm_G} (hJ : fm_J G) {a1 : Int32} {a2 : Int32} {σ : fm_M} {o : Int32 × fm_M}  (hf : m_X12_isOrder a1 a2 σ = some o) : Met l yX12_isOrder (fm_w yX12_isOrder cX12_isOrder 5 (some .boolean)) { frames := 1, cells := 0, slots := 0, locals := 22 } (va_Pc [.ref (G.2.1 96), .int a1, .int a2] (fm_st G σ)) (fm_Qi G o) 0 0 (fm_A G) := by
  refine fm_mth (own := RX12) hJ rfl (by decide +kernel) (Nat.le_of_ble_eq_true rfl) ?_
  intro p e s m below meth c ls hC hr hlk hI hl
  have hx := hC.1.1
  have hb := hC.1.2.1
  have hown := hC.1.2.2.2.1
  have hts := hC.1.2.2.2.2
  have hl : lv_has ls 5 [(0, .ref (G.2.1 96)), (1, .int a1), (2, .int a2)] := hl
  rw [m_X12_isOrder] at hf
  refine lv_iconst (v := (0 : Int32)) hx hb dX12_isOrder_0 (by decide) ?_
  refine lv_istore_n (lv' := [(3, .int (0 : Int32)), (0, .ref (G.2.1 96)), (1, .int a1), (2, .int a2)]) hx hb dX12_isOrder_1 rfl hl (Nat.le_of_ble_eq_true rfl) rfl (fun ls hl => ?_)
  refine w_X12_isOrder_2 hC hr hlk (fun x1_y4 x2_y4 x3_y4 σ_y4 H locs ls hI hl hf => ?_) fm_fu a1 a2 (0 : Int32) σ _ _ _ hI (lv_sub hl [1, 2, 3, 0] rfl) hf
  refine lv_iconst (v := (0 : Int32)) hx hb dX12_isOrder_20 (by decide) ?_
  refine lv_istore_n (lv' := [(3, .int (0 : Int32)), (0, .ref (G.2.1 96)), (1, .int x1_y4), (2, .int x2_y4)]) hx hb dX12_isOrder_21 rfl hl (Nat.le_of_ble_eq_true rfl) rfl (fun ls hl => ?_)
  refine w_X12_isOrder_22 hC hr hlk (fun x1_y15 x2_y15 x3_y15 σ_y15 H locs ls hI hl hf => ?_) fm_fu x1_y4 x2_y4 (0 : Int32) σ_y4 _ _ _ hI (lv_sub hl [1, 2, 3, 0] rfl) hf
  refine lv_iconst (v := (1 : Int32)) hx hb dX12_isOrder_57 (by decide) ?_
  refine lv_istore_n (lv' := [(3, .int (1 : Int32)), (0, .ref (G.2.1 96)), (1, .int x1_y15), (2, .int x2_y15)]) hx hb dX12_isOrder_58 rfl hl (Nat.le_of_ble_eq_true rfl) rfl (fun ls hl => ?_)
  refine lv_iload_n hx hb dX12_isOrder_59 rfl (lv_at hl 3 rfl) ?_
  refine lv_istore (lv' := [(4, .int x2_y15), (3, .int (1 : Int32)), (0, .ref (G.2.1 96)), (1, .int x1_y15), (2, .int x2_y15)]) hx hb dX12_isOrder_60 hl (Nat.le_of_ble_eq_true rfl) rfl (fun ls hl => ?_)
  refine w_X12_isOrder_62 hC hr hlk (fun x3_y26 x4_y26 σ_y26 H locs ls hI hl hf => ?_) fm_fu (1 : Int32) x2_y15 σ_y15 _ _ _ hI (lv_sub hl [2, 1, 0] rfl) hf
  refine lv_iload_n hx hb dX12_isOrder_135 rfl (lv_at hl 1 rfl) ?_
  obtain ⟨hg27, hf⟩ := fm_gE hf
  exact fm_rz hC hI hr hlk hg27 hf dX12_isOrder_136
def m_X12_joyBy_17 (kc : Int32 → Int32 → Int32 → Int32 → fm_M → Option (Int32 × fm_M)) : Nat → Int32 → Int32 → Int32 → Int32 → fm_M → Option (Int32 × fm_M)
  | 0, _, _, _, _, _ => none
  | n + 1, z1, z3, z4, z5, σ => if z5 ≤ 0 then (kc z1 z3 z4 z5 σ) else (fm_b (m_X12_lays1 z1 ((4 : Int32) + z4) ((z5 - z5 / (10 : Int32) * (10 : Int32)) - (1 : Int32)) σ) fun _u7 σ8 => (m_X12_joyBy_17 kc n z1 z3 (z4 + (-1 : Int32)) (z5 / (10 : Int32)) σ8))
def m_X12_joyBy (a1 : Int32) (a2 : Int32) (a3 : Int32) (σ : fm_M) : Option (Int32 × fm_M) := fm_b (m_X12_setsAside  σ) fun _u1 σ2 => (fm_b (m_X12_of1 a1 (0 : Int32) σ2) fun r4 σ5 => (m_X12_joyBy_17 (fun (x1_y10 : Int32) (x3_y10 : Int32) (x4_y10 : Int32) (x5_y10 : Int32) (σ_y10 : fm_M) => fm_b (m_X12_joyThen (-1 : Int32) x3_y10 σ_y10) fun r11 σ12 => (some (r11, σ12))) fm_fu a1 a3 (r4 - (1 : Int32)) a2 σ5))
set_option maxHeartbeats 4000000 in
set_option maxRecDepth 100000 in
theorem w_X12_joyBy_17 {p : Program} {l : Launch} {e : Env} {s : State} {m : MethodId} {args : Array Value} {below : List Frame} {meth : Method} {c : Code} {G : fm_G} {o : Int32 × fm_M} {kc : Int32 → Int32 → Int32 → Int32 → fm_M → Option (Int32 × fm_M)} (hC : fm_C G p m c cX12_joyBy 6 s args RX12) (hr : meth.sig.returnType = (some .int)) (hlk : meth.locks = false) (hk : ∀ (z1 : Int32) (z3 : Int32) (z4 : Int32) (z5 : Int32) (σ : fm_M) (H : Heap) (locs : List Loc) (ls : Array Slot), fm_I G σ s H locs → lv_has ls 6 [(0, .ref (G.2.1 96)), (1, .int z1), (3, .int z3), (4, .int z4), (5, .int z5)] → kc z1 z3 z4 z5 σ = some o → W p l e { frames := 7, cells := 0, slots := 0, locals := 159 } s m args below meth c H locs 0 0 (MQ below (fm_Qi G o) args s 0 0 (fm_A G)) (F0 m 51 ls [])) (n : Nat) : ∀ (z1 : Int32) (z3 : Int32) (z4 : Int32) (z5 : Int32) (σ : fm_M) (H : Heap) (locs : List Loc) (ls : Array Slot), fm_I G σ s H locs → lv_has ls 6 [(0, .ref (G.2.1 96)), (1, .int z1), (3, .int z3), (4, .int z4), (5, .int z5)] → m_X12_joyBy_17 kc n z1 z3 z4 z5 σ = some o → W p l e { frames := 7, cells := 0, slots := 0, locals := 159 } s m args below meth c H locs 0 0 (MQ below (fm_Qi G o) args s 0 0 (fm_A G)) (F0 m 17 ls []) := by
  have hx := hC.1.1
  have hb := hC.1.2.1
  have hown := hC.1.2.2.2.1
  have hts := hC.1.2.2.2.2
  induction n with
  | zero =>
    intro z1 z3 z4 z5 σ H locs ls hI hl hf
    cases hf
  | succ n ih =>
    intro z1 z3 z4 z5 σ H locs ls hI hl hf
    rw [m_X12_joyBy_17] at hf
    refine lv_iload hx hb dX12_joyBy_17 (lv_at hl 4 rfl) ?_
    refine lv_if_le (tgt := 51) hx hb dX12_joyBy_19 (by decide) (fun hc => ?_) (fun hc => ?_)
    · have hf := fm_pT hf hc
      exact hk z1 z3 z4 z5 σ _ _ _ hI (lv_sub hl [0, 1, 2, 3, 4] rfl) hf
    · have hf := fm_pF hf hc
      refine lv_aload_n hx hb dX12_joyBy_22 rfl (lv_at hl 0 rfl) ?_
      refine lv_iload_n hx hb dX12_joyBy_23 rfl (lv_at hl 1 rfl) ?_
      refine lv_iconst (v := (4 : Int32)) hx hb dX12_joyBy_24 (by decide) ?_
      refine lv_iload hx hb dX12_joyBy_25 (lv_at hl 3 rfl) ?_
      refine lv_iadd hx hb dX12_joyBy_27 ?_
      refine lv_iload hx hb dX12_joyBy_28 (lv_at hl 4 rfl) ?_
      refine lv_bipush (v := (10 : Int32)) hx hb dX12_joyBy_30 (by decide) ?_
      refine lv_irem hx hb dX12_joyBy_32 (by decide) ?_
      refine lv_iconst (v := (1 : Int32)) hx hb dX12_joyBy_33 (by decide) ?_
      refine lv_isub hx hb dX12_joyBy_34 ?_
      obtain ⟨_u7, σ8, hq9, hf⟩ := fm_bE hf
      refine fm_cv hI (fm_runV (As := [.int z1, .int ((4 : Int32) + z4), .int ((z5 - z5 / (10 : Int32) * (10 : Int32)) - (1 : Int32))]) (rest := []) (rm := { frames := 0, cells := 0, slots := 0, locals := 0 }) hC hI (c_X12_lays1 hC.2.2.1 hq9) mV_X12_lays1 q_947 ⟨rfl, rfl⟩ ⟨Nat.le_of_ble_eq_true rfl, Nat.le_of_ble_eq_true rfl⟩ fc_96 rfl (by decide) rfl hl.1 rfl (Nat.le_of_ble_eq_true rfl) dX12_joyBy_35 ⟨Nat.zero_le _, Nat.zero_le _⟩) (fun H locs hI => ?_)
      refine lv_iinc (v := (z4 + (-1 : Int32))) (lv' := [(4, .int (z4 + (-1 : Int32))), (0, .ref (G.2.1 96)), (1, .int z1), (3, .int z3), (5, .int z5)]) hx hb dX12_joyBy_38 hl (k := 3) rfl rfl (Nat.le_of_ble_eq_true rfl) rfl (fun ls hl => ?_)
      refine lv_iload hx hb dX12_joyBy_41 (lv_at hl 4 rfl) ?_
      refine lv_bipush (v := (10 : Int32)) hx hb dX12_joyBy_43 (by decide) ?_
      refine lv_idiv hx hb dX12_joyBy_45 (by decide) ?_
      refine lv_istore (lv' := [(5, .int (z5 / (10 : Int32))), (4, .int (z4 + (-1 : Int32))), (0, .ref (G.2.1 96)), (1, .int z1), (3, .int z3)]) hx hb dX12_joyBy_46 hl (Nat.le_of_ble_eq_true rfl) rfl (fun ls hl => ?_)
      refine lv_goto (tgt := 17) hx hb dX12_joyBy_48 (by decide) ?_
      exact ih z1 z3 (z4 + (-1 : Int32)) (z5 / (10 : Int32)) σ8 _ _ _ hI (lv_sub hl [2, 3, 4, 1, 0] rfl) hf
set_option maxHeartbeats 4000000 in
set_option maxRecDepth 100000 in
theorem c_X12_joyBy {l : Launch} {G : fm_G} (hJ : fm_J G) {a1 : Int32} {a2 : Int32} {a3 : Int32} {σ : fm_M} {o : Int32 × fm_M}  (hf : m_X12_joyBy a1 a2 a3 σ = some o) : Met l yX12_joyBy (fm_w yX12_joyBy cX12_joyBy 6 (some .int)) { frames := 7, cells := 0, slots := 0, locals := 159 } (va_Pc [.ref (G.2.1 96), .int a1, .int a2, .int a3] (fm_st G σ)) (fm_Qi G o) 0 0 (fm_A G) := by
  refine fm_mth (own := RX12) hJ rfl (by decide +kernel) (Nat.le_of_ble_eq_true rfl) ?_
  intro p e s m below meth c ls hC hr hlk hI hl
  have hx := hC.1.1
  have hb := hC.1.2.1
  have hown := hC.1.2.2.2.1
  have hts := hC.1.2.2.2.2
  have hl : lv_has ls 6 [(0, .ref (G.2.1 96)), (1, .int a1), (2, .int a2), (3, .int a3)] := hl
  rw [m_X12_joyBy] at hf
  refine lv_aload_n hx hb dX12_joyBy_0 rfl (lv_at hl 0 rfl) ?_
  obtain ⟨_u1, σ2, hq3, hf⟩ := fm_bE hf
  refine fm_cv hI (fm_runV (As := []) (rest := []) (rm := { frames := 0, cells := 0, slots := 0, locals := 0 }) hC hI (c_X12_setsAside hC.2.2.1 hq3) mV_X12_setsAside q_1037 ⟨rfl, rfl⟩ ⟨Nat.le_of_ble_eq_true rfl, Nat.le_of_ble_eq_true rfl⟩ fc_96 rfl (by decide) rfl hl.1 rfl (Nat.le_of_ble_eq_true rfl) dX12_joyBy_1 ⟨Nat.zero_le _, Nat.zero_le _⟩) (fun H locs hI => ?_)
  refine lv_aload_n hx hb dX12_joyBy_4 rfl (lv_at hl 0 rfl) ?_
  refine lv_iload_n hx hb dX12_joyBy_5 rfl (lv_at hl 1 rfl) ?_
  refine lv_iconst (v := (0 : Int32)) hx hb dX12_joyBy_6 (by decide) ?_
  obtain ⟨r4, σ5, hq6, hf⟩ := fm_bE hf
  refine fm_ci hI (fm_runV (As := [.int a1, .int (0 : Int32)]) (rest := []) (rm := { frames := 0, cells := 0, slots := 0, locals := 0 }) hC hI (c_X12_of1 hC.2.2.1 hq6) mV_X12_of1 q_896 ⟨rfl, rfl⟩ ⟨Nat.le_of_ble_eq_true rfl, Nat.le_of_ble_eq_true rfl⟩ fc_96 rfl (by decide) rfl hl.1 rfl (Nat.le_of_ble_eq_true rfl) dX12_joyBy_7 ⟨Nat.zero_le _, Nat.zero_le _⟩) (fun H locs hI => ?_)
  refine lv_iconst (v := (1 : Int32)) hx hb dX12_joyBy_10 (by decide) ?_
  refine lv_isub hx hb dX12_joyBy_11 ?_
  refine lv_istore (lv' := [(4, .int (r4 - (1 : Int32))), (0, .ref (G.2.1 96)), (1, .int a1), (2, .int a2), (3, .int a3)]) hx hb dX12_joyBy_12 hl (Nat.le_of_ble_eq_true rfl) rfl (fun ls hl => ?_)
  refine lv_iload_n hx hb dX12_joyBy_14 rfl (lv_at hl 3 rfl) ?_
  refine lv_istore (lv' := [(5, .int a2), (4, .int (r4 - (1 : Int32))), (0, .ref (G.2.1 96)), (1, .int a1), (2, .int a2), (3, .int a3)]) hx hb dX12_joyBy_15 hl (Nat.le_of_ble_eq_true rfl) rfl (fun ls hl => ?_)
  refine w_X12_joyBy_17 hC hr hlk (fun x1_y10 x3_y10 x4_y10 x5_y10 σ_y10 H locs ls hI hl hf => ?_) fm_fu a1 a3 (r4 - (1 : Int32)) a2 σ5 _ _ _ hI (lv_sub hl [2, 3, 5, 1, 0] rfl) hf
  refine lv_aload_n hx hb dX12_joyBy_51 rfl (lv_at hl 0 rfl) ?_
  refine lv_iconst (v := (-1 : Int32)) hx hb dX12_joyBy_52 (by decide) ?_
  refine lv_iload_n hx hb dX12_joyBy_53 rfl (lv_at hl 2 rfl) ?_
  obtain ⟨r11, σ12, hq13, hf⟩ := fm_bE hf
  refine fm_ci hI (fm_runV (As := [.int (-1 : Int32), .int x3_y10]) (rest := []) (rm := { frames := 6, cells := 0, slots := 0, locals := 136 }) hC hI (c_X12_joyThen hC.2.2.1 hq13) mV_X12_joyThen q_1068 ⟨rfl, rfl⟩ ⟨Nat.le_of_ble_eq_true rfl, Nat.le_of_ble_eq_true rfl⟩ fc_96 rfl (by decide) rfl hl.1 rfl (Nat.le_of_ble_eq_true rfl) dX12_joyBy_54 ⟨Nat.zero_le _, Nat.zero_le _⟩) (fun H locs hI => ?_)
  exact fm_ri hC hI hr hlk hf dX12_joyBy_57
def m_X12_order_59 (kc : Int32 → Int32 → Int32 → Int32 → Int32 → fm_M → Option (Int32 × fm_M)) : Nat → Int32 → Int32 → Int32 → Int32 → Int32 → fm_M → Option (Int32 × fm_M)
  | 0, _, _, _, _, _, _ => none
  | n + 1, z1, z2, z3, z4, z5, σ => if z3 ≤ z5 then (kc z1 z2 z3 z4 z5 σ) else (m_X12_order_59 kc n z1 z2 z3 (((10 : Int32) * z4) + (1 : Int32)) (z5 + (1 : Int32)) σ)
def m_X12_order_90 (kc : Int32 → Int32 → Int32 → Int32 → Int32 → Int32 → fm_M → Option (Int32 × fm_M)) : Nat → Int32 → Int32 → Int32 → Int32 → Int32 → Int32 → fm_M → Option (Int32 × fm_M)
  | 0, _, _, _, _, _, _, _ => none
  | n + 1, z1, z2, z4, z5, z6, z7, σ => if ((4 : Int32) * z4) < z7 then (kc z1 z2 z4 z5 z6 z7 σ) else (fm_b (m_X12_isOrder z1 z7 σ) fun r14 σ15 => (fm_j (fun (v0_J17 : Int32) (σ_J17 : fm_M) => fm_j (fun (v0_J18 : Int32) (σ_J18 : fm_M) => if v0_J17 ≤ z6 then (m_X12_order_90 kc n z1 z2 z4 v0_J18 z6 (z7 + (1 : Int32)) σ_J18) else (m_X12_order_90 kc n z1 z2 z4 v0_J18 v0_J17 (z7 + (1 : Int32)) σ_J18)) (fun J18 => if v0_J17 ≤ z6 then (J18 z5 σ_J17) else (J18 z7 σ_J17))) (fun J17 => if r14 = 0 then (J17 (-1 : Int32) σ15) else (fm_b (m_X12_joyBy z1 z7 z2 σ15) fun r19 σ20 => (J17 r19 σ20)))))
def m_X12_order (a1 : Int32) (a2 : Int32) (σ : fm_M) : Option (Int32 × fm_M) := fm_b (m_X12_isPresent a1 σ) fun r1 σ2 => (if r1 = 0 then (fm_b (m_X12_no (0 : Int32) σ2) fun r4 σ5 => (some (r4, σ5))) else (fm_b (m_X12_in1 a2 (1 : Int32) (10 : Int32) σ2) fun r7 σ8 => (if r7 = 0 then (fm_b (m_X12_no (0 : Int32) σ8) fun r29 σ30 => (some (r29, σ30))) else (fm_b (m_X12_of1 a1 (0 : Int32) σ8) fun r10 σ11 => (if r10 = 0 then (fm_b (m_X12_no (3 : Int32) σ11) fun r26 σ27 => (some (r26, σ27))) else (if r10 ≤ (5 : Int32) then (m_X12_order_59 (fun (x1_y13 : Int32) (x2_y13 : Int32) (x3_y13 : Int32) (x4_y13 : Int32) (x5_y13 : Int32) (σ_y13 : fm_M) => m_X12_order_90 (fun (x1_y22 : Int32) (x2_y22 : Int32) (x4_y22 : Int32) (x5_y22 : Int32) (x6_y22 : Int32) (x7_y22 : Int32) (σ_y22 : fm_M) => some (x5_y22, σ_y22)) fm_fu x1_y13 x2_y13 x4_y13 (0 : Int32) (-1 : Int32) x4_y13 σ_y13) fm_fu a1 a2 r10 (1 : Int32) (1 : Int32) σ11) else (fm_b (m_X12_no (6 : Int32) σ11) fun r23 σ24 => (some (r23, σ24)))))))))
set_option maxHeartbeats 4000000 in
set_option maxRecDepth 100000 in
theorem w_X12_order_59 {p : Program} {l : Launch} {e : Env} {s : State} {m : MethodId} {args : Array Value} {below : List Frame} {meth : Method} {c : Code} {G : fm_G} {o : Int32 × fm_M} {kc : Int32 → Int32 → Int32 → Int32 → Int32 → fm_M → Option (Int32 × fm_M)} (hC : fm_C G p m c cX12_order 9 s args RX12) (hr : meth.sig.returnType = (some .int)) (hlk : meth.locks = false) (hk : ∀ (z1 : Int32) (z2 : Int32) (z3 : Int32) (z4 : Int32) (z5 : Int32) (σ : fm_M) (H : Heap) (locs : List Loc) (ls : Array Slot), fm_I G σ s H locs → lv_has ls 9 [(0, .ref (G.2.1 96)), (1, .int z1), (2, .int z2), (3, .int z3), (4, .int z4), (5, .int z5)] → kc z1 z2 z3 z4 z5 σ = some o → W p l e { frames := 8, cells := 0, slots := 0, locals := 184 } s m args below meth c H locs 0 0 (MQ below (fm_Qi G o) args s 0 0 (fm_A G)) (F0 m 80 ls [])) (n : Nat) : ∀ (z1 : Int32) (z2 : Int32) (z3 : Int32) (z4 : Int32) (z5 : Int32) (σ : fm_M) (H : Heap) (locs : List Loc) (ls : Array Slot), fm_I G σ s H locs → lv_has ls 9 [(0, .ref (G.2.1 96)), (1, .int z1), (2, .int z2), (3, .int z3), (4, .int z4), (5, .int z5)] → m_X12_order_59 kc n z1 z2 z3 z4 z5 σ = some o → W p l e { frames := 8, cells := 0, slots := 0, locals := 184 } s m args below meth c H locs 0 0 (MQ below (fm_Qi G o) args s 0 0 (fm_A G)) (F0 m 59 ls []) := by
  have hx := hC.1.1
  have hb := hC.1.2.1
  have hown := hC.1.2.2.2.1
  have hts := hC.1.2.2.2.2
  induction n with
  | zero =>
    intro z1 z2 z3 z4 z5 σ H locs ls hI hl hf
    cases hf
  | succ n ih =>
    intro z1 z2 z3 z4 z5 σ H locs ls hI hl hf
    rw [m_X12_order_59] at hf
    refine lv_iload hx hb dX12_order_59 (lv_at hl 5 rfl) ?_
    refine lv_iload_n hx hb dX12_order_61 rfl (lv_at hl 3 rfl) ?_
    refine lv_icmp_ge (tgt := 80) hx hb dX12_order_62 (by decide) (fun hc => ?_) (fun hc => ?_)
    · have hf := fm_pT hf hc
      exact hk z1 z2 z3 z4 z5 σ _ _ _ hI (lv_sub hl [0, 1, 2, 3, 4, 5] rfl) hf
    · have hf := fm_pF hf hc
      refine lv_bipush (v := (10 : Int32)) hx hb dX12_order_65 (by decide) ?_
      refine lv_iload hx hb dX12_order_67 (lv_at hl 4 rfl) ?_
      refine lv_imul hx hb dX12_order_69 ?_
      refine lv_iconst (v := (1 : Int32)) hx hb dX12_order_70 (by decide) ?_
      refine lv_iadd hx hb dX12_order_71 ?_
      refine lv_istore (lv' := [(4, .int (((10 : Int32) * z4) + (1 : Int32))), (0, .ref (G.2.1 96)), (1, .int z1), (2, .int z2), (3, .int z3), (5, .int z5)]) hx hb dX12_order_72 hl (Nat.le_of_ble_eq_true rfl) rfl (fun ls hl => ?_)
      refine lv_iinc (v := (z5 + (1 : Int32))) (lv' := [(5, .int (z5 + (1 : Int32))), (4, .int (((10 : Int32) * z4) + (1 : Int32))), (0, .ref (G.2.1 96)), (1, .int z1), (2, .int z2), (3, .int z3)]) hx hb dX12_order_74 hl (k := 5) rfl rfl (Nat.le_of_ble_eq_true rfl) rfl (fun ls hl => ?_)
      refine lv_goto (tgt := 59) hx hb dX12_order_77 (by decide) ?_
      exact ih z1 z2 z3 (((10 : Int32) * z4) + (1 : Int32)) (z5 + (1 : Int32)) σ _ _ _ hI (lv_sub hl [2, 3, 4, 5, 1, 0] rfl) hf
set_option maxHeartbeats 4000000 in
set_option maxRecDepth 100000 in
theorem w_X12_order_90 {p : Program} {l : Launch} {e : Env} {s : State} {m : MethodId} {args : Array Value} {below : List Frame} {meth : Method} {c : Code} {G : fm_G} {o : Int32 × fm_M} {kc : Int32 → Int32 → Int32 → Int32 → Int32 → Int32 → fm_M → Option (Int32 × fm_M)} (hC : fm_C G p m c cX12_order 9 s args RX12) (hr : meth.sig.returnType = (some .int)) (hlk : meth.locks = false) (hk : ∀ (z1 : Int32) (z2 : Int32) (z4 : Int32) (z5 : Int32) (z6 : Int32) (z7 : Int32) (σ : fm_M) (H : Heap) (locs : List Loc) (ls : Array Slot), fm_I G σ s H locs → lv_has ls 9 [(0, .ref (G.2.1 96)), (1, .int z1), (2, .int z2), (4, .int z4), (5, .int z5), (6, .int z6), (7, .int z7)] → kc z1 z2 z4 z5 z6 z7 σ = some o → W p l e { frames := 8, cells := 0, slots := 0, locals := 184 } s m args below meth c H locs 0 0 (MQ below (fm_Qi G o) args s 0 0 (fm_A G)) (F0 m 161 ls [])) (n : Nat) : ∀ (z1 : Int32) (z2 : Int32) (z4 : Int32) (z5 : Int32) (z6 : Int32) (z7 : Int32) (σ : fm_M) (H : Heap) (locs : List Loc) (ls : Array Slot), fm_I G σ s H locs → lv_has ls 9 [(0, .ref (G.2.1 96)), (1, .int z1), (2, .int z2), (4, .int z4), (5, .int z5), (6, .int z6), (7, .int z7)] → m_X12_order_90 kc n z1 z2 z4 z5 z6 z7 σ = some o → W p l e { frames := 8, cells := 0, slots := 0, locals := 184 } s m args below meth c H locs 0 0 (MQ below (fm_Qi G o) args s 0 0 (fm_A G)) (F0 m 90 ls []) := by
  have hx := hC.1.1
  have hb := hC.1.2.1
  have hown := hC.1.2.2.2.1
  have hts := hC.1.2.2.2.2
  induction n with
  | zero =>
    intro z1 z2 z4 z5 z6 z7 σ H locs ls hI hl hf
    cases hf
  | succ n ih =>
    intro z1 z2 z4 z5 z6 z7 σ H locs ls hI hl hf
    rw [m_X12_order_90] at hf
    refine lv_iload hx hb dX12_order_90 (lv_at hl 6 rfl) ?_
    refine lv_iconst (v := (4 : Int32)) hx hb dX12_order_92 (by decide) ?_
    refine lv_iload hx hb dX12_order_93 (lv_at hl 3 rfl) ?_
    refine lv_imul hx hb dX12_order_95 ?_
    refine lv_icmp_gt (tgt := 161) hx hb dX12_order_96 (by decide) (fun hc => ?_) (fun hc => ?_)
    · have hf := fm_pT hf hc
      exact hk z1 z2 z4 z5 z6 z7 σ _ _ _ hI (lv_sub hl [0, 1, 2, 3, 4, 5, 6] rfl) hf
    · have hf := fm_pF hf hc
      refine lv_aload_n hx hb dX12_order_99 rfl (lv_at hl 0 rfl) ?_
      refine lv_iload_n hx hb dX12_order_100 rfl (lv_at hl 1 rfl) ?_
      refine lv_iload hx hb dX12_order_101 (lv_at hl 6 rfl) ?_
      obtain ⟨r14, σ15, hq16, hf⟩ := fm_bE hf
      refine fm_ci hI (fm_runV (As := [.int z1, .int z7]) (rest := []) (rm := { frames := 1, cells := 0, slots := 0, locals := 22 }) hC hI (c_X12_isOrder hC.2.2.1 hq16) mV_X12_isOrder q_1088 ⟨rfl, rfl⟩ ⟨Nat.le_of_ble_eq_true rfl, Nat.le_of_ble_eq_true rfl⟩ fc_96 rfl (by decide) rfl hl.1 rfl (Nat.le_of_ble_eq_true rfl) dX12_order_103 ⟨Nat.zero_le _, Nat.zero_le _⟩) (fun H locs hI => ?_)
      obtain ⟨J17, eJ17, hf⟩ := fm_jE hf
      have hJ17 : ∀ (v0_J17 : Int32) (σ_J17 : fm_M) (H : Heap) (locs : List Loc) (ls : Array Slot), fm_I G σ_J17 s H locs → lv_has ls 9 [(0, .ref (G.2.1 96)), (1, .int z1), (2, .int z2), (4, .int z4), (5, .int z5), (6, .int z6), (7, .int z7)] → J17 v0_J17 σ_J17 = some o → W p l e { frames := 8, cells := 0, slots := 0, locals := 184 } s m args below meth c H locs 0 0 (MQ below (fm_Qi G o) args s 0 0 (fm_A G)) (F0 m 121 ls [.int v0_J17]) := by
        intro v0_J17 σ_J17 H locs ls hI hl hf
        subst eJ17
        refine lv_istore (lv' := [(8, .int v0_J17), (0, .ref (G.2.1 96)), (1, .int z1), (2, .int z2), (4, .int z4), (5, .int z5), (6, .int z6), (7, .int z7)]) hx hb dX12_order_121 hl (Nat.le_of_ble_eq_true rfl) rfl (fun ls hl => ?_)
        refine lv_iload hx hb dX12_order_123 (lv_at hl 0 rfl) ?_
        refine lv_iload hx hb dX12_order_125 (lv_at hl 6 rfl) ?_
        obtain ⟨J18, eJ18, hf⟩ := fm_jE hf
        have hJ18 : ∀ (v0_J18 : Int32) (σ_J18 : fm_M) (H : Heap) (locs : List Loc) (ls : Array Slot), fm_I G σ_J18 s H locs → lv_has ls 9 [(0, .ref (G.2.1 96)), (1, .int z1), (2, .int z2), (4, .int z4), (6, .int z6), (7, .int z7), (8, .int v0_J17)] → J18 v0_J18 σ_J18 = some o → W p l e { frames := 8, cells := 0, slots := 0, locals := 184 } s m args below meth c H locs 0 0 (MQ below (fm_Qi G o) args s 0 0 (fm_A G)) (F0 m 137 ls [.int v0_J18]) := by
          intro v0_J18 σ_J18 H locs ls hI hl hf
          subst eJ18
          refine lv_istore (lv' := [(5, .int v0_J18), (0, .ref (G.2.1 96)), (1, .int z1), (2, .int z2), (4, .int z4), (6, .int z6), (7, .int z7), (8, .int v0_J17)]) hx hb dX12_order_137 hl (Nat.le_of_ble_eq_true rfl) rfl (fun ls hl => ?_)
          refine lv_iload hx hb dX12_order_139 (lv_at hl 7 rfl) ?_
          refine lv_iload hx hb dX12_order_141 (lv_at hl 5 rfl) ?_
          refine lv_icmp_le (tgt := 151) hx hb dX12_order_143 (by decide) (fun hc => ?_) (fun hc => ?_)
          · have hf := fm_pT hf hc
            refine lv_iload hx hb dX12_order_151 (lv_at hl 5 rfl) ?_
            refine lv_istore (lv' := [(6, .int z6), (5, .int v0_J18), (0, .ref (G.2.1 96)), (1, .int z1), (2, .int z2), (4, .int z4), (7, .int z7), (8, .int v0_J17)]) hx hb dX12_order_153 hl (Nat.le_of_ble_eq_true rfl) rfl (fun ls hl => ?_)
            refine lv_iinc (v := (z7 + (1 : Int32))) (lv' := [(7, .int (z7 + (1 : Int32))), (6, .int z6), (5, .int v0_J18), (0, .ref (G.2.1 96)), (1, .int z1), (2, .int z2), (4, .int z4), (8, .int v0_J17)]) hx hb dX12_order_155 hl (k := 6) rfl rfl (Nat.le_of_ble_eq_true rfl) rfl (fun ls hl => ?_)
            refine lv_goto (tgt := 90) hx hb dX12_order_158 (by decide) ?_
            exact ih z1 z2 z4 v0_J18 z6 (z7 + (1 : Int32)) σ_J18 _ _ _ hI (lv_sub hl [3, 4, 5, 6, 2, 1, 0] rfl) hf
          · have hf := fm_pF hf hc
            refine lv_iload hx hb dX12_order_146 (lv_at hl 7 rfl) ?_
            refine lv_goto (tgt := 153) hx hb dX12_order_148 (by decide) ?_
            refine lv_istore (lv' := [(6, .int v0_J17), (5, .int v0_J18), (0, .ref (G.2.1 96)), (1, .int z1), (2, .int z2), (4, .int z4), (7, .int z7), (8, .int v0_J17)]) hx hb dX12_order_153 hl (Nat.le_of_ble_eq_true rfl) rfl (fun ls hl => ?_)
            refine lv_iinc (v := (z7 + (1 : Int32))) (lv' := [(7, .int (z7 + (1 : Int32))), (6, .int v0_J17), (5, .int v0_J18), (0, .ref (G.2.1 96)), (1, .int z1), (2, .int z2), (4, .int z4), (8, .int v0_J17)]) hx hb dX12_order_155 hl (k := 6) rfl rfl (Nat.le_of_ble_eq_true rfl) rfl (fun ls hl => ?_)
            refine lv_goto (tgt := 90) hx hb dX12_order_158 (by decide) ?_
            exact ih z1 z2 z4 v0_J18 v0_J17 (z7 + (1 : Int32)) σ_J18 _ _ _ hI (lv_sub hl [3, 4, 5, 6, 2, 1, 0] rfl) hf
        refine lv_icmp_le (tgt := 135) hx hb dX12_order_127 (by decide) (fun hc => ?_) (fun hc => ?_)
        · have hf := fm_pT hf hc
          refine lv_iload hx hb dX12_order_135 (lv_at hl 5 rfl) ?_
          exact hJ18 z5 σ_J17 _ _ _ hI (lv_sub hl [1, 2, 3, 4, 6, 7, 0] rfl) hf
        · have hf := fm_pF hf hc
          refine lv_iload hx hb dX12_order_130 (lv_at hl 7 rfl) ?_
          refine lv_goto (tgt := 137) hx hb dX12_order_132 (by decide) ?_
          exact hJ18 z7 σ_J17 _ _ _ hI (lv_sub hl [1, 2, 3, 4, 6, 7, 0] rfl) hf
      refine lv_if_eq (tgt := 120) hx hb dX12_order_106 (by decide) (fun hc => ?_) (fun hc => ?_)
      · have hf := fm_pT hf hc
        refine lv_iconst (v := (-1 : Int32)) hx hb dX12_order_120 (by decide) ?_
        exact hJ17 (-1 : Int32) σ15 _ _ _ hI (lv_sub hl [0, 1, 2, 3, 4, 5, 6] rfl) hf
      · have hf := fm_pF hf hc
        refine lv_aload_n hx hb dX12_order_109 rfl (lv_at hl 0 rfl) ?_
        refine lv_iload_n hx hb dX12_order_110 rfl (lv_at hl 1 rfl) ?_
        refine lv_iload hx hb dX12_order_111 (lv_at hl 6 rfl) ?_
        refine lv_iload_n hx hb dX12_order_113 rfl (lv_at hl 2 rfl) ?_
        obtain ⟨r19, σ20, hq21, hf⟩ := fm_bE hf
        refine fm_ci hI (fm_runV (As := [.int z1, .int z7, .int z2]) (rest := []) (rm := { frames := 7, cells := 0, slots := 0, locals := 159 }) hC hI (c_X12_joyBy hC.2.2.1 hq21) mV_X12_joyBy q_1092 ⟨rfl, rfl⟩ ⟨Nat.le_of_ble_eq_true rfl, Nat.le_of_ble_eq_true rfl⟩ fc_96 rfl (by decide) rfl hl.1 rfl (Nat.le_of_ble_eq_true rfl) dX12_order_114 ⟨Nat.zero_le _, Nat.zero_le _⟩) (fun H locs hI => ?_)
        refine lv_goto (tgt := 121) hx hb dX12_order_117 (by decide) ?_
        exact hJ17 r19 σ20 _ _ _ hI (lv_sub hl [0, 1, 2, 3, 4, 5, 6] rfl) hf
set_option maxHeartbeats 4000000 in
set_option maxRecDepth 100000 in
theorem c_X12_order {l : Launch} {G : fm_G} (hJ : fm_J G) {a1 : Int32} {a2 : Int32} {σ : fm_M} {o : Int32 × fm_M}  (hf : m_X12_order a1 a2 σ = some o) : Met l yX12_order (fm_w yX12_order cX12_order 9 (some .int)) { frames := 8, cells := 0, slots := 0, locals := 184 } (va_Pc [.ref (G.2.1 96), .int a1, .int a2] (fm_st G σ)) (fm_Qi G o) 0 0 (fm_A G) := by
  refine fm_mth (own := RX12) hJ rfl (by decide +kernel) (Nat.le_of_ble_eq_true rfl) ?_
  intro p e s m below meth c ls hC hr hlk hI hl
  have hx := hC.1.1
  have hb := hC.1.2.1
  have hown := hC.1.2.2.2.1
  have hts := hC.1.2.2.2.2
  have hl : lv_has ls 9 [(0, .ref (G.2.1 96)), (1, .int a1), (2, .int a2)] := hl
  rw [m_X12_order] at hf
  refine lv_aload_n hx hb dX12_order_0 rfl (lv_at hl 0 rfl) ?_
  refine lv_iload_n hx hb dX12_order_1 rfl (lv_at hl 1 rfl) ?_
  obtain ⟨r1, σ2, hq3, hf⟩ := fm_bE hf
  refine fm_ci hI (fm_runV (As := [.int a1]) (rest := []) (rm := { frames := 1, cells := 0, slots := 0, locals := 22 }) hC hI (c_X12_isPresent hC.2.2.1 hq3) mV_X12_isPresent q_904 ⟨rfl, rfl⟩ ⟨Nat.le_of_ble_eq_true rfl, Nat.le_of_ble_eq_true rfl⟩ fc_96 rfl (by decide) rfl hl.1 rfl (Nat.le_of_ble_eq_true rfl) dX12_order_2 ⟨Nat.zero_le _, Nat.zero_le _⟩) (fun H locs hI => ?_)
  refine lv_if_eq (tgt := 18) hx hb dX12_order_5 (by decide) (fun hc => ?_) (fun hc => ?_)
  · have hf := fm_pT hf hc
    refine lv_aload_n hx hb dX12_order_18 rfl (lv_at hl 0 rfl) ?_
    refine lv_iconst (v := (0 : Int32)) hx hb dX12_order_19 (by decide) ?_
    obtain ⟨r4, σ5, hq6, hf⟩ := fm_bE hf
    refine fm_ci hI (fm_runV (As := [.int (0 : Int32)]) (rest := []) (rm := { frames := 0, cells := 0, slots := 0, locals := 0 }) hC hI (c_X12_no hC.2.2.1 hq6) mV_X12_no q_867 ⟨rfl, rfl⟩ ⟨Nat.le_of_ble_eq_true rfl, Nat.le_of_ble_eq_true rfl⟩ fc_96 rfl (by decide) rfl hl.1 rfl (Nat.le_of_ble_eq_true rfl) dX12_order_20 ⟨Nat.zero_le _, Nat.zero_le _⟩) (fun H locs hI => ?_)
    exact fm_ri hC hI hr hlk hf dX12_order_23
  · have hf := fm_pF hf hc
    refine lv_iload_n hx hb dX12_order_8 rfl (lv_at hl 2 rfl) ?_
    refine lv_iconst (v := (1 : Int32)) hx hb dX12_order_9 (by decide) ?_
    refine lv_bipush (v := (10 : Int32)) hx hb dX12_order_10 (by decide) ?_
    obtain ⟨r7, σ8, hq9, hf⟩ := fm_bE hf
    refine fm_ci hI (fm_runS (As := [.int a2, .int (1 : Int32), .int (10 : Int32)]) (rest := []) (rm := { frames := 0, cells := 0, slots := 0, locals := 0 }) hC hI (c_X12_in1 hC.2.2.1 hq9) mS_X12_in1 q_864 ⟨rfl, rfl⟩ ⟨Nat.le_of_ble_eq_true rfl, Nat.le_of_ble_eq_true rfl⟩ rfl hl.1 rfl (Nat.le_of_ble_eq_true rfl) dX12_order_12 ⟨Nat.zero_le _, Nat.zero_le _⟩) (fun H locs hI => ?_)
    refine lv_if_ne (tgt := 24) hx hb dX12_order_15 (by decide) (fun hc => ?_) (fun hc => ?_)
    · have hf := fm_pF hf hc
      refine lv_aload_n hx hb dX12_order_24 rfl (lv_at hl 0 rfl) ?_
      refine lv_iload_n hx hb dX12_order_25 rfl (lv_at hl 1 rfl) ?_
      refine lv_iconst (v := (0 : Int32)) hx hb dX12_order_26 (by decide) ?_
      obtain ⟨r10, σ11, hq12, hf⟩ := fm_bE hf
      refine fm_ci hI (fm_runV (As := [.int a1, .int (0 : Int32)]) (rest := []) (rm := { frames := 0, cells := 0, slots := 0, locals := 0 }) hC hI (c_X12_of1 hC.2.2.1 hq12) mV_X12_of1 q_896 ⟨rfl, rfl⟩ ⟨Nat.le_of_ble_eq_true rfl, Nat.le_of_ble_eq_true rfl⟩ fc_96 rfl (by decide) rfl hl.1 rfl (Nat.le_of_ble_eq_true rfl) dX12_order_27 ⟨Nat.zero_le _, Nat.zero_le _⟩) (fun H locs hI => ?_)
      refine lv_istore_n (lv' := [(3, .int r10), (0, .ref (G.2.1 96)), (1, .int a1), (2, .int a2)]) hx hb dX12_order_30 rfl hl (Nat.le_of_ble_eq_true rfl) rfl (fun ls hl => ?_)
      refine lv_iload_n hx hb dX12_order_31 rfl (lv_at hl 0 rfl) ?_
      refine lv_if_ne (tgt := 41) hx hb dX12_order_32 (by decide) (fun hc => ?_) (fun hc => ?_)
      · have hf := fm_pF hf hc
        refine lv_iload_n hx hb dX12_order_41 rfl (lv_at hl 0 rfl) ?_
        refine lv_iconst (v := (5 : Int32)) hx hb dX12_order_42 (by decide) ?_
        refine lv_icmp_le (tgt := 53) hx hb dX12_order_43 (by decide) (fun hc => ?_) (fun hc => ?_)
        · have hf := fm_pT hf hc
          refine lv_iconst (v := (1 : Int32)) hx hb dX12_order_53 (by decide) ?_
          refine lv_istore (lv' := [(4, .int (1 : Int32)), (3, .int r10), (0, .ref (G.2.1 96)), (1, .int a1), (2, .int a2)]) hx hb dX12_order_54 hl (Nat.le_of_ble_eq_true rfl) rfl (fun ls hl => ?_)
          refine lv_iconst (v := (1 : Int32)) hx hb dX12_order_56 (by decide) ?_
          refine lv_istore (lv' := [(5, .int (1 : Int32)), (4, .int (1 : Int32)), (3, .int r10), (0, .ref (G.2.1 96)), (1, .int a1), (2, .int a2)]) hx hb dX12_order_57 hl (Nat.le_of_ble_eq_true rfl) rfl (fun ls hl => ?_)
          refine w_X12_order_59 hC hr hlk (fun x1_y13 x2_y13 x3_y13 x4_y13 x5_y13 σ_y13 H locs ls hI hl hf => ?_) fm_fu a1 a2 r10 (1 : Int32) (1 : Int32) σ11 _ _ _ hI (lv_sub hl [3, 4, 5, 2, 1, 0] rfl) hf
          refine lv_iconst (v := (0 : Int32)) hx hb dX12_order_80 (by decide) ?_
          refine lv_istore (lv' := [(5, .int (0 : Int32)), (0, .ref (G.2.1 96)), (1, .int x1_y13), (2, .int x2_y13), (3, .int x3_y13), (4, .int x4_y13)]) hx hb dX12_order_81 hl (Nat.le_of_ble_eq_true rfl) rfl (fun ls hl => ?_)
          refine lv_iconst (v := (-1 : Int32)) hx hb dX12_order_83 (by decide) ?_
          refine lv_istore (lv' := [(6, .int (-1 : Int32)), (5, .int (0 : Int32)), (0, .ref (G.2.1 96)), (1, .int x1_y13), (2, .int x2_y13), (3, .int x3_y13), (4, .int x4_y13)]) hx hb dX12_order_84 hl (Nat.le_of_ble_eq_true rfl) rfl (fun ls hl => ?_)
          refine lv_iload hx hb dX12_order_86 (lv_at hl 6 rfl) ?_
          refine lv_istore (lv' := [(7, .int x4_y13), (6, .int (-1 : Int32)), (5, .int (0 : Int32)), (0, .ref (G.2.1 96)), (1, .int x1_y13), (2, .int x2_y13), (3, .int x3_y13), (4, .int x4_y13)]) hx hb dX12_order_88 hl (Nat.le_of_ble_eq_true rfl) rfl (fun ls hl => ?_)
          refine w_X12_order_90 hC hr hlk (fun x1_y22 x2_y22 x4_y22 x5_y22 x6_y22 x7_y22 σ_y22 H locs ls hI hl hf => ?_) fm_fu x1_y13 x2_y13 x4_y13 (0 : Int32) (-1 : Int32) x4_y13 σ_y13 _ _ _ hI (lv_sub hl [3, 4, 5, 7, 2, 1, 0] rfl) hf
          refine lv_iload hx hb dX12_order_161 (lv_at hl 4 rfl) ?_
          exact fm_ri hC hI hr hlk hf dX12_order_163
        · have hf := fm_pF hf hc
          refine lv_aload_n hx hb dX12_order_46 rfl (lv_at hl 1 rfl) ?_
          refine lv_bipush (v := (6 : Int32)) hx hb dX12_order_47 (by decide) ?_
          obtain ⟨r23, σ24, hq25, hf⟩ := fm_bE hf
          refine fm_ci hI (fm_runV (As := [.int (6 : Int32)]) (rest := []) (rm := { frames := 0, cells := 0, slots := 0, locals := 0 }) hC hI (c_X12_no hC.2.2.1 hq25) mV_X12_no q_867 ⟨rfl, rfl⟩ ⟨Nat.le_of_ble_eq_true rfl, Nat.le_of_ble_eq_true rfl⟩ fc_96 rfl (by decide) rfl hl.1 rfl (Nat.le_of_ble_eq_true rfl) dX12_order_49 ⟨Nat.zero_le _, Nat.zero_le _⟩) (fun H locs hI => ?_)
          exact fm_ri hC hI hr hlk hf dX12_order_52
      · have hf := fm_pT hf hc
        refine lv_aload_n hx hb dX12_order_35 rfl (lv_at hl 1 rfl) ?_
        refine lv_iconst (v := (3 : Int32)) hx hb dX12_order_36 (by decide) ?_
        obtain ⟨r26, σ27, hq28, hf⟩ := fm_bE hf
        refine fm_ci hI (fm_runV (As := [.int (3 : Int32)]) (rest := []) (rm := { frames := 0, cells := 0, slots := 0, locals := 0 }) hC hI (c_X12_no hC.2.2.1 hq28) mV_X12_no q_867 ⟨rfl, rfl⟩ ⟨Nat.le_of_ble_eq_true rfl, Nat.le_of_ble_eq_true rfl⟩ fc_96 rfl (by decide) rfl hl.1 rfl (Nat.le_of_ble_eq_true rfl) dX12_order_37 ⟨Nat.zero_le _, Nat.zero_le _⟩) (fun H locs hI => ?_)
        exact fm_ri hC hI hr hlk hf dX12_order_40
    · have hf := fm_pT hf hc
      refine lv_aload_n hx hb dX12_order_18 rfl (lv_at hl 0 rfl) ?_
      refine lv_iconst (v := (0 : Int32)) hx hb dX12_order_19 (by decide) ?_
      obtain ⟨r29, σ30, hq31, hf⟩ := fm_bE hf
      refine fm_ci hI (fm_runV (As := [.int (0 : Int32)]) (rest := []) (rm := { frames := 0, cells := 0, slots := 0, locals := 0 }) hC hI (c_X12_no hC.2.2.1 hq31) mV_X12_no q_867 ⟨rfl, rfl⟩ ⟨Nat.le_of_ble_eq_true rfl, Nat.le_of_ble_eq_true rfl⟩ fc_96 rfl (by decide) rfl hl.1 rfl (Nat.le_of_ble_eq_true rfl) dX12_order_20 ⟨Nat.zero_le _, Nat.zero_le _⟩) (fun H locs hI => ?_)
      exact fm_ri hC hI hr hlk hf dX12_order_23
def m_X12_happiest_41 (kc : Int32 → Int32 → fm_M → Option (Int32 × fm_M)) : Nat → Int32 → Int32 → fm_M → Option (Int32 × fm_M)
  | 0, _, _, _ => none
  | n + 1, z2, z3, σ => fm_g (fm_in1 (1 : Int32) 96) (if (σ.1 97 (1 : Int32).toNatClampNeg) ≤ z3 then (kc z2 z3 σ) else (fm_b (m_X12_get z3 (1 : Int32) σ) fun r12 σ13 => (fm_b (m_X12_get z2 (1 : Int32) σ13) fun r15 σ16 => (if r12 ≤ r15 then (m_X12_happiest_41 kc n z2 (z3 + (1 : Int32)) σ16) else (m_X12_happiest_41 kc n z3 (z3 + (1 : Int32)) σ16)))))
def m_X12_happiest (a1 : Int32) (σ : fm_M) : Option (Int32 × fm_M) := fm_b (m_X12_isAhead a1 σ) fun r1 σ2 => (if r1 = 0 then (fm_b (m_X12_no (0 : Int32) σ2) fun r25 σ26 => (some (r25, σ26))) else (fm_g (fm_in1 (1 : Int32) 96) (if (σ2.1 97 (1 : Int32).toNatClampNeg) = 0 then (fm_b (m_X12_no (3 : Int32) σ2) fun r22 σ23 => (some (r22, σ23))) else (fm_b (m_X12_setsAside  σ2) fun _u5 σ6 => (fm_b (m_X12_goes a1 σ6) fun _u8 σ9 => (m_X12_happiest_41 (fun (x2_y18 : Int32) (x3_y18 : Int32) (σ_y18 : fm_M) => fm_b (m_X12_laysBack  σ_y18) fun _u19 σ20 => (some (x2_y18, σ20))) fm_fu (0 : Int32) (1 : Int32) σ9))))))
set_option maxHeartbeats 4000000 in
set_option maxRecDepth 100000 in
theorem w_X12_happiest_41 {p : Program} {l : Launch} {e : Env} {s : State} {m : MethodId} {args : Array Value} {below : List Frame} {meth : Method} {c : Code} {G : fm_G} {o : Int32 × fm_M} {kc : Int32 → Int32 → fm_M → Option (Int32 × fm_M)} (hC : fm_C G p m c cX12_happiest 4 s args RX12) (hr : meth.sig.returnType = (some .int)) (hlk : meth.locks = false) (hk : ∀ (z2 : Int32) (z3 : Int32) (σ : fm_M) (H : Heap) (locs : List Loc) (ls : Array Slot), fm_I G σ s H locs → lv_has ls 4 [(0, .ref (G.2.1 96)), (2, .int z2), (3, .int z3)] → kc z2 z3 σ = some o → W p l e { frames := 6, cells := 0, slots := 0, locals := 136 } s m args below meth c H locs 0 0 (MQ below (fm_Qi G o) args s 0 0 (fm_A G)) (F0 m 78 ls [])) (n : Nat) : ∀ (z2 : Int32) (z3 : Int32) (σ : fm_M) (H : Heap) (locs : List Loc) (ls : Array Slot), fm_I G σ s H locs → lv_has ls 4 [(0, .ref (G.2.1 96)), (2, .int z2), (3, .int z3)] → m_X12_happiest_41 kc n z2 z3 σ = some o → W p l e { frames := 6, cells := 0, slots := 0, locals := 136 } s m args below meth c H locs 0 0 (MQ below (fm_Qi G o) args s 0 0 (fm_A G)) (F0 m 41 ls []) := by
  have hx := hC.1.1
  have hb := hC.1.2.1
  have hown := hC.1.2.2.2.1
  have hts := hC.1.2.2.2.2
  induction n with
  | zero =>
    intro z2 z3 σ H locs ls hI hl hf
    cases hf
  | succ n ih =>
    intro z2 z3 σ H locs ls hI hl hf
    rw [m_X12_happiest_41] at hf
    refine lv_iload_n hx hb dX12_happiest_41 rfl (lv_at hl 2 rfl) ?_
    refine lv_aload_n hx hb dX12_happiest_42 rfl (lv_at hl 0 rfl) ?_
    refine fm_gr hC hI fd_X12_0 fc_96 fr_96_0 q_798 dX12_happiest_43 ?_
    refine lv_iconst (v := (1 : Int32)) hx hb dX12_happiest_46 (by decide) ?_
    obtain ⟨hg11, hf⟩ := fm_gE hf
    refine fm_iald hC hI fc_97 fl_97 hg11 dX12_happiest_47 ?_
    refine lv_icmp_ge (tgt := 78) hx hb dX12_happiest_48 (by decide) (fun hc => ?_) (fun hc => ?_)
    · have hf := fm_pT hf hc
      exact hk z2 z3 σ _ _ _ hI (lv_sub hl [0, 1, 2] rfl) hf
    · have hf := fm_pF hf hc
      refine lv_aload_n hx hb dX12_happiest_51 rfl (lv_at hl 0 rfl) ?_
      refine lv_iload_n hx hb dX12_happiest_52 rfl (lv_at hl 2 rfl) ?_
      refine lv_iconst (v := (1 : Int32)) hx hb dX12_happiest_53 (by decide) ?_
      obtain ⟨r12, σ13, hq14, hf⟩ := fm_bE hf
      refine fm_ci hI (fm_runV (As := [.int z3, .int (1 : Int32)]) (rest := []) (rm := { frames := 0, cells := 0, slots := 0, locals := 0 }) hC hI (c_X12_get hC.2.2.1 hq14) mV_X12_get q_888 ⟨rfl, rfl⟩ ⟨Nat.le_of_ble_eq_true rfl, Nat.le_of_ble_eq_true rfl⟩ fc_96 rfl (by decide) rfl hl.1 rfl (Nat.le_of_ble_eq_true rfl) dX12_happiest_54 ⟨Nat.zero_le _, Nat.zero_le _⟩) (fun H locs hI => ?_)
      refine lv_aload_n hx hb dX12_happiest_57 rfl (lv_at hl 0 rfl) ?_
      refine lv_iload_n hx hb dX12_happiest_58 rfl (lv_at hl 1 rfl) ?_
      refine lv_iconst (v := (1 : Int32)) hx hb dX12_happiest_59 (by decide) ?_
      obtain ⟨r15, σ16, hq17, hf⟩ := fm_bE hf
      refine fm_ci hI (fm_runV (As := [.int z2, .int (1 : Int32)]) (rest := [.int r12]) (rm := { frames := 0, cells := 0, slots := 0, locals := 0 }) hC hI (c_X12_get hC.2.2.1 hq17) mV_X12_get q_888 ⟨rfl, rfl⟩ ⟨Nat.le_of_ble_eq_true rfl, Nat.le_of_ble_eq_true rfl⟩ fc_96 rfl (by decide) rfl hl.1 rfl (Nat.le_of_ble_eq_true rfl) dX12_happiest_60 ⟨Nat.zero_le _, Nat.zero_le _⟩) (fun H locs hI => ?_)
      refine lv_icmp_le (tgt := 70) hx hb dX12_happiest_63 (by decide) (fun hc => ?_) (fun hc => ?_)
      · have hf := fm_pT hf hc
        refine lv_iload_n hx hb dX12_happiest_70 rfl (lv_at hl 1 rfl) ?_
        refine lv_istore_n (lv' := [(2, .int z2), (0, .ref (G.2.1 96)), (3, .int z3)]) hx hb dX12_happiest_71 rfl hl (Nat.le_of_ble_eq_true rfl) rfl (fun ls hl => ?_)
        refine lv_iinc (v := (z3 + (1 : Int32))) (lv' := [(3, .int (z3 + (1 : Int32))), (2, .int z2), (0, .ref (G.2.1 96))]) hx hb dX12_happiest_72 hl (k := 2) rfl rfl (Nat.le_of_ble_eq_true rfl) rfl (fun ls hl => ?_)
        refine lv_goto (tgt := 41) hx hb dX12_happiest_75 (by decide) ?_
        exact ih z2 (z3 + (1 : Int32)) σ16 _ _ _ hI (lv_sub hl [2, 1, 0] rfl) hf
      · have hf := fm_pF hf hc
        refine lv_iload_n hx hb dX12_happiest_66 rfl (lv_at hl 2 rfl) ?_
        refine lv_goto (tgt := 71) hx hb dX12_happiest_67 (by decide) ?_
        refine lv_istore_n (lv' := [(2, .int z3), (0, .ref (G.2.1 96)), (3, .int z3)]) hx hb dX12_happiest_71 rfl hl (Nat.le_of_ble_eq_true rfl) rfl (fun ls hl => ?_)
        refine lv_iinc (v := (z3 + (1 : Int32))) (lv' := [(3, .int (z3 + (1 : Int32))), (2, .int z3), (0, .ref (G.2.1 96))]) hx hb dX12_happiest_72 hl (k := 2) rfl rfl (Nat.le_of_ble_eq_true rfl) rfl (fun ls hl => ?_)
        refine lv_goto (tgt := 41) hx hb dX12_happiest_75 (by decide) ?_
        exact ih z3 (z3 + (1 : Int32)) σ16 _ _ _ hI (lv_sub hl [2, 1, 0] rfl) hf
set_option maxHeartbeats 4000000 in
set_option maxRecDepth 100000 in
theorem c_X12_happiest {l : Launch} {G : fm_G} (hJ : fm_J G) {a1 : Int32} {σ : fm_M} {o : Int32 × fm_M}  (hf : m_X12_happiest a1 σ = some o) : Met l yX12_happiest (fm_w yX12_happiest cX12_happiest 4 (some .int)) { frames := 6, cells := 0, slots := 0, locals := 136 } (va_Pc [.ref (G.2.1 96), .int a1] (fm_st G σ)) (fm_Qi G o) 0 0 (fm_A G) := by
  refine fm_mth (own := RX12) hJ rfl (by decide +kernel) (Nat.le_of_ble_eq_true rfl) ?_
  intro p e s m below meth c ls hC hr hlk hI hl
  have hx := hC.1.1
  have hb := hC.1.2.1
  have hown := hC.1.2.2.2.1
  have hts := hC.1.2.2.2.2
  have hl : lv_has ls 4 [(0, .ref (G.2.1 96)), (1, .int a1)] := hl
  rw [m_X12_happiest] at hf
  refine lv_iload_n hx hb dX12_happiest_0 rfl (lv_at hl 1 rfl) ?_
  obtain ⟨r1, σ2, hq3, hf⟩ := fm_bE hf
  refine fm_ci hI (fm_runS (As := [.int a1]) (rest := []) (rm := { frames := 1, cells := 0, slots := 0, locals := 22 }) hC hI (c_X12_isAhead hC.2.2.1 hq3) mS_X12_isAhead q_1034 ⟨rfl, rfl⟩ ⟨Nat.le_of_ble_eq_true rfl, Nat.le_of_ble_eq_true rfl⟩ rfl hl.1 rfl (Nat.le_of_ble_eq_true rfl) dX12_happiest_1 ⟨Nat.zero_le _, Nat.zero_le _⟩) (fun H locs hI => ?_)
  refine lv_if_ne (tgt := 13) hx hb dX12_happiest_4 (by decide) (fun hc => ?_) (fun hc => ?_)
  · have hf := fm_pF hf hc
    refine lv_aload_n hx hb dX12_happiest_13 rfl (lv_at hl 0 rfl) ?_
    refine fm_gr hC hI fd_X12_0 fc_96 fr_96_0 q_798 dX12_happiest_14 ?_
    refine lv_iconst (v := (1 : Int32)) hx hb dX12_happiest_17 (by decide) ?_
    obtain ⟨hg4, hf⟩ := fm_gE hf
    refine fm_iald hC hI fc_97 fl_97 hg4 dX12_happiest_18 ?_
    refine lv_if_ne (tgt := 28) hx hb dX12_happiest_19 (by decide) (fun hc => ?_) (fun hc => ?_)
    · have hf := fm_pF hf hc
      refine lv_aload_n hx hb dX12_happiest_28 rfl (lv_at hl 0 rfl) ?_
      obtain ⟨_u5, σ6, hq7, hf⟩ := fm_bE hf
      refine fm_cv hI (fm_runV (As := []) (rest := []) (rm := { frames := 0, cells := 0, slots := 0, locals := 0 }) hC hI (c_X12_setsAside hC.2.2.1 hq7) mV_X12_setsAside q_1037 ⟨rfl, rfl⟩ ⟨Nat.le_of_ble_eq_true rfl, Nat.le_of_ble_eq_true rfl⟩ fc_96 rfl (by decide) rfl hl.1 rfl (Nat.le_of_ble_eq_true rfl) dX12_happiest_29 ⟨Nat.zero_le _, Nat.zero_le _⟩) (fun H locs hI => ?_)
      refine lv_aload_n hx hb dX12_happiest_32 rfl (lv_at hl 0 rfl) ?_
      refine lv_iload_n hx hb dX12_happiest_33 rfl (lv_at hl 1 rfl) ?_
      obtain ⟨_u8, σ9, hq10, hf⟩ := fm_bE hf
      refine fm_cv hI (fm_runV (As := [.int a1]) (rest := []) (rm := { frames := 5, cells := 0, slots := 0, locals := 114 }) hC hI (c_X12_goes hC.2.2.1 hq10) mV_X12_goes q_990 ⟨rfl, rfl⟩ ⟨Nat.le_of_ble_eq_true rfl, Nat.le_of_ble_eq_true rfl⟩ fc_96 rfl (by decide) rfl hl.1 rfl (Nat.le_of_ble_eq_true rfl) dX12_happiest_34 ⟨Nat.zero_le _, Nat.zero_le _⟩) (fun H locs hI => ?_)
      refine lv_iconst (v := (0 : Int32)) hx hb dX12_happiest_37 (by decide) ?_
      refine lv_istore_n (lv' := [(2, .int (0 : Int32)), (0, .ref (G.2.1 96)), (1, .int a1)]) hx hb dX12_happiest_38 rfl hl (Nat.le_of_ble_eq_true rfl) rfl (fun ls hl => ?_)
      refine lv_iconst (v := (1 : Int32)) hx hb dX12_happiest_39 (by decide) ?_
      refine lv_istore_n (lv' := [(3, .int (1 : Int32)), (2, .int (0 : Int32)), (0, .ref (G.2.1 96)), (1, .int a1)]) hx hb dX12_happiest_40 rfl hl (Nat.le_of_ble_eq_true rfl) rfl (fun ls hl => ?_)
      refine w_X12_happiest_41 hC hr hlk (fun x2_y18 x3_y18 σ_y18 H locs ls hI hl hf => ?_) fm_fu (0 : Int32) (1 : Int32) σ9 _ _ _ hI (lv_sub hl [2, 1, 0] rfl) hf
      refine lv_aload_n hx hb dX12_happiest_78 rfl (lv_at hl 0 rfl) ?_
      obtain ⟨_u19, σ20, hq21, hf⟩ := fm_bE hf
      refine fm_cv hI (fm_runV (As := []) (rest := []) (rm := { frames := 0, cells := 0, slots := 0, locals := 0 }) hC hI (c_X12_laysBack hC.2.2.1 hq21) mV_X12_laysBack q_1041 ⟨rfl, rfl⟩ ⟨Nat.le_of_ble_eq_true rfl, Nat.le_of_ble_eq_true rfl⟩ fc_96 rfl (by decide) rfl hl.1 rfl (Nat.le_of_ble_eq_true rfl) dX12_happiest_79 ⟨Nat.zero_le _, Nat.zero_le _⟩) (fun H locs hI => ?_)
      refine lv_iload_n hx hb dX12_happiest_82 rfl (lv_at hl 1 rfl) ?_
      exact fm_ri hC hI hr hlk hf dX12_happiest_83
    · have hf := fm_pT hf hc
      refine lv_aload_n hx hb dX12_happiest_22 rfl (lv_at hl 0 rfl) ?_
      refine lv_iconst (v := (3 : Int32)) hx hb dX12_happiest_23 (by decide) ?_
      obtain ⟨r22, σ23, hq24, hf⟩ := fm_bE hf
      refine fm_ci hI (fm_runV (As := [.int (3 : Int32)]) (rest := []) (rm := { frames := 0, cells := 0, slots := 0, locals := 0 }) hC hI (c_X12_no hC.2.2.1 hq24) mV_X12_no q_867 ⟨rfl, rfl⟩ ⟨Nat.le_of_ble_eq_true rfl, Nat.le_of_ble_eq_true rfl⟩ fc_96 rfl (by decide) rfl hl.1 rfl (Nat.le_of_ble_eq_true rfl) dX12_happiest_24 ⟨Nat.zero_le _, Nat.zero_le _⟩) (fun H locs hI => ?_)
      exact fm_ri hC hI hr hlk hf dX12_happiest_27
  · have hf := fm_pT hf hc
    refine lv_aload_n hx hb dX12_happiest_7 rfl (lv_at hl 0 rfl) ?_
    refine lv_iconst (v := (0 : Int32)) hx hb dX12_happiest_8 (by decide) ?_
    obtain ⟨r25, σ26, hq27, hf⟩ := fm_bE hf
    refine fm_ci hI (fm_runV (As := [.int (0 : Int32)]) (rest := []) (rm := { frames := 0, cells := 0, slots := 0, locals := 0 }) hC hI (c_X12_no hC.2.2.1 hq27) mV_X12_no q_867 ⟨rfl, rfl⟩ ⟨Nat.le_of_ble_eq_true rfl, Nat.le_of_ble_eq_true rfl⟩ fc_96 rfl (by decide) rfl hl.1 rfl (Nat.le_of_ble_eq_true rfl) dX12_happiest_9 ⟨Nat.zero_le _, Nat.zero_le _⟩) (fun H locs hI => ?_)
    exact fm_ri hC hI hr hlk hf dX12_happiest_12
def m_X12_isHiddenBy_7 (kc : Int32 → Int32 → Int32 → Int32 → Int32 → fm_M → Option (Int32 × fm_M)) : Nat → Int32 → Int32 → Int32 → Int32 → Int32 → fm_M → Option (Int32 × fm_M)
  | 0, _, _, _, _, _, _ => none
  | n + 1, z1, z2, z3, z4, z5, σ => if z3 ≤ z5 then (kc z1 z2 z3 z4 z5 σ) else (fm_b (m_X12_addsLayer z1 z2 σ) fun _u4 σ5 => (m_X12_isHiddenBy_7 kc n z1 z2 z3 z4 (z5 + (1 : Int32)) σ5))
def m_X12_isHiddenBy (a1 : Int32) (a2 : Int32) (a3 : Int32) (a4 : Int32) (σ : fm_M) : Option (Int32 × fm_M) := fm_b (m_X12_setsAside  σ) fun _u1 σ2 => (m_X12_isHiddenBy_7 (fun (x1_y7 : Int32) (x2_y7 : Int32) (x3_y7 : Int32) (x4_y7 : Int32) (x5_y7 : Int32) (σ_y7 : fm_M) => fm_b (m_X12_goes x4_y7 σ_y7) fun _u8 σ9 => (fm_b (m_X12_of1 x1_y7 (3 : Int32) σ9) fun r11 σ12 => (fm_j (fun (v0_J14 : Int32) (σ_J14 : fm_M) => fm_b (m_X12_laysBack  σ_J14) fun _u15 σ16 => (fm_g (fm_bz v0_J14) (some (v0_J14, σ16)))) (fun J14 => if r11 = 0 then (J14 (1 : Int32) σ12) else (J14 (0 : Int32) σ12))))) fm_fu a1 a2 a3 a4 (0 : Int32) σ2)
set_option maxHeartbeats 4000000 in
set_option maxRecDepth 100000 in
theorem w_X12_isHiddenBy_7 {p : Program} {l : Launch} {e : Env} {s : State} {m : MethodId} {args : Array Value} {below : List Frame} {meth : Method} {c : Code} {G : fm_G} {o : Int32 × fm_M} {kc : Int32 → Int32 → Int32 → Int32 → Int32 → fm_M → Option (Int32 × fm_M)} (hC : fm_C G p m c cX12_isHiddenBy 6 s args RX12) (hr : meth.sig.returnType = (some .boolean)) (hlk : meth.locks = false) (hk : ∀ (z1 : Int32) (z2 : Int32) (z3 : Int32) (z4 : Int32) (z5 : Int32) (σ : fm_M) (H : Heap) (locs : List Loc) (ls : Array Slot), fm_I G σ s H locs → lv_has ls 6 [(0, .ref (G.2.1 96)), (1, .int z1), (2, .int z2), (3, .int z3), (4, .int z4), (5, .int z5)] → kc z1 z2 z3 z4 z5 σ = some o → W p l e { frames := 6, cells := 0, slots := 0, locals := 136 } s m args below meth c H locs 0 0 (MQ below (fm_Qi G o) args s 0 0 (fm_A G)) (F0 m 25 ls [])) (n : Nat) : ∀ (z1 : Int32) (z2 : Int32) (z3 : Int32) (z4 : Int32) (z5 : Int32) (σ : fm_M) (H : Heap) (locs : List Loc) (ls : Array Slot), fm_I G σ s H locs → lv_has ls 6 [(0, .ref (G.2.1 96)), (1, .int z1), (2, .int z2), (3, .int z3), (4, .int z4), (5, .int z5)] → m_X12_isHiddenBy_7 kc n z1 z2 z3 z4 z5 σ = some o → W p l e { frames := 6, cells := 0, slots := 0, locals := 136 } s m args below meth c H locs 0 0 (MQ below (fm_Qi G o) args s 0 0 (fm_A G)) (F0 m 7 ls []) := by
  have hx := hC.1.1
  have hb := hC.1.2.1
  have hown := hC.1.2.2.2.1
  have hts := hC.1.2.2.2.2
  induction n with
  | zero =>
    intro z1 z2 z3 z4 z5 σ H locs ls hI hl hf
    cases hf
  | succ n ih =>
    intro z1 z2 z3 z4 z5 σ H locs ls hI hl hf
    rw [m_X12_isHiddenBy_7] at hf
    refine lv_iload hx hb dX12_isHiddenBy_7 (lv_at hl 5 rfl) ?_
    refine lv_iload_n hx hb dX12_isHiddenBy_9 rfl (lv_at hl 3 rfl) ?_
    refine lv_icmp_ge (tgt := 25) hx hb dX12_isHiddenBy_10 (by decide) (fun hc => ?_) (fun hc => ?_)
    · have hf := fm_pT hf hc
      exact hk z1 z2 z3 z4 z5 σ _ _ _ hI (lv_sub hl [0, 1, 2, 3, 4, 5] rfl) hf
    · have hf := fm_pF hf hc
      refine lv_aload_n hx hb dX12_isHiddenBy_13 rfl (lv_at hl 0 rfl) ?_
      refine lv_iload_n hx hb dX12_isHiddenBy_14 rfl (lv_at hl 1 rfl) ?_
      refine lv_iload_n hx hb dX12_isHiddenBy_15 rfl (lv_at hl 2 rfl) ?_
      obtain ⟨_u4, σ5, hq6, hf⟩ := fm_bE hf
      refine fm_cv hI (fm_runV (As := [.int z1, .int z2]) (rest := []) (rm := { frames := 1, cells := 0, slots := 0, locals := 23 }) hC hI (c_X12_addsLayer hC.2.2.1 hq6) mV_X12_addsLayer q_970 ⟨rfl, rfl⟩ ⟨Nat.le_of_ble_eq_true rfl, Nat.le_of_ble_eq_true rfl⟩ fc_96 rfl (by decide) rfl hl.1 rfl (Nat.le_of_ble_eq_true rfl) dX12_isHiddenBy_16 ⟨Nat.zero_le _, Nat.zero_le _⟩) (fun H locs hI => ?_)
      refine lv_iinc (v := (z5 + (1 : Int32))) (lv' := [(5, .int (z5 + (1 : Int32))), (0, .ref (G.2.1 96)), (1, .int z1), (2, .int z2), (3, .int z3), (4, .int z4)]) hx hb dX12_isHiddenBy_19 hl (k := 5) rfl rfl (Nat.le_of_ble_eq_true rfl) rfl (fun ls hl => ?_)
      refine lv_goto (tgt := 7) hx hb dX12_isHiddenBy_22 (by decide) ?_
      exact ih z1 z2 z3 z4 (z5 + (1 : Int32)) σ5 _ _ _ hI (lv_sub hl [1, 2, 3, 4, 5, 0] rfl) hf
set_option maxHeartbeats 4000000 in
set_option maxRecDepth 100000 in
theorem c_X12_isHiddenBy {l : Launch} {G : fm_G} (hJ : fm_J G) {a1 : Int32} {a2 : Int32} {a3 : Int32} {a4 : Int32} {σ : fm_M} {o : Int32 × fm_M}  (hf : m_X12_isHiddenBy a1 a2 a3 a4 σ = some o) : Met l yX12_isHiddenBy (fm_w yX12_isHiddenBy cX12_isHiddenBy 6 (some .boolean)) { frames := 6, cells := 0, slots := 0, locals := 136 } (va_Pc [.ref (G.2.1 96), .int a1, .int a2, .int a3, .int a4] (fm_st G σ)) (fm_Qi G o) 0 0 (fm_A G) := by
  refine fm_mth (own := RX12) hJ rfl (by decide +kernel) (Nat.le_of_ble_eq_true rfl) ?_
  intro p e s m below meth c ls hC hr hlk hI hl
  have hx := hC.1.1
  have hb := hC.1.2.1
  have hown := hC.1.2.2.2.1
  have hts := hC.1.2.2.2.2
  have hl : lv_has ls 6 [(0, .ref (G.2.1 96)), (1, .int a1), (2, .int a2), (3, .int a3), (4, .int a4)] := hl
  rw [m_X12_isHiddenBy] at hf
  refine lv_aload_n hx hb dX12_isHiddenBy_0 rfl (lv_at hl 0 rfl) ?_
  obtain ⟨_u1, σ2, hq3, hf⟩ := fm_bE hf
  refine fm_cv hI (fm_runV (As := []) (rest := []) (rm := { frames := 0, cells := 0, slots := 0, locals := 0 }) hC hI (c_X12_setsAside hC.2.2.1 hq3) mV_X12_setsAside q_1037 ⟨rfl, rfl⟩ ⟨Nat.le_of_ble_eq_true rfl, Nat.le_of_ble_eq_true rfl⟩ fc_96 rfl (by decide) rfl hl.1 rfl (Nat.le_of_ble_eq_true rfl) dX12_isHiddenBy_1 ⟨Nat.zero_le _, Nat.zero_le _⟩) (fun H locs hI => ?_)
  refine lv_iconst (v := (0 : Int32)) hx hb dX12_isHiddenBy_4 (by decide) ?_
  refine lv_istore (lv' := [(5, .int (0 : Int32)), (0, .ref (G.2.1 96)), (1, .int a1), (2, .int a2), (3, .int a3), (4, .int a4)]) hx hb dX12_isHiddenBy_5 hl (Nat.le_of_ble_eq_true rfl) rfl (fun ls hl => ?_)
  refine w_X12_isHiddenBy_7 hC hr hlk (fun x1_y7 x2_y7 x3_y7 x4_y7 x5_y7 σ_y7 H locs ls hI hl hf => ?_) fm_fu a1 a2 a3 a4 (0 : Int32) σ2 _ _ _ hI (lv_sub hl [1, 2, 3, 4, 5, 0] rfl) hf
  refine lv_aload_n hx hb dX12_isHiddenBy_25 rfl (lv_at hl 0 rfl) ?_
  refine lv_iload hx hb dX12_isHiddenBy_26 (lv_at hl 4 rfl) ?_
  obtain ⟨_u8, σ9, hq10, hf⟩ := fm_bE hf
  refine fm_cv hI (fm_runV (As := [.int x4_y7]) (rest := []) (rm := { frames := 5, cells := 0, slots := 0, locals := 114 }) hC hI (c_X12_goes hC.2.2.1 hq10) mV_X12_goes q_990 ⟨rfl, rfl⟩ ⟨Nat.le_of_ble_eq_true rfl, Nat.le_of_ble_eq_true rfl⟩ fc_96 rfl (by decide) rfl hl.1 rfl (Nat.le_of_ble_eq_true rfl) dX12_isHiddenBy_28 ⟨Nat.zero_le _, Nat.zero_le _⟩) (fun H locs hI => ?_)
  refine lv_aload_n hx hb dX12_isHiddenBy_31 rfl (lv_at hl 0 rfl) ?_
  refine lv_iload_n hx hb dX12_isHiddenBy_32 rfl (lv_at hl 1 rfl) ?_
  refine lv_iconst (v := (3 : Int32)) hx hb dX12_isHiddenBy_33 (by decide) ?_
  obtain ⟨r11, σ12, hq13, hf⟩ := fm_bE hf
  refine fm_ci hI (fm_runV (As := [.int x1_y7, .int (3 : Int32)]) (rest := []) (rm := { frames := 0, cells := 0, slots := 0, locals := 0 }) hC hI (c_X12_of1 hC.2.2.1 hq13) mV_X12_of1 q_896 ⟨rfl, rfl⟩ ⟨Nat.le_of_ble_eq_true rfl, Nat.le_of_ble_eq_true rfl⟩ fc_96 rfl (by decide) rfl hl.1 rfl (Nat.le_of_ble_eq_true rfl) dX12_isHiddenBy_34 ⟨Nat.zero_le _, Nat.zero_le _⟩) (fun H locs hI => ?_)
  obtain ⟨J14, eJ14, hf⟩ := fm_jE hf
  have hJ14 : ∀ (v0_J14 : Int32) (σ_J14 : fm_M) (H : Heap) (locs : List Loc) (ls : Array Slot), fm_I G σ_J14 s H locs → lv_has ls 6 [(0, .ref (G.2.1 96))] → J14 v0_J14 σ_J14 = some o → W p l e { frames := 6, cells := 0, slots := 0, locals := 136 } s m ([.ref (G.2.1 96), .int a1, .int a2, .int a3, .int a4] : List Value).toArray below meth c H locs 0 0 (MQ below (fm_Qi G o) ([.ref (G.2.1 96), .int a1, .int a2, .int a3, .int a4] : List Value).toArray s 0 0 (fm_A G)) (F0 m 45 ls [.int v0_J14]) := by
    intro v0_J14 σ_J14 H locs ls hI hl hf
    subst eJ14
    refine lv_istore (lv' := [(5, .int v0_J14), (0, .ref (G.2.1 96))]) hx hb dX12_isHiddenBy_45 hl (Nat.le_of_ble_eq_true rfl) rfl (fun ls hl => ?_)
    refine lv_aload_n hx hb dX12_isHiddenBy_47 rfl (lv_at hl 1 rfl) ?_
    obtain ⟨_u15, σ16, hq17, hf⟩ := fm_bE hf
    refine fm_cv hI (fm_runV (As := []) (rest := []) (rm := { frames := 0, cells := 0, slots := 0, locals := 0 }) hC hI (c_X12_laysBack hC.2.2.1 hq17) mV_X12_laysBack q_1041 ⟨rfl, rfl⟩ ⟨Nat.le_of_ble_eq_true rfl, Nat.le_of_ble_eq_true rfl⟩ fc_96 rfl (by decide) rfl hl.1 rfl (Nat.le_of_ble_eq_true rfl) dX12_isHiddenBy_48 ⟨Nat.zero_le _, Nat.zero_le _⟩) (fun H locs hI => ?_)
    refine lv_iload hx hb dX12_isHiddenBy_51 (lv_at hl 0 rfl) ?_
    obtain ⟨hg18, hf⟩ := fm_gE hf
    exact fm_rz hC hI hr hlk hg18 hf dX12_isHiddenBy_53
  refine lv_if_ne (tgt := 44) hx hb dX12_isHiddenBy_37 (by decide) (fun hc => ?_) (fun hc => ?_)
  · have hf := fm_pF hf hc
    refine lv_iconst (v := (0 : Int32)) hx hb dX12_isHiddenBy_44 (by decide) ?_
    exact hJ14 (0 : Int32) σ12 _ _ _ hI (lv_sub hl [0] rfl) hf
  · have hf := fm_pT hf hc
    refine lv_iconst (v := (1 : Int32)) hx hb dX12_isHiddenBy_40 (by decide) ?_
    refine lv_goto (tgt := 45) hx hb dX12_isHiddenBy_41 (by decide) ?_
    exact hJ14 (1 : Int32) σ12 _ _ _ hI (lv_sub hl [0] rfl) hf
def m_X12_enough_47 (kc : Int32 → Int32 → Int32 → Int32 → fm_M → Option (Int32 × fm_M)) : Nat → Int32 → Int32 → Int32 → Int32 → fm_M → Option (Int32 × fm_M)
  | 0, _, _, _, _, _ => none
  | n + 1, z1, z2, z3, z4, σ => fm_b (m_X12_of1 z1 (0 : Int32) σ) fun r19 σ20 => (if ((6 : Int32) - r19) < z4 then (kc z1 z2 z3 z4 σ20) else (fm_b (m_X12_isHiddenBy z1 z2 z4 z3 σ20) fun r22 σ23 => (if r22 = 0 then (m_X12_enough_47 kc n z1 z2 z3 (z4 + (1 : Int32)) σ23) else (some (z4, σ23)))))
def m_X12_enough (a1 : Int32) (a2 : Int32) (a3 : Int32) (σ : fm_M) : Option (Int32 × fm_M) := fm_b (m_X12_isPresent a1 σ) fun r1 σ2 => (if r1 = 0 then (fm_b (m_X12_no (0 : Int32) σ2) fun r4 σ5 => (some (r4, σ5))) else (fm_b (m_X12_isPaper a2 σ2) fun r7 σ8 => (if r7 = 0 then (fm_b (m_X12_no (0 : Int32) σ8) fun r10 σ11 => (some (r10, σ11))) else (fm_b (m_X12_isSoon a3 σ8) fun r13 σ14 => (if r13 = 0 then (fm_b (m_X12_no (0 : Int32) σ14) fun r32 σ33 => (some (r32, σ33))) else (fm_b (m_X12_of1 a1 (3 : Int32) σ14) fun r16 σ17 => (if r16 = (1 : Int32) then (fm_b (m_X12_no (4 : Int32) σ17) fun r29 σ30 => (some (r29, σ30))) else (m_X12_enough_47 (fun (x1_y25 : Int32) (x2_y25 : Int32) (x3_y25 : Int32) (x4_y25 : Int32) (σ_y25 : fm_M) => fm_b (m_X12_no (3 : Int32) σ_y25) fun r26 σ27 => (some (r26, σ27))) fm_fu a1 a2 a3 (0 : Int32) σ17))))))))
set_option maxHeartbeats 4000000 in
set_option maxRecDepth 100000 in
theorem w_X12_enough_47 {p : Program} {l : Launch} {e : Env} {s : State} {m : MethodId} {args : Array Value} {below : List Frame} {meth : Method} {c : Code} {G : fm_G} {o : Int32 × fm_M} {kc : Int32 → Int32 → Int32 → Int32 → fm_M → Option (Int32 × fm_M)} (hC : fm_C G p m c cX12_enough 5 s args RX12) (hr : meth.sig.returnType = (some .int)) (hlk : meth.locks = false) (hk : ∀ (z1 : Int32) (z2 : Int32) (z3 : Int32) (z4 : Int32) (σ : fm_M) (H : Heap) (locs : List Loc) (ls : Array Slot), fm_I G σ s H locs → lv_has ls 5 [(0, .ref (G.2.1 96)), (1, .int z1), (2, .int z2), (3, .int z3), (4, .int z4)] → kc z1 z2 z3 z4 σ = some o → W p l e { frames := 7, cells := 0, slots := 0, locals := 161 } s m args below meth c H locs 0 0 (MQ below (fm_Qi G o) args s 0 0 (fm_A G)) (F0 m 82 ls [])) (n : Nat) : ∀ (z1 : Int32) (z2 : Int32) (z3 : Int32) (z4 : Int32) (σ : fm_M) (H : Heap) (locs : List Loc) (ls : Array Slot), fm_I G σ s H locs → lv_has ls 5 [(0, .ref (G.2.1 96)), (1, .int z1), (2, .int z2), (3, .int z3), (4, .int z4)] → m_X12_enough_47 kc n z1 z2 z3 z4 σ = some o → W p l e { frames := 7, cells := 0, slots := 0, locals := 161 } s m args below meth c H locs 0 0 (MQ below (fm_Qi G o) args s 0 0 (fm_A G)) (F0 m 47 ls []) := by
  have hx := hC.1.1
  have hb := hC.1.2.1
  have hown := hC.1.2.2.2.1
  have hts := hC.1.2.2.2.2
  induction n with
  | zero =>
    intro z1 z2 z3 z4 σ H locs ls hI hl hf
    cases hf
  | succ n ih =>
    intro z1 z2 z3 z4 σ H locs ls hI hl hf
    rw [m_X12_enough_47] at hf
    refine lv_iload hx hb dX12_enough_47 (lv_at hl 4 rfl) ?_
    refine lv_bipush (v := (6 : Int32)) hx hb dX12_enough_49 (by decide) ?_
    refine lv_aload_n hx hb dX12_enough_51 rfl (lv_at hl 0 rfl) ?_
    refine lv_iload_n hx hb dX12_enough_52 rfl (lv_at hl 1 rfl) ?_
    refine lv_iconst (v := (0 : Int32)) hx hb dX12_enough_53 (by decide) ?_
    obtain ⟨r19, σ20, hq21, hf⟩ := fm_bE hf
    refine fm_ci hI (fm_runV (As := [.int z1, .int (0 : Int32)]) (rest := [.int (6 : Int32), .int z4]) (rm := { frames := 0, cells := 0, slots := 0, locals := 0 }) hC hI (c_X12_of1 hC.2.2.1 hq21) mV_X12_of1 q_896 ⟨rfl, rfl⟩ ⟨Nat.le_of_ble_eq_true rfl, Nat.le_of_ble_eq_true rfl⟩ fc_96 rfl (by decide) rfl hl.1 rfl (Nat.le_of_ble_eq_true rfl) dX12_enough_54 ⟨Nat.zero_le _, Nat.zero_le _⟩) (fun H locs hI => ?_)
    refine lv_isub hx hb dX12_enough_57 ?_
    refine lv_icmp_gt (tgt := 82) hx hb dX12_enough_58 (by decide) (fun hc => ?_) (fun hc => ?_)
    · have hf := fm_pT hf hc
      exact hk z1 z2 z3 z4 σ20 _ _ _ hI (lv_sub hl [0, 1, 2, 3, 4] rfl) hf
    · have hf := fm_pF hf hc
      refine lv_aload_n hx hb dX12_enough_61 rfl (lv_at hl 0 rfl) ?_
      refine lv_iload_n hx hb dX12_enough_62 rfl (lv_at hl 1 rfl) ?_
      refine lv_iload_n hx hb dX12_enough_63 rfl (lv_at hl 2 rfl) ?_
      refine lv_iload hx hb dX12_enough_64 (lv_at hl 4 rfl) ?_
      refine lv_iload_n hx hb dX12_enough_66 rfl (lv_at hl 3 rfl) ?_
      obtain ⟨r22, σ23, hq24, hf⟩ := fm_bE hf
      refine fm_ci hI (fm_runV (As := [.int z1, .int z2, .int z4, .int z3]) (rest := []) (rm := { frames := 6, cells := 0, slots := 0, locals := 136 }) hC hI (c_X12_isHiddenBy hC.2.2.1 hq24) mV_X12_isHiddenBy q_1104 ⟨rfl, rfl⟩ ⟨Nat.le_of_ble_eq_true rfl, Nat.le_of_ble_eq_true rfl⟩ fc_96 rfl (by decide) rfl hl.1 rfl (Nat.le_of_ble_eq_true rfl) dX12_enough_67 ⟨Nat.zero_le _, Nat.zero_le _⟩) (fun H locs hI => ?_)
      refine lv_if_eq (tgt := 76) hx hb dX12_enough_70 (by decide) (fun hc => ?_) (fun hc => ?_)
      · have hf := fm_pT hf hc
        refine lv_iinc (v := (z4 + (1 : Int32))) (lv' := [(4, .int (z4 + (1 : Int32))), (0, .ref (G.2.1 96)), (1, .int z1), (2, .int z2), (3, .int z3)]) hx hb dX12_enough_76 hl (k := 4) rfl rfl (Nat.le_of_ble_eq_true rfl) rfl (fun ls hl => ?_)
        refine lv_goto (tgt := 47) hx hb dX12_enough_79 (by decide) ?_
        exact ih z1 z2 z3 (z4 + (1 : Int32)) σ23 _ _ _ hI (lv_sub hl [1, 2, 3, 4, 0] rfl) hf
      · have hf := fm_pF hf hc
        refine lv_iload hx hb dX12_enough_73 (lv_at hl 4 rfl) ?_
        exact fm_ri hC hI hr hlk hf dX12_enough_75
set_option maxHeartbeats 4000000 in
set_option maxRecDepth 100000 in
theorem c_X12_enough {l : Launch} {G : fm_G} (hJ : fm_J G) {a1 : Int32} {a2 : Int32} {a3 : Int32} {σ : fm_M} {o : Int32 × fm_M}  (hf : m_X12_enough a1 a2 a3 σ = some o) : Met l yX12_enough (fm_w yX12_enough cX12_enough 5 (some .int)) { frames := 7, cells := 0, slots := 0, locals := 161 } (va_Pc [.ref (G.2.1 96), .int a1, .int a2, .int a3] (fm_st G σ)) (fm_Qi G o) 0 0 (fm_A G) := by
  refine fm_mth (own := RX12) hJ rfl (by decide +kernel) (Nat.le_of_ble_eq_true rfl) ?_
  intro p e s m below meth c ls hC hr hlk hI hl
  have hx := hC.1.1
  have hb := hC.1.2.1
  have hown := hC.1.2.2.2.1
  have hts := hC.1.2.2.2.2
  have hl : lv_has ls 5 [(0, .ref (G.2.1 96)), (1, .int a1), (2, .int a2), (3, .int a3)] := hl
  rw [m_X12_enough] at hf
  refine lv_aload_n hx hb dX12_enough_0 rfl (lv_at hl 0 rfl) ?_
  refine lv_iload_n hx hb dX12_enough_1 rfl (lv_at hl 1 rfl) ?_
  obtain ⟨r1, σ2, hq3, hf⟩ := fm_bE hf
  refine fm_ci hI (fm_runV (As := [.int a1]) (rest := []) (rm := { frames := 1, cells := 0, slots := 0, locals := 22 }) hC hI (c_X12_isPresent hC.2.2.1 hq3) mV_X12_isPresent q_904 ⟨rfl, rfl⟩ ⟨Nat.le_of_ble_eq_true rfl, Nat.le_of_ble_eq_true rfl⟩ fc_96 rfl (by decide) rfl hl.1 rfl (Nat.le_of_ble_eq_true rfl) dX12_enough_2 ⟨Nat.zero_le _, Nat.zero_le _⟩) (fun H locs hI => ?_)
  refine lv_if_eq (tgt := 22) hx hb dX12_enough_5 (by decide) (fun hc => ?_) (fun hc => ?_)
  · have hf := fm_pT hf hc
    refine lv_aload_n hx hb dX12_enough_22 rfl (lv_at hl 0 rfl) ?_
    refine lv_iconst (v := (0 : Int32)) hx hb dX12_enough_23 (by decide) ?_
    obtain ⟨r4, σ5, hq6, hf⟩ := fm_bE hf
    refine fm_ci hI (fm_runV (As := [.int (0 : Int32)]) (rest := []) (rm := { frames := 0, cells := 0, slots := 0, locals := 0 }) hC hI (c_X12_no hC.2.2.1 hq6) mV_X12_no q_867 ⟨rfl, rfl⟩ ⟨Nat.le_of_ble_eq_true rfl, Nat.le_of_ble_eq_true rfl⟩ fc_96 rfl (by decide) rfl hl.1 rfl (Nat.le_of_ble_eq_true rfl) dX12_enough_24 ⟨Nat.zero_le _, Nat.zero_le _⟩) (fun H locs hI => ?_)
    exact fm_ri hC hI hr hlk hf dX12_enough_27
  · have hf := fm_pF hf hc
    refine lv_iload_n hx hb dX12_enough_8 rfl (lv_at hl 2 rfl) ?_
    obtain ⟨r7, σ8, hq9, hf⟩ := fm_bE hf
    refine fm_ci hI (fm_runS (As := [.int a2]) (rest := []) (rm := { frames := 1, cells := 0, slots := 0, locals := 22 }) hC hI (c_X12_isPaper hC.2.2.1 hq9) mS_X12_isPaper q_963 ⟨rfl, rfl⟩ ⟨Nat.le_of_ble_eq_true rfl, Nat.le_of_ble_eq_true rfl⟩ rfl hl.1 rfl (Nat.le_of_ble_eq_true rfl) dX12_enough_9 ⟨Nat.zero_le _, Nat.zero_le _⟩) (fun H locs hI => ?_)
    refine lv_if_eq (tgt := 22) hx hb dX12_enough_12 (by decide) (fun hc => ?_) (fun hc => ?_)
    · have hf := fm_pT hf hc
      refine lv_aload_n hx hb dX12_enough_22 rfl (lv_at hl 0 rfl) ?_
      refine lv_iconst (v := (0 : Int32)) hx hb dX12_enough_23 (by decide) ?_
      obtain ⟨r10, σ11, hq12, hf⟩ := fm_bE hf
      refine fm_ci hI (fm_runV (As := [.int (0 : Int32)]) (rest := []) (rm := { frames := 0, cells := 0, slots := 0, locals := 0 }) hC hI (c_X12_no hC.2.2.1 hq12) mV_X12_no q_867 ⟨rfl, rfl⟩ ⟨Nat.le_of_ble_eq_true rfl, Nat.le_of_ble_eq_true rfl⟩ fc_96 rfl (by decide) rfl hl.1 rfl (Nat.le_of_ble_eq_true rfl) dX12_enough_24 ⟨Nat.zero_le _, Nat.zero_le _⟩) (fun H locs hI => ?_)
      exact fm_ri hC hI hr hlk hf dX12_enough_27
    · have hf := fm_pF hf hc
      refine lv_iload_n hx hb dX12_enough_15 rfl (lv_at hl 3 rfl) ?_
      obtain ⟨r13, σ14, hq15, hf⟩ := fm_bE hf
      refine fm_ci hI (fm_runS (As := [.int a3]) (rest := []) (rm := { frames := 1, cells := 0, slots := 0, locals := 22 }) hC hI (c_X12_isSoon hC.2.2.1 hq15) mS_X12_isSoon q_1065 ⟨rfl, rfl⟩ ⟨Nat.le_of_ble_eq_true rfl, Nat.le_of_ble_eq_true rfl⟩ rfl hl.1 rfl (Nat.le_of_ble_eq_true rfl) dX12_enough_16 ⟨Nat.zero_le _, Nat.zero_le _⟩) (fun H locs hI => ?_)
      refine lv_if_ne (tgt := 28) hx hb dX12_enough_19 (by decide) (fun hc => ?_) (fun hc => ?_)
      · have hf := fm_pF hf hc
        refine lv_aload_n hx hb dX12_enough_28 rfl (lv_at hl 0 rfl) ?_
        refine lv_iload_n hx hb dX12_enough_29 rfl (lv_at hl 1 rfl) ?_
        refine lv_iconst (v := (3 : Int32)) hx hb dX12_enough_30 (by decide) ?_
        obtain ⟨r16, σ17, hq18, hf⟩ := fm_bE hf
        refine fm_ci hI (fm_runV (As := [.int a1, .int (3 : Int32)]) (rest := []) (rm := { frames := 0, cells := 0, slots := 0, locals := 0 }) hC hI (c_X12_of1 hC.2.2.1 hq18) mV_X12_of1 q_896 ⟨rfl, rfl⟩ ⟨Nat.le_of_ble_eq_true rfl, Nat.le_of_ble_eq_true rfl⟩ fc_96 rfl (by decide) rfl hl.1 rfl (Nat.le_of_ble_eq_true rfl) dX12_enough_31 ⟨Nat.zero_le _, Nat.zero_le _⟩) (fun H locs hI => ?_)
        refine lv_iconst (v := (1 : Int32)) hx hb dX12_enough_34 (by decide) ?_
        refine lv_icmp_ne (tgt := 44) hx hb dX12_enough_35 (by decide) (fun hc => ?_) (fun hc => ?_)
        · have hf := fm_pF hf hc
          refine lv_iconst (v := (0 : Int32)) hx hb dX12_enough_44 (by decide) ?_
          refine lv_istore (lv' := [(4, .int (0 : Int32)), (0, .ref (G.2.1 96)), (1, .int a1), (2, .int a2), (3, .int a3)]) hx hb dX12_enough_45 hl (Nat.le_of_ble_eq_true rfl) rfl (fun ls hl => ?_)
          refine w_X12_enough_47 hC hr hlk (fun x1_y25 x2_y25 x3_y25 x4_y25 σ_y25 H locs ls hI hl hf => ?_) fm_fu a1 a2 a3 (0 : Int32) σ17 _ _ _ hI (lv_sub hl [1, 2, 3, 4, 0] rfl) hf
          refine lv_aload_n hx hb dX12_enough_82 rfl (lv_at hl 0 rfl) ?_
          refine lv_iconst (v := (3 : Int32)) hx hb dX12_enough_83 (by decide) ?_
          obtain ⟨r26, σ27, hq28, hf⟩ := fm_bE hf
          refine fm_ci hI (fm_runV (As := [.int (3 : Int32)]) (rest := []) (rm := { frames := 0, cells := 0, slots := 0, locals := 0 }) hC hI (c_X12_no hC.2.2.1 hq28) mV_X12_no q_867 ⟨rfl, rfl⟩ ⟨Nat.le_of_ble_eq_true rfl, Nat.le_of_ble_eq_true rfl⟩ fc_96 rfl (by decide) rfl hl.1 rfl (Nat.le_of_ble_eq_true rfl) dX12_enough_84 ⟨Nat.zero_le _, Nat.zero_le _⟩) (fun H locs hI => ?_)
          exact fm_ri hC hI hr hlk hf dX12_enough_87
        · have hf := fm_pT hf hc
          refine lv_aload_n hx hb dX12_enough_38 rfl (lv_at hl 0 rfl) ?_
          refine lv_iconst (v := (4 : Int32)) hx hb dX12_enough_39 (by decide) ?_
          obtain ⟨r29, σ30, hq31, hf⟩ := fm_bE hf
          refine fm_ci hI (fm_runV (As := [.int (4 : Int32)]) (rest := []) (rm := { frames := 0, cells := 0, slots := 0, locals := 0 }) hC hI (c_X12_no hC.2.2.1 hq31) mV_X12_no q_867 ⟨rfl, rfl⟩ ⟨Nat.le_of_ble_eq_true rfl, Nat.le_of_ble_eq_true rfl⟩ fc_96 rfl (by decide) rfl hl.1 rfl (Nat.le_of_ble_eq_true rfl) dX12_enough_40 ⟨Nat.zero_le _, Nat.zero_le _⟩) (fun H locs hI => ?_)
          exact fm_ri hC hI hr hlk hf dX12_enough_43
      · have hf := fm_pT hf hc
        refine lv_aload_n hx hb dX12_enough_22 rfl (lv_at hl 0 rfl) ?_
        refine lv_iconst (v := (0 : Int32)) hx hb dX12_enough_23 (by decide) ?_
        obtain ⟨r32, σ33, hq34, hf⟩ := fm_bE hf
        refine fm_ci hI (fm_runV (As := [.int (0 : Int32)]) (rest := []) (rm := { frames := 0, cells := 0, slots := 0, locals := 0 }) hC hI (c_X12_no hC.2.2.1 hq34) mV_X12_no q_867 ⟨rfl, rfl⟩ ⟨Nat.le_of_ble_eq_true rfl, Nat.le_of_ble_eq_true rfl⟩ fc_96 rfl (by decide) rfl hl.1 rfl (Nat.le_of_ble_eq_true rfl) dX12_enough_24 ⟨Nat.zero_le _, Nat.zero_le _⟩) (fun H locs hI => ?_)
        exact fm_ri hC hI hr hlk hf dX12_enough_27
def m_X12_feed_36 (kc : Int32 → Int32 → fm_M → Option (Int32 × fm_M)) : Nat → Int32 → Int32 → fm_M → Option (Int32 × fm_M)
  | 0, _, _, _ => none
  | n + 1, z1, z3, σ => if z3 < 0 then (kc z1 z3 σ) else (fm_g (fm_in1 (σ.1 96 8) 120) (fm_let (fm_sI σ 102 (σ.1 96 8).toNatClampNeg ((z1 >>> (((8 : Int32) * z3) &&& 31)) &&& (255 : Int32))) fun σ5 => (fm_let (fm_sI σ5 96 8 ((σ5.1 96 8) + (1 : Int32))) fun σ7 => (m_X12_feed_36 kc n z1 (z3 + (-1 : Int32)) σ7))))
def m_X12_feed (a1 : Int32) (a2 : Int32) (σ : fm_M) : Option (Int32 × fm_M) := fm_b (m_X12_in1 a2 (1 : Int32) (4 : Int32) σ) fun r1 σ2 => (if r1 = 0 then (fm_b (m_X12_no (0 : Int32) σ2) fun r13 σ14 => (some (r13, σ14))) else (if ((σ2.1 96 8) + a2) ≤ (120 : Int32) then (m_X12_feed_36 (fun (x1_y9 : Int32) (x3_y9 : Int32) (σ_y9 : fm_M) => some ((σ_y9.1 96 8), σ_y9)) fm_fu a1 (a2 - (1 : Int32)) σ2) else (fm_b (m_X12_no (1 : Int32) σ2) fun r10 σ11 => (some (r10, σ11)))))
set_option maxHeartbeats 4000000 in
set_option maxRecDepth 100000 in
theorem w_X12_feed_36 {p : Program} {l : Launch} {e : Env} {s : State} {m : MethodId} {args : Array Value} {below : List Frame} {meth : Method} {c : Code} {G : fm_G} {o : Int32 × fm_M} {kc : Int32 → Int32 → fm_M → Option (Int32 × fm_M)} (hC : fm_C G p m c cX12_feed 4 s args RX12) (hr : meth.sig.returnType = (some .int)) (hlk : meth.locks = false) (hk : ∀ (z1 : Int32) (z3 : Int32) (σ : fm_M) (H : Heap) (locs : List Loc) (ls : Array Slot), fm_I G σ s H locs → lv_has ls 4 [(0, .ref (G.2.1 96)), (1, .int z1), (3, .int z3)] → kc z1 z3 σ = some o → W p l e { frames := 1, cells := 0, slots := 0, locals := 22 } s m args below meth c H locs 0 0 (MQ below (fm_Qi G o) args s 0 0 (fm_A G)) (F0 m 75 ls [])) (n : Nat) : ∀ (z1 : Int32) (z3 : Int32) (σ : fm_M) (H : Heap) (locs : List Loc) (ls : Array Slot), fm_I G σ s H locs → lv_has ls 4 [(0, .ref (G.2.1 96)), (1, .int z1), (3, .int z3)] → m_X12_feed_36 kc n z1 z3 σ = some o → W p l e { frames := 1, cells := 0, slots := 0, locals := 22 } s m args below meth c H locs 0 0 (MQ below (fm_Qi G o) args s 0 0 (fm_A G)) (F0 m 36 ls []) := by
  have hx := hC.1.1
  have hb := hC.1.2.1
  have hown := hC.1.2.2.2.1
  have hts := hC.1.2.2.2.2
  induction n with
  | zero =>
    intro z1 z3 σ H locs ls hI hl hf
    cases hf
  | succ n ih =>
    intro z1 z3 σ H locs ls hI hl hf
    rw [m_X12_feed_36] at hf
    refine lv_iload_n hx hb dX12_feed_36 rfl (lv_at hl 2 rfl) ?_
    refine lv_if_lt (tgt := 75) hx hb dX12_feed_37 (by decide) (fun hc => ?_) (fun hc => ?_)
    · have hf := fm_pT hf hc
      exact hk z1 z3 σ _ _ _ hI (lv_sub hl [0, 1, 2] rfl) hf
    · have hf := fm_pF hf hc
      refine lv_aload_n hx hb dX12_feed_40 rfl (lv_at hl 0 rfl) ?_
      refine fm_gr hC hI fd_X12_7 fc_96 fr_96_7 q_805 dX12_feed_41 ?_
      refine lv_aload_n hx hb dX12_feed_44 rfl (lv_at hl 0 rfl) ?_
      refine fm_gi hC hI fd_X12_8 fc_96 q_806 dX12_feed_45 ?_
      refine lv_iload_n hx hb dX12_feed_48 rfl (lv_at hl 1 rfl) ?_
      refine lv_bipush (v := (8 : Int32)) hx hb dX12_feed_49 (by decide) ?_
      refine lv_iload_n hx hb dX12_feed_51 rfl (lv_at hl 2 rfl) ?_
      refine lv_imul hx hb dX12_feed_52 ?_
      refine lv_ishr hx hb dX12_feed_53 ?_
      refine lv_sipush (v := (255 : Int32)) hx hb dX12_feed_54 (by decide) ?_
      refine lv_iand hx hb dX12_feed_57 ?_
      obtain ⟨hg4, hf⟩ := fm_gE hf
      obtain ⟨σ5, e6, hf⟩ := fm_letE hf
      refine fm_iast hC hI fc_102 fl_102 hg4 e6 dX12_feed_58 (fun H locs hI => ?_)
      refine lv_aload_n hx hb dX12_feed_59 rfl (lv_at hl 0 rfl) ?_
      refine lv_dup hx hb dX12_feed_60 rfl ?_
      refine fm_gi hC hI fd_X12_8 fc_96 q_806 dX12_feed_61 ?_
      refine lv_iconst (v := (1 : Int32)) hx hb dX12_feed_64 (by decide) ?_
      refine lv_iadd hx hb dX12_feed_65 ?_
      obtain ⟨σ7, e8, hf⟩ := fm_letE hf
      refine fm_pi hC hI fp_X12_8 fc_96 ⟨rfl, rfl⟩ e8 q_806 dX12_feed_66 (fun H locs hI => ?_)
      refine lv_iinc (v := (z3 + (-1 : Int32))) (lv' := [(3, .int (z3 + (-1 : Int32))), (0, .ref (G.2.1 96)), (1, .int z1)]) hx hb dX12_feed_69 hl (k := 2) rfl rfl (Nat.le_of_ble_eq_true rfl) rfl (fun ls hl => ?_)
      refine lv_goto (tgt := 36) hx hb dX12_feed_72 (by decide) ?_
      exact ih z1 (z3 + (-1 : Int32)) σ7 _ _ _ hI (lv_sub hl [1, 2, 0] rfl) hf
set_option maxHeartbeats 4000000 in
set_option maxRecDepth 100000 in
theorem c_X12_feed {l : Launch} {G : fm_G} (hJ : fm_J G) {a1 : Int32} {a2 : Int32} {σ : fm_M} {o : Int32 × fm_M}  (hf : m_X12_feed a1 a2 σ = some o) : Met l yX12_feed (fm_w yX12_feed cX12_feed 4 (some .int)) { frames := 1, cells := 0, slots := 0, locals := 22 } (va_Pc [.ref (G.2.1 96), .int a1, .int a2] (fm_st G σ)) (fm_Qi G o) 0 0 (fm_A G) := by
  refine fm_mth (own := RX12) hJ rfl (by decide +kernel) (Nat.le_of_ble_eq_true rfl) ?_
  intro p e s m below meth c ls hC hr hlk hI hl
  have hx := hC.1.1
  have hb := hC.1.2.1
  have hown := hC.1.2.2.2.1
  have hts := hC.1.2.2.2.2
  have hl : lv_has ls 4 [(0, .ref (G.2.1 96)), (1, .int a1), (2, .int a2)] := hl
  rw [m_X12_feed] at hf
  refine lv_iload_n hx hb dX12_feed_0 rfl (lv_at hl 2 rfl) ?_
  refine lv_iconst (v := (1 : Int32)) hx hb dX12_feed_1 (by decide) ?_
  refine lv_iconst (v := (4 : Int32)) hx hb dX12_feed_2 (by decide) ?_
  obtain ⟨r1, σ2, hq3, hf⟩ := fm_bE hf
  refine fm_ci hI (fm_runS (As := [.int a2, .int (1 : Int32), .int (4 : Int32)]) (rest := []) (rm := { frames := 0, cells := 0, slots := 0, locals := 0 }) hC hI (c_X12_in1 hC.2.2.1 hq3) mS_X12_in1 q_864 ⟨rfl, rfl⟩ ⟨Nat.le_of_ble_eq_true rfl, Nat.le_of_ble_eq_true rfl⟩ rfl hl.1 rfl (Nat.le_of_ble_eq_true rfl) dX12_feed_3 ⟨Nat.zero_le _, Nat.zero_le _⟩) (fun H locs hI => ?_)
  refine lv_if_ne (tgt := 15) hx hb dX12_feed_6 (by decide) (fun hc => ?_) (fun hc => ?_)
  · have hf := fm_pF hf hc
    refine lv_aload_n hx hb dX12_feed_15 rfl (lv_at hl 0 rfl) ?_
    refine fm_gi hC hI fd_X12_8 fc_96 q_806 dX12_feed_16 ?_
    refine lv_iload_n hx hb dX12_feed_19 rfl (lv_at hl 2 rfl) ?_
    refine lv_iadd hx hb dX12_feed_20 ?_
    refine lv_bipush (v := (120 : Int32)) hx hb dX12_feed_21 (by decide) ?_
    refine lv_icmp_le (tgt := 32) hx hb dX12_feed_23 (by decide) (fun hc => ?_) (fun hc => ?_)
    · have hf := fm_pT hf hc
      refine lv_iload_n hx hb dX12_feed_32 rfl (lv_at hl 2 rfl) ?_
      refine lv_iconst (v := (1 : Int32)) hx hb dX12_feed_33 (by decide) ?_
      refine lv_isub hx hb dX12_feed_34 ?_
      refine lv_istore_n (lv' := [(3, .int (a2 - (1 : Int32))), (0, .ref (G.2.1 96)), (1, .int a1), (2, .int a2)]) hx hb dX12_feed_35 rfl hl (Nat.le_of_ble_eq_true rfl) rfl (fun ls hl => ?_)
      refine w_X12_feed_36 hC hr hlk (fun x1_y9 x3_y9 σ_y9 H locs ls hI hl hf => ?_) fm_fu a1 (a2 - (1 : Int32)) σ2 _ _ _ hI (lv_sub hl [1, 2, 0] rfl) hf
      refine lv_aload_n hx hb dX12_feed_75 rfl (lv_at hl 0 rfl) ?_
      refine fm_gi hC hI fd_X12_8 fc_96 q_806 dX12_feed_76 ?_
      exact fm_ri hC hI hr hlk hf dX12_feed_79
    · have hf := fm_pF hf hc
      refine lv_aload_n hx hb dX12_feed_26 rfl (lv_at hl 0 rfl) ?_
      refine lv_iconst (v := (1 : Int32)) hx hb dX12_feed_27 (by decide) ?_
      obtain ⟨r10, σ11, hq12, hf⟩ := fm_bE hf
      refine fm_ci hI (fm_runV (As := [.int (1 : Int32)]) (rest := []) (rm := { frames := 0, cells := 0, slots := 0, locals := 0 }) hC hI (c_X12_no hC.2.2.1 hq12) mV_X12_no q_867 ⟨rfl, rfl⟩ ⟨Nat.le_of_ble_eq_true rfl, Nat.le_of_ble_eq_true rfl⟩ fc_96 rfl (by decide) rfl hl.1 rfl (Nat.le_of_ble_eq_true rfl) dX12_feed_28 ⟨Nat.zero_le _, Nat.zero_le _⟩) (fun H locs hI => ?_)
      exact fm_ri hC hI hr hlk hf dX12_feed_31
  · have hf := fm_pT hf hc
    refine lv_aload_n hx hb dX12_feed_9 rfl (lv_at hl 0 rfl) ?_
    refine lv_iconst (v := (0 : Int32)) hx hb dX12_feed_10 (by decide) ?_
    obtain ⟨r13, σ14, hq15, hf⟩ := fm_bE hf
    refine fm_ci hI (fm_runV (As := [.int (0 : Int32)]) (rest := []) (rm := { frames := 0, cells := 0, slots := 0, locals := 0 }) hC hI (c_X12_no hC.2.2.1 hq15) mV_X12_no q_867 ⟨rfl, rfl⟩ ⟨Nat.le_of_ble_eq_true rfl, Nat.le_of_ble_eq_true rfl⟩ fc_96 rfl (by decide) rfl hl.1 rfl (Nat.le_of_ble_eq_true rfl) dX12_feed_11 ⟨Nat.zero_le _, Nat.zero_le _⟩) (fun H locs hI => ?_)
    exact fm_ri hC hI hr hlk hf dX12_feed_14
def m_X12_wipe  (σ : fm_M) : Option (Int32 × fm_M) := fm_let (fm_sI σ 96 8 (0 : Int32)) fun σ1 => (some ((σ.1 96 8), σ1))
set_option maxHeartbeats 4000000 in
set_option maxRecDepth 100000 in
theorem c_X12_wipe {l : Launch} {G : fm_G} (hJ : fm_J G) {σ : fm_M} {o : Int32 × fm_M}  (hf : m_X12_wipe  σ = some o) : Met l yX12_wipe (fm_w yX12_wipe cX12_wipe 2 (some .int)) { frames := 0, cells := 0, slots := 0, locals := 0 } (va_Pc [.ref (G.2.1 96)] (fm_st G σ)) (fm_Qi G o) 0 0 (fm_A G) := by
  refine fm_mth (own := RX12) hJ rfl (by decide +kernel) (Nat.le_of_ble_eq_true rfl) ?_
  intro p e s m below meth c ls hC hr hlk hI hl
  have hx := hC.1.1
  have hb := hC.1.2.1
  have hown := hC.1.2.2.2.1
  have hts := hC.1.2.2.2.2
  have hl : lv_has ls 2 [(0, .ref (G.2.1 96))] := hl
  rw [m_X12_wipe] at hf
  refine lv_aload_n hx hb dX12_wipe_0 rfl (lv_at hl 0 rfl) ?_
  refine fm_gi hC hI fd_X12_8 fc_96 q_806 dX12_wipe_1 ?_
  refine lv_istore_n (lv' := [(1, .int (σ.1 96 8)), (0, .ref (G.2.1 96))]) hx hb dX12_wipe_4 rfl hl (Nat.le_of_ble_eq_true rfl) rfl (fun ls hl => ?_)
  refine lv_aload_n hx hb dX12_wipe_5 rfl (lv_at hl 1 rfl) ?_
  refine lv_iconst (v := (0 : Int32)) hx hb dX12_wipe_6 (by decide) ?_
  obtain ⟨σ1, e2, hf⟩ := fm_letE hf
  refine fm_pi hC hI fp_X12_8 fc_96 ⟨rfl, rfl⟩ e2 q_806 dX12_wipe_7 (fun H locs hI => ?_)
  refine lv_iload_n hx hb dX12_wipe_10 rfl (lv_at hl 0 rfl) ?_
  exact fm_ri hC hI hr hlk hf dX12_wipe_11
def m_X12_isLetter (a0 : Int32) (σ : fm_M) : Option (Int32 × fm_M) := fm_b (m_X12_in1 a0 (97 : Int32) (122 : Int32) σ) fun r1 σ2 => (fm_g (fm_bz r1) (some (r1, σ2)))
set_option maxHeartbeats 4000000 in
set_option maxRecDepth 100000 in
theorem c_X12_isLetter {l : Launch} {G : fm_G} (hJ : fm_J G) {a0 : Int32} {σ : fm_M} {o : Int32 × fm_M}  (hf : m_X12_isLetter a0 σ = some o) : Met l yX12_isLetter (fm_w yX12_isLetter cX12_isLetter 1 (some .boolean)) { frames := 1, cells := 0, slots := 0, locals := 22 } (va_Pc [.int a0] (fm_st G σ)) (fm_Qi G o) 0 0 (fm_A G) := by
  refine fm_mth (own := RX12) hJ rfl (by decide +kernel) (Nat.le_of_ble_eq_true rfl) ?_
  intro p e s m below meth c ls hC hr hlk hI hl
  have hx := hC.1.1
  have hb := hC.1.2.1
  have hown := hC.1.2.2.2.1
  have hts := hC.1.2.2.2.2
  have hl : lv_has ls 1 [(0, .int a0)] := hl
  rw [m_X12_isLetter] at hf
  refine lv_iload_n hx hb dX12_isLetter_0 rfl (lv_at hl 0 rfl) ?_
  refine lv_bipush (v := (97 : Int32)) hx hb dX12_isLetter_1 (by decide) ?_
  refine lv_bipush (v := (122 : Int32)) hx hb dX12_isLetter_3 (by decide) ?_
  obtain ⟨r1, σ2, hq3, hf⟩ := fm_bE hf
  refine fm_ci hI (fm_runS (As := [.int a0, .int (97 : Int32), .int (122 : Int32)]) (rest := []) (rm := { frames := 0, cells := 0, slots := 0, locals := 0 }) hC hI (c_X12_in1 hC.2.2.1 hq3) mS_X12_in1 q_864 ⟨rfl, rfl⟩ ⟨Nat.le_of_ble_eq_true rfl, Nat.le_of_ble_eq_true rfl⟩ rfl hl.1 rfl (Nat.le_of_ble_eq_true rfl) dX12_isLetter_5 ⟨Nat.zero_le _, Nat.zero_le _⟩) (fun H locs hI => ?_)
  obtain ⟨hg4, hf⟩ := fm_gE hf
  exact fm_rz hC hI hr hlk hg4 hf dX12_isLetter_8
def m_X12_isDigit (a0 : Int32) (σ : fm_M) : Option (Int32 × fm_M) := fm_b (m_X12_in1 a0 (48 : Int32) (57 : Int32) σ) fun r1 σ2 => (fm_g (fm_bz r1) (some (r1, σ2)))
set_option maxHeartbeats 4000000 in
set_option maxRecDepth 100000 in
theorem c_X12_isDigit {l : Launch} {G : fm_G} (hJ : fm_J G) {a0 : Int32} {σ : fm_M} {o : Int32 × fm_M}  (hf : m_X12_isDigit a0 σ = some o) : Met l yX12_isDigit (fm_w yX12_isDigit cX12_isDigit 1 (some .boolean)) { frames := 1, cells := 0, slots := 0, locals := 22 } (va_Pc [.int a0] (fm_st G σ)) (fm_Qi G o) 0 0 (fm_A G) := by
  refine fm_mth (own := RX12) hJ rfl (by decide +kernel) (Nat.le_of_ble_eq_true rfl) ?_
  intro p e s m below meth c ls hC hr hlk hI hl
  have hx := hC.1.1
  have hb := hC.1.2.1
  have hown := hC.1.2.2.2.1
  have hts := hC.1.2.2.2.2
  have hl : lv_has ls 1 [(0, .int a0)] := hl
  rw [m_X12_isDigit] at hf
  refine lv_iload_n hx hb dX12_isDigit_0 rfl (lv_at hl 0 rfl) ?_
  refine lv_bipush (v := (48 : Int32)) hx hb dX12_isDigit_1 (by decide) ?_
  refine lv_bipush (v := (57 : Int32)) hx hb dX12_isDigit_3 (by decide) ?_
  obtain ⟨r1, σ2, hq3, hf⟩ := fm_bE hf
  refine fm_ci hI (fm_runS (As := [.int a0, .int (48 : Int32), .int (57 : Int32)]) (rest := []) (rm := { frames := 0, cells := 0, slots := 0, locals := 0 }) hC hI (c_X12_in1 hC.2.2.1 hq3) mS_X12_in1 q_864 ⟨rfl, rfl⟩ ⟨Nat.le_of_ble_eq_true rfl, Nat.le_of_ble_eq_true rfl⟩ rfl hl.1 rfl (Nat.le_of_ble_eq_true rfl) dX12_isDigit_5 ⟨Nat.zero_le _, Nat.zero_le _⟩) (fun H locs hI => ?_)
  obtain ⟨hg4, hf⟩ := fm_gE hf
  exact fm_rz hC hI hr hlk hg4 hf dX12_isDigit_8
def m_X12_nextToken_8 (kc : fm_M → Option (Unit × fm_M)) : Nat → fm_M → Option (Unit × fm_M)
  | 0, _ => none
  | n + 1, σ => if (σ.1 96 8) ≤ (σ.1 96 10) then (kc  σ) else (fm_g (fm_in1 (σ.1 96 10) 120) (if (σ.1 102 (σ.1 96 10).toNatClampNeg) = (32 : Int32) then (fm_let (fm_sI σ 96 10 ((σ.1 96 10) + (1 : Int32))) fun σ4 => (m_X12_nextToken_8 kc n  σ4)) else (kc  σ)))
def m_X12_nextToken_197 (kc : fm_M → Option (Unit × fm_M)) : Nat → fm_M → Option (Unit × fm_M)
  | 0, _ => none
  | n + 1, σ => if (σ.1 96 8) ≤ (σ.1 96 11) then (kc  σ) else (fm_g (fm_in1 (σ.1 96 11) 120) (fm_b (m_X12_isDigit (σ.1 102 (σ.1 96 11).toNatClampNeg) σ) fun r26 σ27 => (if r26 = 0 then (kc  σ27) else (fm_j (fun (v0_J29 : Int64) (σ_J29 : fm_M) => fm_let (fm_sL σ_J29 96 12 v0_J29) fun σ30 => (fm_let (fm_sI σ30 96 11 ((σ30.1 96 11) + (1 : Int32))) fun σ32 => (m_X12_nextToken_197 kc n  σ32))) (fun J29 => if (lg_cmp (σ27.2 96 12) (999 : Int64)) ≤ 0 then (fm_g (fm_in1 (σ27.1 96 11) 120) (J29 ((((σ27.2 96 12) * (10 : Int64)) + ((σ27.1 102 (σ27.1 96 11).toNatClampNeg).toInt64)) - (48 : Int64)) σ27)) else (J29 (σ27.2 96 12) σ27))))))
def m_X12_nextToken_98 (kc : fm_M → Option (Unit × fm_M)) : Nat → fm_M → Option (Unit × fm_M)
  | 0, _ => none
  | n + 1, σ => if (σ.1 96 8) ≤ (σ.1 96 11) then (kc  σ) else (fm_g (fm_in1 (σ.1 96 11) 120) (fm_b (m_X12_isLetter (σ.1 102 (σ.1 96 11).toNatClampNeg) σ) fun r42 σ43 => (if r42 = 0 then (kc  σ43) else (fm_j (fun (v0_J45 : Int64) (σ_J45 : fm_M) => fm_let (fm_sL σ_J45 96 12 v0_J45) fun σ46 => (fm_let (fm_sI σ46 96 11 ((σ46.1 96 11) + (1 : Int32))) fun σ48 => (m_X12_nextToken_98 kc n  σ48))) (fun J45 => if (lg_cmp (σ43.2 96 12) (9999999999999 : Int64)) ≤ 0 then (fm_g (fm_in1 (σ43.1 96 11) 120) (J45 ((((σ43.2 96 12) * (27 : Int64)) + ((σ43.1 102 (σ43.1 96 11).toNatClampNeg).toInt64)) - (96 : Int64)) σ43)) else (J45 (σ43.2 96 12) σ43))))))
def m_X12_nextToken  (σ : fm_M) : Option (Unit × fm_M) := fm_let (fm_sI σ 96 10 (σ.1 96 11)) fun σ1 => (m_X12_nextToken_8 (fun  (σ_y6 : fm_M) => fm_let (fm_sI σ_y6 96 11 (σ_y6.1 96 10)) fun σ7 => (fm_let (fm_sL σ7 96 12 (0 : Int64)) fun σ9 => (if (σ9.1 96 10) = (σ9.1 96 8) then (fm_let (fm_sI σ9 96 9 (0 : Int32)) fun σ52 => (some ((), σ52))) else (fm_g (fm_in1 (σ9.1 96 10) 120) (fm_b (m_X12_isLetter (σ9.1 102 (σ9.1 96 10).toNatClampNeg) σ9) fun r12 σ13 => (if r12 = 0 then (fm_g (fm_in1 (σ13.1 96 10) 120) (fm_b (m_X12_isDigit (σ13.1 102 (σ13.1 96 10).toNatClampNeg) σ13) fun r16 σ17 => (if r16 = 0 then (fm_g (fm_in1 (σ17.1 96 10) 120) (fm_j (fun (v0_J20 : Int32) (σ_J20 : fm_M) => fm_let (fm_sI σ_J20 96 9 v0_J20) fun σ21 => (fm_let (fm_sI σ21 96 11 ((σ21.1 96 11) + (1 : Int32))) fun σ23 => (some ((), σ23)))) (fun J20 => if (σ17.1 102 (σ17.1 96 10).toNatClampNeg) = (59 : Int32) then (J20 (3 : Int32) σ17) else (J20 (4 : Int32) σ17)))) else (m_X12_nextToken_197 (fun  (σ_y35 : fm_M) => fm_j (fun (v0_J36 : Int32) (σ_J36 : fm_M) => fm_let (fm_sI σ_J36 96 9 v0_J36) fun σ37 => (some ((), σ37))) (fun J36 => if (lg_cmp (σ_y35.2 96 12) (999 : Int64)) ≤ 0 then (J36 (2 : Int32) σ_y35) else (J36 (4 : Int32) σ_y35))) fm_fu  σ17)))) else (fm_let (fm_sI σ13 96 9 (1 : Int32)) fun σ39 => (m_X12_nextToken_98 (fun  (σ_y51 : fm_M) => some ((), σ_y51)) fm_fu  σ39)))))))) fm_fu  σ1)
set_option maxHeartbeats 4000000 in
set_option maxRecDepth 100000 in
theorem w_X12_nextToken_8 {p : Program} {l : Launch} {e : Env} {s : State} {m : MethodId} {args : Array Value} {below : List Frame} {meth : Method} {c : Code} {G : fm_G} {o : Unit × fm_M} {kc : fm_M → Option (Unit × fm_M)} (hC : fm_C G p m c cX12_nextToken 1 s args RX12) (hr : meth.sig.returnType = none) (hlk : meth.locks = false) (hk : ∀  (σ : fm_M) (H : Heap) (locs : List Loc) (ls : Array Slot), fm_I G σ s H locs → lv_has ls 1 [(0, .ref (G.2.1 96))] → kc  σ = some o → W p l e { frames := 2, cells := 0, slots := 0, locals := 42 } s m args below meth c H locs 0 0 (MQ below (fm_Qv G o) args s 0 0 (fm_A G)) (F0 m 46 ls [])) (n : Nat) : ∀  (σ : fm_M) (H : Heap) (locs : List Loc) (ls : Array Slot), fm_I G σ s H locs → lv_has ls 1 [(0, .ref (G.2.1 96))] → m_X12_nextToken_8 kc n  σ = some o → W p l e { frames := 2, cells := 0, slots := 0, locals := 42 } s m args below meth c H locs 0 0 (MQ below (fm_Qv G o) args s 0 0 (fm_A G)) (F0 m 8 ls []) := by
  have hx := hC.1.1
  have hb := hC.1.2.1
  have hown := hC.1.2.2.2.1
  have hts := hC.1.2.2.2.2
  induction n with
  | zero =>
    intro  σ H locs ls hI hl hf
    cases hf
  | succ n ih =>
    intro  σ H locs ls hI hl hf
    rw [m_X12_nextToken_8] at hf
    refine lv_aload_n hx hb dX12_nextToken_8 rfl (lv_at hl 0 rfl) ?_
    refine fm_gi hC hI fd_X12_10 fc_96 q_808 dX12_nextToken_9 ?_
    refine lv_aload_n hx hb dX12_nextToken_12 rfl (lv_at hl 0 rfl) ?_
    refine fm_gi hC hI fd_X12_8 fc_96 q_806 dX12_nextToken_13 ?_
    refine lv_icmp_ge (tgt := 46) hx hb dX12_nextToken_16 (by decide) (fun hc => ?_) (fun hc => ?_)
    · have hf := fm_pT hf hc
      exact hk  σ _ _ _ hI (lv_sub hl [0] rfl) hf
    · have hf := fm_pF hf hc
      refine lv_aload_n hx hb dX12_nextToken_19 rfl (lv_at hl 0 rfl) ?_
      refine fm_gr hC hI fd_X12_7 fc_96 fr_96_7 q_805 dX12_nextToken_20 ?_
      refine lv_aload_n hx hb dX12_nextToken_23 rfl (lv_at hl 0 rfl) ?_
      refine fm_gi hC hI fd_X12_10 fc_96 q_808 dX12_nextToken_24 ?_
      obtain ⟨hg3, hf⟩ := fm_gE hf
      refine fm_iald hC hI fc_102 fl_102 hg3 dX12_nextToken_27 ?_
      refine lv_bipush (v := (32 : Int32)) hx hb dX12_nextToken_28 (by decide) ?_
      refine lv_icmp_ne (tgt := 46) hx hb dX12_nextToken_30 (by decide) (fun hc => ?_) (fun hc => ?_)
      · have hf := fm_pF hf hc
        exact hk  σ _ _ _ hI (lv_sub hl [0] rfl) hf
      · have hf := fm_pT hf hc
        refine lv_aload_n hx hb dX12_nextToken_33 rfl (lv_at hl 0 rfl) ?_
        refine lv_dup hx hb dX12_nextToken_34 rfl ?_
        refine fm_gi hC hI fd_X12_10 fc_96 q_808 dX12_nextToken_35 ?_
        refine lv_iconst (v := (1 : Int32)) hx hb dX12_nextToken_38 (by decide) ?_
        refine lv_iadd hx hb dX12_nextToken_39 ?_
        obtain ⟨σ4, e5, hf⟩ := fm_letE hf
        refine fm_pi hC hI fp_X12_10 fc_96 ⟨rfl, rfl⟩ e5 q_808 dX12_nextToken_40 (fun H locs hI => ?_)
        refine lv_goto (tgt := 8) hx hb dX12_nextToken_43 (by decide) ?_
        exact ih  σ4 _ _ _ hI (lv_sub hl [0] rfl) hf
set_option maxHeartbeats 4000000 in
set_option maxRecDepth 100000 in
theorem w_X12_nextToken_197 {p : Program} {l : Launch} {e : Env} {s : State} {m : MethodId} {args : Array Value} {below : List Frame} {meth : Method} {c : Code} {G : fm_G} {o : Unit × fm_M} {kc : fm_M → Option (Unit × fm_M)} (hC : fm_C G p m c cX12_nextToken 1 s args RX12) (hr : meth.sig.returnType = none) (hlk : meth.locks = false) (hk : ∀  (σ : fm_M) (H : Heap) (locs : List Loc) (ls : Array Slot), fm_I G σ s H locs → lv_has ls 1 [(0, .ref (G.2.1 96))] → kc  σ = some o → W p l e { frames := 2, cells := 0, slots := 0, locals := 42 } s m args below meth c H locs 0 0 (MQ below (fm_Qv G o) args s 0 0 (fm_A G)) (F0 m 281 ls [])) (n : Nat) : ∀  (σ : fm_M) (H : Heap) (locs : List Loc) (ls : Array Slot), fm_I G σ s H locs → lv_has ls 1 [(0, .ref (G.2.1 96))] → m_X12_nextToken_197 kc n  σ = some o → W p l e { frames := 2, cells := 0, slots := 0, locals := 42 } s m args below meth c H locs 0 0 (MQ below (fm_Qv G o) args s 0 0 (fm_A G)) (F0 m 197 ls []) := by
  have hx := hC.1.1
  have hb := hC.1.2.1
  have hown := hC.1.2.2.2.1
  have hts := hC.1.2.2.2.2
  induction n with
  | zero =>
    intro  σ H locs ls hI hl hf
    cases hf
  | succ n ih =>
    intro  σ H locs ls hI hl hf
    rw [m_X12_nextToken_197] at hf
    refine lv_aload_n hx hb dX12_nextToken_197 rfl (lv_at hl 0 rfl) ?_
    refine fm_gi hC hI fd_X12_11 fc_96 q_809 dX12_nextToken_198 ?_
    refine lv_aload_n hx hb dX12_nextToken_201 rfl (lv_at hl 0 rfl) ?_
    refine fm_gi hC hI fd_X12_8 fc_96 q_806 dX12_nextToken_202 ?_
    refine lv_icmp_ge (tgt := 281) hx hb dX12_nextToken_205 (by decide) (fun hc => ?_) (fun hc => ?_)
    · have hf := fm_pT hf hc
      exact hk  σ _ _ _ hI (lv_sub hl [0] rfl) hf
    · have hf := fm_pF hf hc
      refine lv_aload_n hx hb dX12_nextToken_208 rfl (lv_at hl 0 rfl) ?_
      refine fm_gr hC hI fd_X12_7 fc_96 fr_96_7 q_805 dX12_nextToken_209 ?_
      refine lv_aload_n hx hb dX12_nextToken_212 rfl (lv_at hl 0 rfl) ?_
      refine fm_gi hC hI fd_X12_11 fc_96 q_809 dX12_nextToken_213 ?_
      obtain ⟨hg25, hf⟩ := fm_gE hf
      refine fm_iald hC hI fc_102 fl_102 hg25 dX12_nextToken_216 ?_
      obtain ⟨r26, σ27, hq28, hf⟩ := fm_bE hf
      refine fm_ci hI (fm_runS (As := [.int (σ.1 102 (σ.1 96 11).toNatClampNeg)]) (rest := []) (rm := { frames := 1, cells := 0, slots := 0, locals := 22 }) hC hI (c_X12_isDigit hC.2.2.1 hq28) mS_X12_isDigit q_1130 ⟨rfl, rfl⟩ ⟨Nat.le_of_ble_eq_true rfl, Nat.le_of_ble_eq_true rfl⟩ rfl hl.1 rfl (Nat.le_of_ble_eq_true rfl) dX12_nextToken_217 ⟨Nat.zero_le _, Nat.zero_le _⟩) (fun H locs hI => ?_)
      refine lv_if_eq (tgt := 281) hx hb dX12_nextToken_220 (by decide) (fun hc => ?_) (fun hc => ?_)
      · have hf := fm_pT hf hc
        exact hk  σ27 _ _ _ hI (lv_sub hl [0] rfl) hf
      · have hf := fm_pF hf hc
        refine lv_aload_n hx hb dX12_nextToken_223 rfl (lv_at hl 0 rfl) ?_
        refine lv_aload_n hx hb dX12_nextToken_224 rfl (lv_at hl 0 rfl) ?_
        refine fm_gl hC hI fd_X12_12 fc_96 q_810 dX12_nextToken_225 ?_
        refine lv_ldc2 (v := (999 : Int64)) hx hb hown (hts _ q_1133) dX12_nextToken_228 ?_
        refine W.lcmp hx hb dX12_nextToken_231 ?_
        obtain ⟨J29, eJ29, hf⟩ := fm_jE hf
        have hJ29 : ∀ (v0_J29 : Int64) (σ_J29 : fm_M) (H : Heap) (locs : List Loc) (ls : Array Slot), fm_I G σ_J29 s H locs → lv_has ls 1 [(0, .ref (G.2.1 96))] → J29 v0_J29 σ_J29 = some o → W p l e { frames := 2, cells := 0, slots := 0, locals := 42 } s m args below meth c H locs 0 0 (MQ below (fm_Qv G o) args s 0 0 (fm_A G)) (F0 m 265 ls [.long v0_J29, .ref (G.2.1 96)]) := by
          intro v0_J29 σ_J29 H locs ls hI hl hf
          subst eJ29
          obtain ⟨σ30, e31, hf⟩ := fm_letE hf
          refine fm_pl hC hI fp_X12_12 fc_96 e31 q_810 dX12_nextToken_265 (fun H locs hI => ?_)
          refine lv_aload_n hx hb dX12_nextToken_268 rfl (lv_at hl 0 rfl) ?_
          refine lv_dup hx hb dX12_nextToken_269 rfl ?_
          refine fm_gi hC hI fd_X12_11 fc_96 q_809 dX12_nextToken_270 ?_
          refine lv_iconst (v := (1 : Int32)) hx hb dX12_nextToken_273 (by decide) ?_
          refine lv_iadd hx hb dX12_nextToken_274 ?_
          obtain ⟨σ32, e33, hf⟩ := fm_letE hf
          refine fm_pi hC hI fp_X12_11 fc_96 ⟨rfl, rfl⟩ e33 q_809 dX12_nextToken_275 (fun H locs hI => ?_)
          refine lv_goto (tgt := 197) hx hb dX12_nextToken_278 (by decide) ?_
          exact ih  σ32 _ _ _ hI (lv_sub hl [0] rfl) hf
        refine lv_if_le (tgt := 242) hx hb dX12_nextToken_232 (by decide) (fun hc => ?_) (fun hc => ?_)
        · have hf := fm_pT hf hc
          refine lv_aload_n hx hb dX12_nextToken_242 rfl (lv_at hl 0 rfl) ?_
          refine fm_gl hC hI fd_X12_12 fc_96 q_810 dX12_nextToken_243 ?_
          refine lv_ldc2 (v := (10 : Int64)) hx hb hown (hts _ q_1134) dX12_nextToken_246 ?_
          refine lv_lmul hx hb dX12_nextToken_249 ?_
          refine lv_aload_n hx hb dX12_nextToken_250 rfl (lv_at hl 0 rfl) ?_
          refine fm_gr hC hI fd_X12_7 fc_96 fr_96_7 q_805 dX12_nextToken_251 ?_
          refine lv_aload_n hx hb dX12_nextToken_254 rfl (lv_at hl 0 rfl) ?_
          refine fm_gi hC hI fd_X12_11 fc_96 q_809 dX12_nextToken_255 ?_
          obtain ⟨hg34, hf⟩ := fm_gE hf
          refine fm_iald hC hI fc_102 fl_102 hg34 dX12_nextToken_258 ?_
          refine lv_i2l (v := (σ27.1 102 (σ27.1 96 11).toNatClampNeg).toInt64) hx hb dX12_nextToken_259 rfl ?_
          refine lv_ladd hx hb dX12_nextToken_260 ?_
          refine lv_ldc2 (v := (48 : Int64)) hx hb hown (hts _ q_1135) dX12_nextToken_261 ?_
          refine lv_lsub hx hb dX12_nextToken_264 ?_
          exact hJ29 ((((σ27.2 96 12) * (10 : Int64)) + ((σ27.1 102 (σ27.1 96 11).toNatClampNeg).toInt64)) - (48 : Int64)) σ27 _ _ _ hI (lv_sub hl [0] rfl) hf
        · have hf := fm_pF hf hc
          refine lv_aload_n hx hb dX12_nextToken_235 rfl (lv_at hl 0 rfl) ?_
          refine fm_gl hC hI fd_X12_12 fc_96 q_810 dX12_nextToken_236 ?_
          refine lv_goto (tgt := 265) hx hb dX12_nextToken_239 (by decide) ?_
          exact hJ29 (σ27.2 96 12) σ27 _ _ _ hI (lv_sub hl [0] rfl) hf
set_option maxHeartbeats 4000000 in
set_option maxRecDepth 100000 in
theorem w_X12_nextToken_98 {p : Program} {l : Launch} {e : Env} {s : State} {m : MethodId} {args : Array Value} {below : List Frame} {meth : Method} {c : Code} {G : fm_G} {o : Unit × fm_M} {kc : fm_M → Option (Unit × fm_M)} (hC : fm_C G p m c cX12_nextToken 1 s args RX12) (hr : meth.sig.returnType = none) (hlk : meth.locks = false) (hk : ∀  (σ : fm_M) (H : Heap) (locs : List Loc) (ls : Array Slot), fm_I G σ s H locs → lv_has ls 1 [(0, .ref (G.2.1 96))] → kc  σ = some o → W p l e { frames := 2, cells := 0, slots := 0, locals := 42 } s m args below meth c H locs 0 0 (MQ below (fm_Qv G o) args s 0 0 (fm_A G)) (F0 m 337 ls [])) (n : Nat) : ∀  (σ : fm_M) (H : Heap) (locs : List Loc) (ls : Array Slot), fm_I G σ s H locs → lv_has ls 1 [(0, .ref (G.2.1 96))] → m_X12_nextToken_98 kc n  σ = some o → W p l e { frames := 2, cells := 0, slots := 0, locals := 42 } s m args below meth c H locs 0 0 (MQ below (fm_Qv G o) args s 0 0 (fm_A G)) (F0 m 98 ls []) := by
  have hx := hC.1.1
  have hb := hC.1.2.1
  have hown := hC.1.2.2.2.1
  have hts := hC.1.2.2.2.2
  induction n with
  | zero =>
    intro  σ H locs ls hI hl hf
    cases hf
  | succ n ih =>
    intro  σ H locs ls hI hl hf
    rw [m_X12_nextToken_98] at hf
    refine lv_aload_n hx hb dX12_nextToken_98 rfl (lv_at hl 0 rfl) ?_
    refine fm_gi hC hI fd_X12_11 fc_96 q_809 dX12_nextToken_99 ?_
    refine lv_aload_n hx hb dX12_nextToken_102 rfl (lv_at hl 0 rfl) ?_
    refine fm_gi hC hI fd_X12_8 fc_96 q_806 dX12_nextToken_103 ?_
    refine lv_icmp_ge (tgt := 337) hx hb dX12_nextToken_106 (by decide) (fun hc => ?_) (fun hc => ?_)
    · have hf := fm_pT hf hc
      exact hk  σ _ _ _ hI (lv_sub hl [0] rfl) hf
    · have hf := fm_pF hf hc
      refine lv_aload_n hx hb dX12_nextToken_109 rfl (lv_at hl 0 rfl) ?_
      refine fm_gr hC hI fd_X12_7 fc_96 fr_96_7 q_805 dX12_nextToken_110 ?_
      refine lv_aload_n hx hb dX12_nextToken_113 rfl (lv_at hl 0 rfl) ?_
      refine fm_gi hC hI fd_X12_11 fc_96 q_809 dX12_nextToken_114 ?_
      obtain ⟨hg41, hf⟩ := fm_gE hf
      refine fm_iald hC hI fc_102 fl_102 hg41 dX12_nextToken_117 ?_
      obtain ⟨r42, σ43, hq44, hf⟩ := fm_bE hf
      refine fm_ci hI (fm_runS (As := [.int (σ.1 102 (σ.1 96 11).toNatClampNeg)]) (rest := []) (rm := { frames := 1, cells := 0, slots := 0, locals := 22 }) hC hI (c_X12_isLetter hC.2.2.1 hq44) mS_X12_isLetter q_1124 ⟨rfl, rfl⟩ ⟨Nat.le_of_ble_eq_true rfl, Nat.le_of_ble_eq_true rfl⟩ rfl hl.1 rfl (Nat.le_of_ble_eq_true rfl) dX12_nextToken_118 ⟨Nat.zero_le _, Nat.zero_le _⟩) (fun H locs hI => ?_)
      refine lv_if_eq (tgt := 337) hx hb dX12_nextToken_121 (by decide) (fun hc => ?_) (fun hc => ?_)
      · have hf := fm_pT hf hc
        exact hk  σ43 _ _ _ hI (lv_sub hl [0] rfl) hf
      · have hf := fm_pF hf hc
        refine lv_aload_n hx hb dX12_nextToken_124 rfl (lv_at hl 0 rfl) ?_
        refine lv_aload_n hx hb dX12_nextToken_125 rfl (lv_at hl 0 rfl) ?_
        refine fm_gl hC hI fd_X12_12 fc_96 q_810 dX12_nextToken_126 ?_
        refine lv_ldc2 (v := (9999999999999 : Int64)) hx hb hown (hts _ q_1127) dX12_nextToken_129 ?_
        refine W.lcmp hx hb dX12_nextToken_132 ?_
        obtain ⟨J45, eJ45, hf⟩ := fm_jE hf
        have hJ45 : ∀ (v0_J45 : Int64) (σ_J45 : fm_M) (H : Heap) (locs : List Loc) (ls : Array Slot), fm_I G σ_J45 s H locs → lv_has ls 1 [(0, .ref (G.2.1 96))] → J45 v0_J45 σ_J45 = some o → W p l e { frames := 2, cells := 0, slots := 0, locals := 42 } s m args below meth c H locs 0 0 (MQ below (fm_Qv G o) args s 0 0 (fm_A G)) (F0 m 166 ls [.long v0_J45, .ref (G.2.1 96)]) := by
          intro v0_J45 σ_J45 H locs ls hI hl hf
          subst eJ45
          obtain ⟨σ46, e47, hf⟩ := fm_letE hf
          refine fm_pl hC hI fp_X12_12 fc_96 e47 q_810 dX12_nextToken_166 (fun H locs hI => ?_)
          refine lv_aload_n hx hb dX12_nextToken_169 rfl (lv_at hl 0 rfl) ?_
          refine lv_dup hx hb dX12_nextToken_170 rfl ?_
          refine fm_gi hC hI fd_X12_11 fc_96 q_809 dX12_nextToken_171 ?_
          refine lv_iconst (v := (1 : Int32)) hx hb dX12_nextToken_174 (by decide) ?_
          refine lv_iadd hx hb dX12_nextToken_175 ?_
          obtain ⟨σ48, e49, hf⟩ := fm_letE hf
          refine fm_pi hC hI fp_X12_11 fc_96 ⟨rfl, rfl⟩ e49 q_809 dX12_nextToken_176 (fun H locs hI => ?_)
          refine lv_goto (tgt := 98) hx hb dX12_nextToken_179 (by decide) ?_
          exact ih  σ48 _ _ _ hI (lv_sub hl [0] rfl) hf
        refine lv_if_le (tgt := 143) hx hb dX12_nextToken_133 (by decide) (fun hc => ?_) (fun hc => ?_)
        · have hf := fm_pT hf hc
          refine lv_aload_n hx hb dX12_nextToken_143 rfl (lv_at hl 0 rfl) ?_
          refine fm_gl hC hI fd_X12_12 fc_96 q_810 dX12_nextToken_144 ?_
          refine lv_ldc2 (v := (27 : Int64)) hx hb hown (hts _ q_1128) dX12_nextToken_147 ?_
          refine lv_lmul hx hb dX12_nextToken_150 ?_
          refine lv_aload_n hx hb dX12_nextToken_151 rfl (lv_at hl 0 rfl) ?_
          refine fm_gr hC hI fd_X12_7 fc_96 fr_96_7 q_805 dX12_nextToken_152 ?_
          refine lv_aload_n hx hb dX12_nextToken_155 rfl (lv_at hl 0 rfl) ?_
          refine fm_gi hC hI fd_X12_11 fc_96 q_809 dX12_nextToken_156 ?_
          obtain ⟨hg50, hf⟩ := fm_gE hf
          refine fm_iald hC hI fc_102 fl_102 hg50 dX12_nextToken_159 ?_
          refine lv_i2l (v := (σ43.1 102 (σ43.1 96 11).toNatClampNeg).toInt64) hx hb dX12_nextToken_160 rfl ?_
          refine lv_ladd hx hb dX12_nextToken_161 ?_
          refine lv_ldc2 (v := (96 : Int64)) hx hb hown (hts _ q_1129) dX12_nextToken_162 ?_
          refine lv_lsub hx hb dX12_nextToken_165 ?_
          exact hJ45 ((((σ43.2 96 12) * (27 : Int64)) + ((σ43.1 102 (σ43.1 96 11).toNatClampNeg).toInt64)) - (96 : Int64)) σ43 _ _ _ hI (lv_sub hl [0] rfl) hf
        · have hf := fm_pF hf hc
          refine lv_aload_n hx hb dX12_nextToken_136 rfl (lv_at hl 0 rfl) ?_
          refine fm_gl hC hI fd_X12_12 fc_96 q_810 dX12_nextToken_137 ?_
          refine lv_goto (tgt := 166) hx hb dX12_nextToken_140 (by decide) ?_
          exact hJ45 (σ43.2 96 12) σ43 _ _ _ hI (lv_sub hl [0] rfl) hf
set_option maxHeartbeats 4000000 in
set_option maxRecDepth 100000 in
theorem c_X12_nextToken {l : Launch} {G : fm_G} (hJ : fm_J G) {σ : fm_M} {o : Unit × fm_M}  (hf : m_X12_nextToken  σ = some o) : Met l yX12_nextToken (fm_w yX12_nextToken cX12_nextToken 1 none) { frames := 2, cells := 0, slots := 0, locals := 42 } (va_Pc [.ref (G.2.1 96)] (fm_st G σ)) (fm_Qv G o) 0 0 (fm_A G) := by
  refine fm_mth (own := RX12) hJ rfl (by decide +kernel) (Nat.le_of_ble_eq_true rfl) ?_
  intro p e s m below meth c ls hC hr hlk hI hl
  have hx := hC.1.1
  have hb := hC.1.2.1
  have hown := hC.1.2.2.2.1
  have hts := hC.1.2.2.2.2
  have hl : lv_has ls 1 [(0, .ref (G.2.1 96))] := hl
  rw [m_X12_nextToken] at hf
  refine lv_aload_n hx hb dX12_nextToken_0 rfl (lv_at hl 0 rfl) ?_
  refine lv_aload_n hx hb dX12_nextToken_1 rfl (lv_at hl 0 rfl) ?_
  refine fm_gi hC hI fd_X12_11 fc_96 q_809 dX12_nextToken_2 ?_
  obtain ⟨σ1, e2, hf⟩ := fm_letE hf
  refine fm_pi hC hI fp_X12_10 fc_96 ⟨rfl, rfl⟩ e2 q_808 dX12_nextToken_5 (fun H locs hI => ?_)
  refine w_X12_nextToken_8 hC hr hlk (fun  σ_y6 H locs ls hI hl hf => ?_) fm_fu  σ1 _ _ _ hI (lv_sub hl [0] rfl) hf
  refine lv_aload_n hx hb dX12_nextToken_46 rfl (lv_at hl 0 rfl) ?_
  refine lv_aload_n hx hb dX12_nextToken_47 rfl (lv_at hl 0 rfl) ?_
  refine fm_gi hC hI fd_X12_10 fc_96 q_808 dX12_nextToken_48 ?_
  obtain ⟨σ7, e8, hf⟩ := fm_letE hf
  refine fm_pi hC hI fp_X12_11 fc_96 ⟨rfl, rfl⟩ e8 q_809 dX12_nextToken_51 (fun H locs hI => ?_)
  refine lv_aload_n hx hb dX12_nextToken_54 rfl (lv_at hl 0 rfl) ?_
  refine lv_lconst (v := (0 : Int64)) hx hb dX12_nextToken_55 (by decide) ?_
  obtain ⟨σ9, e10, hf⟩ := fm_letE hf
  refine fm_pl hC hI fp_X12_12 fc_96 e10 q_810 dX12_nextToken_56 (fun H locs hI => ?_)
  refine lv_aload_n hx hb dX12_nextToken_59 rfl (lv_at hl 0 rfl) ?_
  refine fm_gi hC hI fd_X12_10 fc_96 q_808 dX12_nextToken_60 ?_
  refine lv_aload_n hx hb dX12_nextToken_63 rfl (lv_at hl 0 rfl) ?_
  refine fm_gi hC hI fd_X12_8 fc_96 q_806 dX12_nextToken_64 ?_
  refine lv_icmp_ne (tgt := 78) hx hb dX12_nextToken_67 (by decide) (fun hc => ?_) (fun hc => ?_)
  · have hf := fm_pF hf hc
    refine lv_aload_n hx hb dX12_nextToken_78 rfl (lv_at hl 0 rfl) ?_
    refine fm_gr hC hI fd_X12_7 fc_96 fr_96_7 q_805 dX12_nextToken_79 ?_
    refine lv_aload_n hx hb dX12_nextToken_82 rfl (lv_at hl 0 rfl) ?_
    refine fm_gi hC hI fd_X12_10 fc_96 q_808 dX12_nextToken_83 ?_
    obtain ⟨hg11, hf⟩ := fm_gE hf
    refine fm_iald hC hI fc_102 fl_102 hg11 dX12_nextToken_86 ?_
    obtain ⟨r12, σ13, hq14, hf⟩ := fm_bE hf
    refine fm_ci hI (fm_runS (As := [.int (σ9.1 102 (σ9.1 96 10).toNatClampNeg)]) (rest := []) (rm := { frames := 1, cells := 0, slots := 0, locals := 22 }) hC hI (c_X12_isLetter hC.2.2.1 hq14) mS_X12_isLetter q_1124 ⟨rfl, rfl⟩ ⟨Nat.le_of_ble_eq_true rfl, Nat.le_of_ble_eq_true rfl⟩ rfl hl.1 rfl (Nat.le_of_ble_eq_true rfl) dX12_nextToken_87 ⟨Nat.zero_le _, Nat.zero_le _⟩) (fun H locs hI => ?_)
    refine lv_if_eq (tgt := 182) hx hb dX12_nextToken_90 (by decide) (fun hc => ?_) (fun hc => ?_)
    · have hf := fm_pT hf hc
      refine lv_aload_n hx hb dX12_nextToken_182 rfl (lv_at hl 0 rfl) ?_
      refine fm_gr hC hI fd_X12_7 fc_96 fr_96_7 q_805 dX12_nextToken_183 ?_
      refine lv_aload_n hx hb dX12_nextToken_186 rfl (lv_at hl 0 rfl) ?_
      refine fm_gi hC hI fd_X12_10 fc_96 q_808 dX12_nextToken_187 ?_
      obtain ⟨hg15, hf⟩ := fm_gE hf
      refine fm_iald hC hI fc_102 fl_102 hg15 dX12_nextToken_190 ?_
      obtain ⟨r16, σ17, hq18, hf⟩ := fm_bE hf
      refine fm_ci hI (fm_runS (As := [.int (σ13.1 102 (σ13.1 96 10).toNatClampNeg)]) (rest := []) (rm := { frames := 1, cells := 0, slots := 0, locals := 22 }) hC hI (c_X12_isDigit hC.2.2.1 hq18) mS_X12_isDigit q_1130 ⟨rfl, rfl⟩ ⟨Nat.le_of_ble_eq_true rfl, Nat.le_of_ble_eq_true rfl⟩ rfl hl.1 rfl (Nat.le_of_ble_eq_true rfl) dX12_nextToken_191 ⟨Nat.zero_le _, Nat.zero_le _⟩) (fun H locs hI => ?_)
      refine lv_if_eq (tgt := 304) hx hb dX12_nextToken_194 (by decide) (fun hc => ?_) (fun hc => ?_)
      · have hf := fm_pT hf hc
        refine lv_aload_n hx hb dX12_nextToken_304 rfl (lv_at hl 0 rfl) ?_
        refine lv_aload_n hx hb dX12_nextToken_305 rfl (lv_at hl 0 rfl) ?_
        refine fm_gr hC hI fd_X12_7 fc_96 fr_96_7 q_805 dX12_nextToken_306 ?_
        refine lv_aload_n hx hb dX12_nextToken_309 rfl (lv_at hl 0 rfl) ?_
        refine fm_gi hC hI fd_X12_10 fc_96 q_808 dX12_nextToken_310 ?_
        obtain ⟨hg19, hf⟩ := fm_gE hf
        refine fm_iald hC hI fc_102 fl_102 hg19 dX12_nextToken_313 ?_
        refine lv_bipush (v := (59 : Int32)) hx hb dX12_nextToken_314 (by decide) ?_
        obtain ⟨J20, eJ20, hf⟩ := fm_jE hf
        have hJ20 : ∀ (v0_J20 : Int32) (σ_J20 : fm_M) (H : Heap) (locs : List Loc) (ls : Array Slot), fm_I G σ_J20 s H locs → lv_has ls 1 [(0, .ref (G.2.1 96))] → J20 v0_J20 σ_J20 = some o → W p l e { frames := 2, cells := 0, slots := 0, locals := 42 } s m ([.ref (G.2.1 96)] : List Value).toArray below meth c H locs 0 0 (MQ below (fm_Qv G o) ([.ref (G.2.1 96)] : List Value).toArray s 0 0 (fm_A G)) (F0 m 324 ls [.int v0_J20, .ref (G.2.1 96)]) := by
          intro v0_J20 σ_J20 H locs ls hI hl hf
          subst eJ20
          obtain ⟨σ21, e22, hf⟩ := fm_letE hf
          refine fm_pi hC hI fp_X12_9 fc_96 ⟨rfl, rfl⟩ e22 q_807 dX12_nextToken_324 (fun H locs hI => ?_)
          refine lv_aload_n hx hb dX12_nextToken_327 rfl (lv_at hl 0 rfl) ?_
          refine lv_dup hx hb dX12_nextToken_328 rfl ?_
          refine fm_gi hC hI fd_X12_11 fc_96 q_809 dX12_nextToken_329 ?_
          refine lv_iconst (v := (1 : Int32)) hx hb dX12_nextToken_332 (by decide) ?_
          refine lv_iadd hx hb dX12_nextToken_333 ?_
          obtain ⟨σ23, e24, hf⟩ := fm_letE hf
          refine fm_pi hC hI fp_X12_11 fc_96 ⟨rfl, rfl⟩ e24 q_809 dX12_nextToken_334 (fun H locs hI => ?_)
          exact fm_rv hC hI hr hlk hf dX12_nextToken_337
        refine lv_icmp_ne (tgt := 323) hx hb dX12_nextToken_316 (by decide) (fun hc => ?_) (fun hc => ?_)
        · have hf := fm_pF hf hc
          refine lv_iconst (v := (4 : Int32)) hx hb dX12_nextToken_323 (by decide) ?_
          exact hJ20 (4 : Int32) σ17 _ _ _ hI (lv_sub hl [0] rfl) hf
        · have hf := fm_pT hf hc
          refine lv_iconst (v := (3 : Int32)) hx hb dX12_nextToken_319 (by decide) ?_
          refine lv_goto (tgt := 324) hx hb dX12_nextToken_320 (by decide) ?_
          exact hJ20 (3 : Int32) σ17 _ _ _ hI (lv_sub hl [0] rfl) hf
      · have hf := fm_pF hf hc
        refine w_X12_nextToken_197 hC hr hlk (fun  σ_y35 H locs ls hI hl hf => ?_) fm_fu  σ17 _ _ _ hI (lv_sub hl [0] rfl) hf
        refine lv_aload_n hx hb dX12_nextToken_281 rfl (lv_at hl 0 rfl) ?_
        refine lv_aload_n hx hb dX12_nextToken_282 rfl (lv_at hl 0 rfl) ?_
        refine fm_gl hC hI fd_X12_12 fc_96 q_810 dX12_nextToken_283 ?_
        refine lv_ldc2 (v := (999 : Int64)) hx hb hown (hts _ q_1133) dX12_nextToken_286 ?_
        refine W.lcmp hx hb dX12_nextToken_289 ?_
        obtain ⟨J36, eJ36, hf⟩ := fm_jE hf
        have hJ36 : ∀ (v0_J36 : Int32) (σ_J36 : fm_M) (H : Heap) (locs : List Loc) (ls : Array Slot), fm_I G σ_J36 s H locs → lv_has ls 1 [] → J36 v0_J36 σ_J36 = some o → W p l e { frames := 2, cells := 0, slots := 0, locals := 42 } s m ([.ref (G.2.1 96)] : List Value).toArray below meth c H locs 0 0 (MQ below (fm_Qv G o) ([.ref (G.2.1 96)] : List Value).toArray s 0 0 (fm_A G)) (F0 m 298 ls [.int v0_J36, .ref (G.2.1 96)]) := by
          intro v0_J36 σ_J36 H locs ls hI hl hf
          subst eJ36
          obtain ⟨σ37, e38, hf⟩ := fm_letE hf
          refine fm_pi hC hI fp_X12_9 fc_96 ⟨rfl, rfl⟩ e38 q_807 dX12_nextToken_298 (fun H locs hI => ?_)
          refine lv_goto (tgt := 337) hx hb dX12_nextToken_301 (by decide) ?_
          exact fm_rv hC hI hr hlk hf dX12_nextToken_337
        refine lv_if_le (tgt := 297) hx hb dX12_nextToken_290 (by decide) (fun hc => ?_) (fun hc => ?_)
        · have hf := fm_pT hf hc
          refine lv_iconst (v := (2 : Int32)) hx hb dX12_nextToken_297 (by decide) ?_
          exact hJ36 (2 : Int32) σ_y35 _ _ _ hI (lv_sub hl [] rfl) hf
        · have hf := fm_pF hf hc
          refine lv_iconst (v := (4 : Int32)) hx hb dX12_nextToken_293 (by decide) ?_
          refine lv_goto (tgt := 298) hx hb dX12_nextToken_294 (by decide) ?_
          exact hJ36 (4 : Int32) σ_y35 _ _ _ hI (lv_sub hl [] rfl) hf
    · have hf := fm_pF hf hc
      refine lv_aload_n hx hb dX12_nextToken_93 rfl (lv_at hl 0 rfl) ?_
      refine lv_iconst (v := (1 : Int32)) hx hb dX12_nextToken_94 (by decide) ?_
      obtain ⟨σ39, e40, hf⟩ := fm_letE hf
      refine fm_pi hC hI fp_X12_9 fc_96 ⟨rfl, rfl⟩ e40 q_807 dX12_nextToken_95 (fun H locs hI => ?_)
      refine w_X12_nextToken_98 hC hr hlk (fun  σ_y51 H locs ls hI hl hf => ?_) fm_fu  σ39 _ _ _ hI (lv_sub hl [0] rfl) hf
      exact fm_rv hC hI hr hlk hf dX12_nextToken_337
  · have hf := fm_pT hf hc
    refine lv_aload_n hx hb dX12_nextToken_70 rfl (lv_at hl 0 rfl) ?_
    refine lv_iconst (v := (0 : Int32)) hx hb dX12_nextToken_71 (by decide) ?_
    obtain ⟨σ52, e53, hf⟩ := fm_letE hf
    refine fm_pi hC hI fp_X12_9 fc_96 ⟨rfl, rfl⟩ e53 q_807 dX12_nextToken_72 (fun H locs hI => ?_)
    refine lv_goto (tgt := 337) hx hb dX12_nextToken_75 (by decide) ?_
    exact fm_rv hC hI hr hlk hf dX12_nextToken_337
def m_X12_wordOf_27 (kc : Nat → Int32 → Int32 → Int64 → Int32 → fm_M → Option (Int32 × fm_M)) : Nat → Nat → Int32 → Int32 → Int64 → Int32 → fm_M → Option (Int32 × fm_M)
  | 0, _, _, _, _, _, _ => none
  | n + 1, z1, z2, z3, z4, z6, σ => if (8 : Int32) ≤ z6 then (kc z1 z2 z3 z4 z6 σ) else (fm_g (fm_in1 (((8 : Int32) * z3) + z6) (fm_ln z1)) (if (σ.1 z1 (((8 : Int32) * z3) + z6).toNatClampNeg) = (32 : Int32) then (m_X12_wordOf_27 kc n z1 z2 z3 z4 (z6 + (1 : Int32)) σ) else (fm_g (fm_in1 (((8 : Int32) * z3) + z6) (fm_ln z1)) (m_X12_wordOf_27 kc n z1 z2 z3 (((z4 * (27 : Int64)) + ((σ.1 z1 (((8 : Int32) * z3) + z6).toNatClampNeg).toInt64)) - (96 : Int64)) (z6 + (1 : Int32)) σ))))
def m_X12_wordOf_4 (kc : Nat → Int32 → Int32 → fm_M → Option (Int32 × fm_M)) : Nat → Nat → Int32 → Int32 → fm_M → Option (Int32 × fm_M)
  | 0, _, _, _, _ => none
  | n + 1, z1, z2, z3, σ => if ((Int32.ofNat (fm_ln z1)) / (8 : Int32)) ≤ z3 then (kc z1 z2 z3 σ) else (if (σ.1 96 9) = (1 : Int32) then (m_X12_wordOf_27 (fun (x1_y3 : Nat) (x2_y3 : Int32) (x3_y3 : Int32) (x4_y3 : Int64) (x6_y3 : Int32) (σ_y3 : fm_M) => if (lg_cmp x4_y3 (σ_y3.2 96 12)) = 0 then (m_X12_wordOf_4 kc n x1_y3 x3_y3 (x3_y3 + (1 : Int32)) σ_y3) else (m_X12_wordOf_4 kc n x1_y3 x2_y3 (x3_y3 + (1 : Int32)) σ_y3)) fm_fu z1 z2 z3 (0 : Int64) (0 : Int32) σ) else (kc z1 z2 z3 σ))
def m_X12_wordOf (a1 : Nat) (σ : fm_M) : Option (Int32 × fm_M) := m_X12_wordOf_4 (fun (x1_y4 : Nat) (x2_y4 : Int32) (x3_y4 : Int32) (σ_y4 : fm_M) => some (x2_y4, σ_y4)) fm_fu a1 (-1 : Int32) (0 : Int32) σ
set_option maxHeartbeats 4000000 in
set_option maxRecDepth 100000 in
theorem w_X12_wordOf_27 {p : Program} {l : Launch} {e : Env} {s : State} {m : MethodId} {args : Array Value} {below : List Frame} {meth : Method} {c : Code} {G : fm_G} {o : Int32 × fm_M} {kc : Nat → Int32 → Int32 → Int64 → Int32 → fm_M → Option (Int32 × fm_M)} (hC : fm_C G p m c cX12_wordOf 7 s args RX12) (hr : meth.sig.returnType = (some .int)) (hlk : meth.locks = false) (hk : ∀ (z1 : Nat) (z2 : Int32) (z3 : Int32) (z4 : Int64) (z6 : Int32) (σ : fm_M) (H : Heap) (locs : List Loc) (ls : Array Slot), fm_ct z1 = 13 → fm_I G σ s H locs → lv_has ls 7 [(0, .ref (G.2.1 96)), (1, .ref (G.2.1 z1)), (2, .int z2), (3, .int z3), (4, .long z4), (6, .int z6)] → kc z1 z2 z3 z4 z6 σ = some o → W p l e { frames := 0, cells := 0, slots := 0, locals := 0 } s m args below meth c H locs 0 0 (MQ below (fm_Qi G o) args s 0 0 (fm_A G)) (F0 m 82 ls [])) (n : Nat) : ∀ (z1 : Nat) (z2 : Int32) (z3 : Int32) (z4 : Int64) (z6 : Int32) (σ : fm_M) (H : Heap) (locs : List Loc) (ls : Array Slot), fm_ct z1 = 13 → fm_I G σ s H locs → lv_has ls 7 [(0, .ref (G.2.1 96)), (1, .ref (G.2.1 z1)), (2, .int z2), (3, .int z3), (4, .long z4), (6, .int z6)] → m_X12_wordOf_27 kc n z1 z2 z3 z4 z6 σ = some o → W p l e { frames := 0, cells := 0, slots := 0, locals := 0 } s m args below meth c H locs 0 0 (MQ below (fm_Qi G o) args s 0 0 (fm_A G)) (F0 m 27 ls []) := by
  have hx := hC.1.1
  have hb := hC.1.2.1
  have hown := hC.1.2.2.2.1
  have hts := hC.1.2.2.2.2
  induction n with
  | zero =>
    intro z1 z2 z3 z4 z6 σ H locs ls hz1 hI hl hf
    cases hf
  | succ n ih =>
    intro z1 z2 z3 z4 z6 σ H locs ls hz1 hI hl hf
    rw [m_X12_wordOf_27] at hf
    refine lv_iload hx hb dX12_wordOf_27 (lv_at hl 5 rfl) ?_
    refine lv_bipush (v := (8 : Int32)) hx hb dX12_wordOf_29 (by decide) ?_
    refine lv_icmp_ge (tgt := 82) hx hb dX12_wordOf_31 (by decide) (fun hc => ?_) (fun hc => ?_)
    · have hf := fm_pT hf hc
      exact hk z1 z2 z3 z4 z6 σ _ _ _ hz1 hI (lv_sub hl [0, 1, 2, 3, 4, 5] rfl) hf
    · have hf := fm_pF hf hc
      refine lv_aload_n hx hb dX12_wordOf_34 rfl (lv_at hl 1 rfl) ?_
      refine lv_bipush (v := (8 : Int32)) hx hb dX12_wordOf_35 (by decide) ?_
      refine lv_iload_n hx hb dX12_wordOf_37 rfl (lv_at hl 3 rfl) ?_
      refine lv_imul hx hb dX12_wordOf_38 ?_
      refine lv_iload hx hb dX12_wordOf_39 (lv_at hl 5 rfl) ?_
      refine lv_iadd hx hb dX12_wordOf_41 ?_
      obtain ⟨hg1, hf⟩ := fm_gE hf
      refine fm_cald hC hI hz1 rfl hg1 dX12_wordOf_42 ?_
      refine lv_bipush (v := (32 : Int32)) hx hb dX12_wordOf_43 (by decide) ?_
      refine lv_icmp_ne (tgt := 53) hx hb dX12_wordOf_45 (by decide) (fun hc => ?_) (fun hc => ?_)
      · have hf := fm_pF hf hc
        refine lv_lload hx hb dX12_wordOf_53 (lv_at hl 4 rfl) ?_
        refine lv_ldc2 (v := (27 : Int64)) hx hb hown (hts _ q_1128) dX12_wordOf_55 ?_
        refine lv_lmul hx hb dX12_wordOf_58 ?_
        refine lv_aload_n hx hb dX12_wordOf_59 rfl (lv_at hl 1 rfl) ?_
        refine lv_bipush (v := (8 : Int32)) hx hb dX12_wordOf_60 (by decide) ?_
        refine lv_iload_n hx hb dX12_wordOf_62 rfl (lv_at hl 3 rfl) ?_
        refine lv_imul hx hb dX12_wordOf_63 ?_
        refine lv_iload hx hb dX12_wordOf_64 (lv_at hl 5 rfl) ?_
        refine lv_iadd hx hb dX12_wordOf_66 ?_
        obtain ⟨hg2, hf⟩ := fm_gE hf
        refine fm_cald hC hI hz1 rfl hg2 dX12_wordOf_67 ?_
        refine lv_i2l (v := (σ.1 z1 (((8 : Int32) * z3) + z6).toNatClampNeg).toInt64) hx hb dX12_wordOf_68 rfl ?_
        refine lv_ladd hx hb dX12_wordOf_69 ?_
        refine lv_ldc2 (v := (96 : Int64)) hx hb hown (hts _ q_1129) dX12_wordOf_70 ?_
        refine lv_lsub hx hb dX12_wordOf_73 ?_
        refine lv_lstore (lv' := [(4, .long (((z4 * (27 : Int64)) + ((σ.1 z1 (((8 : Int32) * z3) + z6).toNatClampNeg).toInt64)) - (96 : Int64))), (0, .ref (G.2.1 96)), (1, .ref (G.2.1 z1)), (2, .int z2), (3, .int z3), (6, .int z6)]) hx hb dX12_wordOf_74 hl (Nat.le_of_ble_eq_true rfl) rfl (fun ls hl => ?_)
        refine lv_iinc (v := (z6 + (1 : Int32))) (lv' := [(6, .int (z6 + (1 : Int32))), (4, .long (((z4 * (27 : Int64)) + ((σ.1 z1 (((8 : Int32) * z3) + z6).toNatClampNeg).toInt64)) - (96 : Int64))), (0, .ref (G.2.1 96)), (1, .ref (G.2.1 z1)), (2, .int z2), (3, .int z3)]) hx hb dX12_wordOf_76 hl (k := 5) rfl rfl (Nat.le_of_ble_eq_true rfl) rfl (fun ls hl => ?_)
        refine lv_goto (tgt := 27) hx hb dX12_wordOf_79 (by decide) ?_
        exact ih z1 z2 z3 (((z4 * (27 : Int64)) + ((σ.1 z1 (((8 : Int32) * z3) + z6).toNatClampNeg).toInt64)) - (96 : Int64)) (z6 + (1 : Int32)) σ _ _ _ hz1 hI (lv_sub hl [2, 3, 4, 5, 1, 0] rfl) hf
      · have hf := fm_pT hf hc
        refine lv_lload hx hb dX12_wordOf_48 (lv_at hl 4 rfl) ?_
        refine lv_goto (tgt := 74) hx hb dX12_wordOf_50 (by decide) ?_
        refine lv_lstore (lv' := [(4, .long z4), (0, .ref (G.2.1 96)), (1, .ref (G.2.1 z1)), (2, .int z2), (3, .int z3), (6, .int z6)]) hx hb dX12_wordOf_74 hl (Nat.le_of_ble_eq_true rfl) rfl (fun ls hl => ?_)
        refine lv_iinc (v := (z6 + (1 : Int32))) (lv' := [(6, .int (z6 + (1 : Int32))), (4, .long z4), (0, .ref (G.2.1 96)), (1, .ref (G.2.1 z1)), (2, .int z2), (3, .int z3)]) hx hb dX12_wordOf_76 hl (k := 5) rfl rfl (Nat.le_of_ble_eq_true rfl) rfl (fun ls hl => ?_)
        refine lv_goto (tgt := 27) hx hb dX12_wordOf_79 (by decide) ?_
        exact ih z1 z2 z3 z4 (z6 + (1 : Int32)) σ _ _ _ hz1 hI (lv_sub hl [2, 3, 4, 5, 1, 0] rfl) hf
set_option maxHeartbeats 4000000 in
set_option maxRecDepth 100000 in
theorem w_X12_wordOf_4 {p : Program} {l : Launch} {e : Env} {s : State} {m : MethodId} {args : Array Value} {below : List Frame} {meth : Method} {c : Code} {G : fm_G} {o : Int32 × fm_M} {kc : Nat → Int32 → Int32 → fm_M → Option (Int32 × fm_M)} (hC : fm_C G p m c cX12_wordOf 7 s args RX12) (hr : meth.sig.returnType = (some .int)) (hlk : meth.locks = false) (hk : ∀ (z1 : Nat) (z2 : Int32) (z3 : Int32) (σ : fm_M) (H : Heap) (locs : List Loc) (ls : Array Slot), fm_ct z1 = 13 → fm_I G σ s H locs → lv_has ls 7 [(0, .ref (G.2.1 96)), (1, .ref (G.2.1 z1)), (2, .int z2), (3, .int z3)] → kc z1 z2 z3 σ = some o → W p l e { frames := 0, cells := 0, slots := 0, locals := 0 } s m args below meth c H locs 0 0 (MQ below (fm_Qi G o) args s 0 0 (fm_A G)) (F0 m 104 ls [])) (n : Nat) : ∀ (z1 : Nat) (z2 : Int32) (z3 : Int32) (σ : fm_M) (H : Heap) (locs : List Loc) (ls : Array Slot), fm_ct z1 = 13 → fm_I G σ s H locs → lv_has ls 7 [(0, .ref (G.2.1 96)), (1, .ref (G.2.1 z1)), (2, .int z2), (3, .int z3)] → m_X12_wordOf_4 kc n z1 z2 z3 σ = some o → W p l e { frames := 0, cells := 0, slots := 0, locals := 0 } s m args below meth c H locs 0 0 (MQ below (fm_Qi G o) args s 0 0 (fm_A G)) (F0 m 4 ls []) := by
  have hx := hC.1.1
  have hb := hC.1.2.1
  have hown := hC.1.2.2.2.1
  have hts := hC.1.2.2.2.2
  induction n with
  | zero =>
    intro z1 z2 z3 σ H locs ls hz1 hI hl hf
    cases hf
  | succ n ih =>
    intro z1 z2 z3 σ H locs ls hz1 hI hl hf
    rw [m_X12_wordOf_4] at hf
    refine lv_iload_n hx hb dX12_wordOf_4 rfl (lv_at hl 3 rfl) ?_
    refine lv_aload_n hx hb dX12_wordOf_5 rfl (lv_at hl 1 rfl) ?_
    refine fm_alenI hC hI hz1 (by decide) (by decide) rfl rfl dX12_wordOf_6 ?_
    refine lv_bipush (v := (8 : Int32)) hx hb dX12_wordOf_7 (by decide) ?_
    refine lv_idiv hx hb dX12_wordOf_9 (by decide) ?_
    refine lv_icmp_ge (tgt := 104) hx hb dX12_wordOf_10 (by decide) (fun hc => ?_) (fun hc => ?_)
    · have hf := fm_pT hf hc
      exact hk z1 z2 z3 σ _ _ _ hz1 hI (lv_sub hl [0, 1, 2, 3] rfl) hf
    · have hf := fm_pF hf hc
      refine lv_aload_n hx hb dX12_wordOf_13 rfl (lv_at hl 0 rfl) ?_
      refine fm_gi hC hI fd_X12_9 fc_96 q_807 dX12_wordOf_14 ?_
      refine lv_iconst (v := (1 : Int32)) hx hb dX12_wordOf_17 (by decide) ?_
      refine lv_icmp_ne (tgt := 104) hx hb dX12_wordOf_18 (by decide) (fun hc => ?_) (fun hc => ?_)
      · have hf := fm_pF hf hc
        exact hk z1 z2 z3 σ _ _ _ hz1 hI (lv_sub hl [0, 1, 2, 3] rfl) hf
      · have hf := fm_pT hf hc
        refine lv_lconst (v := (0 : Int64)) hx hb dX12_wordOf_21 (by decide) ?_
        refine lv_lstore (lv' := [(4, .long (0 : Int64)), (0, .ref (G.2.1 96)), (1, .ref (G.2.1 z1)), (2, .int z2), (3, .int z3)]) hx hb dX12_wordOf_22 hl (Nat.le_of_ble_eq_true rfl) rfl (fun ls hl => ?_)
        refine lv_iconst (v := (0 : Int32)) hx hb dX12_wordOf_24 (by decide) ?_
        refine lv_istore (lv' := [(6, .int (0 : Int32)), (4, .long (0 : Int64)), (0, .ref (G.2.1 96)), (1, .ref (G.2.1 z1)), (2, .int z2), (3, .int z3)]) hx hb dX12_wordOf_25 hl (Nat.le_of_ble_eq_true rfl) rfl (fun ls hl => ?_)
        refine w_X12_wordOf_27 hC hr hlk (fun x1_y3 x2_y3 x3_y3 x4_y3 x6_y3 σ_y3 H locs ls hx1_y3 hI hl hf => ?_) fm_fu z1 z2 z3 (0 : Int64) (0 : Int32) σ _ _ _ hz1 hI (lv_sub hl [2, 3, 4, 5, 1, 0] rfl) hf
        refine lv_lload hx hb dX12_wordOf_82 (lv_at hl 4 rfl) ?_
        refine lv_aload_n hx hb dX12_wordOf_84 rfl (lv_at hl 0 rfl) ?_
        refine fm_gl hC hI fd_X12_12 fc_96 q_810 dX12_wordOf_85 ?_
        refine W.lcmp hx hb dX12_wordOf_88 ?_
        refine lv_if_ne (tgt := 96) hx hb dX12_wordOf_89 (by decide) (fun hc => ?_) (fun hc => ?_)
        · have hf := fm_pF hf hc
          refine lv_iload_n hx hb dX12_wordOf_96 rfl (lv_at hl 2 rfl) ?_
          refine lv_istore_n (lv' := [(2, .int x2_y3), (0, .ref (G.2.1 96)), (1, .ref (G.2.1 x1_y3)), (3, .int x3_y3), (4, .long x4_y3), (6, .int x6_y3)]) hx hb dX12_wordOf_97 rfl hl (Nat.le_of_ble_eq_true rfl) rfl (fun ls hl => ?_)
          refine lv_iinc (v := (x3_y3 + (1 : Int32))) (lv' := [(3, .int (x3_y3 + (1 : Int32))), (2, .int x2_y3), (0, .ref (G.2.1 96)), (1, .ref (G.2.1 x1_y3)), (4, .long x4_y3), (6, .int x6_y3)]) hx hb dX12_wordOf_98 hl (k := 3) rfl rfl (Nat.le_of_ble_eq_true rfl) rfl (fun ls hl => ?_)
          refine lv_goto (tgt := 4) hx hb dX12_wordOf_101 (by decide) ?_
          exact ih x1_y3 x2_y3 (x3_y3 + (1 : Int32)) σ_y3 _ _ _ hx1_y3 hI (lv_sub hl [2, 3, 1, 0] rfl) hf
        · have hf := fm_pT hf hc
          refine lv_iload_n hx hb dX12_wordOf_92 rfl (lv_at hl 3 rfl) ?_
          refine lv_goto (tgt := 97) hx hb dX12_wordOf_93 (by decide) ?_
          refine lv_istore_n (lv' := [(2, .int x3_y3), (0, .ref (G.2.1 96)), (1, .ref (G.2.1 x1_y3)), (3, .int x3_y3), (4, .long x4_y3), (6, .int x6_y3)]) hx hb dX12_wordOf_97 rfl hl (Nat.le_of_ble_eq_true rfl) rfl (fun ls hl => ?_)
          refine lv_iinc (v := (x3_y3 + (1 : Int32))) (lv' := [(3, .int (x3_y3 + (1 : Int32))), (2, .int x3_y3), (0, .ref (G.2.1 96)), (1, .ref (G.2.1 x1_y3)), (4, .long x4_y3), (6, .int x6_y3)]) hx hb dX12_wordOf_98 hl (k := 3) rfl rfl (Nat.le_of_ble_eq_true rfl) rfl (fun ls hl => ?_)
          refine lv_goto (tgt := 4) hx hb dX12_wordOf_101 (by decide) ?_
          exact ih x1_y3 x3_y3 (x3_y3 + (1 : Int32)) σ_y3 _ _ _ hx1_y3 hI (lv_sub hl [2, 3, 1, 0] rfl) hf
set_option maxHeartbeats 4000000 in
set_option maxRecDepth 100000 in
theorem c_X12_wordOf {l : Launch} {G : fm_G} (hJ : fm_J G) {a1 : Nat} {σ : fm_M} {o : Int32 × fm_M} (h1 : fm_ct a1 = 13) (hf : m_X12_wordOf a1 σ = some o) : Met l yX12_wordOf (fm_w yX12_wordOf cX12_wordOf 7 (some .int)) { frames := 0, cells := 0, slots := 0, locals := 0 } (va_Pc [.ref (G.2.1 96), .ref (G.2.1 a1)] (fm_st G σ)) (fm_Qi G o) 0 0 (fm_A G) := by
  refine fm_mth (own := RX12) hJ rfl (by decide +kernel) (Nat.le_of_ble_eq_true rfl) ?_
  intro p e s m below meth c ls hC hr hlk hI hl
  have hx := hC.1.1
  have hb := hC.1.2.1
  have hown := hC.1.2.2.2.1
  have hts := hC.1.2.2.2.2
  have hl : lv_has ls 7 [(0, .ref (G.2.1 96)), (1, .ref (G.2.1 a1))] := hl
  rw [m_X12_wordOf] at hf
  refine lv_iconst (v := (-1 : Int32)) hx hb dX12_wordOf_0 (by decide) ?_
  refine lv_istore_n (lv' := [(2, .int (-1 : Int32)), (0, .ref (G.2.1 96)), (1, .ref (G.2.1 a1))]) hx hb dX12_wordOf_1 rfl hl (Nat.le_of_ble_eq_true rfl) rfl (fun ls hl => ?_)
  refine lv_iconst (v := (0 : Int32)) hx hb dX12_wordOf_2 (by decide) ?_
  refine lv_istore_n (lv' := [(3, .int (0 : Int32)), (2, .int (-1 : Int32)), (0, .ref (G.2.1 96)), (1, .ref (G.2.1 a1))]) hx hb dX12_wordOf_3 rfl hl (Nat.le_of_ble_eq_true rfl) rfl (fun ls hl => ?_)
  refine w_X12_wordOf_4 hC hr hlk (fun x1_y4 x2_y4 x3_y4 σ_y4 H locs ls hx1_y4 hI hl hf => ?_) fm_fu a1 (-1 : Int32) (0 : Int32) σ _ _ _ h1 hI (lv_sub hl [2, 3, 1, 0] rfl) hf
  refine lv_iload_n hx hb dX12_wordOf_104 rfl (lv_at hl 2 rfl) ?_
  exact fm_ri hC hI hr hlk hf dX12_wordOf_105
