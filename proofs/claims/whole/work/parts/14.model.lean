def m_X12_undo_15 (kc : Int32 → fm_M → Option (Int32 × fm_M)) : Nat → Int32 → fm_M → Option (Int32 × fm_M)
  | 0, _, _ => none
  | n + 1, z1, σ => if (96 : Int32) ≤ z1 then (kc z1 σ) else (fm_g (fm_in1 z1 96) (fm_g (fm_in1 z1 96) (fm_let (fm_sI σ 97 z1.toNatClampNeg (σ.1 98 z1.toNatClampNeg)) fun σ3 => (m_X12_undo_15 kc n (z1 + (1 : Int32)) σ3))))
def m_X12_undo  (σ : fm_M) : Option (Int32 × fm_M) := if (σ.1 96 3) = 0 then (fm_b (m_X12_no (3 : Int32) σ) fun r7 σ8 => (some (r7, σ8))) else (m_X12_undo_15 (fun (x1_y5 : Int32) (σ_y5 : fm_M) => fm_g (fm_in1 (1 : Int32) 96) (some ((σ_y5.1 97 (1 : Int32).toNatClampNeg), σ_y5))) fm_fu (0 : Int32) σ)
set_option maxHeartbeats 4000000 in
set_option maxRecDepth 100000 in
theorem w_X12_undo_15 {p : Program} {l : Launch} {e : Env} {s : State} {m : MethodId} {args : Array Value} {below : List Frame} {meth : Method} {c : Code} {G : fm_G} {o : Int32 × fm_M} {kc : Int32 → fm_M → Option (Int32 × fm_M)} (hC : fm_C G p m c cX12_undo 2 s args RX12) (hr : meth.sig.returnType = (some .int)) (hlk : meth.locks = false) (hk : ∀ (z1 : Int32) (σ : fm_M) (H : Heap) (locs : List Loc) (ls : Array Slot), fm_I G σ s H locs → lv_has ls 2 [(0, .ref (G.2.1 96)), (1, .int z1)] → kc z1 σ = some o → W p l e { frames := 1, cells := 0, slots := 0, locals := 21 } s m args below meth c H locs 0 0 (MQ below (fm_Qi G o) args s 0 0 (fm_A G)) (F0 m 39 ls [])) (n : Nat) : ∀ (z1 : Int32) (σ : fm_M) (H : Heap) (locs : List Loc) (ls : Array Slot), fm_I G σ s H locs → lv_has ls 2 [(0, .ref (G.2.1 96)), (1, .int z1)] → m_X12_undo_15 kc n z1 σ = some o → W p l e { frames := 1, cells := 0, slots := 0, locals := 21 } s m args below meth c H locs 0 0 (MQ below (fm_Qi G o) args s 0 0 (fm_A G)) (F0 m 15 ls []) := by
  have hx := hC.1.1
  have hb := hC.1.2.1
  have hown := hC.1.2.2.2.1
  have hts := hC.1.2.2.2.2
  induction n with
  | zero =>
    intro z1 σ H locs ls hI hl hf
    cases hf
  | succ n ih =>
    intro z1 σ H locs ls hI hl hf
    rw [m_X12_undo_15] at hf
    refine lv_iload_n hx hb dX12_undo_15 rfl (lv_at hl 1 rfl) ?_
    refine lv_bipush (v := (96 : Int32)) hx hb dX12_undo_16 (by decide) ?_
    refine lv_icmp_ge (tgt := 39) hx hb dX12_undo_18 (by decide) (fun hc => ?_) (fun hc => ?_)
    · have hf := fm_pT hf hc
      exact hk z1 σ _ _ _ hI (lv_sub hl [0, 1] rfl) hf
    · have hf := fm_pF hf hc
      refine lv_aload_n hx hb dX12_undo_21 rfl (lv_at hl 0 rfl) ?_
      refine fm_gr hC hI fd_X12_0 fc_96 fr_96_0 q_798 dX12_undo_22 ?_
      refine lv_iload_n hx hb dX12_undo_25 rfl (lv_at hl 1 rfl) ?_
      refine lv_aload_n hx hb dX12_undo_26 rfl (lv_at hl 0 rfl) ?_
      refine fm_gr hC hI fd_X12_1 fc_96 fr_96_1 q_799 dX12_undo_27 ?_
      refine lv_iload_n hx hb dX12_undo_30 rfl (lv_at hl 1 rfl) ?_
      obtain ⟨hg1, hf⟩ := fm_gE hf
      refine fm_iald hC hI fc_98 fl_98 hg1 dX12_undo_31 ?_
      obtain ⟨hg2, hf⟩ := fm_gE hf
      obtain ⟨σ3, e4, hf⟩ := fm_letE hf
      refine fm_iast hC hI fc_97 fl_97 hg2 e4 dX12_undo_32 (fun H locs hI => ?_)
      refine lv_iinc (v := (z1 + (1 : Int32))) (lv' := [(1, .int (z1 + (1 : Int32))), (0, .ref (G.2.1 96))]) hx hb dX12_undo_33 hl (k := 1) rfl rfl (Nat.le_of_ble_eq_true rfl) rfl (fun ls hl => ?_)
      refine lv_goto (tgt := 15) hx hb dX12_undo_36 (by decide) ?_
      exact ih (z1 + (1 : Int32)) σ3 _ _ _ hI (lv_sub hl [1, 0] rfl) hf
set_option maxHeartbeats 4000000 in
set_option maxRecDepth 100000 in
theorem c_X12_undo {l : Launch} {G : fm_G} (hJ : fm_J G) {σ : fm_M} {o : Int32 × fm_M}  (hf : m_X12_undo  σ = some o) : Met l yX12_undo (fm_w yX12_undo cX12_undo 2 (some .int)) { frames := 1, cells := 0, slots := 0, locals := 21 } (va_Pc [.ref (G.2.1 96)] (fm_st G σ)) (fm_Qi G o) 0 0 (fm_A G) := by
  refine fm_mth (own := RX12) hJ rfl (by decide +kernel) (Nat.le_of_ble_eq_true rfl) ?_
  intro p e s m below meth c ls hC hr hlk hI hl
  have hx := hC.1.1
  have hb := hC.1.2.1
  have hown := hC.1.2.2.2.1
  have hts := hC.1.2.2.2.2
  have hl : lv_has ls 2 [(0, .ref (G.2.1 96))] := hl
  rw [m_X12_undo] at hf
  refine lv_aload_n hx hb dX12_undo_0 rfl (lv_at hl 0 rfl) ?_
  refine fm_gi hC hI fd_X12_3 fc_96 q_801 dX12_undo_1 ?_
  refine lv_if_ne (tgt := 13) hx hb dX12_undo_4 (by decide) (fun hc => ?_) (fun hc => ?_)
  · have hf := fm_pF hf hc
    refine lv_iconst (v := (0 : Int32)) hx hb dX12_undo_13 (by decide) ?_
    refine lv_istore_n (lv' := [(1, .int (0 : Int32)), (0, .ref (G.2.1 96))]) hx hb dX12_undo_14 rfl hl (Nat.le_of_ble_eq_true rfl) rfl (fun ls hl => ?_)
    refine w_X12_undo_15 hC hr hlk (fun x1_y5 σ_y5 H locs ls hI hl hf => ?_) fm_fu (0 : Int32) σ _ _ _ hI (lv_sub hl [1, 0] rfl) hf
    refine lv_aload_n hx hb dX12_undo_39 rfl (lv_at hl 0 rfl) ?_
    refine fm_gr hC hI fd_X12_0 fc_96 fr_96_0 q_798 dX12_undo_40 ?_
    refine lv_iconst (v := (1 : Int32)) hx hb dX12_undo_43 (by decide) ?_
    obtain ⟨hg6, hf⟩ := fm_gE hf
    refine fm_iald hC hI fc_97 fl_97 hg6 dX12_undo_44 ?_
    exact fm_ri hC hI hr hlk hf dX12_undo_45
  · have hf := fm_pT hf hc
    refine lv_aload_n hx hb dX12_undo_7 rfl (lv_at hl 0 rfl) ?_
    refine lv_iconst (v := (3 : Int32)) hx hb dX12_undo_8 (by decide) ?_
    obtain ⟨r7, σ8, hq9, hf⟩ := fm_bE hf
    refine fm_ci hI (fm_runV (As := [.int (3 : Int32)]) (rest := []) (rm := { frames := 0, cells := 0, slots := 0, locals := 0 }) hC hI (c_X12_no hC.2.2.1 hq9) mV_X12_no q_867 ⟨rfl, rfl⟩ ⟨Nat.le_of_ble_eq_true rfl, Nat.le_of_ble_eq_true rfl⟩ fc_96 rfl (by decide) rfl hl.1 rfl (Nat.le_of_ble_eq_true rfl) dX12_undo_9 ⟨Nat.zero_le _, Nat.zero_le _⟩) (fun H locs hI => ?_)
    exact fm_ri hC hI hr hlk hf dX12_undo_12
def m_X12_tear  (σ : fm_M) : Option (Int32 × fm_M) := fm_j (fun (v0_J1 : Int32) (σ_J1 : fm_M) => fm_let (fm_sI σ_J1 96 3 (0 : Int32)) fun σ2 => (some (v0_J1, σ2))) (fun J1 => if (σ.1 96 3) = 0 then (J1 (0 : Int32) σ) else (J1 (1 : Int32) σ))
set_option maxHeartbeats 4000000 in
set_option maxRecDepth 100000 in
theorem c_X12_tear {l : Launch} {G : fm_G} (hJ : fm_J G) {σ : fm_M} {o : Int32 × fm_M}  (hf : m_X12_tear  σ = some o) : Met l yX12_tear (fm_w yX12_tear cX12_tear 2 (some .int)) { frames := 0, cells := 0, slots := 0, locals := 0 } (va_Pc [.ref (G.2.1 96)] (fm_st G σ)) (fm_Qi G o) 0 0 (fm_A G) := by
  refine fm_mth (own := RX12) hJ rfl (by decide +kernel) (Nat.le_of_ble_eq_true rfl) ?_
  intro p e s m below meth c ls hC hr hlk hI hl
  have hx := hC.1.1
  have hb := hC.1.2.1
  have hown := hC.1.2.2.2.1
  have hts := hC.1.2.2.2.2
  have hl : lv_has ls 2 [(0, .ref (G.2.1 96))] := hl
  rw [m_X12_tear] at hf
  refine lv_aload_n hx hb dX12_tear_0 rfl (lv_at hl 0 rfl) ?_
  refine fm_gi hC hI fd_X12_3 fc_96 q_801 dX12_tear_1 ?_
  obtain ⟨J1, eJ1, hf⟩ := fm_jE hf
  have hJ1 : ∀ (v0_J1 : Int32) (σ_J1 : fm_M) (H : Heap) (locs : List Loc) (ls : Array Slot), fm_I G σ_J1 s H locs → lv_has ls 2 [(0, .ref (G.2.1 96))] → J1 v0_J1 σ_J1 = some o → W p l e { frames := 0, cells := 0, slots := 0, locals := 0 } s m ([.ref (G.2.1 96)] : List Value).toArray below meth c H locs 0 0 (MQ below (fm_Qi G o) ([.ref (G.2.1 96)] : List Value).toArray s 0 0 (fm_A G)) (F0 m 12 ls [.int v0_J1]) := by
    intro v0_J1 σ_J1 H locs ls hI hl hf
    subst eJ1
    refine lv_istore_n (lv' := [(1, .int v0_J1), (0, .ref (G.2.1 96))]) hx hb dX12_tear_12 rfl hl (Nat.le_of_ble_eq_true rfl) rfl (fun ls hl => ?_)
    refine lv_aload_n hx hb dX12_tear_13 rfl (lv_at hl 1 rfl) ?_
    refine lv_iconst (v := (0 : Int32)) hx hb dX12_tear_14 (by decide) ?_
    obtain ⟨σ2, e3, hf⟩ := fm_letE hf
    refine fm_pi hC hI fp_X12_3 fc_96 ⟨rfl, rfl⟩ e3 q_801 dX12_tear_15 (fun H locs hI => ?_)
    refine lv_iload_n hx hb dX12_tear_18 rfl (lv_at hl 0 rfl) ?_
    exact fm_ri hC hI hr hlk hf dX12_tear_19
  refine lv_if_eq (tgt := 11) hx hb dX12_tear_4 (by decide) (fun hc => ?_) (fun hc => ?_)
  · have hf := fm_pT hf hc
    refine lv_iconst (v := (0 : Int32)) hx hb dX12_tear_11 (by decide) ?_
    exact hJ1 (0 : Int32) σ _ _ _ hI (lv_sub hl [0] rfl) hf
  · have hf := fm_pF hf hc
    refine lv_iconst (v := (1 : Int32)) hx hb dX12_tear_7 (by decide) ?_
    refine lv_goto (tgt := 12) hx hb dX12_tear_8 (by decide) ?_
    exact hJ1 (1 : Int32) σ _ _ _ hI (lv_sub hl [0] rfl) hf
def m_X12_count (a1 : Int32) (σ : fm_M) : Option (Int32 × fm_M) := if a1 = (0 : Int32) then (fm_g (fm_in1 (1 : Int32) 96) (some ((σ.1 97 (1 : Int32).toNatClampNeg), σ))) else (if a1 = (1 : Int32) then (fm_g (fm_in1 (2 : Int32) 96) (some ((σ.1 97 (2 : Int32).toNatClampNeg), σ))) else (if a1 = (2 : Int32) then (some ((σ.1 96 8), σ)) else (if a1 = (3 : Int32) then (fm_b (m_X12_foundOnes  σ) fun r7 σ8 => (fm_b (m_X12_bits r7 σ8) fun r10 σ11 => (some (r10, σ11)))) else (fm_b (m_X12_no (0 : Int32) σ) fun r13 σ14 => (some (r13, σ14))))))
set_option maxHeartbeats 4000000 in
set_option maxRecDepth 100000 in
theorem c_X12_count {l : Launch} {G : fm_G} (hJ : fm_J G) {a1 : Int32} {σ : fm_M} {o : Int32 × fm_M}  (hf : m_X12_count a1 σ = some o) : Met l yX12_count (fm_w yX12_count cX12_count 2 (some .int)) { frames := 2, cells := 0, slots := 0, locals := 44 } (va_Pc [.ref (G.2.1 96), .int a1] (fm_st G σ)) (fm_Qi G o) 0 0 (fm_A G) := by
  refine fm_mth (own := RX12) hJ rfl (by decide +kernel) (Nat.le_of_ble_eq_true rfl) ?_
  intro p e s m below meth c ls hC hr hlk hI hl
  have hx := hC.1.1
  have hb := hC.1.2.1
  have hown := hC.1.2.2.2.1
  have hts := hC.1.2.2.2.2
  have hl : lv_has ls 2 [(0, .ref (G.2.1 96)), (1, .int a1)] := hl
  rw [m_X12_count] at hf
  refine lv_iload_n hx hb dX12_count_0 rfl (lv_at hl 1 rfl) ?_
  by_cases hc1 : a1 = (0 : Int32)
  · have hf := fm_pT hf hc1
    refine lv_tableIn (off := 31) (tgt := 32) hx hb dX12_count_1 (by rw [hc1]; decide) (by rw [hc1]; decide) (by rw [hc1]; decide) (by decide) ?_
    refine lv_aload_n hx hb dX12_count_32 rfl (lv_at hl 0 rfl) ?_
    refine fm_gr hC hI fd_X12_0 fc_96 fr_96_0 q_798 dX12_count_33 ?_
    refine lv_iconst (v := (1 : Int32)) hx hb dX12_count_36 (by decide) ?_
    obtain ⟨hg2, hf⟩ := fm_gE hf
    refine fm_iald hC hI fc_97 fl_97 hg2 dX12_count_37 ?_
    exact fm_ri hC hI hr hlk hf dX12_count_38
  · have hf := fm_pF hf hc1
    by_cases hc3 : a1 = (1 : Int32)
    · have hf := fm_pT hf hc3
      refine lv_tableIn (off := 38) (tgt := 39) hx hb dX12_count_1 (by rw [hc3]; decide) (by rw [hc3]; decide) (by rw [hc3]; decide) (by decide) ?_
      refine lv_aload_n hx hb dX12_count_39 rfl (lv_at hl 0 rfl) ?_
      refine fm_gr hC hI fd_X12_0 fc_96 fr_96_0 q_798 dX12_count_40 ?_
      refine lv_iconst (v := (2 : Int32)) hx hb dX12_count_43 (by decide) ?_
      obtain ⟨hg4, hf⟩ := fm_gE hf
      refine fm_iald hC hI fc_97 fl_97 hg4 dX12_count_44 ?_
      exact fm_ri hC hI hr hlk hf dX12_count_45
    · have hf := fm_pF hf hc3
      by_cases hc5 : a1 = (2 : Int32)
      · have hf := fm_pT hf hc5
        refine lv_tableIn (off := 45) (tgt := 46) hx hb dX12_count_1 (by rw [hc5]; decide) (by rw [hc5]; decide) (by rw [hc5]; decide) (by decide) ?_
        refine lv_aload_n hx hb dX12_count_46 rfl (lv_at hl 0 rfl) ?_
        refine fm_gi hC hI fd_X12_8 fc_96 q_806 dX12_count_47 ?_
        exact fm_ri hC hI hr hlk hf dX12_count_50
      · have hf := fm_pF hf hc5
        by_cases hc6 : a1 = (3 : Int32)
        · have hf := fm_pT hf hc6
          refine lv_tableIn (off := 50) (tgt := 51) hx hb dX12_count_1 (by rw [hc6]; decide) (by rw [hc6]; decide) (by rw [hc6]; decide) (by decide) ?_
          refine lv_aload_n hx hb dX12_count_51 rfl (lv_at hl 0 rfl) ?_
          obtain ⟨r7, σ8, hq9, hf⟩ := fm_bE hf
          refine fm_ci hI (fm_runV (As := []) (rest := []) (rm := { frames := 1, cells := 0, slots := 0, locals := 22 }) hC hI (c_X12_foundOnes hC.2.2.1 hq9) mV_X12_foundOnes q_1014 ⟨rfl, rfl⟩ ⟨Nat.le_of_ble_eq_true rfl, Nat.le_of_ble_eq_true rfl⟩ fc_96 rfl (by decide) rfl hl.1 rfl (Nat.le_of_ble_eq_true rfl) dX12_count_52 ⟨Nat.zero_le _, Nat.zero_le _⟩) (fun H locs hI => ?_)
          obtain ⟨r10, σ11, hq12, hf⟩ := fm_bE hf
          refine fm_ci hI (fm_runS (As := [.int r7]) (rest := []) (rm := { frames := 0, cells := 0, slots := 0, locals := 0 }) hC hI (c_X12_bits hC.2.2.1 hq12) mS_X12_bits q_1212 ⟨rfl, rfl⟩ ⟨Nat.le_of_ble_eq_true rfl, Nat.le_of_ble_eq_true rfl⟩ rfl hl.1 rfl (Nat.le_of_ble_eq_true rfl) dX12_count_55 ⟨Nat.zero_le _, Nat.zero_le _⟩) (fun H locs hI => ?_)
          exact fm_ri hC hI hr hlk hf dX12_count_58
        · have hf := fm_pF hf hc6
          have hsw : (a1 : Int32).toInt < 0 ∨ 3 < (a1 : Int32).toInt := by
            have t0 := fm_neI hc1
            rw [show ((0 : Int32)).toInt = 0 from by decide] at t0
            have t1 := fm_neI hc3
            rw [show ((1 : Int32)).toInt = 1 from by decide] at t1
            have t2 := fm_neI hc5
            rw [show ((2 : Int32)).toInt = 2 from by decide] at t2
            have t3 := fm_neI hc6
            rw [show ((3 : Int32)).toInt = 3 from by decide] at t3
            omega
          refine lv_tableOut (tgt := 59) hx hb dX12_count_1 hsw (by decide) ?_
          refine lv_aload_n hx hb dX12_count_59 rfl (lv_at hl 0 rfl) ?_
          refine lv_iconst (v := (0 : Int32)) hx hb dX12_count_60 (by decide) ?_
          obtain ⟨r13, σ14, hq15, hf⟩ := fm_bE hf
          refine fm_ci hI (fm_runV (As := [.int (0 : Int32)]) (rest := []) (rm := { frames := 0, cells := 0, slots := 0, locals := 0 }) hC hI (c_X12_no hC.2.2.1 hq15) mV_X12_no q_867 ⟨rfl, rfl⟩ ⟨Nat.le_of_ble_eq_true rfl, Nat.le_of_ble_eq_true rfl⟩ fc_96 rfl (by decide) rfl hl.1 rfl (Nat.le_of_ble_eq_true rfl) dX12_count_61 ⟨Nat.zero_le _, Nat.zero_le _⟩) (fun H locs hI => ?_)
          exact fm_ri hC hI hr hlk hf dX12_count_64
def m_X12_status_20 (kc : Int32 → Int32 → Int32 → fm_M → Option (Int32 × fm_M)) : Nat → Int32 → Int32 → Int32 → fm_M → Option (Int32 × fm_M)
  | 0, _, _, _, _ => none
  | n + 1, z1, z2, z3, σ => if (7 : Int32) ≤ z3 then (kc z1 z2 z3 σ) else (if z1 = (-1 : Int32) then (fm_g (fm_in1 z3 7) (m_X12_status_20 kc n z1 (z2 + (σ.1 100 z3.toNatClampNeg)) (z3 + (1 : Int32)) σ)) else (if z1 = z3 then (fm_g (fm_in1 z3 7) (m_X12_status_20 kc n z1 (z2 + (σ.1 100 z3.toNatClampNeg)) (z3 + (1 : Int32)) σ)) else (m_X12_status_20 kc n z1 (z2 + (0 : Int32)) (z3 + (1 : Int32)) σ)))
def m_X12_status (a1 : Int32) (σ : fm_M) : Option (Int32 × fm_M) := fm_b (m_X12_in1 a1 (-1 : Int32) (6 : Int32) σ) fun r1 σ2 => (if r1 = 0 then (fm_b (m_X12_no (0 : Int32) σ2) fun r7 σ8 => (some (r7, σ8))) else (m_X12_status_20 (fun (x1_y6 : Int32) (x2_y6 : Int32) (x3_y6 : Int32) (σ_y6 : fm_M) => some (x2_y6, σ_y6)) fm_fu a1 (0 : Int32) (0 : Int32) σ2))
set_option maxHeartbeats 4000000 in
set_option maxRecDepth 100000 in
theorem w_X12_status_20 {p : Program} {l : Launch} {e : Env} {s : State} {m : MethodId} {args : Array Value} {below : List Frame} {meth : Method} {c : Code} {G : fm_G} {o : Int32 × fm_M} {kc : Int32 → Int32 → Int32 → fm_M → Option (Int32 × fm_M)} (hC : fm_C G p m c cX12_status 4 s args RX12) (hr : meth.sig.returnType = (some .int)) (hlk : meth.locks = false) (hk : ∀ (z1 : Int32) (z2 : Int32) (z3 : Int32) (σ : fm_M) (H : Heap) (locs : List Loc) (ls : Array Slot), fm_I G σ s H locs → lv_has ls 4 [(0, .ref (G.2.1 96)), (1, .int z1), (2, .int z2), (3, .int z3)] → kc z1 z2 z3 σ = some o → W p l e { frames := 1, cells := 0, slots := 0, locals := 22 } s m args below meth c H locs 0 0 (MQ below (fm_Qi G o) args s 0 0 (fm_A G)) (F0 m 55 ls [])) (n : Nat) : ∀ (z1 : Int32) (z2 : Int32) (z3 : Int32) (σ : fm_M) (H : Heap) (locs : List Loc) (ls : Array Slot), fm_I G σ s H locs → lv_has ls 4 [(0, .ref (G.2.1 96)), (1, .int z1), (2, .int z2), (3, .int z3)] → m_X12_status_20 kc n z1 z2 z3 σ = some o → W p l e { frames := 1, cells := 0, slots := 0, locals := 22 } s m args below meth c H locs 0 0 (MQ below (fm_Qi G o) args s 0 0 (fm_A G)) (F0 m 20 ls []) := by
  have hx := hC.1.1
  have hb := hC.1.2.1
  have hown := hC.1.2.2.2.1
  have hts := hC.1.2.2.2.2
  induction n with
  | zero =>
    intro z1 z2 z3 σ H locs ls hI hl hf
    cases hf
  | succ n ih =>
    intro z1 z2 z3 σ H locs ls hI hl hf
    rw [m_X12_status_20] at hf
    refine lv_iload_n hx hb dX12_status_20 rfl (lv_at hl 3 rfl) ?_
    refine lv_bipush (v := (7 : Int32)) hx hb dX12_status_21 (by decide) ?_
    refine lv_icmp_ge (tgt := 55) hx hb dX12_status_23 (by decide) (fun hc => ?_) (fun hc => ?_)
    · have hf := fm_pT hf hc
      exact hk z1 z2 z3 σ _ _ _ hI (lv_sub hl [0, 1, 2, 3] rfl) hf
    · have hf := fm_pF hf hc
      refine lv_iload_n hx hb dX12_status_26 rfl (lv_at hl 2 rfl) ?_
      refine lv_iload_n hx hb dX12_status_27 rfl (lv_at hl 1 rfl) ?_
      refine lv_iconst (v := (-1 : Int32)) hx hb dX12_status_28 (by decide) ?_
      refine lv_icmp_eq (tgt := 37) hx hb dX12_status_29 (by decide) (fun hc => ?_) (fun hc => ?_)
      · have hf := fm_pT hf hc
        refine lv_aload_n hx hb dX12_status_37 rfl (lv_at hl 0 rfl) ?_
        refine fm_gr hC hI fd_X12_4 fc_96 fr_96_4 q_802 dX12_status_38 ?_
        refine lv_iload_n hx hb dX12_status_41 rfl (lv_at hl 3 rfl) ?_
        obtain ⟨hg4, hf⟩ := fm_gE hf
        refine fm_iald hC hI fc_100 fl_100 hg4 dX12_status_42 ?_
        refine lv_goto (tgt := 47) hx hb dX12_status_43 (by decide) ?_
        refine lv_iadd hx hb dX12_status_47 ?_
        refine lv_istore_n (lv' := [(2, .int (z2 + (σ.1 100 z3.toNatClampNeg))), (0, .ref (G.2.1 96)), (1, .int z1), (3, .int z3)]) hx hb dX12_status_48 rfl hl (Nat.le_of_ble_eq_true rfl) rfl (fun ls hl => ?_)
        refine lv_iinc (v := (z3 + (1 : Int32))) (lv' := [(3, .int (z3 + (1 : Int32))), (2, .int (z2 + (σ.1 100 z3.toNatClampNeg))), (0, .ref (G.2.1 96)), (1, .int z1)]) hx hb dX12_status_49 hl (k := 3) rfl rfl (Nat.le_of_ble_eq_true rfl) rfl (fun ls hl => ?_)
        refine lv_goto (tgt := 20) hx hb dX12_status_52 (by decide) ?_
        exact ih z1 (z2 + (σ.1 100 z3.toNatClampNeg)) (z3 + (1 : Int32)) σ _ _ _ hI (lv_sub hl [2, 3, 1, 0] rfl) hf
      · have hf := fm_pF hf hc
        refine lv_iload_n hx hb dX12_status_32 rfl (lv_at hl 1 rfl) ?_
        refine lv_iload_n hx hb dX12_status_33 rfl (lv_at hl 3 rfl) ?_
        refine lv_icmp_ne (tgt := 46) hx hb dX12_status_34 (by decide) (fun hc => ?_) (fun hc => ?_)
        · have hf := fm_pF hf hc
          refine lv_iconst (v := (0 : Int32)) hx hb dX12_status_46 (by decide) ?_
          refine lv_iadd hx hb dX12_status_47 ?_
          refine lv_istore_n (lv' := [(2, .int (z2 + (0 : Int32))), (0, .ref (G.2.1 96)), (1, .int z1), (3, .int z3)]) hx hb dX12_status_48 rfl hl (Nat.le_of_ble_eq_true rfl) rfl (fun ls hl => ?_)
          refine lv_iinc (v := (z3 + (1 : Int32))) (lv' := [(3, .int (z3 + (1 : Int32))), (2, .int (z2 + (0 : Int32))), (0, .ref (G.2.1 96)), (1, .int z1)]) hx hb dX12_status_49 hl (k := 3) rfl rfl (Nat.le_of_ble_eq_true rfl) rfl (fun ls hl => ?_)
          refine lv_goto (tgt := 20) hx hb dX12_status_52 (by decide) ?_
          exact ih z1 (z2 + (0 : Int32)) (z3 + (1 : Int32)) σ _ _ _ hI (lv_sub hl [2, 3, 1, 0] rfl) hf
        · have hf := fm_pT hf hc
          refine lv_aload_n hx hb dX12_status_37 rfl (lv_at hl 0 rfl) ?_
          refine fm_gr hC hI fd_X12_4 fc_96 fr_96_4 q_802 dX12_status_38 ?_
          refine lv_iload_n hx hb dX12_status_41 rfl (lv_at hl 3 rfl) ?_
          obtain ⟨hg5, hf⟩ := fm_gE hf
          refine fm_iald hC hI fc_100 fl_100 hg5 dX12_status_42 ?_
          refine lv_goto (tgt := 47) hx hb dX12_status_43 (by decide) ?_
          refine lv_iadd hx hb dX12_status_47 ?_
          refine lv_istore_n (lv' := [(2, .int (z2 + (σ.1 100 z3.toNatClampNeg))), (0, .ref (G.2.1 96)), (1, .int z1), (3, .int z3)]) hx hb dX12_status_48 rfl hl (Nat.le_of_ble_eq_true rfl) rfl (fun ls hl => ?_)
          refine lv_iinc (v := (z3 + (1 : Int32))) (lv' := [(3, .int (z3 + (1 : Int32))), (2, .int (z2 + (σ.1 100 z3.toNatClampNeg))), (0, .ref (G.2.1 96)), (1, .int z1)]) hx hb dX12_status_49 hl (k := 3) rfl rfl (Nat.le_of_ble_eq_true rfl) rfl (fun ls hl => ?_)
          refine lv_goto (tgt := 20) hx hb dX12_status_52 (by decide) ?_
          exact ih z1 (z2 + (σ.1 100 z3.toNatClampNeg)) (z3 + (1 : Int32)) σ _ _ _ hI (lv_sub hl [2, 3, 1, 0] rfl) hf
set_option maxHeartbeats 4000000 in
set_option maxRecDepth 100000 in
theorem c_X12_status {l : Launch} {G : fm_G} (hJ : fm_J G) {a1 : Int32} {σ : fm_M} {o : Int32 × fm_M}  (hf : m_X12_status a1 σ = some o) : Met l yX12_status (fm_w yX12_status cX12_status 4 (some .int)) { frames := 1, cells := 0, slots := 0, locals := 22 } (va_Pc [.ref (G.2.1 96), .int a1] (fm_st G σ)) (fm_Qi G o) 0 0 (fm_A G) := by
  refine fm_mth (own := RX12) hJ rfl (by decide +kernel) (Nat.le_of_ble_eq_true rfl) ?_
  intro p e s m below meth c ls hC hr hlk hI hl
  have hx := hC.1.1
  have hb := hC.1.2.1
  have hown := hC.1.2.2.2.1
  have hts := hC.1.2.2.2.2
  have hl : lv_has ls 4 [(0, .ref (G.2.1 96)), (1, .int a1)] := hl
  rw [m_X12_status] at hf
  refine lv_iload_n hx hb dX12_status_0 rfl (lv_at hl 1 rfl) ?_
  refine lv_iconst (v := (-1 : Int32)) hx hb dX12_status_1 (by decide) ?_
  refine lv_bipush (v := (6 : Int32)) hx hb dX12_status_2 (by decide) ?_
  obtain ⟨r1, σ2, hq3, hf⟩ := fm_bE hf
  refine fm_ci hI (fm_runS (As := [.int a1, .int (-1 : Int32), .int (6 : Int32)]) (rest := []) (rm := { frames := 0, cells := 0, slots := 0, locals := 0 }) hC hI (c_X12_in1 hC.2.2.1 hq3) mS_X12_in1 q_864 ⟨rfl, rfl⟩ ⟨Nat.le_of_ble_eq_true rfl, Nat.le_of_ble_eq_true rfl⟩ rfl hl.1 rfl (Nat.le_of_ble_eq_true rfl) dX12_status_4 ⟨Nat.zero_le _, Nat.zero_le _⟩) (fun H locs hI => ?_)
  refine lv_if_ne (tgt := 16) hx hb dX12_status_7 (by decide) (fun hc => ?_) (fun hc => ?_)
  · have hf := fm_pF hf hc
    refine lv_iconst (v := (0 : Int32)) hx hb dX12_status_16 (by decide) ?_
    refine lv_istore_n (lv' := [(2, .int (0 : Int32)), (0, .ref (G.2.1 96)), (1, .int a1)]) hx hb dX12_status_17 rfl hl (Nat.le_of_ble_eq_true rfl) rfl (fun ls hl => ?_)
    refine lv_iconst (v := (0 : Int32)) hx hb dX12_status_18 (by decide) ?_
    refine lv_istore_n (lv' := [(3, .int (0 : Int32)), (2, .int (0 : Int32)), (0, .ref (G.2.1 96)), (1, .int a1)]) hx hb dX12_status_19 rfl hl (Nat.le_of_ble_eq_true rfl) rfl (fun ls hl => ?_)
    refine w_X12_status_20 hC hr hlk (fun x1_y6 x2_y6 x3_y6 σ_y6 H locs ls hI hl hf => ?_) fm_fu a1 (0 : Int32) (0 : Int32) σ2 _ _ _ hI (lv_sub hl [2, 3, 1, 0] rfl) hf
    refine lv_iload_n hx hb dX12_status_55 rfl (lv_at hl 2 rfl) ?_
    exact fm_ri hC hI hr hlk hf dX12_status_56
  · have hf := fm_pT hf hc
    refine lv_aload_n hx hb dX12_status_10 rfl (lv_at hl 0 rfl) ?_
    refine lv_iconst (v := (0 : Int32)) hx hb dX12_status_11 (by decide) ?_
    obtain ⟨r7, σ8, hq9, hf⟩ := fm_bE hf
    refine fm_ci hI (fm_runV (As := [.int (0 : Int32)]) (rest := []) (rm := { frames := 0, cells := 0, slots := 0, locals := 0 }) hC hI (c_X12_no hC.2.2.1 hq9) mV_X12_no q_867 ⟨rfl, rfl⟩ ⟨Nat.le_of_ble_eq_true rfl, Nat.le_of_ble_eq_true rfl⟩ fc_96 rfl (by decide) rfl hl.1 rfl (Nat.le_of_ble_eq_true rfl) dX12_status_12 ⟨Nat.zero_le _, Nat.zero_le _⟩) (fun H locs hI => ?_)
    exact fm_ri hC hI hr hlk hf dX12_status_15
