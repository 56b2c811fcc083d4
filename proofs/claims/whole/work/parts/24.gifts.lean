def m_X11_trialGoesAs_2 (kc : Nat → Int32 → Int32 → fm_M → Option (Int32 × fm_M)) : Nat → Nat → Int32 → Int32 → fm_M → Option (Int32 × fm_M)
  | 0, _, _, _, _ => none
  | n + 1, z1, z2, z3, σ => if (σ.1 z1 2) ≤ z3 then (kc z1 z2 z3 σ) else (fm_j (fun  (σ_J1 : fm_M) => fm_g (fm_in1 z2 6) (fm_g (fm_in1 z3 40) (if (lg_cmp ((σ_J1.1 (58 + 2 + z2.toNatClampNeg) 1).toInt64) (σ_J1.2 (z1 + 1) z3.toNatClampNeg)) = 0 then (m_X11_trialGoesAs_2 kc n z1 z2 (z3 + (1 : Int32)) σ_J1) else (some ((0 : Int32), σ_J1))))) (fun J1 => if z3 ≤ 0 then (J1  σ) else (fm_b (m_X10_oneDay 58 σ) fun _u4 σ5 => (J1  σ5))))
def m_X11_trialGoesAs (a1 : Nat) (a2 : Int32) (σ : fm_M) : Option (Int32 × fm_M) := m_X11_trialGoesAs_2 (fun (x1_y7 : Nat) (x2_y7 : Int32) (x3_y7 : Int32) (σ_y7 : fm_M) => some ((1 : Int32), σ_y7)) fm_fu a1 a2 (0 : Int32) σ
set_option maxHeartbeats 4000000 in
set_option maxRecDepth 100000 in
theorem w_X11_trialGoesAs_2 {p : Program} {l : Launch} {e : Env} {s : State} {m : MethodId} {args : Array Value} {below : List Frame} {meth : Method} {c : Code} {G : fm_G} {o : Int32 × fm_M} {kc : Nat → Int32 → Int32 → fm_M → Option (Int32 × fm_M)} (hC : fm_C G p m c cX11_trialGoesAs 4 s args RX11) (hr : meth.sig.returnType = (some .boolean)) (hlk : meth.locks = false) (hk : ∀ (z1 : Nat) (z2 : Int32) (z3 : Int32) (σ : fm_M) (H : Heap) (locs : List Loc) (ls : Array Slot), fm_ct z1 = 8 → fm_I G σ s H locs → lv_has ls 4 [(0, .ref (G.2.1 0)), (1, .ref (G.2.1 z1)), (2, .int z2), (3, .int z3)] → kc z1 z2 z3 σ = some o → W p l e { frames := 5, cells := 0, slots := 0, locals := 118 } s m args below meth c H locs 0 0 (MQ below (fm_Qi G o) args s 0 0 (fm_A G)) (F0 m 52 ls [])) (n : Nat) : ∀ (z1 : Nat) (z2 : Int32) (z3 : Int32) (σ : fm_M) (H : Heap) (locs : List Loc) (ls : Array Slot), fm_ct z1 = 8 → fm_I G σ s H locs → lv_has ls 4 [(0, .ref (G.2.1 0)), (1, .ref (G.2.1 z1)), (2, .int z2), (3, .int z3)] → m_X11_trialGoesAs_2 kc n z1 z2 z3 σ = some o → W p l e { frames := 5, cells := 0, slots := 0, locals := 118 } s m args below meth c H locs 0 0 (MQ below (fm_Qi G o) args s 0 0 (fm_A G)) (F0 m 2 ls []) := by
  have hx := hC.1.1
  have hb := hC.1.2.1
  have hown := hC.1.2.2.2.1
  have hts := hC.1.2.2.2.2
  induction n with
  | zero =>
    intro z1 z2 z3 σ H locs ls hz1 hI hl hf
    cases hf
  | succ n ih =>
    intro z1 z2 z3 σ H locs ls hz1 hI hl hf
    rw [m_X11_trialGoesAs_2] at hf
    refine lv_iload_n hx hb dX11_trialGoesAs_2 rfl (lv_at hl 3 rfl) ?_
    refine lv_aload_n hx hb dX11_trialGoesAs_3 rfl (lv_at hl 1 rfl) ?_
    refine fm_gi hC hI fd_X8_2 hz1 q_170 dX11_trialGoesAs_4 ?_
    refine lv_icmp_ge (tgt := 52) hx hb dX11_trialGoesAs_7 (by decide) (fun hc => ?_) (fun hc => ?_)
    · have hf := fm_pT hf hc
      exact hk z1 z2 z3 σ _ _ _ hz1 hI (lv_sub hl [0, 1, 2, 3] rfl) hf
    · have hf := fm_pF hf hc
      refine lv_iload_n hx hb dX11_trialGoesAs_10 rfl (lv_at hl 3 rfl) ?_
      obtain ⟨J1, eJ1, hf⟩ := fm_jE hf
      have hJ1 : ∀  (σ_J1 : fm_M) (H : Heap) (locs : List Loc) (ls : Array Slot), fm_I G σ_J1 s H locs → lv_has ls 4 [(0, .ref (G.2.1 0)), (1, .ref (G.2.1 z1)), (2, .int z2), (3, .int z3)] → J1  σ_J1 = some o → W p l e { frames := 5, cells := 0, slots := 0, locals := 118 } s m args below meth c H locs 0 0 (MQ below (fm_Qi G o) args s 0 0 (fm_A G)) (F0 m 21 ls []) := by
        intro  σ_J1 H locs ls hI hl hf
        subst eJ1
        refine lv_aload_n hx hb dX11_trialGoesAs_21 rfl (lv_at hl 0 rfl) ?_
        refine fm_gr hC hI fd_X11_2 fc_0 fr_0_2 q_207 dX11_trialGoesAs_22 ?_
        refine fm_gr hC hI fd_X10_1 fc_58 fr_58_1 q_133 dX11_trialGoesAs_25 ?_
        refine lv_iload_n hx hb dX11_trialGoesAs_28 rfl (lv_at hl 2 rfl) ?_
        obtain ⟨hg2, hf⟩ := fm_gE hf
        refine fm_aald (t0 := 4) hC hI fc_59 (by decide) (by decide) rfl fl_59 hg2 (fm_T3 (x := z2) fc_58 hg2).2 dX11_trialGoesAs_29 ?_
        refine fm_gi hC hI fd_X5_1 (fm_T3 (x := z2) fc_58 hg2).1 q_93 dX11_trialGoesAs_30 ?_
        refine lv_i2l (v := (σ_J1.1 (58 + 2 + z2.toNatClampNeg) 1).toInt64) hx hb dX11_trialGoesAs_33 rfl ?_
        refine lv_aload_n hx hb dX11_trialGoesAs_34 rfl (lv_at hl 1 rfl) ?_
        refine fm_gr hC hI fd_X8_0 hz1 (fm_S0 hz1).2.1 q_166 dX11_trialGoesAs_35 ?_
        refine lv_iload_n hx hb dX11_trialGoesAs_38 rfl (lv_at hl 3 rfl) ?_
        obtain ⟨hg3, hf⟩ := fm_gE hf
        refine fm_lald hC hI (fm_S0 hz1).1 (fm_S0 hz1).2.2 hg3 dX11_trialGoesAs_39 ?_
        refine W.lcmp hx hb dX11_trialGoesAs_40 ?_
        refine lv_if_eq (tgt := 46) hx hb dX11_trialGoesAs_41 (by decide) (fun hc => ?_) (fun hc => ?_)
        · have hf := fm_pT hf hc
          refine lv_iinc (v := (z3 + (1 : Int32))) (lv' := [(3, .int (z3 + (1 : Int32))), (0, .ref (G.2.1 0)), (1, .ref (G.2.1 z1)), (2, .int z2)]) hx hb dX11_trialGoesAs_46 hl (k := 3) rfl rfl (Nat.le_of_ble_eq_true rfl) rfl (fun ls hl => ?_)
          refine lv_goto (tgt := 2) hx hb dX11_trialGoesAs_49 (by decide) ?_
          exact ih z1 z2 (z3 + (1 : Int32)) σ_J1 _ _ _ hz1 hI (lv_sub hl [1, 2, 3, 0] rfl) hf
        · have hf := fm_pF hf hc
          refine lv_iconst (v := (0 : Int32)) hx hb dX11_trialGoesAs_44 (by decide) ?_
          exact fm_rz hC hI hr hlk (by decide) hf dX11_trialGoesAs_45
      refine lv_if_le (tgt := 21) hx hb dX11_trialGoesAs_11 (by decide) (fun hc => ?_) (fun hc => ?_)
      · have hf := fm_pT hf hc
        exact hJ1  σ _ _ _ hI (lv_sub hl [0, 1, 2, 3] rfl) hf
      · have hf := fm_pF hf hc
        refine lv_aload_n hx hb dX11_trialGoesAs_14 rfl (lv_at hl 0 rfl) ?_
        refine fm_gr hC hI fd_X11_2 fc_0 fr_0_2 q_207 dX11_trialGoesAs_15 ?_
        obtain ⟨_u4, σ5, hq6, hf⟩ := fm_bE hf
        refine fm_cv hI (fm_runV (As := []) (rest := []) (rm := { frames := 4, cells := 0, slots := 0, locals := 94 }) hC hI (c_X10_oneDay hC.2.2.1 fc_58 hq6) mV_X10_oneDay q_532 ⟨rfl, rfl⟩ ⟨Nat.le_of_ble_eq_true rfl, Nat.le_of_ble_eq_true rfl⟩ fc_58 rfl (by decide) rfl hl.1 rfl (Nat.le_of_ble_eq_true rfl) dX11_trialGoesAs_18 ⟨Nat.zero_le _, Nat.zero_le _⟩) (fun H locs hI => ?_)
        exact hJ1  σ5 _ _ _ hI (lv_sub hl [0, 1, 2, 3] rfl) hf
set_option maxHeartbeats 4000000 in
set_option maxRecDepth 100000 in
theorem c_X11_trialGoesAs {l : Launch} {G : fm_G} (hJ : fm_J G) {a1 : Nat} {a2 : Int32} {σ : fm_M} {o : Int32 × fm_M} (h1 : fm_ct a1 = 8) (hf : m_X11_trialGoesAs a1 a2 σ = some o) : Met l yX11_trialGoesAs (fm_w yX11_trialGoesAs cX11_trialGoesAs 4 (some .boolean)) { frames := 5, cells := 0, slots := 0, locals := 118 } (va_Pc [.ref (G.2.1 0), .ref (G.2.1 a1), .int a2] (fm_st G σ)) (fm_Qi G o) 0 0 (fm_A G) := by
  refine fm_mth (own := RX11) hJ rfl (by decide +kernel) (Nat.le_of_ble_eq_true rfl) ?_
  intro p e s m below meth c ls hC hr hlk hI hl
  have hx := hC.1.1
  have hb := hC.1.2.1
  have hown := hC.1.2.2.2.1
  have hts := hC.1.2.2.2.2
  have hl : lv_has ls 4 [(0, .ref (G.2.1 0)), (1, .ref (G.2.1 a1)), (2, .int a2)] := hl
  rw [m_X11_trialGoesAs] at hf
  refine lv_iconst (v := (0 : Int32)) hx hb dX11_trialGoesAs_0 (by decide) ?_
  refine lv_istore_n (lv' := [(3, .int (0 : Int32)), (0, .ref (G.2.1 0)), (1, .ref (G.2.1 a1)), (2, .int a2)]) hx hb dX11_trialGoesAs_1 rfl hl (Nat.le_of_ble_eq_true rfl) rfl (fun ls hl => ?_)
  refine w_X11_trialGoesAs_2 hC hr hlk (fun x1_y7 x2_y7 x3_y7 σ_y7 H locs ls hx1_y7 hI hl hf => ?_) fm_fu a1 a2 (0 : Int32) σ _ _ _ h1 hI (lv_sub hl [1, 2, 3, 0] rfl) hf
  refine lv_iconst (v := (1 : Int32)) hx hb dX11_trialGoesAs_52 (by decide) ?_
  exact fm_rz hC hI hr hlk (by decide) hf dX11_trialGoesAs_53
def m_X11_read_114 (kc : Int32 → Int32 → Int32 → Int32 → Int32 → Int32 → fm_M → Option (Int32 × fm_M)) : Nat → Int32 → Int32 → Int32 → Int32 → Int32 → Int32 → fm_M → Option (Int32 × fm_M)
  | 0, _, _, _, _, _, _, _ => none
  | n + 1, z1, z2, z3, z4, z5, z6, σ => if (99 : Int32) < z6 then (kc z1 z2 z3 z4 z5 z6 σ) else (fm_b (m_X11_startTrial  σ) fun _u18 σ19 => (fm_g (fm_in1 z2 6) (fm_let (fm_sI σ19 (58 + 2 + z2.toNatClampNeg) 0 z5) fun σ22 => (fm_g (fm_in1 z3 8) (fm_let (fm_sI σ22 (58 + 9 + 2 * z3.toNatClampNeg) 2 z6) fun σ25 => (fm_g (fm_in1 z1 4) (fm_b (m_X11_trialGoesAs (84 + 2 * z1.toNatClampNeg) z2 σ25) fun r28 σ29 => (if r28 = 0 then (m_X11_read_114 kc n z1 z2 z3 z4 z5 (z6 + (1 : Int32)) σ29) else (m_X11_read_114 kc n z1 z2 z3 (z4 + (1 : Int32)) z5 (z6 + (1 : Int32)) σ29)))))))))
def m_X11_read_104 (kc : Int32 → Int32 → Int32 → Int32 → Int32 → fm_M → Option (Int32 × fm_M)) : Nat → Int32 → Int32 → Int32 → Int32 → Int32 → fm_M → Option (Int32 × fm_M)
  | 0, _, _, _, _, _, _ => none
  | n + 1, z1, z2, z3, z4, z5, σ => if (6 : Int32) ≤ z5 then (kc z1 z2 z3 z4 z5 σ) else (m_X11_read_114 (fun (x1_y31 : Int32) (x2_y31 : Int32) (x3_y31 : Int32) (x4_y31 : Int32) (x5_y31 : Int32) (x6_y31 : Int32) (σ_y31 : fm_M) => m_X11_read_104 kc n x1_y31 x2_y31 x3_y31 x4_y31 (x5_y31 + (1 : Int32)) σ_y31) fm_fu z1 z2 z3 z4 z5 (0 : Int32) σ)
def m_X11_read (a1 : Int32) (a2 : Int32) (a3 : Int32) (σ : fm_M) : Option (Int32 × fm_M) := fm_b (m_X11_isSheet a1 σ) fun r1 σ2 => (if r1 = 0 then (fm_b (m_X11_tell (-1000000001 : Int32) σ2) fun r43 σ44 => (some (r43, σ44))) else (fm_g (fm_in1 a1 4) (fm_b (m_X8_isMissing (84 + 2 * a1.toNatClampNeg) σ2) fun r5 σ6 => (if r5 = 0 then (fm_b (m_X11_isPerson a2 σ6) fun r8 σ9 => (if r8 = 0 then (fm_b (m_X11_tell (-1000000001 : Int32) σ9) fun r11 σ12 => (some (r11, σ12))) else (fm_b (m_X11_isPresent a3 σ9) fun r14 σ15 => (if r14 = 0 then (fm_b (m_X11_tell (-1000000001 : Int32) σ15) fun r37 σ38 => (some (r37, σ38))) else (fm_g (fm_in1 a1 4) (if (σ15.1 (84 + 2 * a1.toNatClampNeg) 2) ≤ 0 then (m_X11_read_104 (fun (x1_y32 : Int32) (x2_y32 : Int32) (x3_y32 : Int32) (x4_y32 : Int32) (x5_y32 : Int32) (σ_y32 : fm_M) => some (x4_y32, σ_y32)) fm_fu a1 a2 a3 (0 : Int32) (0 : Int32) σ15) else (fm_g (fm_in1 a1 4) (fm_g (fm_in1 (0 : Int32) 40) (fm_g (fm_in1 a2 6) (if (lg_cmp (σ15.2 ((84 + 2 * a1.toNatClampNeg) + 1) (0 : Int32).toNatClampNeg) ((σ15.1 (8 + 2 + a2.toNatClampNeg) 1).toInt64)) = 0 then (m_X11_read_104 (fun (x1_y36 : Int32) (x2_y36 : Int32) (x3_y36 : Int32) (x4_y36 : Int32) (x5_y36 : Int32) (σ_y36 : fm_M) => some (x4_y36, σ_y36)) fm_fu a1 a2 a3 (0 : Int32) (0 : Int32) σ15) else (some ((0 : Int32), σ15)))))))))))) else (fm_b (m_X11_tell (-1000000006 : Int32) σ6) fun r40 σ41 => (some (r40, σ41)))))))
set_option maxHeartbeats 4000000 in
set_option maxRecDepth 100000 in
theorem w_X11_read_114 {p : Program} {l : Launch} {e : Env} {s : State} {m : MethodId} {args : Array Value} {below : List Frame} {meth : Method} {c : Code} {G : fm_G} {o : Int32 × fm_M} {kc : Int32 → Int32 → Int32 → Int32 → Int32 → Int32 → fm_M → Option (Int32 × fm_M)} (hC : fm_C G p m c cX11_read 7 s args RX11) (hr : meth.sig.returnType = (some .int)) (hlk : meth.locks = false) (hk : ∀ (z1 : Int32) (z2 : Int32) (z3 : Int32) (z4 : Int32) (z5 : Int32) (z6 : Int32) (σ : fm_M) (H : Heap) (locs : List Loc) (ls : Array Slot), fm_I G σ s H locs → lv_has ls 7 [(0, .ref (G.2.1 0)), (1, .int z1), (2, .int z2), (3, .int z3), (4, .int z4), (5, .int z5), (6, .int z6)] → kc z1 z2 z3 z4 z5 z6 σ = some o → W p l e { frames := 6, cells := 0, slots := 0, locals := 141 } s m args below meth c H locs 0 0 (MQ below (fm_Qi G o) args s 0 0 (fm_A G)) (F0 m 176 ls [])) (n : Nat) : ∀ (z1 : Int32) (z2 : Int32) (z3 : Int32) (z4 : Int32) (z5 : Int32) (z6 : Int32) (σ : fm_M) (H : Heap) (locs : List Loc) (ls : Array Slot), fm_I G σ s H locs → lv_has ls 7 [(0, .ref (G.2.1 0)), (1, .int z1), (2, .int z2), (3, .int z3), (4, .int z4), (5, .int z5), (6, .int z6)] → m_X11_read_114 kc n z1 z2 z3 z4 z5 z6 σ = some o → W p l e { frames := 6, cells := 0, slots := 0, locals := 141 } s m args below meth c H locs 0 0 (MQ below (fm_Qi G o) args s 0 0 (fm_A G)) (F0 m 114 ls []) := by
  have hx := hC.1.1
  have hb := hC.1.2.1
  have hown := hC.1.2.2.2.1
  have hts := hC.1.2.2.2.2
  induction n with
  | zero =>
    intro z1 z2 z3 z4 z5 z6 σ H locs ls hI hl hf
    cases hf
  | succ n ih =>
    intro z1 z2 z3 z4 z5 z6 σ H locs ls hI hl hf
    rw [m_X11_read_114] at hf
    refine lv_iload hx hb dX11_read_114 (lv_at hl 6 rfl) ?_
    refine lv_bipush (v := (99 : Int32)) hx hb dX11_read_116 (by decide) ?_
    refine lv_icmp_gt (tgt := 176) hx hb dX11_read_118 (by decide) (fun hc => ?_) (fun hc => ?_)
    · have hf := fm_pT hf hc
      exact hk z1 z2 z3 z4 z5 z6 σ _ _ _ hI (lv_sub hl [0, 1, 2, 3, 4, 5, 6] rfl) hf
    · have hf := fm_pF hf hc
      refine lv_aload_n hx hb dX11_read_121 rfl (lv_at hl 0 rfl) ?_
      obtain ⟨_u18, σ19, hq20, hf⟩ := fm_bE hf
      refine fm_cv hI (fm_runV (As := []) (rest := []) (rm := { frames := 2, cells := 0, slots := 0, locals := 44 }) hC hI (c_X11_startTrial hC.2.2.1 hq20) mV_X11_startTrial q_508 ⟨rfl, rfl⟩ ⟨Nat.le_of_ble_eq_true rfl, Nat.le_of_ble_eq_true rfl⟩ fc_0 rfl (by decide) rfl hl.1 rfl (Nat.le_of_ble_eq_true rfl) dX11_read_122 ⟨Nat.zero_le _, Nat.zero_le _⟩) (fun H locs hI => ?_)
      refine lv_aload_n hx hb dX11_read_125 rfl (lv_at hl 0 rfl) ?_
      refine fm_gr hC hI fd_X11_2 fc_0 fr_0_2 q_207 dX11_read_126 ?_
      refine fm_gr hC hI fd_X10_1 fc_58 fr_58_1 q_133 dX11_read_129 ?_
      refine lv_iload_n hx hb dX11_read_132 rfl (lv_at hl 2 rfl) ?_
      obtain ⟨hg21, hf⟩ := fm_gE hf
      refine fm_aald (t0 := 4) hC hI fc_59 (by decide) (by decide) rfl fl_59 hg21 (fm_T3 (x := z2) fc_58 hg21).2 dX11_read_133 ?_
      refine lv_iload hx hb dX11_read_134 (lv_at hl 5 rfl) ?_
      obtain ⟨σ22, e23, hf⟩ := fm_letE hf
      refine fm_pi hC hI fp_X5_0 (fm_T3 (x := z2) fc_58 hg21).1 ⟨rfl, rfl⟩ e23 q_90 dX11_read_136 (fun H locs hI => ?_)
      refine lv_aload_n hx hb dX11_read_139 rfl (lv_at hl 0 rfl) ?_
      refine fm_gr hC hI fd_X11_2 fc_0 fr_0_2 q_207 dX11_read_140 ?_
      refine fm_gr hC hI fd_X10_2 fc_58 fr_58_2 q_135 dX11_read_143 ?_
      refine lv_iload_n hx hb dX11_read_146 rfl (lv_at hl 3 rfl) ?_
      obtain ⟨hg24, hf⟩ := fm_gE hf
      refine fm_aald (t0 := 5) hC hI fc_66 (by decide) (by decide) rfl fl_66 hg24 (fm_T4 (x := z3) fc_58 hg24).2 dX11_read_147 ?_
      refine lv_iload hx hb dX11_read_148 (lv_at hl 6 rfl) ?_
      obtain ⟨σ25, e26, hf⟩ := fm_letE hf
      refine fm_pi hC hI fp_X7_2 (fm_T4 (x := z3) fc_58 hg24).1 ⟨rfl, rfl⟩ e26 q_111 dX11_read_150 (fun H locs hI => ?_)
      refine lv_aload_n hx hb dX11_read_153 rfl (lv_at hl 0 rfl) ?_
      refine lv_aload_n hx hb dX11_read_154 rfl (lv_at hl 0 rfl) ?_
      refine fm_gr hC hI fd_X11_4 fc_0 fr_0_4 q_209 dX11_read_155 ?_
      refine lv_iload_n hx hb dX11_read_158 rfl (lv_at hl 1 rfl) ?_
      obtain ⟨hg27, hf⟩ := fm_gE hf
      refine fm_aald (t0 := 6) hC hI fc_83 (by decide) (by decide) rfl fl_83 hg27 (fm_V0 (x := z1) hg27).2 dX11_read_159 ?_
      refine lv_iload_n hx hb dX11_read_160 rfl (lv_at hl 2 rfl) ?_
      obtain ⟨r28, σ29, hq30, hf⟩ := fm_bE hf
      refine fm_ci hI (fm_runV (As := [.ref (G.2.1 (84 + 2 * z1.toNatClampNeg)), .int z2]) (rest := []) (rm := { frames := 5, cells := 0, slots := 0, locals := 118 }) hC hI (c_X11_trialGoesAs hC.2.2.1 (fm_V0 (x := z1) hg27).1 hq30) mV_X11_trialGoesAs q_762 ⟨rfl, rfl⟩ ⟨Nat.le_of_ble_eq_true rfl, Nat.le_of_ble_eq_true rfl⟩ fc_0 rfl (by decide) rfl hl.1 rfl (Nat.le_of_ble_eq_true rfl) dX11_read_161 ⟨Nat.zero_le _, Nat.zero_le _⟩) (fun H locs hI => ?_)
      refine lv_if_eq (tgt := 170) hx hb dX11_read_164 (by decide) (fun hc => ?_) (fun hc => ?_)
      · have hf := fm_pT hf hc
        refine lv_iinc (v := (z6 + (1 : Int32))) (lv' := [(6, .int (z6 + (1 : Int32))), (0, .ref (G.2.1 0)), (1, .int z1), (2, .int z2), (3, .int z3), (4, .int z4), (5, .int z5)]) hx hb dX11_read_170 hl (k := 6) rfl rfl (Nat.le_of_ble_eq_true rfl) rfl (fun ls hl => ?_)
        refine lv_goto (tgt := 114) hx hb dX11_read_173 (by decide) ?_
        exact ih z1 z2 z3 z4 z5 (z6 + (1 : Int32)) σ29 _ _ _ hI (lv_sub hl [1, 2, 3, 4, 5, 6, 0] rfl) hf
      · have hf := fm_pF hf hc
        refine lv_iinc (v := (z4 + (1 : Int32))) (lv' := [(4, .int (z4 + (1 : Int32))), (0, .ref (G.2.1 0)), (1, .int z1), (2, .int z2), (3, .int z3), (5, .int z5), (6, .int z6)]) hx hb dX11_read_167 hl (k := 4) rfl rfl (Nat.le_of_ble_eq_true rfl) rfl (fun ls hl => ?_)
        refine lv_iinc (v := (z6 + (1 : Int32))) (lv' := [(6, .int (z6 + (1 : Int32))), (4, .int (z4 + (1 : Int32))), (0, .ref (G.2.1 0)), (1, .int z1), (2, .int z2), (3, .int z3), (5, .int z5)]) hx hb dX11_read_170 hl (k := 6) rfl rfl (Nat.le_of_ble_eq_true rfl) rfl (fun ls hl => ?_)
        refine lv_goto (tgt := 114) hx hb dX11_read_173 (by decide) ?_
        exact ih z1 z2 z3 (z4 + (1 : Int32)) z5 (z6 + (1 : Int32)) σ29 _ _ _ hI (lv_sub hl [2, 3, 4, 5, 1, 6, 0] rfl) hf
set_option maxHeartbeats 4000000 in
set_option maxRecDepth 100000 in
theorem w_X11_read_104 {p : Program} {l : Launch} {e : Env} {s : State} {m : MethodId} {args : Array Value} {below : List Frame} {meth : Method} {c : Code} {G : fm_G} {o : Int32 × fm_M} {kc : Int32 → Int32 → Int32 → Int32 → Int32 → fm_M → Option (Int32 × fm_M)} (hC : fm_C G p m c cX11_read 7 s args RX11) (hr : meth.sig.returnType = (some .int)) (hlk : meth.locks = false) (hk : ∀ (z1 : Int32) (z2 : Int32) (z3 : Int32) (z4 : Int32) (z5 : Int32) (σ : fm_M) (H : Heap) (locs : List Loc) (ls : Array Slot), fm_I G σ s H locs → lv_has ls 7 [(0, .ref (G.2.1 0)), (1, .int z1), (2, .int z2), (3, .int z3), (4, .int z4), (5, .int z5)] → kc z1 z2 z3 z4 z5 σ = some o → W p l e { frames := 6, cells := 0, slots := 0, locals := 141 } s m args below meth c H locs 0 0 (MQ below (fm_Qi G o) args s 0 0 (fm_A G)) (F0 m 182 ls [])) (n : Nat) : ∀ (z1 : Int32) (z2 : Int32) (z3 : Int32) (z4 : Int32) (z5 : Int32) (σ : fm_M) (H : Heap) (locs : List Loc) (ls : Array Slot), fm_I G σ s H locs → lv_has ls 7 [(0, .ref (G.2.1 0)), (1, .int z1), (2, .int z2), (3, .int z3), (4, .int z4), (5, .int z5)] → m_X11_read_104 kc n z1 z2 z3 z4 z5 σ = some o → W p l e { frames := 6, cells := 0, slots := 0, locals := 141 } s m args below meth c H locs 0 0 (MQ below (fm_Qi G o) args s 0 0 (fm_A G)) (F0 m 104 ls []) := by
  have hx := hC.1.1
  have hb := hC.1.2.1
  have hown := hC.1.2.2.2.1
  have hts := hC.1.2.2.2.2
  induction n with
  | zero =>
    intro z1 z2 z3 z4 z5 σ H locs ls hI hl hf
    cases hf
  | succ n ih =>
    intro z1 z2 z3 z4 z5 σ H locs ls hI hl hf
    rw [m_X11_read_104] at hf
    refine lv_iload hx hb dX11_read_104 (lv_at hl 5 rfl) ?_
    refine lv_bipush (v := (6 : Int32)) hx hb dX11_read_106 (by decide) ?_
    refine lv_icmp_ge (tgt := 182) hx hb dX11_read_108 (by decide) (fun hc => ?_) (fun hc => ?_)
    · have hf := fm_pT hf hc
      exact hk z1 z2 z3 z4 z5 σ _ _ _ hI (lv_sub hl [0, 1, 2, 3, 4, 5] rfl) hf
    · have hf := fm_pF hf hc
      refine lv_iconst (v := (0 : Int32)) hx hb dX11_read_111 (by decide) ?_
      refine lv_istore (lv' := [(6, .int (0 : Int32)), (0, .ref (G.2.1 0)), (1, .int z1), (2, .int z2), (3, .int z3), (4, .int z4), (5, .int z5)]) hx hb dX11_read_112 hl (Nat.le_of_ble_eq_true rfl) rfl (fun ls hl => ?_)
      refine w_X11_read_114 hC hr hlk (fun x1_y31 x2_y31 x3_y31 x4_y31 x5_y31 x6_y31 σ_y31 H locs ls hI hl hf => ?_) fm_fu z1 z2 z3 z4 z5 (0 : Int32) σ _ _ _ hI (lv_sub hl [1, 2, 3, 4, 5, 6, 0] rfl) hf
      refine lv_iinc (v := (x5_y31 + (1 : Int32))) (lv' := [(5, .int (x5_y31 + (1 : Int32))), (0, .ref (G.2.1 0)), (1, .int x1_y31), (2, .int x2_y31), (3, .int x3_y31), (4, .int x4_y31), (6, .int x6_y31)]) hx hb dX11_read_176 hl (k := 5) rfl rfl (Nat.le_of_ble_eq_true rfl) rfl (fun ls hl => ?_)
      refine lv_goto (tgt := 104) hx hb dX11_read_179 (by decide) ?_
      exact ih x1_y31 x2_y31 x3_y31 x4_y31 (x5_y31 + (1 : Int32)) σ_y31 _ _ _ hI (lv_sub hl [1, 2, 3, 4, 5, 0] rfl) hf
set_option maxHeartbeats 4000000 in
set_option maxRecDepth 100000 in
theorem c_X11_read {l : Launch} {G : fm_G} (hJ : fm_J G) {a1 : Int32} {a2 : Int32} {a3 : Int32} {σ : fm_M} {o : Int32 × fm_M}  (hf : m_X11_read a1 a2 a3 σ = some o) : Met l yX11_read (fm_w yX11_read cX11_read 7 (some .int)) { frames := 6, cells := 0, slots := 0, locals := 141 } (va_Pc [.ref (G.2.1 0), .int a1, .int a2, .int a3] (fm_st G σ)) (fm_Qi G o) 0 0 (fm_A G) := by
  refine fm_mth (own := RX11) hJ rfl (by decide +kernel) (Nat.le_of_ble_eq_true rfl) ?_
  intro p e s m below meth c ls hC hr hlk hI hl
  have hx := hC.1.1
  have hb := hC.1.2.1
  have hown := hC.1.2.2.2.1
  have hts := hC.1.2.2.2.2
  have hl : lv_has ls 7 [(0, .ref (G.2.1 0)), (1, .int a1), (2, .int a2), (3, .int a3)] := hl
  rw [m_X11_read] at hf
  refine lv_iload_n hx hb dX11_read_0 rfl (lv_at hl 1 rfl) ?_
  obtain ⟨r1, σ2, hq3, hf⟩ := fm_bE hf
  refine fm_ci hI (fm_runS (As := [.int a1]) (rest := []) (rm := { frames := 1, cells := 0, slots := 0, locals := 22 }) hC hI (c_X11_isSheet hC.2.2.1 hq3) mS_X11_isSheet q_716 ⟨rfl, rfl⟩ ⟨Nat.le_of_ble_eq_true rfl, Nat.le_of_ble_eq_true rfl⟩ rfl hl.1 rfl (Nat.le_of_ble_eq_true rfl) dX11_read_1 ⟨Nat.zero_le _, Nat.zero_le _⟩) (fun H locs hI => ?_)
  refine lv_if_ne (tgt := 14) hx hb dX11_read_4 (by decide) (fun hc => ?_) (fun hc => ?_)
  · have hf := fm_pF hf hc
    refine lv_aload_n hx hb dX11_read_14 rfl (lv_at hl 0 rfl) ?_
    refine fm_gr hC hI fd_X11_4 fc_0 fr_0_4 q_209 dX11_read_15 ?_
    refine lv_iload_n hx hb dX11_read_18 rfl (lv_at hl 1 rfl) ?_
    obtain ⟨hg4, hf⟩ := fm_gE hf
    refine fm_aald (t0 := 6) hC hI fc_83 (by decide) (by decide) rfl fl_83 hg4 (fm_V0 (x := a1) hg4).2 dX11_read_19 ?_
    obtain ⟨r5, σ6, hq7, hf⟩ := fm_bE hf
    refine fm_ci hI (fm_runV (As := []) (rest := []) (rm := { frames := 0, cells := 0, slots := 0, locals := 0 }) hC hI (c_X8_isMissing hC.2.2.1 (fm_V0 (x := a1) hg4).1 hq7) mV_X8_isMissing q_727 ⟨rfl, rfl⟩ ⟨Nat.le_of_ble_eq_true rfl, Nat.le_of_ble_eq_true rfl⟩ (fm_V0 (x := a1) hg4).1 rfl (by decide) rfl hl.1 rfl (Nat.le_of_ble_eq_true rfl) dX11_read_20 ⟨Nat.zero_le _, Nat.zero_le _⟩) (fun H locs hI => ?_)
    refine lv_if_eq (tgt := 33) hx hb dX11_read_23 (by decide) (fun hc => ?_) (fun hc => ?_)
    · have hf := fm_pT hf hc
      refine lv_aload_n hx hb dX11_read_33 rfl (lv_at hl 0 rfl) ?_
      refine lv_iload_n hx hb dX11_read_34 rfl (lv_at hl 2 rfl) ?_
      obtain ⟨r8, σ9, hq10, hf⟩ := fm_bE hf
      refine fm_ci hI (fm_runV (As := [.int a2]) (rest := []) (rm := { frames := 1, cells := 0, slots := 0, locals := 22 }) hC hI (c_X11_isPerson hC.2.2.1 hq10) mV_X11_isPerson q_254 ⟨rfl, rfl⟩ ⟨Nat.le_of_ble_eq_true rfl, Nat.le_of_ble_eq_true rfl⟩ fc_0 rfl (by decide) rfl hl.1 rfl (Nat.le_of_ble_eq_true rfl) dX11_read_35 ⟨Nat.zero_le _, Nat.zero_le _⟩) (fun H locs hI => ?_)
      refine lv_if_eq (tgt := 49) hx hb dX11_read_38 (by decide) (fun hc => ?_) (fun hc => ?_)
      · have hf := fm_pT hf hc
        refine lv_aload_n hx hb dX11_read_49 rfl (lv_at hl 0 rfl) ?_
        refine lv_ldc (v := (-1000000001 : Int32)) hx hb hown (hts _ q_240) dX11_read_50 ?_
        obtain ⟨r11, σ12, hq13, hf⟩ := fm_bE hf
        refine fm_ci hI (fm_runV (As := [.int (-1000000001 : Int32)]) (rest := []) (rm := { frames := 1, cells := 0, slots := 0, locals := 22 }) hC hI (c_X11_tell hC.2.2.1 hq13) mV_X11_tell q_241 ⟨rfl, rfl⟩ ⟨Nat.le_of_ble_eq_true rfl, Nat.le_of_ble_eq_true rfl⟩ fc_0 rfl (by decide) rfl hl.1 rfl (Nat.le_of_ble_eq_true rfl) dX11_read_52 ⟨Nat.zero_le _, Nat.zero_le _⟩) (fun H locs hI => ?_)
        exact fm_ri hC hI hr hlk hf dX11_read_55
      · have hf := fm_pF hf hc
        refine lv_aload_n hx hb dX11_read_41 rfl (lv_at hl 0 rfl) ?_
        refine lv_iload_n hx hb dX11_read_42 rfl (lv_at hl 3 rfl) ?_
        obtain ⟨r14, σ15, hq16, hf⟩ := fm_bE hf
        refine fm_ci hI (fm_runV (As := [.int a3]) (rest := []) (rm := { frames := 1, cells := 0, slots := 0, locals := 22 }) hC hI (c_X11_isPresent hC.2.2.1 hq16) mV_X11_isPresent q_274 ⟨rfl, rfl⟩ ⟨Nat.le_of_ble_eq_true rfl, Nat.le_of_ble_eq_true rfl⟩ fc_0 rfl (by decide) rfl hl.1 rfl (Nat.le_of_ble_eq_true rfl) dX11_read_43 ⟨Nat.zero_le _, Nat.zero_le _⟩) (fun H locs hI => ?_)
        refine lv_if_ne (tgt := 56) hx hb dX11_read_46 (by decide) (fun hc => ?_) (fun hc => ?_)
        · have hf := fm_pF hf hc
          refine lv_aload_n hx hb dX11_read_56 rfl (lv_at hl 0 rfl) ?_
          refine fm_gr hC hI fd_X11_4 fc_0 fr_0_4 q_209 dX11_read_57 ?_
          refine lv_iload_n hx hb dX11_read_60 rfl (lv_at hl 1 rfl) ?_
          obtain ⟨hg17, hf⟩ := fm_gE hf
          refine fm_aald (t0 := 6) hC hI fc_83 (by decide) (by decide) rfl fl_83 hg17 (fm_V0 (x := a1) hg17).2 dX11_read_61 ?_
          refine fm_gi hC hI fd_X8_2 (fm_V0 (x := a1) hg17).1 q_170 dX11_read_62 ?_
          refine lv_if_le (tgt := 98) hx hb dX11_read_65 (by decide) (fun hc => ?_) (fun hc => ?_)
          · have hf := fm_pT hf hc
            refine lv_iconst (v := (0 : Int32)) hx hb dX11_read_98 (by decide) ?_
            refine lv_istore (lv' := [(4, .int (0 : Int32)), (0, .ref (G.2.1 0)), (1, .int a1), (2, .int a2), (3, .int a3)]) hx hb dX11_read_99 hl (Nat.le_of_ble_eq_true rfl) rfl (fun ls hl => ?_)
            refine lv_iconst (v := (0 : Int32)) hx hb dX11_read_101 (by decide) ?_
            refine lv_istore (lv' := [(5, .int (0 : Int32)), (4, .int (0 : Int32)), (0, .ref (G.2.1 0)), (1, .int a1), (2, .int a2), (3, .int a3)]) hx hb dX11_read_102 hl (Nat.le_of_ble_eq_true rfl) rfl (fun ls hl => ?_)
            refine w_X11_read_104 hC hr hlk (fun x1_y32 x2_y32 x3_y32 x4_y32 x5_y32 σ_y32 H locs ls hI hl hf => ?_) fm_fu a1 a2 a3 (0 : Int32) (0 : Int32) σ15 _ _ _ hI (lv_sub hl [2, 3, 4, 5, 1, 0] rfl) hf
            refine lv_iload hx hb dX11_read_182 (lv_at hl 4 rfl) ?_
            exact fm_ri hC hI hr hlk hf dX11_read_184
          · have hf := fm_pF hf hc
            refine lv_aload_n hx hb dX11_read_68 rfl (lv_at hl 0 rfl) ?_
            refine fm_gr hC hI fd_X11_4 fc_0 fr_0_4 q_209 dX11_read_69 ?_
            refine lv_iload_n hx hb dX11_read_72 rfl (lv_at hl 1 rfl) ?_
            obtain ⟨hg33, hf⟩ := fm_gE hf
            refine fm_aald (t0 := 6) hC hI fc_83 (by decide) (by decide) rfl fl_83 hg33 (fm_V0 (x := a1) hg33).2 dX11_read_73 ?_
            refine fm_gr hC hI fd_X8_0 (fm_V0 (x := a1) hg33).1 (fm_S0 (fm_V0 (x := a1) hg33).1).2.1 q_166 dX11_read_74 ?_
            refine lv_iconst (v := (0 : Int32)) hx hb dX11_read_77 (by decide) ?_
            obtain ⟨hg34, hf⟩ := fm_gE hf
            refine fm_lald hC hI (fm_S0 (fm_V0 (x := a1) hg33).1).1 (fm_S0 (fm_V0 (x := a1) hg33).1).2.2 hg34 dX11_read_78 ?_
            refine lv_aload_n hx hb dX11_read_79 rfl (lv_at hl 0 rfl) ?_
            refine fm_gr hC hI fd_X11_0 fc_0 fr_0_0 q_205 dX11_read_80 ?_
            refine fm_gr hC hI fd_X10_1 fc_8 fr_8_1 q_133 dX11_read_83 ?_
            refine lv_iload_n hx hb dX11_read_86 rfl (lv_at hl 2 rfl) ?_
            obtain ⟨hg35, hf⟩ := fm_gE hf
            refine fm_aald (t0 := 4) hC hI fc_9 (by decide) (by decide) rfl fl_9 hg35 (fm_T3 (x := a2) fc_8 hg35).2 dX11_read_87 ?_
            refine fm_gi hC hI fd_X5_1 (fm_T3 (x := a2) fc_8 hg35).1 q_93 dX11_read_88 ?_
            refine lv_i2l (v := (σ15.1 (8 + 2 + a2.toNatClampNeg) 1).toInt64) hx hb dX11_read_91 rfl ?_
            refine W.lcmp hx hb dX11_read_92 ?_
            refine lv_if_eq (tgt := 98) hx hb dX11_read_93 (by decide) (fun hc => ?_) (fun hc => ?_)
            · have hf := fm_pT hf hc
              refine lv_iconst (v := (0 : Int32)) hx hb dX11_read_98 (by decide) ?_
              refine lv_istore (lv' := [(4, .int (0 : Int32)), (0, .ref (G.2.1 0)), (1, .int a1), (2, .int a2), (3, .int a3)]) hx hb dX11_read_99 hl (Nat.le_of_ble_eq_true rfl) rfl (fun ls hl => ?_)
              refine lv_iconst (v := (0 : Int32)) hx hb dX11_read_101 (by decide) ?_
              refine lv_istore (lv' := [(5, .int (0 : Int32)), (4, .int (0 : Int32)), (0, .ref (G.2.1 0)), (1, .int a1), (2, .int a2), (3, .int a3)]) hx hb dX11_read_102 hl (Nat.le_of_ble_eq_true rfl) rfl (fun ls hl => ?_)
              refine w_X11_read_104 hC hr hlk (fun x1_y36 x2_y36 x3_y36 x4_y36 x5_y36 σ_y36 H locs ls hI hl hf => ?_) fm_fu a1 a2 a3 (0 : Int32) (0 : Int32) σ15 _ _ _ hI (lv_sub hl [2, 3, 4, 5, 1, 0] rfl) hf
              refine lv_iload hx hb dX11_read_182 (lv_at hl 4 rfl) ?_
              exact fm_ri hC hI hr hlk hf dX11_read_184
            · have hf := fm_pF hf hc
              refine lv_iconst (v := (0 : Int32)) hx hb dX11_read_96 (by decide) ?_
              exact fm_ri hC hI hr hlk hf dX11_read_97
        · have hf := fm_pT hf hc
          refine lv_aload_n hx hb dX11_read_49 rfl (lv_at hl 0 rfl) ?_
          refine lv_ldc (v := (-1000000001 : Int32)) hx hb hown (hts _ q_240) dX11_read_50 ?_
          obtain ⟨r37, σ38, hq39, hf⟩ := fm_bE hf
          refine fm_ci hI (fm_runV (As := [.int (-1000000001 : Int32)]) (rest := []) (rm := { frames := 1, cells := 0, slots := 0, locals := 22 }) hC hI (c_X11_tell hC.2.2.1 hq39) mV_X11_tell q_241 ⟨rfl, rfl⟩ ⟨Nat.le_of_ble_eq_true rfl, Nat.le_of_ble_eq_true rfl⟩ fc_0 rfl (by decide) rfl hl.1 rfl (Nat.le_of_ble_eq_true rfl) dX11_read_52 ⟨Nat.zero_le _, Nat.zero_le _⟩) (fun H locs hI => ?_)
          exact fm_ri hC hI hr hlk hf dX11_read_55
    · have hf := fm_pF hf hc
      refine lv_aload_n hx hb dX11_read_26 rfl (lv_at hl 0 rfl) ?_
      refine lv_ldc (v := (-1000000006 : Int32)) hx hb hown (hts _ q_731) dX11_read_27 ?_
      obtain ⟨r40, σ41, hq42, hf⟩ := fm_bE hf
      refine fm_ci hI (fm_runV (As := [.int (-1000000006 : Int32)]) (rest := []) (rm := { frames := 1, cells := 0, slots := 0, locals := 22 }) hC hI (c_X11_tell hC.2.2.1 hq42) mV_X11_tell q_241 ⟨rfl, rfl⟩ ⟨Nat.le_of_ble_eq_true rfl, Nat.le_of_ble_eq_true rfl⟩ fc_0 rfl (by decide) rfl hl.1 rfl (Nat.le_of_ble_eq_true rfl) dX11_read_29 ⟨Nat.zero_le _, Nat.zero_le _⟩) (fun H locs hI => ?_)
      exact fm_ri hC hI hr hlk hf dX11_read_32
  · have hf := fm_pT hf hc
    refine lv_aload_n hx hb dX11_read_7 rfl (lv_at hl 0 rfl) ?_
    refine lv_ldc (v := (-1000000001 : Int32)) hx hb hown (hts _ q_240) dX11_read_8 ?_
    obtain ⟨r43, σ44, hq45, hf⟩ := fm_bE hf
    refine fm_ci hI (fm_runV (As := [.int (-1000000001 : Int32)]) (rest := []) (rm := { frames := 1, cells := 0, slots := 0, locals := 22 }) hC hI (c_X11_tell hC.2.2.1 hq45) mV_X11_tell q_241 ⟨rfl, rfl⟩ ⟨Nat.le_of_ble_eq_true rfl, Nat.le_of_ble_eq_true rfl⟩ fc_0 rfl (by decide) rfl hl.1 rfl (Nat.le_of_ble_eq_true rfl) dX11_read_10 ⟨Nat.zero_le _, Nat.zero_le _⟩) (fun H locs hI => ?_)
    exact fm_ri hC hI hr hlk hf dX11_read_13
def m_X11_image  (σ : fm_M) : Option (Int32 × fm_M) := fm_b (m_X10_become 33 8 σ) fun _u1 σ2 => (fm_let (fm_sI σ2 0 3 (1 : Int32)) fun σ4 => (some ((1 : Int32), σ4)))
set_option maxHeartbeats 4000000 in
set_option maxRecDepth 100000 in
theorem c_X11_image {l : Launch} {G : fm_G} (hJ : fm_J G) {σ : fm_M} {o : Int32 × fm_M}  (hf : m_X11_image  σ = some o) : Met l yX11_image (fm_w yX11_image cX11_image 1 (some .int)) { frames := 2, cells := 0, slots := 0, locals := 44 } (va_Pc [.ref (G.2.1 0)] (fm_st G σ)) (fm_Qi G o) 0 0 (fm_A G) := by
  refine fm_mth (own := RX11) hJ rfl (by decide +kernel) (Nat.le_of_ble_eq_true rfl) ?_
  intro p e s m below meth c ls hC hr hlk hI hl
  have hx := hC.1.1
  have hb := hC.1.2.1
  have hown := hC.1.2.2.2.1
  have hts := hC.1.2.2.2.2
  have hl : lv_has ls 1 [(0, .ref (G.2.1 0))] := hl
  rw [m_X11_image] at hf
  refine lv_aload_n hx hb dX11_image_0 rfl (lv_at hl 0 rfl) ?_
  refine fm_gr hC hI fd_X11_1 fc_0 fr_0_1 q_206 dX11_image_1 ?_
  refine lv_aload_n hx hb dX11_image_4 rfl (lv_at hl 0 rfl) ?_
  refine fm_gr hC hI fd_X11_0 fc_0 fr_0_0 q_205 dX11_image_5 ?_
  obtain ⟨_u1, σ2, hq3, hf⟩ := fm_bE hf
  refine fm_cv hI (fm_runV (As := [.ref (G.2.1 8)]) (rest := []) (rm := { frames := 1, cells := 0, slots := 0, locals := 22 }) hC hI (c_X10_become hC.2.2.1 fc_33 fc_8 hq3) mV_X10_become q_512 ⟨rfl, rfl⟩ ⟨Nat.le_of_ble_eq_true rfl, Nat.le_of_ble_eq_true rfl⟩ fc_33 rfl (by decide) rfl hl.1 rfl (Nat.le_of_ble_eq_true rfl) dX11_image_8 ⟨Nat.zero_le _, Nat.zero_le _⟩) (fun H locs hI => ?_)
  refine lv_aload_n hx hb dX11_image_11 rfl (lv_at hl 0 rfl) ?_
  refine lv_iconst (v := (1 : Int32)) hx hb dX11_image_12 (by decide) ?_
  obtain ⟨σ4, e5, hf⟩ := fm_letE hf
  refine fm_pi hC hI fp_X11_3 fc_0 ⟨rfl, rfl⟩ e5 q_208 dX11_image_13 (fun H locs hI => ?_)
  refine lv_iconst (v := (1 : Int32)) hx hb dX11_image_16 (by decide) ?_
  exact fm_ri hC hI hr hlk hf dX11_image_17
def m_X11_undo  (σ : fm_M) : Option (Int32 × fm_M) := if (σ.1 0 3) = 0 then (fm_b (m_X11_tell (-1000000004 : Int32) σ) fun r4 σ5 => (some (r4, σ5))) else (fm_b (m_X10_become 8 33 σ) fun _u1 σ2 => (some ((σ2.1 8 4), σ2)))
set_option maxHeartbeats 4000000 in
set_option maxRecDepth 100000 in
theorem c_X11_undo {l : Launch} {G : fm_G} (hJ : fm_J G) {σ : fm_M} {o : Int32 × fm_M}  (hf : m_X11_undo  σ = some o) : Met l yX11_undo (fm_w yX11_undo cX11_undo 1 (some .int)) { frames := 2, cells := 0, slots := 0, locals := 44 } (va_Pc [.ref (G.2.1 0)] (fm_st G σ)) (fm_Qi G o) 0 0 (fm_A G) := by
  refine fm_mth (own := RX11) hJ rfl (by decide +kernel) (Nat.le_of_ble_eq_true rfl) ?_
  intro p e s m below meth c ls hC hr hlk hI hl
  have hx := hC.1.1
  have hb := hC.1.2.1
  have hown := hC.1.2.2.2.1
  have hts := hC.1.2.2.2.2
  have hl : lv_has ls 1 [(0, .ref (G.2.1 0))] := hl
  rw [m_X11_undo] at hf
  refine lv_aload_n hx hb dX11_undo_0 rfl (lv_at hl 0 rfl) ?_
  refine fm_gi hC hI fd_X11_3 fc_0 q_208 dX11_undo_1 ?_
  refine lv_if_ne (tgt := 14) hx hb dX11_undo_4 (by decide) (fun hc => ?_) (fun hc => ?_)
  · have hf := fm_pF hf hc
    refine lv_aload_n hx hb dX11_undo_14 rfl (lv_at hl 0 rfl) ?_
    refine fm_gr hC hI fd_X11_0 fc_0 fr_0_0 q_205 dX11_undo_15 ?_
    refine lv_aload_n hx hb dX11_undo_18 rfl (lv_at hl 0 rfl) ?_
    refine fm_gr hC hI fd_X11_1 fc_0 fr_0_1 q_206 dX11_undo_19 ?_
    obtain ⟨_u1, σ2, hq3, hf⟩ := fm_bE hf
    refine fm_cv hI (fm_runV (As := [.ref (G.2.1 33)]) (rest := []) (rm := { frames := 1, cells := 0, slots := 0, locals := 22 }) hC hI (c_X10_become hC.2.2.1 fc_8 fc_33 hq3) mV_X10_become q_512 ⟨rfl, rfl⟩ ⟨Nat.le_of_ble_eq_true rfl, Nat.le_of_ble_eq_true rfl⟩ fc_8 rfl (by decide) rfl hl.1 rfl (Nat.le_of_ble_eq_true rfl) dX11_undo_22 ⟨Nat.zero_le _, Nat.zero_le _⟩) (fun H locs hI => ?_)
    refine lv_aload_n hx hb dX11_undo_25 rfl (lv_at hl 0 rfl) ?_
    refine fm_gr hC hI fd_X11_0 fc_0 fr_0_0 q_205 dX11_undo_26 ?_
    refine fm_gi hC hI fd_X10_4 fc_8 q_140 dX11_undo_29 ?_
    exact fm_ri hC hI hr hlk hf dX11_undo_32
  · have hf := fm_pT hf hc
    refine lv_aload_n hx hb dX11_undo_7 rfl (lv_at hl 0 rfl) ?_
    refine lv_ldc (v := (-1000000004 : Int32)) hx hb hown (hts _ q_282) dX11_undo_8 ?_
    obtain ⟨r4, σ5, hq6, hf⟩ := fm_bE hf
    refine fm_ci hI (fm_runV (As := [.int (-1000000004 : Int32)]) (rest := []) (rm := { frames := 1, cells := 0, slots := 0, locals := 22 }) hC hI (c_X11_tell hC.2.2.1 hq6) mV_X11_tell q_241 ⟨rfl, rfl⟩ ⟨Nat.le_of_ble_eq_true rfl, Nat.le_of_ble_eq_true rfl⟩ fc_0 rfl (by decide) rfl hl.1 rfl (Nat.le_of_ble_eq_true rfl) dX11_undo_10 ⟨Nat.zero_le _, Nat.zero_le _⟩) (fun H locs hI => ?_)
    exact fm_ri hC hI hr hlk hf dX11_undo_13
def m_X11_tear  (σ : fm_M) : Option (Int32 × fm_M) := fm_j (fun (v0_J1 : Int32) (σ_J1 : fm_M) => fm_let (fm_sI σ_J1 0 3 (0 : Int32)) fun σ2 => (some (v0_J1, σ2))) (fun J1 => if (σ.1 0 3) = 0 then (J1 (0 : Int32) σ) else (J1 (1 : Int32) σ))
set_option maxHeartbeats 4000000 in
set_option maxRecDepth 100000 in
theorem c_X11_tear {l : Launch} {G : fm_G} (hJ : fm_J G) {σ : fm_M} {o : Int32 × fm_M}  (hf : m_X11_tear  σ = some o) : Met l yX11_tear (fm_w yX11_tear cX11_tear 2 (some .int)) { frames := 0, cells := 0, slots := 0, locals := 0 } (va_Pc [.ref (G.2.1 0)] (fm_st G σ)) (fm_Qi G o) 0 0 (fm_A G) := by
  refine fm_mth (own := RX11) hJ rfl (by decide +kernel) (Nat.le_of_ble_eq_true rfl) ?_
  intro p e s m below meth c ls hC hr hlk hI hl
  have hx := hC.1.1
  have hb := hC.1.2.1
  have hown := hC.1.2.2.2.1
  have hts := hC.1.2.2.2.2
  have hl : lv_has ls 2 [(0, .ref (G.2.1 0))] := hl
  rw [m_X11_tear] at hf
  refine lv_aload_n hx hb dX11_tear_0 rfl (lv_at hl 0 rfl) ?_
  refine fm_gi hC hI fd_X11_3 fc_0 q_208 dX11_tear_1 ?_
  obtain ⟨J1, eJ1, hf⟩ := fm_jE hf
  have hJ1 : ∀ (v0_J1 : Int32) (σ_J1 : fm_M) (H : Heap) (locs : List Loc) (ls : Array Slot), fm_I G σ_J1 s H locs → lv_has ls 2 [(0, .ref (G.2.1 0))] → J1 v0_J1 σ_J1 = some o → W p l e { frames := 0, cells := 0, slots := 0, locals := 0 } s m ([.ref (G.2.1 0)] : List Value).toArray below meth c H locs 0 0 (MQ below (fm_Qi G o) ([.ref (G.2.1 0)] : List Value).toArray s 0 0 (fm_A G)) (F0 m 12 ls [.int v0_J1]) := by
    intro v0_J1 σ_J1 H locs ls hI hl hf
    subst eJ1
    refine lv_istore_n (lv' := [(1, .int v0_J1), (0, .ref (G.2.1 0))]) hx hb dX11_tear_12 rfl hl (Nat.le_of_ble_eq_true rfl) rfl (fun ls hl => ?_)
    refine lv_aload_n hx hb dX11_tear_13 rfl (lv_at hl 1 rfl) ?_
    refine lv_iconst (v := (0 : Int32)) hx hb dX11_tear_14 (by decide) ?_
    obtain ⟨σ2, e3, hf⟩ := fm_letE hf
    refine fm_pi hC hI fp_X11_3 fc_0 ⟨rfl, rfl⟩ e3 q_208 dX11_tear_15 (fun H locs hI => ?_)
    refine lv_iload_n hx hb dX11_tear_18 rfl (lv_at hl 0 rfl) ?_
    exact fm_ri hC hI hr hlk hf dX11_tear_19
  refine lv_if_eq (tgt := 11) hx hb dX11_tear_4 (by decide) (fun hc => ?_) (fun hc => ?_)
  · have hf := fm_pT hf hc
    refine lv_iconst (v := (0 : Int32)) hx hb dX11_tear_11 (by decide) ?_
    exact hJ1 (0 : Int32) σ _ _ _ hI (lv_sub hl [0] rfl) hf
  · have hf := fm_pF hf hc
    refine lv_iconst (v := (1 : Int32)) hx hb dX11_tear_7 (by decide) ?_
    refine lv_goto (tgt := 12) hx hb dX11_tear_8 (by decide) ?_
    exact hJ1 (1 : Int32) σ _ _ _ hI (lv_sub hl [0] rfl) hf
def m_X11_count (a1 : Int32) (σ : fm_M) : Option (Int32 × fm_M) := if a1 = (0 : Int32) then (some ((σ.1 8 4), σ)) else (if a1 = (1 : Int32) then (some ((σ.1 8 5), σ)) else (if a1 = (2 : Int32) then (some ((σ.1 92 1), σ)) else (if a1 = (3 : Int32) then (fm_b (m_X10_opened 8 σ) fun r5 σ6 => (fm_b (m_J6_bitCount_0f7a4 r5 σ6) fun r8 σ9 => (some (r8, σ9)))) else (fm_b (m_X11_tell (-1000000001 : Int32) σ) fun r11 σ12 => (some (r11, σ12))))))
set_option maxHeartbeats 4000000 in
set_option maxRecDepth 100000 in
theorem c_X11_count {l : Launch} {G : fm_G} (hJ : fm_J G) {a1 : Int32} {σ : fm_M} {o : Int32 × fm_M}  (hf : m_X11_count a1 σ = some o) : Met l yX11_count (fm_w yX11_count cX11_count 2 (some .int)) { frames := 2, cells := 0, slots := 0, locals := 44 } (va_Pc [.ref (G.2.1 0), .int a1] (fm_st G σ)) (fm_Qi G o) 0 0 (fm_A G) := by
  refine fm_mth (own := RX11) hJ rfl (by decide +kernel) (Nat.le_of_ble_eq_true rfl) ?_
  intro p e s m below meth c ls hC hr hlk hI hl
  have hx := hC.1.1
  have hb := hC.1.2.1
  have hown := hC.1.2.2.2.1
  have hts := hC.1.2.2.2.2
  have hl : lv_has ls 2 [(0, .ref (G.2.1 0)), (1, .int a1)] := hl
  rw [m_X11_count] at hf
  refine lv_iload_n hx hb dX11_count_0 rfl (lv_at hl 1 rfl) ?_
  by_cases hc1 : a1 = (0 : Int32)
  · have hf := fm_pT hf hc1
    refine lv_tableIn (off := 31) (tgt := 32) hx hb dX11_count_1 (by rw [hc1]; decide) (by rw [hc1]; decide) (by rw [hc1]; decide) (by decide) ?_
    refine lv_aload_n hx hb dX11_count_32 rfl (lv_at hl 0 rfl) ?_
    refine fm_gr hC hI fd_X11_0 fc_0 fr_0_0 q_205 dX11_count_33 ?_
    refine fm_gi hC hI fd_X10_4 fc_8 q_140 dX11_count_36 ?_
    exact fm_ri hC hI hr hlk hf dX11_count_39
  · have hf := fm_pF hf hc1
    by_cases hc2 : a1 = (1 : Int32)
    · have hf := fm_pT hf hc2
      refine lv_tableIn (off := 39) (tgt := 40) hx hb dX11_count_1 (by rw [hc2]; decide) (by rw [hc2]; decide) (by rw [hc2]; decide) (by decide) ?_
      refine lv_aload_n hx hb dX11_count_40 rfl (lv_at hl 0 rfl) ?_
      refine fm_gr hC hI fd_X11_0 fc_0 fr_0_0 q_205 dX11_count_41 ?_
      refine fm_gi hC hI fd_X10_5 fc_8 q_144 dX11_count_44 ?_
      exact fm_ri hC hI hr hlk hf dX11_count_47
    · have hf := fm_pF hf hc2
      by_cases hc3 : a1 = (2 : Int32)
      · have hf := fm_pT hf hc3
        refine lv_tableIn (off := 47) (tgt := 48) hx hb dX11_count_1 (by rw [hc3]; decide) (by rw [hc3]; decide) (by rw [hc3]; decide) (by decide) ?_
        refine lv_aload_n hx hb dX11_count_48 rfl (lv_at hl 0 rfl) ?_
        refine fm_gr hC hI fd_X11_5 fc_0 fr_0_5 q_210 dX11_count_49 ?_
        refine fm_gi hC hI fd_X9_1 fc_92 q_187 dX11_count_52 ?_
        exact fm_ri hC hI hr hlk hf dX11_count_55
      · have hf := fm_pF hf hc3
        by_cases hc4 : a1 = (3 : Int32)
        · have hf := fm_pT hf hc4
          refine lv_tableIn (off := 55) (tgt := 56) hx hb dX11_count_1 (by rw [hc4]; decide) (by rw [hc4]; decide) (by rw [hc4]; decide) (by decide) ?_
          refine lv_aload_n hx hb dX11_count_56 rfl (lv_at hl 0 rfl) ?_
          refine fm_gr hC hI fd_X11_0 fc_0 fr_0_0 q_205 dX11_count_57 ?_
          obtain ⟨r5, σ6, hq7, hf⟩ := fm_bE hf
          refine fm_ci hI (fm_runV (As := []) (rest := []) (rm := { frames := 0, cells := 0, slots := 0, locals := 0 }) hC hI (c_X10_opened hC.2.2.1 fc_8 hq7) mV_X10_opened q_495 ⟨rfl, rfl⟩ ⟨Nat.le_of_ble_eq_true rfl, Nat.le_of_ble_eq_true rfl⟩ fc_8 rfl (by decide) rfl hl.1 rfl (Nat.le_of_ble_eq_true rfl) dX11_count_60 ⟨Nat.zero_le _, Nat.zero_le _⟩) (fun H locs hI => ?_)
          obtain ⟨r8, σ9, hq10, hf⟩ := fm_bE hf
          refine fm_ci hI (fm_runS (As := [.int r5]) (rest := []) (rm := { frames := 0, cells := 0, slots := 0, locals := 0 }) hC hI (c_J6_bitCount_0f7a4 hC.2.2.1 hq10) mS_J6_bitCount_0f7a4 q_782 ⟨rfl, rfl⟩ ⟨Nat.le_of_ble_eq_true rfl, Nat.le_of_ble_eq_true rfl⟩ rfl hl.1 rfl (Nat.le_of_ble_eq_true rfl) dX11_count_63 ⟨Nat.zero_le _, Nat.zero_le _⟩) (fun H locs hI => ?_)
          exact fm_ri hC hI hr hlk hf dX11_count_66
        · have hf := fm_pF hf hc4
          have hsw : (a1 : Int32).toInt < 0 ∨ 3 < (a1 : Int32).toInt := by
            have t0 := fm_neI hc1
            rw [show ((0 : Int32)).toInt = 0 from by decide] at t0
            have t1 := fm_neI hc2
            rw [show ((1 : Int32)).toInt = 1 from by decide] at t1
            have t2 := fm_neI hc3
            rw [show ((2 : Int32)).toInt = 2 from by decide] at t2
            have t3 := fm_neI hc4
            rw [show ((3 : Int32)).toInt = 3 from by decide] at t3
            omega
          refine lv_tableOut (tgt := 67) hx hb dX11_count_1 hsw (by decide) ?_
          refine lv_aload_n hx hb dX11_count_67 rfl (lv_at hl 0 rfl) ?_
          refine lv_ldc (v := (-1000000001 : Int32)) hx hb hown (hts _ q_240) dX11_count_68 ?_
          obtain ⟨r11, σ12, hq13, hf⟩ := fm_bE hf
          refine fm_ci hI (fm_runV (As := [.int (-1000000001 : Int32)]) (rest := []) (rm := { frames := 1, cells := 0, slots := 0, locals := 22 }) hC hI (c_X11_tell hC.2.2.1 hq13) mV_X11_tell q_241 ⟨rfl, rfl⟩ ⟨Nat.le_of_ble_eq_true rfl, Nat.le_of_ble_eq_true rfl⟩ fc_0 rfl (by decide) rfl hl.1 rfl (Nat.le_of_ble_eq_true rfl) dX11_count_70 ⟨Nat.zero_le _, Nat.zero_le _⟩) (fun H locs hI => ?_)
          exact fm_ri hC hI hr hlk hf dX11_count_73
def m_X11_status_32 (kc : Int32 → Int32 → fm_M → Option (Int32 × fm_M)) : Nat → Int32 → Int32 → fm_M → Option (Int32 × fm_M)
  | 0, _, _, _ => none
  | n + 1, z2, z3, σ => if (7 : Int32) ≤ z3 then (kc z2 z3 σ) else (fm_g (fm_in1 z3 7) (m_X11_status_32 kc n (z2 + (σ.1 94 z3.toNatClampNeg)) (z3 + (1 : Int32)) σ))
def m_X11_status (a1 : Int32) (σ : fm_M) : Option (Int32 × fm_M) := fm_b (m_X11_within a1 (-1 : Int32) (6 : Int32) σ) fun r1 σ2 => (if r1 = 0 then (fm_b (m_X11_tell (-1000000001 : Int32) σ2) fun r7 σ8 => (some (r7, σ8))) else (if a1 < 0 then (m_X11_status_32 (fun (x2_y5 : Int32) (x3_y5 : Int32) (σ_y5 : fm_M) => some (x2_y5, σ_y5)) fm_fu (0 : Int32) (0 : Int32) σ2) else (fm_g (fm_in1 a1 7) (some ((σ2.1 94 a1.toNatClampNeg), σ2)))))
set_option maxHeartbeats 4000000 in
set_option maxRecDepth 100000 in
theorem w_X11_status_32 {p : Program} {l : Launch} {e : Env} {s : State} {m : MethodId} {args : Array Value} {below : List Frame} {meth : Method} {c : Code} {G : fm_G} {o : Int32 × fm_M} {kc : Int32 → Int32 → fm_M → Option (Int32 × fm_M)} (hC : fm_C G p m c cX11_status 4 s args RX11) (hr : meth.sig.returnType = (some .int)) (hlk : meth.locks = false) (hk : ∀ (z2 : Int32) (z3 : Int32) (σ : fm_M) (H : Heap) (locs : List Loc) (ls : Array Slot), fm_I G σ s H locs → lv_has ls 4 [(0, .ref (G.2.1 0)), (2, .int z2), (3, .int z3)] → kc z2 z3 σ = some o → W p l e { frames := 2, cells := 0, slots := 0, locals := 44 } s m args below meth c H locs 0 0 (MQ below (fm_Qi G o) args s 0 0 (fm_A G)) (F0 m 53 ls [])) (n : Nat) : ∀ (z2 : Int32) (z3 : Int32) (σ : fm_M) (H : Heap) (locs : List Loc) (ls : Array Slot), fm_I G σ s H locs → lv_has ls 4 [(0, .ref (G.2.1 0)), (2, .int z2), (3, .int z3)] → m_X11_status_32 kc n z2 z3 σ = some o → W p l e { frames := 2, cells := 0, slots := 0, locals := 44 } s m args below meth c H locs 0 0 (MQ below (fm_Qi G o) args s 0 0 (fm_A G)) (F0 m 32 ls []) := by
  have hx := hC.1.1
  have hb := hC.1.2.1
  have hown := hC.1.2.2.2.1
  have hts := hC.1.2.2.2.2
  induction n with
  | zero =>
    intro z2 z3 σ H locs ls hI hl hf
    cases hf
  | succ n ih =>
    intro z2 z3 σ H locs ls hI hl hf
    rw [m_X11_status_32] at hf
    refine lv_iload_n hx hb dX11_status_32 rfl (lv_at hl 2 rfl) ?_
    refine lv_bipush (v := (7 : Int32)) hx hb dX11_status_33 (by decide) ?_
    refine lv_icmp_ge (tgt := 53) hx hb dX11_status_35 (by decide) (fun hc => ?_) (fun hc => ?_)
    · have hf := fm_pT hf hc
      exact hk z2 z3 σ _ _ _ hI (lv_sub hl [0, 1, 2] rfl) hf
    · have hf := fm_pF hf hc
      refine lv_iload_n hx hb dX11_status_38 rfl (lv_at hl 1 rfl) ?_
      refine lv_aload_n hx hb dX11_status_39 rfl (lv_at hl 0 rfl) ?_
      refine fm_gr hC hI fd_X11_6 fc_0 fr_0_6 q_211 dX11_status_40 ?_
      refine lv_iload_n hx hb dX11_status_43 rfl (lv_at hl 2 rfl) ?_
      obtain ⟨hg4, hf⟩ := fm_gE hf
      refine fm_iald hC hI fc_94 fl_94 hg4 dX11_status_44 ?_
      refine lv_iadd hx hb dX11_status_45 ?_
      refine lv_istore_n (lv' := [(2, .int (z2 + (σ.1 94 z3.toNatClampNeg))), (0, .ref (G.2.1 0)), (3, .int z3)]) hx hb dX11_status_46 rfl hl (Nat.le_of_ble_eq_true rfl) rfl (fun ls hl => ?_)
      refine lv_iinc (v := (z3 + (1 : Int32))) (lv' := [(3, .int (z3 + (1 : Int32))), (2, .int (z2 + (σ.1 94 z3.toNatClampNeg))), (0, .ref (G.2.1 0))]) hx hb dX11_status_47 hl (k := 2) rfl rfl (Nat.le_of_ble_eq_true rfl) rfl (fun ls hl => ?_)
      refine lv_goto (tgt := 32) hx hb dX11_status_50 (by decide) ?_
      exact ih (z2 + (σ.1 94 z3.toNatClampNeg)) (z3 + (1 : Int32)) σ _ _ _ hI (lv_sub hl [2, 1, 0] rfl) hf
set_option maxHeartbeats 4000000 in
set_option maxRecDepth 100000 in
theorem c_X11_status {l : Launch} {G : fm_G} (hJ : fm_J G) {a1 : Int32} {σ : fm_M} {o : Int32 × fm_M}  (hf : m_X11_status a1 σ = some o) : Met l yX11_status (fm_w yX11_status cX11_status 4 (some .int)) { frames := 2, cells := 0, slots := 0, locals := 44 } (va_Pc [.ref (G.2.1 0), .int a1] (fm_st G σ)) (fm_Qi G o) 0 0 (fm_A G) := by
  refine fm_mth (own := RX11) hJ rfl (by decide +kernel) (Nat.le_of_ble_eq_true rfl) ?_
  intro p e s m below meth c ls hC hr hlk hI hl
  have hx := hC.1.1
  have hb := hC.1.2.1
  have hown := hC.1.2.2.2.1
  have hts := hC.1.2.2.2.2
  have hl : lv_has ls 4 [(0, .ref (G.2.1 0)), (1, .int a1)] := hl
  rw [m_X11_status] at hf
  refine lv_iload_n hx hb dX11_status_0 rfl (lv_at hl 1 rfl) ?_
  refine lv_iconst (v := (-1 : Int32)) hx hb dX11_status_1 (by decide) ?_
  refine lv_bipush (v := (6 : Int32)) hx hb dX11_status_2 (by decide) ?_
  obtain ⟨r1, σ2, hq3, hf⟩ := fm_bE hf
  refine fm_ci hI (fm_runS (As := [.int a1, .int (-1 : Int32), .int (6 : Int32)]) (rest := []) (rm := { frames := 0, cells := 0, slots := 0, locals := 0 }) hC hI (c_X11_within hC.2.2.1 hq3) mS_X11_within q_237 ⟨rfl, rfl⟩ ⟨Nat.le_of_ble_eq_true rfl, Nat.le_of_ble_eq_true rfl⟩ rfl hl.1 rfl (Nat.le_of_ble_eq_true rfl) dX11_status_4 ⟨Nat.zero_le _, Nat.zero_le _⟩) (fun H locs hI => ?_)
  refine lv_if_ne (tgt := 17) hx hb dX11_status_7 (by decide) (fun hc => ?_) (fun hc => ?_)
  · have hf := fm_pF hf hc
    refine lv_iload_n hx hb dX11_status_17 rfl (lv_at hl 1 rfl) ?_
    refine lv_if_lt (tgt := 28) hx hb dX11_status_18 (by decide) (fun hc => ?_) (fun hc => ?_)
    · have hf := fm_pT hf hc
      refine lv_iconst (v := (0 : Int32)) hx hb dX11_status_28 (by decide) ?_
      refine lv_istore_n (lv' := [(2, .int (0 : Int32)), (0, .ref (G.2.1 0)), (1, .int a1)]) hx hb dX11_status_29 rfl hl (Nat.le_of_ble_eq_true rfl) rfl (fun ls hl => ?_)
      refine lv_iconst (v := (0 : Int32)) hx hb dX11_status_30 (by decide) ?_
      refine lv_istore_n (lv' := [(3, .int (0 : Int32)), (2, .int (0 : Int32)), (0, .ref (G.2.1 0)), (1, .int a1)]) hx hb dX11_status_31 rfl hl (Nat.le_of_ble_eq_true rfl) rfl (fun ls hl => ?_)
      refine w_X11_status_32 hC hr hlk (fun x2_y5 x3_y5 σ_y5 H locs ls hI hl hf => ?_) fm_fu (0 : Int32) (0 : Int32) σ2 _ _ _ hI (lv_sub hl [2, 1, 0] rfl) hf
      refine lv_iload_n hx hb dX11_status_53 rfl (lv_at hl 1 rfl) ?_
      exact fm_ri hC hI hr hlk hf dX11_status_54
    · have hf := fm_pF hf hc
      refine lv_aload_n hx hb dX11_status_21 rfl (lv_at hl 0 rfl) ?_
      refine fm_gr hC hI fd_X11_6 fc_0 fr_0_6 q_211 dX11_status_22 ?_
      refine lv_iload_n hx hb dX11_status_25 rfl (lv_at hl 1 rfl) ?_
      obtain ⟨hg6, hf⟩ := fm_gE hf
      refine fm_iald hC hI fc_94 fl_94 hg6 dX11_status_26 ?_
      exact fm_ri hC hI hr hlk hf dX11_status_27
  · have hf := fm_pT hf hc
    refine lv_aload_n hx hb dX11_status_10 rfl (lv_at hl 0 rfl) ?_
    refine lv_ldc (v := (-1000000001 : Int32)) hx hb hown (hts _ q_240) dX11_status_11 ?_
    obtain ⟨r7, σ8, hq9, hf⟩ := fm_bE hf
    refine fm_ci hI (fm_runV (As := [.int (-1000000001 : Int32)]) (rest := []) (rm := { frames := 1, cells := 0, slots := 0, locals := 22 }) hC hI (c_X11_tell hC.2.2.1 hq9) mV_X11_tell q_241 ⟨rfl, rfl⟩ ⟨Nat.le_of_ble_eq_true rfl, Nat.le_of_ble_eq_true rfl⟩ fc_0 rfl (by decide) rfl hl.1 rfl (Nat.le_of_ble_eq_true rfl) dX11_status_13 ⟨Nat.zero_le _, Nat.zero_le _⟩) (fun H locs hI => ?_)
    exact fm_ri hC hI hr hlk hf dX11_status_16
