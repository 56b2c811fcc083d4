def m_X12_no (a1 : Int32) (σ : fm_M) : Option (Int32 × fm_M) := fm_g (fm_in1 a1 7) (fm_g (fm_in1 a1 7) (fm_let (fm_sI σ 100 a1.toNatClampNeg ((σ.1 100 a1.toNatClampNeg) + (1 : Int32))) fun σ3 => (some (((-1000000001 : Int32) - a1), σ3))))
set_option maxHeartbeats 4000000 in
set_option maxRecDepth 100000 in
theorem c_X12_no {l : Launch} {G : fm_G} (hJ : fm_J G) {a1 : Int32} {σ : fm_M} {o : Int32 × fm_M}  (hf : m_X12_no a1 σ = some o) : Met l yX12_no (fm_w yX12_no cX12_no 2 (some .int)) { frames := 0, cells := 0, slots := 0, locals := 0 } (va_Pc [.ref (G.2.1 96), .int a1] (fm_st G σ)) (fm_Qi G o) 0 0 (fm_A G) := by
  refine fm_mth (own := RX12) hJ rfl (by decide +kernel) (Nat.le_of_ble_eq_true rfl) ?_
  intro p e s m below meth c ls hC hr hlk hI hl
  have hx := hC.1.1
  have hb := hC.1.2.1
  have hown := hC.1.2.2.2.1
  have hts := hC.1.2.2.2.2
  have hl : lv_has ls 2 [(0, .ref (G.2.1 96)), (1, .int a1)] := hl
  rw [m_X12_no] at hf
  refine lv_aload_n hx hb dX12_no_0 rfl (lv_at hl 0 rfl) ?_
  refine fm_gr hC hI fd_X12_4 fc_96 fr_96_4 q_802 dX12_no_1 ?_
  refine lv_iload_n hx hb dX12_no_4 rfl (lv_at hl 1 rfl) ?_
  refine lv_dup2_11 hx hb dX12_no_5 rfl rfl ?_
  obtain ⟨hg1, hf⟩ := fm_gE hf
  refine fm_iald hC hI fc_100 fl_100 hg1 dX12_no_6 ?_
  refine lv_iconst (v := (1 : Int32)) hx hb dX12_no_7 (by decide) ?_
  refine lv_iadd hx hb dX12_no_8 ?_
  obtain ⟨hg2, hf⟩ := fm_gE hf
  obtain ⟨σ3, e4, hf⟩ := fm_letE hf
  refine fm_iast hC hI fc_100 fl_100 hg2 e4 dX12_no_9 (fun H locs hI => ?_)
  refine lv_ldc (v := (-1000000001 : Int32)) hx hb hown (hts _ q_871) dX12_no_10 ?_
  refine lv_iload_n hx hb dX12_no_12 rfl (lv_at hl 1 rfl) ?_
  refine lv_isub hx hb dX12_no_13 ?_
  exact fm_ri hC hI hr hlk hf dX12_no_14
def m_X12_in1 (a0 : Int32) (a1 : Int32) (a2 : Int32) (σ : fm_M) : Option (Int32 × fm_M) := if a0 < a1 then (some ((0 : Int32), σ)) else (if a2 < a0 then (some ((0 : Int32), σ)) else (some ((1 : Int32), σ)))
set_option maxHeartbeats 4000000 in
set_option maxRecDepth 100000 in
theorem c_X12_in1 {l : Launch} {G : fm_G} (hJ : fm_J G) {a0 : Int32} {a1 : Int32} {a2 : Int32} {σ : fm_M} {o : Int32 × fm_M}  (hf : m_X12_in1 a0 a1 a2 σ = some o) : Met l yX12_in1 (fm_w yX12_in1 cX12_in1 3 (some .boolean)) { frames := 0, cells := 0, slots := 0, locals := 0 } (va_Pc [.int a0, .int a1, .int a2] (fm_st G σ)) (fm_Qi G o) 0 0 (fm_A G) := by
  refine fm_mth (own := RX12) hJ rfl (by decide +kernel) (Nat.le_of_ble_eq_true rfl) ?_
  intro p e s m below meth c ls hC hr hlk hI hl
  have hx := hC.1.1
  have hb := hC.1.2.1
  have hown := hC.1.2.2.2.1
  have hts := hC.1.2.2.2.2
  have hl : lv_has ls 3 [(0, .int a0), (1, .int a1), (2, .int a2)] := hl
  rw [m_X12_in1] at hf
  refine lv_iload_n hx hb dX12_in1_0 rfl (lv_at hl 0 rfl) ?_
  refine lv_iload_n hx hb dX12_in1_1 rfl (lv_at hl 1 rfl) ?_
  refine lv_icmp_lt (tgt := 14) hx hb dX12_in1_2 (by decide) (fun hc => ?_) (fun hc => ?_)
  · have hf := fm_pT hf hc
    refine lv_iconst (v := (0 : Int32)) hx hb dX12_in1_14 (by decide) ?_
    exact fm_rz hC hI hr hlk (by decide) hf dX12_in1_15
  · have hf := fm_pF hf hc
    refine lv_iload_n hx hb dX12_in1_5 rfl (lv_at hl 0 rfl) ?_
    refine lv_iload_n hx hb dX12_in1_6 rfl (lv_at hl 2 rfl) ?_
    refine lv_icmp_gt (tgt := 14) hx hb dX12_in1_7 (by decide) (fun hc => ?_) (fun hc => ?_)
    · have hf := fm_pT hf hc
      refine lv_iconst (v := (0 : Int32)) hx hb dX12_in1_14 (by decide) ?_
      exact fm_rz hC hI hr hlk (by decide) hf dX12_in1_15
    · have hf := fm_pF hf hc
      refine lv_iconst (v := (1 : Int32)) hx hb dX12_in1_10 (by decide) ?_
      refine lv_goto (tgt := 15) hx hb dX12_in1_11 (by decide) ?_
      exact fm_rz hC hI hr hlk (by decide) hf dX12_in1_15
def m_X12_less (a0 : Int32) (a1 : Int32) (σ : fm_M) : Option (Int32 × fm_M) := if a1 ≤ a0 then (some (a1, σ)) else (some (a0, σ))
set_option maxHeartbeats 4000000 in
set_option maxRecDepth 100000 in
theorem c_X12_less {l : Launch} {G : fm_G} (hJ : fm_J G) {a0 : Int32} {a1 : Int32} {σ : fm_M} {o : Int32 × fm_M}  (hf : m_X12_less a0 a1 σ = some o) : Met l yX12_less (fm_w yX12_less cX12_less 2 (some .int)) { frames := 0, cells := 0, slots := 0, locals := 0 } (va_Pc [.int a0, .int a1] (fm_st G σ)) (fm_Qi G o) 0 0 (fm_A G) := by
  refine fm_mth (own := RX12) hJ rfl (by decide +kernel) (Nat.le_of_ble_eq_true rfl) ?_
  intro p e s m below meth c ls hC hr hlk hI hl
  have hx := hC.1.1
  have hb := hC.1.2.1
  have hown := hC.1.2.2.2.1
  have hts := hC.1.2.2.2.2
  have hl : lv_has ls 2 [(0, .int a0), (1, .int a1)] := hl
  rw [m_X12_less] at hf
  refine lv_iload_n hx hb dX12_less_0 rfl (lv_at hl 0 rfl) ?_
  refine lv_iload_n hx hb dX12_less_1 rfl (lv_at hl 1 rfl) ?_
  refine lv_icmp_ge (tgt := 9) hx hb dX12_less_2 (by decide) (fun hc => ?_) (fun hc => ?_)
  · have hf := fm_pT hf hc
    refine lv_iload_n hx hb dX12_less_9 rfl (lv_at hl 1 rfl) ?_
    exact fm_ri hC hI hr hlk hf dX12_less_10
  · have hf := fm_pF hf hc
    refine lv_iload_n hx hb dX12_less_5 rfl (lv_at hl 0 rfl) ?_
    refine lv_goto (tgt := 10) hx hb dX12_less_6 (by decide) ?_
    exact fm_ri hC hI hr hlk hf dX12_less_10
def m_X12_bits_4 (kc : Int32 → Int32 → fm_M → Option (Int32 × fm_M)) : Nat → Int32 → Int32 → fm_M → Option (Int32 × fm_M)
  | 0, _, _, _ => none
  | n + 1, z1, z2, σ => if z2 = 0 then (kc z1 z2 σ) else (m_X12_bits_4 kc n (z1 + (1 : Int32)) (z2 &&& (z2 - (1 : Int32))) σ)
def m_X12_bits (a0 : Int32) (σ : fm_M) : Option (Int32 × fm_M) := m_X12_bits_4 (fun (x1_y1 : Int32) (x2_y1 : Int32) (σ_y1 : fm_M) => some (x1_y1, σ_y1)) fm_fu (0 : Int32) a0 σ
set_option maxHeartbeats 4000000 in
set_option maxRecDepth 100000 in
theorem w_X12_bits_4 {p : Program} {l : Launch} {e : Env} {s : State} {m : MethodId} {args : Array Value} {below : List Frame} {meth : Method} {c : Code} {G : fm_G} {o : Int32 × fm_M} {kc : Int32 → Int32 → fm_M → Option (Int32 × fm_M)} (hC : fm_C G p m c cX12_bits 3 s args RX12) (hr : meth.sig.returnType = (some .int)) (hlk : meth.locks = false) (hk : ∀ (z1 : Int32) (z2 : Int32) (σ : fm_M) (H : Heap) (locs : List Loc) (ls : Array Slot), fm_I G σ s H locs → lv_has ls 3 [(1, .int z1), (2, .int z2)] → kc z1 z2 σ = some o → W p l e { frames := 0, cells := 0, slots := 0, locals := 0 } s m args below meth c H locs 0 0 (MQ below (fm_Qi G o) args s 0 0 (fm_A G)) (F0 m 20 ls [])) (n : Nat) : ∀ (z1 : Int32) (z2 : Int32) (σ : fm_M) (H : Heap) (locs : List Loc) (ls : Array Slot), fm_I G σ s H locs → lv_has ls 3 [(1, .int z1), (2, .int z2)] → m_X12_bits_4 kc n z1 z2 σ = some o → W p l e { frames := 0, cells := 0, slots := 0, locals := 0 } s m args below meth c H locs 0 0 (MQ below (fm_Qi G o) args s 0 0 (fm_A G)) (F0 m 4 ls []) := by
  have hx := hC.1.1
  have hb := hC.1.2.1
  have hown := hC.1.2.2.2.1
  have hts := hC.1.2.2.2.2
  induction n with
  | zero =>
    intro z1 z2 σ H locs ls hI hl hf
    cases hf
  | succ n ih =>
    intro z1 z2 σ H locs ls hI hl hf
    rw [m_X12_bits_4] at hf
    refine lv_iload_n hx hb dX12_bits_4 rfl (lv_at hl 1 rfl) ?_
    refine lv_if_eq (tgt := 20) hx hb dX12_bits_5 (by decide) (fun hc => ?_) (fun hc => ?_)
    · have hf := fm_pT hf hc
      exact hk z1 z2 σ _ _ _ hI (lv_sub hl [0, 1] rfl) hf
    · have hf := fm_pF hf hc
      refine lv_iinc (v := (z1 + (1 : Int32))) (lv' := [(1, .int (z1 + (1 : Int32))), (2, .int z2)]) hx hb dX12_bits_8 hl (k := 0) rfl rfl (Nat.le_of_ble_eq_true rfl) rfl (fun ls hl => ?_)
      refine lv_iload_n hx hb dX12_bits_11 rfl (lv_at hl 1 rfl) ?_
      refine lv_iload_n hx hb dX12_bits_12 rfl (lv_at hl 1 rfl) ?_
      refine lv_iconst (v := (1 : Int32)) hx hb dX12_bits_13 (by decide) ?_
      refine lv_isub hx hb dX12_bits_14 ?_
      refine lv_iand hx hb dX12_bits_15 ?_
      refine lv_istore_n (lv' := [(2, .int (z2 &&& (z2 - (1 : Int32)))), (1, .int (z1 + (1 : Int32)))]) hx hb dX12_bits_16 rfl hl (Nat.le_of_ble_eq_true rfl) rfl (fun ls hl => ?_)
      refine lv_goto (tgt := 4) hx hb dX12_bits_17 (by decide) ?_
      exact ih (z1 + (1 : Int32)) (z2 &&& (z2 - (1 : Int32))) σ _ _ _ hI (lv_sub hl [1, 0] rfl) hf
set_option maxHeartbeats 4000000 in
set_option maxRecDepth 100000 in
theorem c_X12_bits {l : Launch} {G : fm_G} (hJ : fm_J G) {a0 : Int32} {σ : fm_M} {o : Int32 × fm_M}  (hf : m_X12_bits a0 σ = some o) : Met l yX12_bits (fm_w yX12_bits cX12_bits 3 (some .int)) { frames := 0, cells := 0, slots := 0, locals := 0 } (va_Pc [.int a0] (fm_st G σ)) (fm_Qi G o) 0 0 (fm_A G) := by
  refine fm_mth (own := RX12) hJ rfl (by decide +kernel) (Nat.le_of_ble_eq_true rfl) ?_
  intro p e s m below meth c ls hC hr hlk hI hl
  have hx := hC.1.1
  have hb := hC.1.2.1
  have hown := hC.1.2.2.2.1
  have hts := hC.1.2.2.2.2
  have hl : lv_has ls 3 [(0, .int a0)] := hl
  rw [m_X12_bits] at hf
  refine lv_iconst (v := (0 : Int32)) hx hb dX12_bits_0 (by decide) ?_
  refine lv_istore_n (lv' := [(1, .int (0 : Int32)), (0, .int a0)]) hx hb dX12_bits_1 rfl hl (Nat.le_of_ble_eq_true rfl) rfl (fun ls hl => ?_)
  refine lv_iload_n hx hb dX12_bits_2 rfl (lv_at hl 1 rfl) ?_
  refine lv_istore_n (lv' := [(2, .int a0), (1, .int (0 : Int32)), (0, .int a0)]) hx hb dX12_bits_3 rfl hl (Nat.le_of_ble_eq_true rfl) rfl (fun ls hl => ?_)
  refine w_X12_bits_4 hC hr hlk (fun x1_y1 x2_y1 σ_y1 H locs ls hI hl hf => ?_) fm_fu (0 : Int32) a0 σ _ _ _ hI (lv_sub hl [1, 0] rfl) hf
  refine lv_iload_n hx hb dX12_bits_20 rfl (lv_at hl 0 rfl) ?_
  exact fm_ri hC hI hr hlk hf dX12_bits_21
def m_X12_isPerson (a1 : Int32) (σ : fm_M) : Option (Int32 × fm_M) := fm_g (fm_in1 (1 : Int32) 96) (fm_b (m_X12_in1 a1 (0 : Int32) ((σ.1 97 (1 : Int32).toNatClampNeg) - (1 : Int32)) σ) fun r2 σ3 => (fm_g (fm_bz r2) (some (r2, σ3))))
set_option maxHeartbeats 4000000 in
set_option maxRecDepth 100000 in
theorem c_X12_isPerson {l : Launch} {G : fm_G} (hJ : fm_J G) {a1 : Int32} {σ : fm_M} {o : Int32 × fm_M}  (hf : m_X12_isPerson a1 σ = some o) : Met l yX12_isPerson (fm_w yX12_isPerson cX12_isPerson 2 (some .boolean)) { frames := 1, cells := 0, slots := 0, locals := 22 } (va_Pc [.ref (G.2.1 96), .int a1] (fm_st G σ)) (fm_Qi G o) 0 0 (fm_A G) := by
  refine fm_mth (own := RX12) hJ rfl (by decide +kernel) (Nat.le_of_ble_eq_true rfl) ?_
  intro p e s m below meth c ls hC hr hlk hI hl
  have hx := hC.1.1
  have hb := hC.1.2.1
  have hown := hC.1.2.2.2.1
  have hts := hC.1.2.2.2.2
  have hl : lv_has ls 2 [(0, .ref (G.2.1 96)), (1, .int a1)] := hl
  rw [m_X12_isPerson] at hf
  refine lv_iload_n hx hb dX12_isPerson_0 rfl (lv_at hl 1 rfl) ?_
  refine lv_iconst (v := (0 : Int32)) hx hb dX12_isPerson_1 (by decide) ?_
  refine lv_aload_n hx hb dX12_isPerson_2 rfl (lv_at hl 0 rfl) ?_
  refine fm_gr hC hI fd_X12_0 fc_96 fr_96_0 q_798 dX12_isPerson_3 ?_
  refine lv_iconst (v := (1 : Int32)) hx hb dX12_isPerson_6 (by decide) ?_
  obtain ⟨hg1, hf⟩ := fm_gE hf
  refine fm_iald hC hI fc_97 fl_97 hg1 dX12_isPerson_7 ?_
  refine lv_iconst (v := (1 : Int32)) hx hb dX12_isPerson_8 (by decide) ?_
  refine lv_isub hx hb dX12_isPerson_9 ?_
  obtain ⟨r2, σ3, hq4, hf⟩ := fm_bE hf
  refine fm_ci hI (fm_runS (As := [.int a1, .int (0 : Int32), .int ((σ.1 97 (1 : Int32).toNatClampNeg) - (1 : Int32))]) (rest := []) (rm := { frames := 0, cells := 0, slots := 0, locals := 0 }) hC hI (c_X12_in1 hC.2.2.1 hq4) mS_X12_in1 q_864 ⟨rfl, rfl⟩ ⟨Nat.le_of_ble_eq_true rfl, Nat.le_of_ble_eq_true rfl⟩ rfl hl.1 rfl (Nat.le_of_ble_eq_true rfl) dX12_isPerson_10 ⟨Nat.zero_le _, Nat.zero_le _⟩) (fun H locs hI => ?_)
  obtain ⟨hg5, hf⟩ := fm_gE hf
  exact fm_rz hC hI hr hlk hg5 hf dX12_isPerson_13
def m_X12_isPresent (a1 : Int32) (σ : fm_M) : Option (Int32 × fm_M) := fm_g (fm_in1 (2 : Int32) 96) (fm_b (m_X12_in1 a1 (0 : Int32) ((σ.1 97 (2 : Int32).toNatClampNeg) - (1 : Int32)) σ) fun r2 σ3 => (fm_g (fm_bz r2) (some (r2, σ3))))
set_option maxHeartbeats 4000000 in
set_option maxRecDepth 100000 in
theorem c_X12_isPresent {l : Launch} {G : fm_G} (hJ : fm_J G) {a1 : Int32} {σ : fm_M} {o : Int32 × fm_M}  (hf : m_X12_isPresent a1 σ = some o) : Met l yX12_isPresent (fm_w yX12_isPresent cX12_isPresent 2 (some .boolean)) { frames := 1, cells := 0, slots := 0, locals := 22 } (va_Pc [.ref (G.2.1 96), .int a1] (fm_st G σ)) (fm_Qi G o) 0 0 (fm_A G) := by
  refine fm_mth (own := RX12) hJ rfl (by decide +kernel) (Nat.le_of_ble_eq_true rfl) ?_
  intro p e s m below meth c ls hC hr hlk hI hl
  have hx := hC.1.1
  have hb := hC.1.2.1
  have hown := hC.1.2.2.2.1
  have hts := hC.1.2.2.2.2
  have hl : lv_has ls 2 [(0, .ref (G.2.1 96)), (1, .int a1)] := hl
  rw [m_X12_isPresent] at hf
  refine lv_iload_n hx hb dX12_isPresent_0 rfl (lv_at hl 1 rfl) ?_
  refine lv_iconst (v := (0 : Int32)) hx hb dX12_isPresent_1 (by decide) ?_
  refine lv_aload_n hx hb dX12_isPresent_2 rfl (lv_at hl 0 rfl) ?_
  refine fm_gr hC hI fd_X12_0 fc_96 fr_96_0 q_798 dX12_isPresent_3 ?_
  refine lv_iconst (v := (2 : Int32)) hx hb dX12_isPresent_6 (by decide) ?_
  obtain ⟨hg1, hf⟩ := fm_gE hf
  refine fm_iald hC hI fc_97 fl_97 hg1 dX12_isPresent_7 ?_
  refine lv_iconst (v := (1 : Int32)) hx hb dX12_isPresent_8 (by decide) ?_
  refine lv_isub hx hb dX12_isPresent_9 ?_
  obtain ⟨r2, σ3, hq4, hf⟩ := fm_bE hf
  refine fm_ci hI (fm_runS (As := [.int a1, .int (0 : Int32), .int ((σ.1 97 (2 : Int32).toNatClampNeg) - (1 : Int32))]) (rest := []) (rm := { frames := 0, cells := 0, slots := 0, locals := 0 }) hC hI (c_X12_in1 hC.2.2.1 hq4) mS_X12_in1 q_864 ⟨rfl, rfl⟩ ⟨Nat.le_of_ble_eq_true rfl, Nat.le_of_ble_eq_true rfl⟩ rfl hl.1 rfl (Nat.le_of_ble_eq_true rfl) dX12_isPresent_10 ⟨Nat.zero_le _, Nat.zero_le _⟩) (fun H locs hI => ?_)
  obtain ⟨hg5, hf⟩ := fm_gE hf
  exact fm_rz hC hI hr hlk hg5 hf dX12_isPresent_13
def m_X12_get (a1 : Int32) (a2 : Int32) (σ : fm_M) : Option (Int32 × fm_M) := fm_g (fm_in1 (((4 : Int32) + ((2 : Int32) * a1)) + a2) 96) (some ((σ.1 97 (((4 : Int32) + ((2 : Int32) * a1)) + a2).toNatClampNeg), σ))
set_option maxHeartbeats 4000000 in
set_option maxRecDepth 100000 in
theorem c_X12_get {l : Launch} {G : fm_G} (hJ : fm_J G) {a1 : Int32} {a2 : Int32} {σ : fm_M} {o : Int32 × fm_M}  (hf : m_X12_get a1 a2 σ = some o) : Met l yX12_get (fm_w yX12_get cX12_get 3 (some .int)) { frames := 0, cells := 0, slots := 0, locals := 0 } (va_Pc [.ref (G.2.1 96), .int a1, .int a2] (fm_st G σ)) (fm_Qi G o) 0 0 (fm_A G) := by
  refine fm_mth (own := RX12) hJ rfl (by decide +kernel) (Nat.le_of_ble_eq_true rfl) ?_
  intro p e s m below meth c ls hC hr hlk hI hl
  have hx := hC.1.1
  have hb := hC.1.2.1
  have hown := hC.1.2.2.2.1
  have hts := hC.1.2.2.2.2
  have hl : lv_has ls 3 [(0, .ref (G.2.1 96)), (1, .int a1), (2, .int a2)] := hl
  rw [m_X12_get] at hf
  refine lv_aload_n hx hb dX12_get_0 rfl (lv_at hl 0 rfl) ?_
  refine fm_gr hC hI fd_X12_0 fc_96 fr_96_0 q_798 dX12_get_1 ?_
  refine lv_iconst (v := (4 : Int32)) hx hb dX12_get_4 (by decide) ?_
  refine lv_iconst (v := (2 : Int32)) hx hb dX12_get_5 (by decide) ?_
  refine lv_iload_n hx hb dX12_get_6 rfl (lv_at hl 1 rfl) ?_
  refine lv_imul hx hb dX12_get_7 ?_
  refine lv_iadd hx hb dX12_get_8 ?_
  refine lv_iload_n hx hb dX12_get_9 rfl (lv_at hl 2 rfl) ?_
  refine lv_iadd hx hb dX12_get_10 ?_
  obtain ⟨hg1, hf⟩ := fm_gE hf
  refine fm_iald hC hI fc_97 fl_97 hg1 dX12_get_11 ?_
  exact fm_ri hC hI hr hlk hf dX12_get_12
def m_X12_puts (a1 : Int32) (a2 : Int32) (a3 : Int32) (σ : fm_M) : Option (Unit × fm_M) := fm_g (fm_in1 (((4 : Int32) + ((2 : Int32) * a1)) + a2) 96) (fm_let (fm_sI σ 97 (((4 : Int32) + ((2 : Int32) * a1)) + a2).toNatClampNeg a3) fun σ2 => (some ((), σ2)))
set_option maxHeartbeats 4000000 in
set_option maxRecDepth 100000 in
theorem c_X12_puts {l : Launch} {G : fm_G} (hJ : fm_J G) {a1 : Int32} {a2 : Int32} {a3 : Int32} {σ : fm_M} {o : Unit × fm_M}  (hf : m_X12_puts a1 a2 a3 σ = some o) : Met l yX12_puts (fm_w yX12_puts cX12_puts 4 none) { frames := 0, cells := 0, slots := 0, locals := 0 } (va_Pc [.ref (G.2.1 96), .int a1, .int a2, .int a3] (fm_st G σ)) (fm_Qv G o) 0 0 (fm_A G) := by
  refine fm_mth (own := RX12) hJ rfl (by decide +kernel) (Nat.le_of_ble_eq_true rfl) ?_
  intro p e s m below meth c ls hC hr hlk hI hl
  have hx := hC.1.1
  have hb := hC.1.2.1
  have hown := hC.1.2.2.2.1
  have hts := hC.1.2.2.2.2
  have hl : lv_has ls 4 [(0, .ref (G.2.1 96)), (1, .int a1), (2, .int a2), (3, .int a3)] := hl
  rw [m_X12_puts] at hf
  refine lv_aload_n hx hb dX12_puts_0 rfl (lv_at hl 0 rfl) ?_
  refine fm_gr hC hI fd_X12_0 fc_96 fr_96_0 q_798 dX12_puts_1 ?_
  refine lv_iconst (v := (4 : Int32)) hx hb dX12_puts_4 (by decide) ?_
  refine lv_iconst (v := (2 : Int32)) hx hb dX12_puts_5 (by decide) ?_
  refine lv_iload_n hx hb dX12_puts_6 rfl (lv_at hl 1 rfl) ?_
  refine lv_imul hx hb dX12_puts_7 ?_
  refine lv_iadd hx hb dX12_puts_8 ?_
  refine lv_iload_n hx hb dX12_puts_9 rfl (lv_at hl 2 rfl) ?_
  refine lv_iadd hx hb dX12_puts_10 ?_
  refine lv_iload_n hx hb dX12_puts_11 rfl (lv_at hl 3 rfl) ?_
  obtain ⟨hg1, hf⟩ := fm_gE hf
  obtain ⟨σ2, e3, hf⟩ := fm_letE hf
  refine fm_iast hC hI fc_97 fl_97 hg1 e3 dX12_puts_12 (fun H locs hI => ?_)
  exact fm_rv hC hI hr hlk hf dX12_puts_13
def m_X12_of1 (a1 : Int32) (a2 : Int32) (σ : fm_M) : Option (Int32 × fm_M) := fm_g (fm_in1 (((16 : Int32) + ((10 : Int32) * a1)) + a2) 96) (some ((σ.1 97 (((16 : Int32) + ((10 : Int32) * a1)) + a2).toNatClampNeg), σ))
set_option maxHeartbeats 4000000 in
set_option maxRecDepth 100000 in
theorem c_X12_of1 {l : Launch} {G : fm_G} (hJ : fm_J G) {a1 : Int32} {a2 : Int32} {σ : fm_M} {o : Int32 × fm_M}  (hf : m_X12_of1 a1 a2 σ = some o) : Met l yX12_of1 (fm_w yX12_of1 cX12_of1 3 (some .int)) { frames := 0, cells := 0, slots := 0, locals := 0 } (va_Pc [.ref (G.2.1 96), .int a1, .int a2] (fm_st G σ)) (fm_Qi G o) 0 0 (fm_A G) := by
  refine fm_mth (own := RX12) hJ rfl (by decide +kernel) (Nat.le_of_ble_eq_true rfl) ?_
  intro p e s m below meth c ls hC hr hlk hI hl
  have hx := hC.1.1
  have hb := hC.1.2.1
  have hown := hC.1.2.2.2.1
  have hts := hC.1.2.2.2.2
  have hl : lv_has ls 3 [(0, .ref (G.2.1 96)), (1, .int a1), (2, .int a2)] := hl
  rw [m_X12_of1] at hf
  refine lv_aload_n hx hb dX12_of1_0 rfl (lv_at hl 0 rfl) ?_
  refine fm_gr hC hI fd_X12_0 fc_96 fr_96_0 q_798 dX12_of1_1 ?_
  refine lv_bipush (v := (16 : Int32)) hx hb dX12_of1_4 (by decide) ?_
  refine lv_bipush (v := (10 : Int32)) hx hb dX12_of1_6 (by decide) ?_
  refine lv_iload_n hx hb dX12_of1_8 rfl (lv_at hl 1 rfl) ?_
  refine lv_imul hx hb dX12_of1_9 ?_
  refine lv_iadd hx hb dX12_of1_10 ?_
  refine lv_iload_n hx hb dX12_of1_11 rfl (lv_at hl 2 rfl) ?_
  refine lv_iadd hx hb dX12_of1_12 ?_
  obtain ⟨hg1, hf⟩ := fm_gE hf
  refine fm_iald hC hI fc_97 fl_97 hg1 dX12_of1_13 ?_
  exact fm_ri hC hI hr hlk hf dX12_of1_14
def m_X12_lays1 (a1 : Int32) (a2 : Int32) (a3 : Int32) (σ : fm_M) : Option (Unit × fm_M) := fm_g (fm_in1 (((16 : Int32) + ((10 : Int32) * a1)) + a2) 96) (fm_let (fm_sI σ 97 (((16 : Int32) + ((10 : Int32) * a1)) + a2).toNatClampNeg a3) fun σ2 => (some ((), σ2)))
set_option maxHeartbeats 4000000 in
set_option maxRecDepth 100000 in
theorem c_X12_lays1 {l : Launch} {G : fm_G} (hJ : fm_J G) {a1 : Int32} {a2 : Int32} {a3 : Int32} {σ : fm_M} {o : Unit × fm_M}  (hf : m_X12_lays1 a1 a2 a3 σ = some o) : Met l yX12_lays1 (fm_w yX12_lays1 cX12_lays1 4 none) { frames := 0, cells := 0, slots := 0, locals := 0 } (va_Pc [.ref (G.2.1 96), .int a1, .int a2, .int a3] (fm_st G σ)) (fm_Qv G o) 0 0 (fm_A G) := by
  refine fm_mth (own := RX12) hJ rfl (by decide +kernel) (Nat.le_of_ble_eq_true rfl) ?_
  intro p e s m below meth c ls hC hr hlk hI hl
  have hx := hC.1.1
  have hb := hC.1.2.1
  have hown := hC.1.2.2.2.1
  have hts := hC.1.2.2.2.2
  have hl : lv_has ls 4 [(0, .ref (G.2.1 96)), (1, .int a1), (2, .int a2), (3, .int a3)] := hl
  rw [m_X12_lays1] at hf
  refine lv_aload_n hx hb dX12_lays1_0 rfl (lv_at hl 0 rfl) ?_
  refine fm_gr hC hI fd_X12_0 fc_96 fr_96_0 q_798 dX12_lays1_1 ?_
  refine lv_bipush (v := (16 : Int32)) hx hb dX12_lays1_4 (by decide) ?_
  refine lv_bipush (v := (10 : Int32)) hx hb dX12_lays1_6 (by decide) ?_
  refine lv_iload_n hx hb dX12_lays1_8 rfl (lv_at hl 1 rfl) ?_
  refine lv_imul hx hb dX12_lays1_9 ?_
  refine lv_iadd hx hb dX12_lays1_10 ?_
  refine lv_iload_n hx hb dX12_lays1_11 rfl (lv_at hl 2 rfl) ?_
  refine lv_iadd hx hb dX12_lays1_12 ?_
  refine lv_iload_n hx hb dX12_lays1_13 rfl (lv_at hl 3 rfl) ?_
  obtain ⟨hg1, hf⟩ := fm_gE hf
  obtain ⟨σ2, e3, hf⟩ := fm_letE hf
  refine fm_iast hC hI fc_97 fl_97 hg1 e3 dX12_lays1_14 (fun H locs hI => ?_)
  exact fm_rv hC hI hr hlk hf dX12_lays1_15
def m_X12_setsAside_2 (kc : Int32 → fm_M → Option (Unit × fm_M)) : Nat → Int32 → fm_M → Option (Unit × fm_M)
  | 0, _, _ => none
  | n + 1, z1, σ => if (96 : Int32) ≤ z1 then (kc z1 σ) else (fm_g (fm_in1 z1 96) (fm_g (fm_in1 z1 96) (fm_let (fm_sI σ 99 z1.toNatClampNeg (σ.1 97 z1.toNatClampNeg)) fun σ3 => (m_X12_setsAside_2 kc n (z1 + (1 : Int32)) σ3))))
def m_X12_setsAside  (σ : fm_M) : Option (Unit × fm_M) := m_X12_setsAside_2 (fun (x1_y5 : Int32) (σ_y5 : fm_M) => some ((), σ_y5)) fm_fu (0 : Int32) σ
set_option maxHeartbeats 4000000 in
set_option maxRecDepth 100000 in
theorem w_X12_setsAside_2 {p : Program} {l : Launch} {e : Env} {s : State} {m : MethodId} {args : Array Value} {below : List Frame} {meth : Method} {c : Code} {G : fm_G} {o : Unit × fm_M} {kc : Int32 → fm_M → Option (Unit × fm_M)} (hC : fm_C G p m c cX12_setsAside 2 s args RX12) (hr : meth.sig.returnType = none) (hlk : meth.locks = false) (hk : ∀ (z1 : Int32) (σ : fm_M) (H : Heap) (locs : List Loc) (ls : Array Slot), fm_I G σ s H locs → lv_has ls 2 [(0, .ref (G.2.1 96)), (1, .int z1)] → kc z1 σ = some o → W p l e { frames := 0, cells := 0, slots := 0, locals := 0 } s m args below meth c H locs 0 0 (MQ below (fm_Qv G o) args s 0 0 (fm_A G)) (F0 m 26 ls [])) (n : Nat) : ∀ (z1 : Int32) (σ : fm_M) (H : Heap) (locs : List Loc) (ls : Array Slot), fm_I G σ s H locs → lv_has ls 2 [(0, .ref (G.2.1 96)), (1, .int z1)] → m_X12_setsAside_2 kc n z1 σ = some o → W p l e { frames := 0, cells := 0, slots := 0, locals := 0 } s m args below meth c H locs 0 0 (MQ below (fm_Qv G o) args s 0 0 (fm_A G)) (F0 m 2 ls []) := by
  have hx := hC.1.1
  have hb := hC.1.2.1
  have hown := hC.1.2.2.2.1
  have hts := hC.1.2.2.2.2
  induction n with
  | zero =>
    intro z1 σ H locs ls hI hl hf
    cases hf
  | succ n ih =>
    intro z1 σ H locs ls hI hl hf
    rw [m_X12_setsAside_2] at hf
    refine lv_iload_n hx hb dX12_setsAside_2 rfl (lv_at hl 1 rfl) ?_
    refine lv_bipush (v := (96 : Int32)) hx hb dX12_setsAside_3 (by decide) ?_
    refine lv_icmp_ge (tgt := 26) hx hb dX12_setsAside_5 (by decide) (fun hc => ?_) (fun hc => ?_)
    · have hf := fm_pT hf hc
      exact hk z1 σ _ _ _ hI (lv_sub hl [0, 1] rfl) hf
    · have hf := fm_pF hf hc
      refine lv_aload_n hx hb dX12_setsAside_8 rfl (lv_at hl 0 rfl) ?_
      refine fm_gr hC hI fd_X12_2 fc_96 fr_96_2 q_800 dX12_setsAside_9 ?_
      refine lv_iload_n hx hb dX12_setsAside_12 rfl (lv_at hl 1 rfl) ?_
      refine lv_aload_n hx hb dX12_setsAside_13 rfl (lv_at hl 0 rfl) ?_
      refine fm_gr hC hI fd_X12_0 fc_96 fr_96_0 q_798 dX12_setsAside_14 ?_
      refine lv_iload_n hx hb dX12_setsAside_17 rfl (lv_at hl 1 rfl) ?_
      obtain ⟨hg1, hf⟩ := fm_gE hf
      refine fm_iald hC hI fc_97 fl_97 hg1 dX12_setsAside_18 ?_
      obtain ⟨hg2, hf⟩ := fm_gE hf
      obtain ⟨σ3, e4, hf⟩ := fm_letE hf
      refine fm_iast hC hI fc_99 fl_99 hg2 e4 dX12_setsAside_19 (fun H locs hI => ?_)
      refine lv_iinc (v := (z1 + (1 : Int32))) (lv' := [(1, .int (z1 + (1 : Int32))), (0, .ref (G.2.1 96))]) hx hb dX12_setsAside_20 hl (k := 1) rfl rfl (Nat.le_of_ble_eq_true rfl) rfl (fun ls hl => ?_)
      refine lv_goto (tgt := 2) hx hb dX12_setsAside_23 (by decide) ?_
      exact ih (z1 + (1 : Int32)) σ3 _ _ _ hI (lv_sub hl [1, 0] rfl) hf
set_option maxHeartbeats 4000000 in
set_option maxRecDepth 100000 in
theorem c_X12_setsAside {l : Launch} {G : fm_G} (hJ : fm_J G) {σ : fm_M} {o : Unit × fm_M}  (hf : m_X12_setsAside  σ = some o) : Met l yX12_setsAside (fm_w yX12_setsAside cX12_setsAside 2 none) { frames := 0, cells := 0, slots := 0, locals := 0 } (va_Pc [.ref (G.2.1 96)] (fm_st G σ)) (fm_Qv G o) 0 0 (fm_A G) := by
  refine fm_mth (own := RX12) hJ rfl (by decide +kernel) (Nat.le_of_ble_eq_true rfl) ?_
  intro p e s m below meth c ls hC hr hlk hI hl
  have hx := hC.1.1
  have hb := hC.1.2.1
  have hown := hC.1.2.2.2.1
  have hts := hC.1.2.2.2.2
  have hl : lv_has ls 2 [(0, .ref (G.2.1 96))] := hl
  rw [m_X12_setsAside] at hf
  refine lv_iconst (v := (0 : Int32)) hx hb dX12_setsAside_0 (by decide) ?_
  refine lv_istore_n (lv' := [(1, .int (0 : Int32)), (0, .ref (G.2.1 96))]) hx hb dX12_setsAside_1 rfl hl (Nat.le_of_ble_eq_true rfl) rfl (fun ls hl => ?_)
  refine w_X12_setsAside_2 hC hr hlk (fun x1_y5 σ_y5 H locs ls hI hl hf => ?_) fm_fu (0 : Int32) σ _ _ _ hI (lv_sub hl [1, 0] rfl) hf
  exact fm_rv hC hI hr hlk hf dX12_setsAside_26
def m_X12_laysBack_2 (kc : Int32 → fm_M → Option (Unit × fm_M)) : Nat → Int32 → fm_M → Option (Unit × fm_M)
  | 0, _, _ => none
  | n + 1, z1, σ => if (96 : Int32) ≤ z1 then (kc z1 σ) else (fm_g (fm_in1 z1 96) (fm_g (fm_in1 z1 96) (fm_let (fm_sI σ 97 z1.toNatClampNeg (σ.1 99 z1.toNatClampNeg)) fun σ3 => (m_X12_laysBack_2 kc n (z1 + (1 : Int32)) σ3))))
def m_X12_laysBack  (σ : fm_M) : Option (Unit × fm_M) := m_X12_laysBack_2 (fun (x1_y5 : Int32) (σ_y5 : fm_M) => some ((), σ_y5)) fm_fu (0 : Int32) σ
set_option maxHeartbeats 4000000 in
set_option maxRecDepth 100000 in
theorem w_X12_laysBack_2 {p : Program} {l : Launch} {e : Env} {s : State} {m : MethodId} {args : Array Value} {below : List Frame} {meth : Method} {c : Code} {G : fm_G} {o : Unit × fm_M} {kc : Int32 → fm_M → Option (Unit × fm_M)} (hC : fm_C G p m c cX12_laysBack 2 s args RX12) (hr : meth.sig.returnType = none) (hlk : meth.locks = false) (hk : ∀ (z1 : Int32) (σ : fm_M) (H : Heap) (locs : List Loc) (ls : Array Slot), fm_I G σ s H locs → lv_has ls 2 [(0, .ref (G.2.1 96)), (1, .int z1)] → kc z1 σ = some o → W p l e { frames := 0, cells := 0, slots := 0, locals := 0 } s m args below meth c H locs 0 0 (MQ below (fm_Qv G o) args s 0 0 (fm_A G)) (F0 m 26 ls [])) (n : Nat) : ∀ (z1 : Int32) (σ : fm_M) (H : Heap) (locs : List Loc) (ls : Array Slot), fm_I G σ s H locs → lv_has ls 2 [(0, .ref (G.2.1 96)), (1, .int z1)] → m_X12_laysBack_2 kc n z1 σ = some o → W p l e { frames := 0, cells := 0, slots := 0, locals := 0 } s m args below meth c H locs 0 0 (MQ below (fm_Qv G o) args s 0 0 (fm_A G)) (F0 m 2 ls []) := by
  have hx := hC.1.1
  have hb := hC.1.2.1
  have hown := hC.1.2.2.2.1
  have hts := hC.1.2.2.2.2
  induction n with
  | zero =>
    intro z1 σ H locs ls hI hl hf
    cases hf
  | succ n ih =>
    intro z1 σ H locs ls hI hl hf
    rw [m_X12_laysBack_2] at hf
    refine lv_iload_n hx hb dX12_laysBack_2 rfl (lv_at hl 1 rfl) ?_
    refine lv_bipush (v := (96 : Int32)) hx hb dX12_laysBack_3 (by decide) ?_
    refine lv_icmp_ge (tgt := 26) hx hb dX12_laysBack_5 (by decide) (fun hc => ?_) (fun hc => ?_)
    · have hf := fm_pT hf hc
      exact hk z1 σ _ _ _ hI (lv_sub hl [0, 1] rfl) hf
    · have hf := fm_pF hf hc
      refine lv_aload_n hx hb dX12_laysBack_8 rfl (lv_at hl 0 rfl) ?_
      refine fm_gr hC hI fd_X12_0 fc_96 fr_96_0 q_798 dX12_laysBack_9 ?_
      refine lv_iload_n hx hb dX12_laysBack_12 rfl (lv_at hl 1 rfl) ?_
      refine lv_aload_n hx hb dX12_laysBack_13 rfl (lv_at hl 0 rfl) ?_
      refine fm_gr hC hI fd_X12_2 fc_96 fr_96_2 q_800 dX12_laysBack_14 ?_
      refine lv_iload_n hx hb dX12_laysBack_17 rfl (lv_at hl 1 rfl) ?_
      obtain ⟨hg1, hf⟩ := fm_gE hf
      refine fm_iald hC hI fc_99 fl_99 hg1 dX12_laysBack_18 ?_
      obtain ⟨hg2, hf⟩ := fm_gE hf
      obtain ⟨σ3, e4, hf⟩ := fm_letE hf
      refine fm_iast hC hI fc_97 fl_97 hg2 e4 dX12_laysBack_19 (fun H locs hI => ?_)
      refine lv_iinc (v := (z1 + (1 : Int32))) (lv' := [(1, .int (z1 + (1 : Int32))), (0, .ref (G.2.1 96))]) hx hb dX12_laysBack_20 hl (k := 1) rfl rfl (Nat.le_of_ble_eq_true rfl) rfl (fun ls hl => ?_)
      refine lv_goto (tgt := 2) hx hb dX12_laysBack_23 (by decide) ?_
      exact ih (z1 + (1 : Int32)) σ3 _ _ _ hI (lv_sub hl [1, 0] rfl) hf
set_option maxHeartbeats 4000000 in
set_option maxRecDepth 100000 in
theorem c_X12_laysBack {l : Launch} {G : fm_G} (hJ : fm_J G) {σ : fm_M} {o : Unit × fm_M}  (hf : m_X12_laysBack  σ = some o) : Met l yX12_laysBack (fm_w yX12_laysBack cX12_laysBack 2 none) { frames := 0, cells := 0, slots := 0, locals := 0 } (va_Pc [.ref (G.2.1 96)] (fm_st G σ)) (fm_Qv G o) 0 0 (fm_A G) := by
  refine fm_mth (own := RX12) hJ rfl (by decide +kernel) (Nat.le_of_ble_eq_true rfl) ?_
  intro p e s m below meth c ls hC hr hlk hI hl
  have hx := hC.1.1
  have hb := hC.1.2.1
  have hown := hC.1.2.2.2.1
  have hts := hC.1.2.2.2.2
  have hl : lv_has ls 2 [(0, .ref (G.2.1 96))] := hl
  rw [m_X12_laysBack] at hf
  refine lv_iconst (v := (0 : Int32)) hx hb dX12_laysBack_0 (by decide) ?_
  refine lv_istore_n (lv' := [(1, .int (0 : Int32)), (0, .ref (G.2.1 96))]) hx hb dX12_laysBack_1 rfl hl (Nat.le_of_ble_eq_true rfl) rfl (fun ls hl => ?_)
  refine w_X12_laysBack_2 hC hr hlk (fun x1_y5 σ_y5 H locs ls hI hl hf => ?_) fm_fu (0 : Int32) σ _ _ _ hI (lv_sub hl [1, 0] rfl) hf
  exact fm_rv hC hI hr hlk hf dX12_laysBack_26
def m_X12_addsLayer_7 (kc : Int32 → Int32 → Int32 → fm_M → Option (Unit × fm_M)) : Nat → Int32 → Int32 → Int32 → fm_M → Option (Unit × fm_M)
  | 0, _, _, _, _ => none
  | n + 1, z1, z2, z3, σ => if z3 ≤ 0 then (kc z1 z2 z3 σ) else (fm_b (m_X12_of1 z1 (((4 : Int32) + z3) - (1 : Int32)) σ) fun r4 σ5 => (fm_b (m_X12_lays1 z1 ((4 : Int32) + z3) r4 σ5) fun _u7 σ8 => (m_X12_addsLayer_7 kc n z1 z2 (z3 + (-1 : Int32)) σ8)))
def m_X12_addsLayer (a1 : Int32) (a2 : Int32) (σ : fm_M) : Option (Unit × fm_M) := fm_b (m_X12_of1 a1 (0 : Int32) σ) fun r1 σ2 => (m_X12_addsLayer_7 (fun (x1_y10 : Int32) (x2_y10 : Int32) (x3_y10 : Int32) (σ_y10 : fm_M) => fm_b (m_X12_lays1 x1_y10 (4 : Int32) x2_y10 σ_y10) fun _u11 σ12 => (fm_b (m_X12_of1 x1_y10 (0 : Int32) σ12) fun r14 σ15 => (fm_b (m_X12_lays1 x1_y10 (0 : Int32) (r14 + (1 : Int32)) σ15) fun _u17 σ18 => (some ((), σ18))))) fm_fu a1 a2 r1 σ2)
set_option maxHeartbeats 4000000 in
set_option maxRecDepth 100000 in
theorem w_X12_addsLayer_7 {p : Program} {l : Launch} {e : Env} {s : State} {m : MethodId} {args : Array Value} {below : List Frame} {meth : Method} {c : Code} {G : fm_G} {o : Unit × fm_M} {kc : Int32 → Int32 → Int32 → fm_M → Option (Unit × fm_M)} (hC : fm_C G p m c cX12_addsLayer 4 s args RX12) (hr : meth.sig.returnType = none) (hlk : meth.locks = false) (hk : ∀ (z1 : Int32) (z2 : Int32) (z3 : Int32) (σ : fm_M) (H : Heap) (locs : List Loc) (ls : Array Slot), fm_I G σ s H locs → lv_has ls 4 [(0, .ref (G.2.1 96)), (1, .int z1), (2, .int z2), (3, .int z3)] → kc z1 z2 z3 σ = some o → W p l e { frames := 1, cells := 0, slots := 0, locals := 23 } s m args below meth c H locs 0 0 (MQ below (fm_Qv G o) args s 0 0 (fm_A G)) (F0 m 35 ls [])) (n : Nat) : ∀ (z1 : Int32) (z2 : Int32) (z3 : Int32) (σ : fm_M) (H : Heap) (locs : List Loc) (ls : Array Slot), fm_I G σ s H locs → lv_has ls 4 [(0, .ref (G.2.1 96)), (1, .int z1), (2, .int z2), (3, .int z3)] → m_X12_addsLayer_7 kc n z1 z2 z3 σ = some o → W p l e { frames := 1, cells := 0, slots := 0, locals := 23 } s m args below meth c H locs 0 0 (MQ below (fm_Qv G o) args s 0 0 (fm_A G)) (F0 m 7 ls []) := by
  have hx := hC.1.1
  have hb := hC.1.2.1
  have hown := hC.1.2.2.2.1
  have hts := hC.1.2.2.2.2
  induction n with
  | zero =>
    intro z1 z2 z3 σ H locs ls hI hl hf
    cases hf
  | succ n ih =>
    intro z1 z2 z3 σ H locs ls hI hl hf
    rw [m_X12_addsLayer_7] at hf
    refine lv_iload_n hx hb dX12_addsLayer_7 rfl (lv_at hl 3 rfl) ?_
    refine lv_if_le (tgt := 35) hx hb dX12_addsLayer_8 (by decide) (fun hc => ?_) (fun hc => ?_)
    · have hf := fm_pT hf hc
      exact hk z1 z2 z3 σ _ _ _ hI (lv_sub hl [0, 1, 2, 3] rfl) hf
    · have hf := fm_pF hf hc
      refine lv_aload_n hx hb dX12_addsLayer_11 rfl (lv_at hl 0 rfl) ?_
      refine lv_iload_n hx hb dX12_addsLayer_12 rfl (lv_at hl 1 rfl) ?_
      refine lv_iconst (v := (4 : Int32)) hx hb dX12_addsLayer_13 (by decide) ?_
      refine lv_iload_n hx hb dX12_addsLayer_14 rfl (lv_at hl 3 rfl) ?_
      refine lv_iadd hx hb dX12_addsLayer_15 ?_
      refine lv_aload_n hx hb dX12_addsLayer_16 rfl (lv_at hl 0 rfl) ?_
      refine lv_iload_n hx hb dX12_addsLayer_17 rfl (lv_at hl 1 rfl) ?_
      refine lv_iconst (v := (4 : Int32)) hx hb dX12_addsLayer_18 (by decide) ?_
      refine lv_iload_n hx hb dX12_addsLayer_19 rfl (lv_at hl 3 rfl) ?_
      refine lv_iadd hx hb dX12_addsLayer_20 ?_
      refine lv_iconst (v := (1 : Int32)) hx hb dX12_addsLayer_21 (by decide) ?_
      refine lv_isub hx hb dX12_addsLayer_22 ?_
      obtain ⟨r4, σ5, hq6, hf⟩ := fm_bE hf
      refine fm_ci hI (fm_runV (As := [.int z1, .int (((4 : Int32) + z3) - (1 : Int32))]) (rest := [.int ((4 : Int32) + z3), .int z1, .ref (G.2.1 96)]) (rm := { frames := 0, cells := 0, slots := 0, locals := 0 }) hC hI (c_X12_of1 hC.2.2.1 hq6) mV_X12_of1 q_896 ⟨rfl, rfl⟩ ⟨Nat.le_of_ble_eq_true rfl, Nat.le_of_ble_eq_true rfl⟩ fc_96 rfl (by decide) rfl hl.1 rfl (Nat.le_of_ble_eq_true rfl) dX12_addsLayer_23 ⟨Nat.zero_le _, Nat.zero_le _⟩) (fun H locs hI => ?_)
      obtain ⟨_u7, σ8, hq9, hf⟩ := fm_bE hf
      refine fm_cv hI (fm_runV (As := [.int z1, .int ((4 : Int32) + z3), .int r4]) (rest := []) (rm := { frames := 0, cells := 0, slots := 0, locals := 0 }) hC hI (c_X12_lays1 hC.2.2.1 hq9) mV_X12_lays1 q_947 ⟨rfl, rfl⟩ ⟨Nat.le_of_ble_eq_true rfl, Nat.le_of_ble_eq_true rfl⟩ fc_96 rfl (by decide) rfl hl.1 rfl (Nat.le_of_ble_eq_true rfl) dX12_addsLayer_26 ⟨Nat.zero_le _, Nat.zero_le _⟩) (fun H locs hI => ?_)
      refine lv_iinc (v := (z3 + (-1 : Int32))) (lv' := [(3, .int (z3 + (-1 : Int32))), (0, .ref (G.2.1 96)), (1, .int z1), (2, .int z2)]) hx hb dX12_addsLayer_29 hl (k := 3) rfl rfl (Nat.le_of_ble_eq_true rfl) rfl (fun ls hl => ?_)
      refine lv_goto (tgt := 7) hx hb dX12_addsLayer_32 (by decide) ?_
      exact ih z1 z2 (z3 + (-1 : Int32)) σ8 _ _ _ hI (lv_sub hl [1, 2, 3, 0] rfl) hf
set_option maxHeartbeats 4000000 in
set_option maxRecDepth 100000 in
theorem c_X12_addsLayer {l : Launch} {G : fm_G} (hJ : fm_J G) {a1 : Int32} {a2 : Int32} {σ : fm_M} {o : Unit × fm_M}  (hf : m_X12_addsLayer a1 a2 σ = some o) : Met l yX12_addsLayer (fm_w yX12_addsLayer cX12_addsLayer 4 none) { frames := 1, cells := 0, slots := 0, locals := 23 } (va_Pc [.ref (G.2.1 96), .int a1, .int a2] (fm_st G σ)) (fm_Qv G o) 0 0 (fm_A G) := by
  refine fm_mth (own := RX12) hJ rfl (by decide +kernel) (Nat.le_of_ble_eq_true rfl) ?_
  intro p e s m below meth c ls hC hr hlk hI hl
  have hx := hC.1.1
  have hb := hC.1.2.1
  have hown := hC.1.2.2.2.1
  have hts := hC.1.2.2.2.2
  have hl : lv_has ls 4 [(0, .ref (G.2.1 96)), (1, .int a1), (2, .int a2)] := hl
  rw [m_X12_addsLayer] at hf
  refine lv_aload_n hx hb dX12_addsLayer_0 rfl (lv_at hl 0 rfl) ?_
  refine lv_iload_n hx hb dX12_addsLayer_1 rfl (lv_at hl 1 rfl) ?_
  refine lv_iconst (v := (0 : Int32)) hx hb dX12_addsLayer_2 (by decide) ?_
  obtain ⟨r1, σ2, hq3, hf⟩ := fm_bE hf
  refine fm_ci hI (fm_runV (As := [.int a1, .int (0 : Int32)]) (rest := []) (rm := { frames := 0, cells := 0, slots := 0, locals := 0 }) hC hI (c_X12_of1 hC.2.2.1 hq3) mV_X12_of1 q_896 ⟨rfl, rfl⟩ ⟨Nat.le_of_ble_eq_true rfl, Nat.le_of_ble_eq_true rfl⟩ fc_96 rfl (by decide) rfl hl.1 rfl (Nat.le_of_ble_eq_true rfl) dX12_addsLayer_3 ⟨Nat.zero_le _, Nat.zero_le _⟩) (fun H locs hI => ?_)
  refine lv_istore_n (lv' := [(3, .int r1), (0, .ref (G.2.1 96)), (1, .int a1), (2, .int a2)]) hx hb dX12_addsLayer_6 rfl hl (Nat.le_of_ble_eq_true rfl) rfl (fun ls hl => ?_)
  refine w_X12_addsLayer_7 hC hr hlk (fun x1_y10 x2_y10 x3_y10 σ_y10 H locs ls hI hl hf => ?_) fm_fu a1 a2 r1 σ2 _ _ _ hI (lv_sub hl [1, 2, 3, 0] rfl) hf
  refine lv_aload_n hx hb dX12_addsLayer_35 rfl (lv_at hl 0 rfl) ?_
  refine lv_iload_n hx hb dX12_addsLayer_36 rfl (lv_at hl 1 rfl) ?_
  refine lv_iconst (v := (4 : Int32)) hx hb dX12_addsLayer_37 (by decide) ?_
  refine lv_iload_n hx hb dX12_addsLayer_38 rfl (lv_at hl 2 rfl) ?_
  obtain ⟨_u11, σ12, hq13, hf⟩ := fm_bE hf
  refine fm_cv hI (fm_runV (As := [.int x1_y10, .int (4 : Int32), .int x2_y10]) (rest := []) (rm := { frames := 0, cells := 0, slots := 0, locals := 0 }) hC hI (c_X12_lays1 hC.2.2.1 hq13) mV_X12_lays1 q_947 ⟨rfl, rfl⟩ ⟨Nat.le_of_ble_eq_true rfl, Nat.le_of_ble_eq_true rfl⟩ fc_96 rfl (by decide) rfl hl.1 rfl (Nat.le_of_ble_eq_true rfl) dX12_addsLayer_39 ⟨Nat.zero_le _, Nat.zero_le _⟩) (fun H locs hI => ?_)
  refine lv_aload_n hx hb dX12_addsLayer_42 rfl (lv_at hl 0 rfl) ?_
  refine lv_iload_n hx hb dX12_addsLayer_43 rfl (lv_at hl 1 rfl) ?_
  refine lv_iconst (v := (0 : Int32)) hx hb dX12_addsLayer_44 (by decide) ?_
  refine lv_aload_n hx hb dX12_addsLayer_45 rfl (lv_at hl 0 rfl) ?_
  refine lv_iload_n hx hb dX12_addsLayer_46 rfl (lv_at hl 1 rfl) ?_
  refine lv_iconst (v := (0 : Int32)) hx hb dX12_addsLayer_47 (by decide) ?_
  obtain ⟨r14, σ15, hq16, hf⟩ := fm_bE hf
  refine fm_ci hI (fm_runV (As := [.int x1_y10, .int (0 : Int32)]) (rest := [.int (0 : Int32), .int x1_y10, .ref (G.2.1 96)]) (rm := { frames := 0, cells := 0, slots := 0, locals := 0 }) hC hI (c_X12_of1 hC.2.2.1 hq16) mV_X12_of1 q_896 ⟨rfl, rfl⟩ ⟨Nat.le_of_ble_eq_true rfl, Nat.le_of_ble_eq_true rfl⟩ fc_96 rfl (by decide) rfl hl.1 rfl (Nat.le_of_ble_eq_true rfl) dX12_addsLayer_48 ⟨Nat.zero_le _, Nat.zero_le _⟩) (fun H locs hI => ?_)
  refine lv_iconst (v := (1 : Int32)) hx hb dX12_addsLayer_51 (by decide) ?_
  refine lv_iadd hx hb dX12_addsLayer_52 ?_
  obtain ⟨_u17, σ18, hq19, hf⟩ := fm_bE hf
  refine fm_cv hI (fm_runV (As := [.int x1_y10, .int (0 : Int32), .int (r14 + (1 : Int32))]) (rest := []) (rm := { frames := 0, cells := 0, slots := 0, locals := 0 }) hC hI (c_X12_lays1 hC.2.2.1 hq19) mV_X12_lays1 q_947 ⟨rfl, rfl⟩ ⟨Nat.le_of_ble_eq_true rfl, Nat.le_of_ble_eq_true rfl⟩ fc_96 rfl (by decide) rfl hl.1 rfl (Nat.le_of_ble_eq_true rfl) dX12_addsLayer_53 ⟨Nat.zero_le _, Nat.zero_le _⟩) (fun H locs hI => ?_)
  exact fm_rv hC hI hr hlk hf dX12_addsLayer_56
def m_X12_takesLayer_23 (kc : Int32 → Int32 → Int32 → fm_M → Option (Int32 × fm_M)) : Nat → Int32 → Int32 → Int32 → fm_M → Option (Int32 × fm_M)
  | 0, _, _, _, _ => none
  | n + 1, z1, z2, z3, σ => fm_b (m_X12_of1 z1 (0 : Int32) σ) fun r10 σ11 => (if r10 ≤ z3 then (kc z1 z2 z3 σ11) else (fm_b (m_X12_of1 z1 (((4 : Int32) + z3) + (1 : Int32)) σ11) fun r13 σ14 => (fm_b (m_X12_lays1 z1 ((4 : Int32) + z3) r13 σ14) fun _u16 σ17 => (m_X12_takesLayer_23 kc n z1 z2 (z3 + (1 : Int32)) σ17))))
def m_X12_takesLayer (a1 : Int32) (σ : fm_M) : Option (Int32 × fm_M) := fm_b (m_X12_of1 a1 (4 : Int32) σ) fun r1 σ2 => (fm_b (m_X12_of1 a1 (0 : Int32) σ2) fun r4 σ5 => (fm_b (m_X12_lays1 a1 (0 : Int32) (r4 - (1 : Int32)) σ5) fun _u7 σ8 => (m_X12_takesLayer_23 (fun (x1_y19 : Int32) (x2_y19 : Int32) (x3_y19 : Int32) (σ_y19 : fm_M) => some (x2_y19, σ_y19)) fm_fu a1 r1 (0 : Int32) σ8)))
set_option maxHeartbeats 4000000 in
set_option maxRecDepth 100000 in
theorem w_X12_takesLayer_23 {p : Program} {l : Launch} {e : Env} {s : State} {m : MethodId} {args : Array Value} {below : List Frame} {meth : Method} {c : Code} {G : fm_G} {o : Int32 × fm_M} {kc : Int32 → Int32 → Int32 → fm_M → Option (Int32 × fm_M)} (hC : fm_C G p m c cX12_takesLayer 4 s args RX12) (hr : meth.sig.returnType = (some .int)) (hlk : meth.locks = false) (hk : ∀ (z1 : Int32) (z2 : Int32) (z3 : Int32) (σ : fm_M) (H : Heap) (locs : List Loc) (ls : Array Slot), fm_I G σ s H locs → lv_has ls 4 [(0, .ref (G.2.1 96)), (1, .int z1), (2, .int z2), (3, .int z3)] → kc z1 z2 z3 σ = some o → W p l e { frames := 1, cells := 0, slots := 0, locals := 23 } s m args below meth c H locs 0 0 (MQ below (fm_Qi G o) args s 0 0 (fm_A G)) (F0 m 57 ls [])) (n : Nat) : ∀ (z1 : Int32) (z2 : Int32) (z3 : Int32) (σ : fm_M) (H : Heap) (locs : List Loc) (ls : Array Slot), fm_I G σ s H locs → lv_has ls 4 [(0, .ref (G.2.1 96)), (1, .int z1), (2, .int z2), (3, .int z3)] → m_X12_takesLayer_23 kc n z1 z2 z3 σ = some o → W p l e { frames := 1, cells := 0, slots := 0, locals := 23 } s m args below meth c H locs 0 0 (MQ below (fm_Qi G o) args s 0 0 (fm_A G)) (F0 m 23 ls []) := by
  have hx := hC.1.1
  have hb := hC.1.2.1
  have hown := hC.1.2.2.2.1
  have hts := hC.1.2.2.2.2
  induction n with
  | zero =>
    intro z1 z2 z3 σ H locs ls hI hl hf
    cases hf
  | succ n ih =>
    intro z1 z2 z3 σ H locs ls hI hl hf
    rw [m_X12_takesLayer_23] at hf
    refine lv_iload_n hx hb dX12_takesLayer_23 rfl (lv_at hl 3 rfl) ?_
    refine lv_aload_n hx hb dX12_takesLayer_24 rfl (lv_at hl 0 rfl) ?_
    refine lv_iload_n hx hb dX12_takesLayer_25 rfl (lv_at hl 1 rfl) ?_
    refine lv_iconst (v := (0 : Int32)) hx hb dX12_takesLayer_26 (by decide) ?_
    obtain ⟨r10, σ11, hq12, hf⟩ := fm_bE hf
    refine fm_ci hI (fm_runV (As := [.int z1, .int (0 : Int32)]) (rest := [.int z3]) (rm := { frames := 0, cells := 0, slots := 0, locals := 0 }) hC hI (c_X12_of1 hC.2.2.1 hq12) mV_X12_of1 q_896 ⟨rfl, rfl⟩ ⟨Nat.le_of_ble_eq_true rfl, Nat.le_of_ble_eq_true rfl⟩ fc_96 rfl (by decide) rfl hl.1 rfl (Nat.le_of_ble_eq_true rfl) dX12_takesLayer_27 ⟨Nat.zero_le _, Nat.zero_le _⟩) (fun H locs hI => ?_)
    refine lv_icmp_ge (tgt := 57) hx hb dX12_takesLayer_30 (by decide) (fun hc => ?_) (fun hc => ?_)
    · have hf := fm_pT hf hc
      exact hk z1 z2 z3 σ11 _ _ _ hI (lv_sub hl [0, 1, 2, 3] rfl) hf
    · have hf := fm_pF hf hc
      refine lv_aload_n hx hb dX12_takesLayer_33 rfl (lv_at hl 0 rfl) ?_
      refine lv_iload_n hx hb dX12_takesLayer_34 rfl (lv_at hl 1 rfl) ?_
      refine lv_iconst (v := (4 : Int32)) hx hb dX12_takesLayer_35 (by decide) ?_
      refine lv_iload_n hx hb dX12_takesLayer_36 rfl (lv_at hl 3 rfl) ?_
      refine lv_iadd hx hb dX12_takesLayer_37 ?_
      refine lv_aload_n hx hb dX12_takesLayer_38 rfl (lv_at hl 0 rfl) ?_
      refine lv_iload_n hx hb dX12_takesLayer_39 rfl (lv_at hl 1 rfl) ?_
      refine lv_iconst (v := (4 : Int32)) hx hb dX12_takesLayer_40 (by decide) ?_
      refine lv_iload_n hx hb dX12_takesLayer_41 rfl (lv_at hl 3 rfl) ?_
      refine lv_iadd hx hb dX12_takesLayer_42 ?_
      refine lv_iconst (v := (1 : Int32)) hx hb dX12_takesLayer_43 (by decide) ?_
      refine lv_iadd hx hb dX12_takesLayer_44 ?_
      obtain ⟨r13, σ14, hq15, hf⟩ := fm_bE hf
      refine fm_ci hI (fm_runV (As := [.int z1, .int (((4 : Int32) + z3) + (1 : Int32))]) (rest := [.int ((4 : Int32) + z3), .int z1, .ref (G.2.1 96)]) (rm := { frames := 0, cells := 0, slots := 0, locals := 0 }) hC hI (c_X12_of1 hC.2.2.1 hq15) mV_X12_of1 q_896 ⟨rfl, rfl⟩ ⟨Nat.le_of_ble_eq_true rfl, Nat.le_of_ble_eq_true rfl⟩ fc_96 rfl (by decide) rfl hl.1 rfl (Nat.le_of_ble_eq_true rfl) dX12_takesLayer_45 ⟨Nat.zero_le _, Nat.zero_le _⟩) (fun H locs hI => ?_)
      obtain ⟨_u16, σ17, hq18, hf⟩ := fm_bE hf
      refine fm_cv hI (fm_runV (As := [.int z1, .int ((4 : Int32) + z3), .int r13]) (rest := []) (rm := { frames := 0, cells := 0, slots := 0, locals := 0 }) hC hI (c_X12_lays1 hC.2.2.1 hq18) mV_X12_lays1 q_947 ⟨rfl, rfl⟩ ⟨Nat.le_of_ble_eq_true rfl, Nat.le_of_ble_eq_true rfl⟩ fc_96 rfl (by decide) rfl hl.1 rfl (Nat.le_of_ble_eq_true rfl) dX12_takesLayer_48 ⟨Nat.zero_le _, Nat.zero_le _⟩) (fun H locs hI => ?_)
      refine lv_iinc (v := (z3 + (1 : Int32))) (lv' := [(3, .int (z3 + (1 : Int32))), (0, .ref (G.2.1 96)), (1, .int z1), (2, .int z2)]) hx hb dX12_takesLayer_51 hl (k := 3) rfl rfl (Nat.le_of_ble_eq_true rfl) rfl (fun ls hl => ?_)
      refine lv_goto (tgt := 23) hx hb dX12_takesLayer_54 (by decide) ?_
      exact ih z1 z2 (z3 + (1 : Int32)) σ17 _ _ _ hI (lv_sub hl [1, 2, 3, 0] rfl) hf
set_option maxHeartbeats 4000000 in
set_option maxRecDepth 100000 in
theorem c_X12_takesLayer {l : Launch} {G : fm_G} (hJ : fm_J G) {a1 : Int32} {σ : fm_M} {o : Int32 × fm_M}  (hf : m_X12_takesLayer a1 σ = some o) : Met l yX12_takesLayer (fm_w yX12_takesLayer cX12_takesLayer 4 (some .int)) { frames := 1, cells := 0, slots := 0, locals := 23 } (va_Pc [.ref (G.2.1 96), .int a1] (fm_st G σ)) (fm_Qi G o) 0 0 (fm_A G) := by
  refine fm_mth (own := RX12) hJ rfl (by decide +kernel) (Nat.le_of_ble_eq_true rfl) ?_
  intro p e s m below meth c ls hC hr hlk hI hl
  have hx := hC.1.1
  have hb := hC.1.2.1
  have hown := hC.1.2.2.2.1
  have hts := hC.1.2.2.2.2
  have hl : lv_has ls 4 [(0, .ref (G.2.1 96)), (1, .int a1)] := hl
  rw [m_X12_takesLayer] at hf
  refine lv_aload_n hx hb dX12_takesLayer_0 rfl (lv_at hl 0 rfl) ?_
  refine lv_iload_n hx hb dX12_takesLayer_1 rfl (lv_at hl 1 rfl) ?_
  refine lv_iconst (v := (4 : Int32)) hx hb dX12_takesLayer_2 (by decide) ?_
  obtain ⟨r1, σ2, hq3, hf⟩ := fm_bE hf
  refine fm_ci hI (fm_runV (As := [.int a1, .int (4 : Int32)]) (rest := []) (rm := { frames := 0, cells := 0, slots := 0, locals := 0 }) hC hI (c_X12_of1 hC.2.2.1 hq3) mV_X12_of1 q_896 ⟨rfl, rfl⟩ ⟨Nat.le_of_ble_eq_true rfl, Nat.le_of_ble_eq_true rfl⟩ fc_96 rfl (by decide) rfl hl.1 rfl (Nat.le_of_ble_eq_true rfl) dX12_takesLayer_3 ⟨Nat.zero_le _, Nat.zero_le _⟩) (fun H locs hI => ?_)
  refine lv_istore_n (lv' := [(2, .int r1), (0, .ref (G.2.1 96)), (1, .int a1)]) hx hb dX12_takesLayer_6 rfl hl (Nat.le_of_ble_eq_true rfl) rfl (fun ls hl => ?_)
  refine lv_aload_n hx hb dX12_takesLayer_7 rfl (lv_at hl 1 rfl) ?_
  refine lv_iload_n hx hb dX12_takesLayer_8 rfl (lv_at hl 2 rfl) ?_
  refine lv_iconst (v := (0 : Int32)) hx hb dX12_takesLayer_9 (by decide) ?_
  refine lv_aload_n hx hb dX12_takesLayer_10 rfl (lv_at hl 1 rfl) ?_
  refine lv_iload_n hx hb dX12_takesLayer_11 rfl (lv_at hl 2 rfl) ?_
  refine lv_iconst (v := (0 : Int32)) hx hb dX12_takesLayer_12 (by decide) ?_
  obtain ⟨r4, σ5, hq6, hf⟩ := fm_bE hf
  refine fm_ci hI (fm_runV (As := [.int a1, .int (0 : Int32)]) (rest := [.int (0 : Int32), .int a1, .ref (G.2.1 96)]) (rm := { frames := 0, cells := 0, slots := 0, locals := 0 }) hC hI (c_X12_of1 hC.2.2.1 hq6) mV_X12_of1 q_896 ⟨rfl, rfl⟩ ⟨Nat.le_of_ble_eq_true rfl, Nat.le_of_ble_eq_true rfl⟩ fc_96 rfl (by decide) rfl hl.1 rfl (Nat.le_of_ble_eq_true rfl) dX12_takesLayer_13 ⟨Nat.zero_le _, Nat.zero_le _⟩) (fun H locs hI => ?_)
  refine lv_iconst (v := (1 : Int32)) hx hb dX12_takesLayer_16 (by decide) ?_
  refine lv_isub hx hb dX12_takesLayer_17 ?_
  obtain ⟨_u7, σ8, hq9, hf⟩ := fm_bE hf
  refine fm_cv hI (fm_runV (As := [.int a1, .int (0 : Int32), .int (r4 - (1 : Int32))]) (rest := []) (rm := { frames := 0, cells := 0, slots := 0, locals := 0 }) hC hI (c_X12_lays1 hC.2.2.1 hq9) mV_X12_lays1 q_947 ⟨rfl, rfl⟩ ⟨Nat.le_of_ble_eq_true rfl, Nat.le_of_ble_eq_true rfl⟩ fc_96 rfl (by decide) rfl hl.1 rfl (Nat.le_of_ble_eq_true rfl) dX12_takesLayer_18 ⟨Nat.zero_le _, Nat.zero_le _⟩) (fun H locs hI => ?_)
  refine lv_iconst (v := (0 : Int32)) hx hb dX12_takesLayer_21 (by decide) ?_
  refine lv_istore_n (lv' := [(3, .int (0 : Int32)), (2, .int r1), (0, .ref (G.2.1 96)), (1, .int a1)]) hx hb dX12_takesLayer_22 rfl hl (Nat.le_of_ble_eq_true rfl) rfl (fun ls hl => ?_)
  refine w_X12_takesLayer_23 hC hr hlk (fun x1_y19 x2_y19 x3_y19 σ_y19 H locs ls hI hl hf => ?_) fm_fu a1 r1 (0 : Int32) σ8 _ _ _ hI (lv_sub hl [2, 3, 1, 0] rfl) hf
  refine lv_iload_n hx hb dX12_takesLayer_57 rfl (lv_at hl 2 rfl) ?_
  exact fm_ri hC hI hr hlk hf dX12_takesLayer_58
def m_X12_opensOf (a1 : Int32) (a2 : Int32) (σ : fm_M) : Option (Int32 × fm_M) := fm_b (m_X12_of1 a2 (0 : Int32) σ) fun r1 σ2 => (fm_b (m_X12_get a1 (0 : Int32) σ2) fun r4 σ5 => (if r4 = (1 : Int32) then (some ((0 : Int32), σ5)) else (if r4 = (2 : Int32) then (fm_b (m_X12_less (2 : Int32) r1 σ5) fun r9 σ10 => (some (r9, σ10))) else (if r4 = (3 : Int32) then (if r1 = 0 then (some ((0 : Int32), σ5)) else (fm_b (m_X12_of1 a2 (4 : Int32) σ5) fun r13 σ14 => (if r13 = (3 : Int32) then (some ((0 : Int32), σ14)) else (some ((1 : Int32), σ14))))) else (if r4 = (4 : Int32) then (some (r1, σ5)) else (if r4 = (5 : Int32) then (fm_g (fm_in1 (0 : Int32) 96) (if ((σ5.1 97 (0 : Int32).toNatClampNeg) - (σ5.1 97 (0 : Int32).toNatClampNeg) / (5 : Int32) * (5 : Int32)) = 0 then (fm_b (m_X12_less (1 : Int32) r1 σ5) fun r19 σ20 => (some (r19, σ20))) else (some ((0 : Int32), σ5)))) else (fm_b (m_X12_less (1 : Int32) r1 σ5) fun r22 σ23 => (some (r22, σ23)))))))))
set_option maxHeartbeats 4000000 in
set_option maxRecDepth 100000 in
theorem c_X12_opensOf {l : Launch} {G : fm_G} (hJ : fm_J G) {a1 : Int32} {a2 : Int32} {σ : fm_M} {o : Int32 × fm_M}  (hf : m_X12_opensOf a1 a2 σ = some o) : Met l yX12_opensOf (fm_w yX12_opensOf cX12_opensOf 4 (some .int)) { frames := 1, cells := 0, slots := 0, locals := 22 } (va_Pc [.ref (G.2.1 96), .int a1, .int a2] (fm_st G σ)) (fm_Qi G o) 0 0 (fm_A G) := by
  refine fm_mth (own := RX12) hJ rfl (by decide +kernel) (Nat.le_of_ble_eq_true rfl) ?_
  intro p e s m below meth c ls hC hr hlk hI hl
  have hx := hC.1.1
  have hb := hC.1.2.1
  have hown := hC.1.2.2.2.1
  have hts := hC.1.2.2.2.2
  have hl : lv_has ls 4 [(0, .ref (G.2.1 96)), (1, .int a1), (2, .int a2)] := hl
  rw [m_X12_opensOf] at hf
  refine lv_aload_n hx hb dX12_opensOf_0 rfl (lv_at hl 0 rfl) ?_
  refine lv_iload_n hx hb dX12_opensOf_1 rfl (lv_at hl 2 rfl) ?_
  refine lv_iconst (v := (0 : Int32)) hx hb dX12_opensOf_2 (by decide) ?_
  obtain ⟨r1, σ2, hq3, hf⟩ := fm_bE hf
  refine fm_ci hI (fm_runV (As := [.int a2, .int (0 : Int32)]) (rest := []) (rm := { frames := 0, cells := 0, slots := 0, locals := 0 }) hC hI (c_X12_of1 hC.2.2.1 hq3) mV_X12_of1 q_896 ⟨rfl, rfl⟩ ⟨Nat.le_of_ble_eq_true rfl, Nat.le_of_ble_eq_true rfl⟩ fc_96 rfl (by decide) rfl hl.1 rfl (Nat.le_of_ble_eq_true rfl) dX12_opensOf_3 ⟨Nat.zero_le _, Nat.zero_le _⟩) (fun H locs hI => ?_)
  refine lv_istore_n (lv' := [(3, .int r1), (0, .ref (G.2.1 96)), (1, .int a1), (2, .int a2)]) hx hb dX12_opensOf_6 rfl hl (Nat.le_of_ble_eq_true rfl) rfl (fun ls hl => ?_)
  refine lv_aload_n hx hb dX12_opensOf_7 rfl (lv_at hl 1 rfl) ?_
  refine lv_iload_n hx hb dX12_opensOf_8 rfl (lv_at hl 2 rfl) ?_
  refine lv_iconst (v := (0 : Int32)) hx hb dX12_opensOf_9 (by decide) ?_
  obtain ⟨r4, σ5, hq6, hf⟩ := fm_bE hf
  refine fm_ci hI (fm_runV (As := [.int a1, .int (0 : Int32)]) (rest := []) (rm := { frames := 0, cells := 0, slots := 0, locals := 0 }) hC hI (c_X12_get hC.2.2.1 hq6) mV_X12_get q_888 ⟨rfl, rfl⟩ ⟨Nat.le_of_ble_eq_true rfl, Nat.le_of_ble_eq_true rfl⟩ fc_96 rfl (by decide) rfl hl.1 rfl (Nat.le_of_ble_eq_true rfl) dX12_opensOf_10 ⟨Nat.zero_le _, Nat.zero_le _⟩) (fun H locs hI => ?_)
  by_cases hc7 : r4 = (1 : Int32)
  · have hf := fm_pT hf hc7
    refine lv_tableIn (off := 35) (tgt := 48) hx hb dX12_opensOf_13 (by rw [hc7]; decide) (by rw [hc7]; decide) (by rw [hc7]; decide) (by decide) ?_
    refine lv_iconst (v := (0 : Int32)) hx hb dX12_opensOf_48 (by decide) ?_
    exact fm_ri hC hI hr hlk hf dX12_opensOf_49
  · have hf := fm_pF hf hc7
    by_cases hc8 : r4 = (2 : Int32)
    · have hf := fm_pT hf hc8
      refine lv_tableIn (off := 37) (tgt := 50) hx hb dX12_opensOf_13 (by rw [hc8]; decide) (by rw [hc8]; decide) (by rw [hc8]; decide) (by decide) ?_
      refine lv_iconst (v := (2 : Int32)) hx hb dX12_opensOf_50 (by decide) ?_
      refine lv_iload_n hx hb dX12_opensOf_51 rfl (lv_at hl 0 rfl) ?_
      obtain ⟨r9, σ10, hq11, hf⟩ := fm_bE hf
      refine fm_ci hI (fm_runS (As := [.int (2 : Int32), .int r1]) (rest := []) (rm := { frames := 0, cells := 0, slots := 0, locals := 0 }) hC hI (c_X12_less hC.2.2.1 hq11) mS_X12_less q_912 ⟨rfl, rfl⟩ ⟨Nat.le_of_ble_eq_true rfl, Nat.le_of_ble_eq_true rfl⟩ rfl hl.1 rfl (Nat.le_of_ble_eq_true rfl) dX12_opensOf_52 ⟨Nat.zero_le _, Nat.zero_le _⟩) (fun H locs hI => ?_)
      exact fm_ri hC hI hr hlk hf dX12_opensOf_55
    · have hf := fm_pF hf hc8
      by_cases hc12 : r4 = (3 : Int32)
      · have hf := fm_pT hf hc12
        refine lv_tableIn (off := 43) (tgt := 56) hx hb dX12_opensOf_13 (by rw [hc12]; decide) (by rw [hc12]; decide) (by rw [hc12]; decide) (by decide) ?_
        refine lv_iload_n hx hb dX12_opensOf_56 rfl (lv_at hl 0 rfl) ?_
        refine lv_if_eq (tgt := 70) hx hb dX12_opensOf_57 (by decide) (fun hc => ?_) (fun hc => ?_)
        · have hf := fm_pT hf hc
          refine lv_iconst (v := (0 : Int32)) hx hb dX12_opensOf_70 (by decide) ?_
          refine lv_goto (tgt := 75) hx hb dX12_opensOf_71 (by decide) ?_
          exact fm_ri hC hI hr hlk hf dX12_opensOf_75
        · have hf := fm_pF hf hc
          refine lv_aload_n hx hb dX12_opensOf_60 rfl (lv_at hl 1 rfl) ?_
          refine lv_iload_n hx hb dX12_opensOf_61 rfl (lv_at hl 3 rfl) ?_
          refine lv_iconst (v := (4 : Int32)) hx hb dX12_opensOf_62 (by decide) ?_
          obtain ⟨r13, σ14, hq15, hf⟩ := fm_bE hf
          refine fm_ci hI (fm_runV (As := [.int a2, .int (4 : Int32)]) (rest := []) (rm := { frames := 0, cells := 0, slots := 0, locals := 0 }) hC hI (c_X12_of1 hC.2.2.1 hq15) mV_X12_of1 q_896 ⟨rfl, rfl⟩ ⟨Nat.le_of_ble_eq_true rfl, Nat.le_of_ble_eq_true rfl⟩ fc_96 rfl (by decide) rfl hl.1 rfl (Nat.le_of_ble_eq_true rfl) dX12_opensOf_63 ⟨Nat.zero_le _, Nat.zero_le _⟩) (fun H locs hI => ?_)
          refine lv_iconst (v := (3 : Int32)) hx hb dX12_opensOf_66 (by decide) ?_
          refine lv_icmp_ne (tgt := 74) hx hb dX12_opensOf_67 (by decide) (fun hc => ?_) (fun hc => ?_)
          · have hf := fm_pF hf hc
            refine lv_iconst (v := (1 : Int32)) hx hb dX12_opensOf_74 (by decide) ?_
            exact fm_ri hC hI hr hlk hf dX12_opensOf_75
          · have hf := fm_pT hf hc
            refine lv_iconst (v := (0 : Int32)) hx hb dX12_opensOf_70 (by decide) ?_
            refine lv_goto (tgt := 75) hx hb dX12_opensOf_71 (by decide) ?_
            exact fm_ri hC hI hr hlk hf dX12_opensOf_75
      · have hf := fm_pF hf hc12
        by_cases hc16 : r4 = (4 : Int32)
        · have hf := fm_pT hf hc16
          refine lv_tableIn (off := 63) (tgt := 76) hx hb dX12_opensOf_13 (by rw [hc16]; decide) (by rw [hc16]; decide) (by rw [hc16]; decide) (by decide) ?_
          refine lv_iload_n hx hb dX12_opensOf_76 rfl (lv_at hl 0 rfl) ?_
          exact fm_ri hC hI hr hlk hf dX12_opensOf_77
        · have hf := fm_pF hf hc16
          by_cases hc17 : r4 = (5 : Int32)
          · have hf := fm_pT hf hc17
            refine lv_tableIn (off := 65) (tgt := 78) hx hb dX12_opensOf_13 (by rw [hc17]; decide) (by rw [hc17]; decide) (by rw [hc17]; decide) (by decide) ?_
            refine lv_aload_n hx hb dX12_opensOf_78 rfl (lv_at hl 1 rfl) ?_
            refine fm_gr hC hI fd_X12_0 fc_96 fr_96_0 q_798 dX12_opensOf_79 ?_
            refine lv_iconst (v := (0 : Int32)) hx hb dX12_opensOf_82 (by decide) ?_
            obtain ⟨hg18, hf⟩ := fm_gE hf
            refine fm_iald hC hI fc_97 fl_97 hg18 dX12_opensOf_83 ?_
            refine lv_iconst (v := (5 : Int32)) hx hb dX12_opensOf_84 (by decide) ?_
            refine lv_irem hx hb dX12_opensOf_85 (by decide) ?_
            refine lv_if_ne (tgt := 97) hx hb dX12_opensOf_86 (by decide) (fun hc => ?_) (fun hc => ?_)
            · have hf := fm_pF hf hc
              refine lv_iconst (v := (0 : Int32)) hx hb dX12_opensOf_97 (by decide) ?_
              exact fm_ri hC hI hr hlk hf dX12_opensOf_98
            · have hf := fm_pT hf hc
              refine lv_iconst (v := (1 : Int32)) hx hb dX12_opensOf_89 (by decide) ?_
              refine lv_iload_n hx hb dX12_opensOf_90 rfl (lv_at hl 0 rfl) ?_
              obtain ⟨r19, σ20, hq21, hf⟩ := fm_bE hf
              refine fm_ci hI (fm_runS (As := [.int (1 : Int32), .int r1]) (rest := []) (rm := { frames := 0, cells := 0, slots := 0, locals := 0 }) hC hI (c_X12_less hC.2.2.1 hq21) mS_X12_less q_912 ⟨rfl, rfl⟩ ⟨Nat.le_of_ble_eq_true rfl, Nat.le_of_ble_eq_true rfl⟩ rfl hl.1 rfl (Nat.le_of_ble_eq_true rfl) dX12_opensOf_91 ⟨Nat.zero_le _, Nat.zero_le _⟩) (fun H locs hI => ?_)
              refine lv_goto (tgt := 98) hx hb dX12_opensOf_94 (by decide) ?_
              exact fm_ri hC hI hr hlk hf dX12_opensOf_98
          · have hf := fm_pF hf hc17
            have hsw : (r4 : Int32).toInt < 1 ∨ 5 < (r4 : Int32).toInt := by
              have t0 := fm_neI hc7
              rw [show ((1 : Int32)).toInt = 1 from by decide] at t0
              have t1 := fm_neI hc8
              rw [show ((2 : Int32)).toInt = 2 from by decide] at t1
              have t2 := fm_neI hc12
              rw [show ((3 : Int32)).toInt = 3 from by decide] at t2
              have t3 := fm_neI hc16
              rw [show ((4 : Int32)).toInt = 4 from by decide] at t3
              have t4 := fm_neI hc17
              rw [show ((5 : Int32)).toInt = 5 from by decide] at t4
              omega
            refine lv_tableOut (tgt := 99) hx hb dX12_opensOf_13 hsw (by decide) ?_
            refine lv_iconst (v := (1 : Int32)) hx hb dX12_opensOf_99 (by decide) ?_
            refine lv_iload_n hx hb dX12_opensOf_100 rfl (lv_at hl 0 rfl) ?_
            obtain ⟨r22, σ23, hq24, hf⟩ := fm_bE hf
            refine fm_ci hI (fm_runS (As := [.int (1 : Int32), .int r1]) (rest := []) (rm := { frames := 0, cells := 0, slots := 0, locals := 0 }) hC hI (c_X12_less hC.2.2.1 hq24) mS_X12_less q_912 ⟨rfl, rfl⟩ ⟨Nat.le_of_ble_eq_true rfl, Nat.le_of_ble_eq_true rfl⟩ rfl hl.1 rfl (Nat.le_of_ble_eq_true rfl) dX12_opensOf_101 ⟨Nat.zero_le _, Nat.zero_le _⟩) (fun H locs hI => ?_)
            exact fm_ri hC hI hr hlk hf dX12_opensOf_104
def m_X12_enjoysOf (a1 : Int32) (a2 : Int32) (σ : fm_M) : Option (Int32 × fm_M) := fm_b (m_X12_get a1 (0 : Int32) σ) fun r1 σ2 => (if r1 = (1 : Int32) then (some ((((2 : Int32) * a2) + (2 : Int32)), σ2)) else (if r1 = (2 : Int32) then (some (a2, σ2)) else (if r1 = (3 : Int32) then (if a2 = 0 then (some ((6 : Int32), σ2)) else (some ((a2 + (1 : Int32)), σ2))) else (if r1 = (4 : Int32) then (some ((0 : Int32), σ2)) else (if r1 = (5 : Int32) then (some ((((2 : Int32) * a2) + (1 : Int32)), σ2)) else (some ((a2 + (1 : Int32)), σ2)))))))
set_option maxHeartbeats 4000000 in
set_option maxRecDepth 100000 in
theorem c_X12_enjoysOf {l : Launch} {G : fm_G} (hJ : fm_J G) {a1 : Int32} {a2 : Int32} {σ : fm_M} {o : Int32 × fm_M}  (hf : m_X12_enjoysOf a1 a2 σ = some o) : Met l yX12_enjoysOf (fm_w yX12_enjoysOf cX12_enjoysOf 3 (some .int)) { frames := 1, cells := 0, slots := 0, locals := 22 } (va_Pc [.ref (G.2.1 96), .int a1, .int a2] (fm_st G σ)) (fm_Qi G o) 0 0 (fm_A G) := by
  refine fm_mth (own := RX12) hJ rfl (by decide +kernel) (Nat.le_of_ble_eq_true rfl) ?_
  intro p e s m below meth c ls hC hr hlk hI hl
  have hx := hC.1.1
  have hb := hC.1.2.1
  have hown := hC.1.2.2.2.1
  have hts := hC.1.2.2.2.2
  have hl : lv_has ls 3 [(0, .ref (G.2.1 96)), (1, .int a1), (2, .int a2)] := hl
  rw [m_X12_enjoysOf] at hf
  refine lv_aload_n hx hb dX12_enjoysOf_0 rfl (lv_at hl 0 rfl) ?_
  refine lv_iload_n hx hb dX12_enjoysOf_1 rfl (lv_at hl 1 rfl) ?_
  refine lv_iconst (v := (0 : Int32)) hx hb dX12_enjoysOf_2 (by decide) ?_
  obtain ⟨r1, σ2, hq3, hf⟩ := fm_bE hf
  refine fm_ci hI (fm_runV (As := [.int a1, .int (0 : Int32)]) (rest := []) (rm := { frames := 0, cells := 0, slots := 0, locals := 0 }) hC hI (c_X12_get hC.2.2.1 hq3) mV_X12_get q_888 ⟨rfl, rfl⟩ ⟨Nat.le_of_ble_eq_true rfl, Nat.le_of_ble_eq_true rfl⟩ fc_96 rfl (by decide) rfl hl.1 rfl (Nat.le_of_ble_eq_true rfl) dX12_enjoysOf_3 ⟨Nat.zero_le _, Nat.zero_le _⟩) (fun H locs hI => ?_)
  by_cases hc4 : r1 = (1 : Int32)
  · have hf := fm_pT hf hc4
    refine lv_tableIn (off := 34) (tgt := 40) hx hb dX12_enjoysOf_6 (by rw [hc4]; decide) (by rw [hc4]; decide) (by rw [hc4]; decide) (by decide) ?_
    refine lv_iconst (v := (2 : Int32)) hx hb dX12_enjoysOf_40 (by decide) ?_
    refine lv_iload_n hx hb dX12_enjoysOf_41 rfl (lv_at hl 2 rfl) ?_
    refine lv_imul hx hb dX12_enjoysOf_42 ?_
    refine lv_iconst (v := (2 : Int32)) hx hb dX12_enjoysOf_43 (by decide) ?_
    refine lv_iadd hx hb dX12_enjoysOf_44 ?_
    exact fm_ri hC hI hr hlk hf dX12_enjoysOf_45
  · have hf := fm_pF hf hc4
    by_cases hc5 : r1 = (2 : Int32)
    · have hf := fm_pT hf hc5
      refine lv_tableIn (off := 40) (tgt := 46) hx hb dX12_enjoysOf_6 (by rw [hc5]; decide) (by rw [hc5]; decide) (by rw [hc5]; decide) (by decide) ?_
      refine lv_iload_n hx hb dX12_enjoysOf_46 rfl (lv_at hl 2 rfl) ?_
      exact fm_ri hC hI hr hlk hf dX12_enjoysOf_47
    · have hf := fm_pF hf hc5
      by_cases hc6 : r1 = (3 : Int32)
      · have hf := fm_pT hf hc6
        refine lv_tableIn (off := 42) (tgt := 48) hx hb dX12_enjoysOf_6 (by rw [hc6]; decide) (by rw [hc6]; decide) (by rw [hc6]; decide) (by decide) ?_
        refine lv_iload_n hx hb dX12_enjoysOf_48 rfl (lv_at hl 2 rfl) ?_
        refine lv_if_ne (tgt := 57) hx hb dX12_enjoysOf_49 (by decide) (fun hc => ?_) (fun hc => ?_)
        · have hf := fm_pF hf hc
          refine lv_iload_n hx hb dX12_enjoysOf_57 rfl (lv_at hl 2 rfl) ?_
          refine lv_iconst (v := (1 : Int32)) hx hb dX12_enjoysOf_58 (by decide) ?_
          refine lv_iadd hx hb dX12_enjoysOf_59 ?_
          exact fm_ri hC hI hr hlk hf dX12_enjoysOf_60
        · have hf := fm_pT hf hc
          refine lv_bipush (v := (6 : Int32)) hx hb dX12_enjoysOf_52 (by decide) ?_
          refine lv_goto (tgt := 60) hx hb dX12_enjoysOf_54 (by decide) ?_
          exact fm_ri hC hI hr hlk hf dX12_enjoysOf_60
      · have hf := fm_pF hf hc6
        by_cases hc7 : r1 = (4 : Int32)
        · have hf := fm_pT hf hc7
          refine lv_tableIn (off := 55) (tgt := 61) hx hb dX12_enjoysOf_6 (by rw [hc7]; decide) (by rw [hc7]; decide) (by rw [hc7]; decide) (by decide) ?_
          refine lv_iconst (v := (0 : Int32)) hx hb dX12_enjoysOf_61 (by decide) ?_
          exact fm_ri hC hI hr hlk hf dX12_enjoysOf_62
        · have hf := fm_pF hf hc7
          by_cases hc8 : r1 = (5 : Int32)
          · have hf := fm_pT hf hc8
            refine lv_tableIn (off := 57) (tgt := 63) hx hb dX12_enjoysOf_6 (by rw [hc8]; decide) (by rw [hc8]; decide) (by rw [hc8]; decide) (by decide) ?_
            refine lv_iconst (v := (2 : Int32)) hx hb dX12_enjoysOf_63 (by decide) ?_
            refine lv_iload_n hx hb dX12_enjoysOf_64 rfl (lv_at hl 2 rfl) ?_
            refine lv_imul hx hb dX12_enjoysOf_65 ?_
            refine lv_iconst (v := (1 : Int32)) hx hb dX12_enjoysOf_66 (by decide) ?_
            refine lv_iadd hx hb dX12_enjoysOf_67 ?_
            exact fm_ri hC hI hr hlk hf dX12_enjoysOf_68
          · have hf := fm_pF hf hc8
            have hsw : (r1 : Int32).toInt < 1 ∨ 5 < (r1 : Int32).toInt := by
              have t0 := fm_neI hc4
              rw [show ((1 : Int32)).toInt = 1 from by decide] at t0
              have t1 := fm_neI hc5
              rw [show ((2 : Int32)).toInt = 2 from by decide] at t1
              have t2 := fm_neI hc6
              rw [show ((3 : Int32)).toInt = 3 from by decide] at t2
              have t3 := fm_neI hc7
              rw [show ((4 : Int32)).toInt = 4 from by decide] at t3
              have t4 := fm_neI hc8
              rw [show ((5 : Int32)).toInt = 5 from by decide] at t4
              omega
            refine lv_tableOut (tgt := 69) hx hb dX12_enjoysOf_6 hsw (by decide) ?_
            refine lv_iload_n hx hb dX12_enjoysOf_69 rfl (lv_at hl 2 rfl) ?_
            refine lv_iconst (v := (1 : Int32)) hx hb dX12_enjoysOf_70 (by decide) ?_
            refine lv_iadd hx hb dX12_enjoysOf_71 ?_
            exact fm_ri hC hI hr hlk hf dX12_enjoysOf_72
def m_X12_struckOf (a1 : Int32) (a2 : Int32) (σ : fm_M) : Option (Int32 × fm_M) := fm_j (fun (v0_J1 : Int32) (σ_J1 : fm_M) => fm_b (m_X12_get a1 (0 : Int32) σ_J1) fun r2 σ3 => (if r2 = (1 : Int32) then (some (v0_J1, σ3)) else (if r2 = (2 : Int32) then (some (((2 : Int32) * a2), σ3)) else (if r2 = (3 : Int32) then (some (a2, σ3)) else (if r2 = (4 : Int32) then (some ((((2 : Int32) * a2) + (10 : Int32)), σ3)) else (if r2 = (5 : Int32) then (some ((v0_J1 + (a2 / (2 : Int32))), σ3)) else (some (a2, σ3)))))))) (fun J1 => if a2 ≤ 0 then (J1 (5 : Int32) σ) else (J1 (0 : Int32) σ))
set_option maxHeartbeats 4000000 in
set_option maxRecDepth 100000 in
theorem c_X12_struckOf {l : Launch} {G : fm_G} (hJ : fm_J G) {a1 : Int32} {a2 : Int32} {σ : fm_M} {o : Int32 × fm_M}  (hf : m_X12_struckOf a1 a2 σ = some o) : Met l yX12_struckOf (fm_w yX12_struckOf cX12_struckOf 4 (some .int)) { frames := 1, cells := 0, slots := 0, locals := 22 } (va_Pc [.ref (G.2.1 96), .int a1, .int a2] (fm_st G σ)) (fm_Qi G o) 0 0 (fm_A G) := by
  refine fm_mth (own := RX12) hJ rfl (by decide +kernel) (Nat.le_of_ble_eq_true rfl) ?_
  intro p e s m below meth c ls hC hr hlk hI hl
  have hx := hC.1.1
  have hb := hC.1.2.1
  have hown := hC.1.2.2.2.1
  have hts := hC.1.2.2.2.2
  have hl : lv_has ls 4 [(0, .ref (G.2.1 96)), (1, .int a1), (2, .int a2)] := hl
  rw [m_X12_struckOf] at hf
  refine lv_iload_n hx hb dX12_struckOf_0 rfl (lv_at hl 2 rfl) ?_
  obtain ⟨J1, eJ1, hf⟩ := fm_jE hf
  have hJ1 : ∀ (v0_J1 : Int32) (σ_J1 : fm_M) (H : Heap) (locs : List Loc) (ls : Array Slot), fm_I G σ_J1 s H locs → lv_has ls 4 [(0, .ref (G.2.1 96)), (1, .int a1), (2, .int a2)] → J1 v0_J1 σ_J1 = some o → W p l e { frames := 1, cells := 0, slots := 0, locals := 22 } s m ([.ref (G.2.1 96), .int a1, .int a2] : List Value).toArray below meth c H locs 0 0 (MQ below (fm_Qi G o) ([.ref (G.2.1 96), .int a1, .int a2] : List Value).toArray s 0 0 (fm_A G)) (F0 m 9 ls [.int v0_J1]) := by
    intro v0_J1 σ_J1 H locs ls hI hl hf
    subst eJ1
    refine lv_istore_n (lv' := [(3, .int v0_J1), (0, .ref (G.2.1 96)), (1, .int a1), (2, .int a2)]) hx hb dX12_struckOf_9 rfl hl (Nat.le_of_ble_eq_true rfl) rfl (fun ls hl => ?_)
    refine lv_aload_n hx hb dX12_struckOf_10 rfl (lv_at hl 1 rfl) ?_
    refine lv_iload_n hx hb dX12_struckOf_11 rfl (lv_at hl 2 rfl) ?_
    refine lv_iconst (v := (0 : Int32)) hx hb dX12_struckOf_12 (by decide) ?_
    obtain ⟨r2, σ3, hq4, hf⟩ := fm_bE hf
    refine fm_ci hI (fm_runV (As := [.int a1, .int (0 : Int32)]) (rest := []) (rm := { frames := 0, cells := 0, slots := 0, locals := 0 }) hC hI (c_X12_get hC.2.2.1 hq4) mV_X12_get q_888 ⟨rfl, rfl⟩ ⟨Nat.le_of_ble_eq_true rfl, Nat.le_of_ble_eq_true rfl⟩ fc_96 rfl (by decide) rfl hl.1 rfl (Nat.le_of_ble_eq_true rfl) dX12_struckOf_13 ⟨Nat.zero_le _, Nat.zero_le _⟩) (fun H locs hI => ?_)
    by_cases hc5 : r2 = (1 : Int32)
    · have hf := fm_pT hf hc5
      refine lv_tableIn (off := 36) (tgt := 52) hx hb dX12_struckOf_16 (by rw [hc5]; decide) (by rw [hc5]; decide) (by rw [hc5]; decide) (by decide) ?_
      refine lv_iload_n hx hb dX12_struckOf_52 rfl (lv_at hl 0 rfl) ?_
      exact fm_ri hC hI hr hlk hf dX12_struckOf_53
    · have hf := fm_pF hf hc5
      by_cases hc6 : r2 = (2 : Int32)
      · have hf := fm_pT hf hc6
        refine lv_tableIn (off := 38) (tgt := 54) hx hb dX12_struckOf_16 (by rw [hc6]; decide) (by rw [hc6]; decide) (by rw [hc6]; decide) (by decide) ?_
        refine lv_iconst (v := (2 : Int32)) hx hb dX12_struckOf_54 (by decide) ?_
        refine lv_iload_n hx hb dX12_struckOf_55 rfl (lv_at hl 3 rfl) ?_
        refine lv_imul hx hb dX12_struckOf_56 ?_
        exact fm_ri hC hI hr hlk hf dX12_struckOf_57
      · have hf := fm_pF hf hc6
        by_cases hc7 : r2 = (3 : Int32)
        · have hf := fm_pT hf hc7
          refine lv_tableIn (off := 55) (tgt := 71) hx hb dX12_struckOf_16 (by rw [hc7]; decide) (by rw [hc7]; decide) (by rw [hc7]; decide) (by decide) ?_
          refine lv_iload_n hx hb dX12_struckOf_71 rfl (lv_at hl 3 rfl) ?_
          exact fm_ri hC hI hr hlk hf dX12_struckOf_72
        · have hf := fm_pF hf hc7
          by_cases hc8 : r2 = (4 : Int32)
          · have hf := fm_pT hf hc8
            refine lv_tableIn (off := 42) (tgt := 58) hx hb dX12_struckOf_16 (by rw [hc8]; decide) (by rw [hc8]; decide) (by rw [hc8]; decide) (by decide) ?_
            refine lv_iconst (v := (2 : Int32)) hx hb dX12_struckOf_58 (by decide) ?_
            refine lv_iload_n hx hb dX12_struckOf_59 rfl (lv_at hl 3 rfl) ?_
            refine lv_imul hx hb dX12_struckOf_60 ?_
            refine lv_bipush (v := (10 : Int32)) hx hb dX12_struckOf_61 (by decide) ?_
            refine lv_iadd hx hb dX12_struckOf_63 ?_
            exact fm_ri hC hI hr hlk hf dX12_struckOf_64
          · have hf := fm_pF hf hc8
            by_cases hc9 : r2 = (5 : Int32)
            · have hf := fm_pT hf hc9
              refine lv_tableIn (off := 49) (tgt := 65) hx hb dX12_struckOf_16 (by rw [hc9]; decide) (by rw [hc9]; decide) (by rw [hc9]; decide) (by decide) ?_
              refine lv_iload_n hx hb dX12_struckOf_65 rfl (lv_at hl 0 rfl) ?_
              refine lv_iload_n hx hb dX12_struckOf_66 rfl (lv_at hl 3 rfl) ?_
              refine lv_iconst (v := (2 : Int32)) hx hb dX12_struckOf_67 (by decide) ?_
              refine lv_idiv hx hb dX12_struckOf_68 (by decide) ?_
              refine lv_iadd hx hb dX12_struckOf_69 ?_
              exact fm_ri hC hI hr hlk hf dX12_struckOf_70
            · have hf := fm_pF hf hc9
              have hsw : (r2 : Int32).toInt < 1 ∨ 5 < (r2 : Int32).toInt := by
                have t0 := fm_neI hc5
                rw [show ((1 : Int32)).toInt = 1 from by decide] at t0
                have t1 := fm_neI hc6
                rw [show ((2 : Int32)).toInt = 2 from by decide] at t1
                have t2 := fm_neI hc7
                rw [show ((3 : Int32)).toInt = 3 from by decide] at t2
                have t3 := fm_neI hc8
                rw [show ((4 : Int32)).toInt = 4 from by decide] at t3
                have t4 := fm_neI hc9
                rw [show ((5 : Int32)).toInt = 5 from by decide] at t4
                omega
              refine lv_tableOut (tgt := 71) hx hb dX12_struckOf_16 hsw (by decide) ?_
              refine lv_iload_n hx hb dX12_struckOf_71 rfl (lv_at hl 3 rfl) ?_
              exact fm_ri hC hI hr hlk hf dX12_struckOf_72
  refine lv_if_le (tgt := 8) hx hb dX12_struckOf_1 (by decide) (fun hc => ?_) (fun hc => ?_)
  · have hf := fm_pT hf hc
    refine lv_iconst (v := (5 : Int32)) hx hb dX12_struckOf_8 (by decide) ?_
    exact hJ1 (5 : Int32) σ _ _ _ hI (lv_sub hl [0, 1, 2] rfl) hf
  · have hf := fm_pF hf hc
    refine lv_iconst (v := (0 : Int32)) hx hb dX12_struckOf_4 (by decide) ?_
    refine lv_goto (tgt := 9) hx hb dX12_struckOf_5 (by decide) ?_
    exact hJ1 (0 : Int32) σ _ _ _ hI (lv_sub hl [0, 1, 2] rfl) hf
def m_X12_passesOf (a1 : Int32) (a2 : Int32) (σ : fm_M) : Option (Int32 × fm_M) := fm_g (fm_in1 (0 : Int32) 96) (fm_b (m_X12_get a1 (0 : Int32) σ) fun r2 σ3 => (if r2 = (0 : Int32) then (if a2 < (4 : Int32) then (some ((-1 : Int32), σ3)) else (some (((σ.1 97 (0 : Int32).toNatClampNeg) - (σ.1 97 (0 : Int32).toNatClampNeg) / (4 : Int32) * (4 : Int32)), σ3))) else (if r2 = (1 : Int32) then (if a2 = (6 : Int32) then (some (((σ.1 97 (0 : Int32).toNatClampNeg) - (σ.1 97 (0 : Int32).toNatClampNeg) / (4 : Int32) * (4 : Int32)), σ3)) else (some ((-1 : Int32), σ3))) else (if r2 = (2 : Int32) then (some ((-1 : Int32), σ3)) else (if r2 = (3 : Int32) then (fm_b (m_X12_in1 a2 (1 : Int32) (3 : Int32) σ3) fun r9 σ10 => (if r9 = 0 then (some ((-1 : Int32), σ10)) else (some ((0 : Int32), σ10)))) else (if r2 = (4 : Int32) then (some ((-1 : Int32), σ3)) else (if r2 = (5 : Int32) then (if a2 < (2 : Int32) then (some ((-1 : Int32), σ3)) else (some (((σ.1 97 (0 : Int32).toNatClampNeg) - (σ.1 97 (0 : Int32).toNatClampNeg) / (4 : Int32) * (4 : Int32)), σ3))) else (some ((-1 : Int32), σ3)))))))))
set_option maxHeartbeats 4000000 in
set_option maxRecDepth 100000 in
theorem c_X12_passesOf {l : Launch} {G : fm_G} (hJ : fm_J G) {a1 : Int32} {a2 : Int32} {σ : fm_M} {o : Int32 × fm_M}  (hf : m_X12_passesOf a1 a2 σ = some o) : Met l yX12_passesOf (fm_w yX12_passesOf cX12_passesOf 4 (some .int)) { frames := 1, cells := 0, slots := 0, locals := 22 } (va_Pc [.ref (G.2.1 96), .int a1, .int a2] (fm_st G σ)) (fm_Qi G o) 0 0 (fm_A G) := by
  refine fm_mth (own := RX12) hJ rfl (by decide +kernel) (Nat.le_of_ble_eq_true rfl) ?_
  intro p e s m below meth c ls hC hr hlk hI hl
  have hx := hC.1.1
  have hb := hC.1.2.1
  have hown := hC.1.2.2.2.1
  have hts := hC.1.2.2.2.2
  have hl : lv_has ls 4 [(0, .ref (G.2.1 96)), (1, .int a1), (2, .int a2)] := hl
  rw [m_X12_passesOf] at hf
  refine lv_aload_n hx hb dX12_passesOf_0 rfl (lv_at hl 0 rfl) ?_
  refine fm_gr hC hI fd_X12_0 fc_96 fr_96_0 q_798 dX12_passesOf_1 ?_
  refine lv_iconst (v := (0 : Int32)) hx hb dX12_passesOf_4 (by decide) ?_
  obtain ⟨hg1, hf⟩ := fm_gE hf
  refine fm_iald hC hI fc_97 fl_97 hg1 dX12_passesOf_5 ?_
  refine lv_iconst (v := (4 : Int32)) hx hb dX12_passesOf_6 (by decide) ?_
  refine lv_irem hx hb dX12_passesOf_7 (by decide) ?_
  refine lv_istore_n (lv' := [(3, .int ((σ.1 97 (0 : Int32).toNatClampNeg) - (σ.1 97 (0 : Int32).toNatClampNeg) / (4 : Int32) * (4 : Int32))), (0, .ref (G.2.1 96)), (1, .int a1), (2, .int a2)]) hx hb dX12_passesOf_8 rfl hl (Nat.le_of_ble_eq_true rfl) rfl (fun ls hl => ?_)
  refine lv_aload_n hx hb dX12_passesOf_9 rfl (lv_at hl 1 rfl) ?_
  refine lv_iload_n hx hb dX12_passesOf_10 rfl (lv_at hl 2 rfl) ?_
  refine lv_iconst (v := (0 : Int32)) hx hb dX12_passesOf_11 (by decide) ?_
  obtain ⟨r2, σ3, hq4, hf⟩ := fm_bE hf
  refine fm_ci hI (fm_runV (As := [.int a1, .int (0 : Int32)]) (rest := []) (rm := { frames := 0, cells := 0, slots := 0, locals := 0 }) hC hI (c_X12_get hC.2.2.1 hq4) mV_X12_get q_888 ⟨rfl, rfl⟩ ⟨Nat.le_of_ble_eq_true rfl, Nat.le_of_ble_eq_true rfl⟩ fc_96 rfl (by decide) rfl hl.1 rfl (Nat.le_of_ble_eq_true rfl) dX12_passesOf_12 ⟨Nat.zero_le _, Nat.zero_le _⟩) (fun H locs hI => ?_)
  by_cases hc5 : r2 = (0 : Int32)
  · have hf := fm_pT hf hc5
    refine lv_tableIn (off := 37) (tgt := 52) hx hb dX12_passesOf_15 (by rw [hc5]; decide) (by rw [hc5]; decide) (by rw [hc5]; decide) (by decide) ?_
    refine lv_iload_n hx hb dX12_passesOf_52 rfl (lv_at hl 3 rfl) ?_
    refine lv_iconst (v := (4 : Int32)) hx hb dX12_passesOf_53 (by decide) ?_
    refine lv_icmp_lt (tgt := 61) hx hb dX12_passesOf_54 (by decide) (fun hc => ?_) (fun hc => ?_)
    · have hf := fm_pT hf hc
      refine lv_iconst (v := (-1 : Int32)) hx hb dX12_passesOf_61 (by decide) ?_
      exact fm_ri hC hI hr hlk hf dX12_passesOf_62
    · have hf := fm_pF hf hc
      refine lv_iload_n hx hb dX12_passesOf_57 rfl (lv_at hl 0 rfl) ?_
      refine lv_goto (tgt := 62) hx hb dX12_passesOf_58 (by decide) ?_
      exact fm_ri hC hI hr hlk hf dX12_passesOf_62
  · have hf := fm_pF hf hc5
    by_cases hc6 : r2 = (1 : Int32)
    · have hf := fm_pT hf hc6
      refine lv_tableIn (off := 48) (tgt := 63) hx hb dX12_passesOf_15 (by rw [hc6]; decide) (by rw [hc6]; decide) (by rw [hc6]; decide) (by decide) ?_
      refine lv_iload_n hx hb dX12_passesOf_63 rfl (lv_at hl 3 rfl) ?_
      refine lv_bipush (v := (6 : Int32)) hx hb dX12_passesOf_64 (by decide) ?_
      refine lv_icmp_ne (tgt := 73) hx hb dX12_passesOf_66 (by decide) (fun hc => ?_) (fun hc => ?_)
      · have hf := fm_pF hf hc
        refine lv_iconst (v := (-1 : Int32)) hx hb dX12_passesOf_73 (by decide) ?_
        exact fm_ri hC hI hr hlk hf dX12_passesOf_74
      · have hf := fm_pT hf hc
        refine lv_iload_n hx hb dX12_passesOf_69 rfl (lv_at hl 0 rfl) ?_
        refine lv_goto (tgt := 74) hx hb dX12_passesOf_70 (by decide) ?_
        exact fm_ri hC hI hr hlk hf dX12_passesOf_74
    · have hf := fm_pF hf hc6
      by_cases hc7 : r2 = (2 : Int32)
      · have hf := fm_pT hf hc7
        refine lv_tableIn (off := 86) (tgt := 101) hx hb dX12_passesOf_15 (by rw [hc7]; decide) (by rw [hc7]; decide) (by rw [hc7]; decide) (by decide) ?_
        refine lv_iconst (v := (-1 : Int32)) hx hb dX12_passesOf_101 (by decide) ?_
        exact fm_ri hC hI hr hlk hf dX12_passesOf_102
      · have hf := fm_pF hf hc7
        by_cases hc8 : r2 = (3 : Int32)
        · have hf := fm_pT hf hc8
          refine lv_tableIn (off := 60) (tgt := 75) hx hb dX12_passesOf_15 (by rw [hc8]; decide) (by rw [hc8]; decide) (by rw [hc8]; decide) (by decide) ?_
          refine lv_iload_n hx hb dX12_passesOf_75 rfl (lv_at hl 3 rfl) ?_
          refine lv_iconst (v := (1 : Int32)) hx hb dX12_passesOf_76 (by decide) ?_
          refine lv_iconst (v := (3 : Int32)) hx hb dX12_passesOf_77 (by decide) ?_
          obtain ⟨r9, σ10, hq11, hf⟩ := fm_bE hf
          refine fm_ci hI (fm_runS (As := [.int a2, .int (1 : Int32), .int (3 : Int32)]) (rest := []) (rm := { frames := 0, cells := 0, slots := 0, locals := 0 }) hC hI (c_X12_in1 hC.2.2.1 hq11) mS_X12_in1 q_864 ⟨rfl, rfl⟩ ⟨Nat.le_of_ble_eq_true rfl, Nat.le_of_ble_eq_true rfl⟩ rfl hl.1 rfl (Nat.le_of_ble_eq_true rfl) dX12_passesOf_78 ⟨Nat.zero_le _, Nat.zero_le _⟩) (fun H locs hI => ?_)
          refine lv_if_eq (tgt := 88) hx hb dX12_passesOf_81 (by decide) (fun hc => ?_) (fun hc => ?_)
          · have hf := fm_pT hf hc
            refine lv_iconst (v := (-1 : Int32)) hx hb dX12_passesOf_88 (by decide) ?_
            exact fm_ri hC hI hr hlk hf dX12_passesOf_89
          · have hf := fm_pF hf hc
            refine lv_iconst (v := (0 : Int32)) hx hb dX12_passesOf_84 (by decide) ?_
            refine lv_goto (tgt := 89) hx hb dX12_passesOf_85 (by decide) ?_
            exact fm_ri hC hI hr hlk hf dX12_passesOf_89
        · have hf := fm_pF hf hc8
          by_cases hc12 : r2 = (4 : Int32)
          · have hf := fm_pT hf hc12
            refine lv_tableIn (off := 86) (tgt := 101) hx hb dX12_passesOf_15 (by rw [hc12]; decide) (by rw [hc12]; decide) (by rw [hc12]; decide) (by decide) ?_
            refine lv_iconst (v := (-1 : Int32)) hx hb dX12_passesOf_101 (by decide) ?_
            exact fm_ri hC hI hr hlk hf dX12_passesOf_102
          · have hf := fm_pF hf hc12
            by_cases hc13 : r2 = (5 : Int32)
            · have hf := fm_pT hf hc13
              refine lv_tableIn (off := 75) (tgt := 90) hx hb dX12_passesOf_15 (by rw [hc13]; decide) (by rw [hc13]; decide) (by rw [hc13]; decide) (by decide) ?_
              refine lv_iload_n hx hb dX12_passesOf_90 rfl (lv_at hl 3 rfl) ?_
              refine lv_iconst (v := (2 : Int32)) hx hb dX12_passesOf_91 (by decide) ?_
              refine lv_icmp_lt (tgt := 99) hx hb dX12_passesOf_92 (by decide) (fun hc => ?_) (fun hc => ?_)
              · have hf := fm_pT hf hc
                refine lv_iconst (v := (-1 : Int32)) hx hb dX12_passesOf_99 (by decide) ?_
                exact fm_ri hC hI hr hlk hf dX12_passesOf_100
              · have hf := fm_pF hf hc
                refine lv_iload_n hx hb dX12_passesOf_95 rfl (lv_at hl 0 rfl) ?_
                refine lv_goto (tgt := 100) hx hb dX12_passesOf_96 (by decide) ?_
                exact fm_ri hC hI hr hlk hf dX12_passesOf_100
            · have hf := fm_pF hf hc13
              have hsw : (r2 : Int32).toInt < 0 ∨ 5 < (r2 : Int32).toInt := by
                have t0 := fm_neI hc5
                rw [show ((0 : Int32)).toInt = 0 from by decide] at t0
                have t1 := fm_neI hc6
                rw [show ((1 : Int32)).toInt = 1 from by decide] at t1
                have t2 := fm_neI hc7
                rw [show ((2 : Int32)).toInt = 2 from by decide] at t2
                have t3 := fm_neI hc8
                rw [show ((3 : Int32)).toInt = 3 from by decide] at t3
                have t4 := fm_neI hc12
                rw [show ((4 : Int32)).toInt = 4 from by decide] at t4
                have t5 := fm_neI hc13
                rw [show ((5 : Int32)).toInt = 5 from by decide] at t5
                omega
              refine lv_tableOut (tgt := 101) hx hb dX12_passesOf_15 hsw (by decide) ?_
              refine lv_iconst (v := (-1 : Int32)) hx hb dX12_passesOf_101 (by decide) ?_
              exact fm_ri hC hI hr hlk hf dX12_passesOf_102
def m_X12_presentFor_2 (kc : Int32 → Int32 → fm_M → Option (Int32 × fm_M)) : Nat → Int32 → Int32 → fm_M → Option (Int32 × fm_M)
  | 0, _, _, _ => none
  | n + 1, z1, z2, σ => fm_g (fm_in1 (2 : Int32) 96) (if (σ.1 97 (2 : Int32).toNatClampNeg) ≤ z2 then (kc z1 z2 σ) else (fm_b (m_X12_of1 z2 (2 : Int32) σ) fun r2 σ3 => (if r2 = z1 then (fm_b (m_X12_of1 z2 (3 : Int32) σ3) fun r5 σ6 => (if r5 = (1 : Int32) then (m_X12_presentFor_2 kc n z1 (z2 + (1 : Int32)) σ6) else (if (((σ6.1 96 5) >>> (z2 &&& 31)) &&& (1 : Int32)) = (1 : Int32) then (m_X12_presentFor_2 kc n z1 (z2 + (1 : Int32)) σ6) else (kc z1 z2 σ6)))) else (m_X12_presentFor_2 kc n z1 (z2 + (1 : Int32)) σ3))))
def m_X12_presentFor (a1 : Int32) (σ : fm_M) : Option (Int32 × fm_M) := m_X12_presentFor_2 (fun (x1_y8 : Int32) (x2_y8 : Int32) (σ_y8 : fm_M) => some (x2_y8, σ_y8)) fm_fu a1 (0 : Int32) σ
set_option maxHeartbeats 4000000 in
set_option maxRecDepth 100000 in
theorem w_X12_presentFor_2 {p : Program} {l : Launch} {e : Env} {s : State} {m : MethodId} {args : Array Value} {below : List Frame} {meth : Method} {c : Code} {G : fm_G} {o : Int32 × fm_M} {kc : Int32 → Int32 → fm_M → Option (Int32 × fm_M)} (hC : fm_C G p m c cX12_presentFor 3 s args RX12) (hr : meth.sig.returnType = (some .int)) (hlk : meth.locks = false) (hk : ∀ (z1 : Int32) (z2 : Int32) (σ : fm_M) (H : Heap) (locs : List Loc) (ls : Array Slot), fm_I G σ s H locs → lv_has ls 3 [(0, .ref (G.2.1 96)), (1, .int z1), (2, .int z2)] → kc z1 z2 σ = some o → W p l e { frames := 1, cells := 0, slots := 0, locals := 22 } s m args below meth c H locs 0 0 (MQ below (fm_Qi G o) args s 0 0 (fm_A G)) (F0 m 50 ls [])) (n : Nat) : ∀ (z1 : Int32) (z2 : Int32) (σ : fm_M) (H : Heap) (locs : List Loc) (ls : Array Slot), fm_I G σ s H locs → lv_has ls 3 [(0, .ref (G.2.1 96)), (1, .int z1), (2, .int z2)] → m_X12_presentFor_2 kc n z1 z2 σ = some o → W p l e { frames := 1, cells := 0, slots := 0, locals := 22 } s m args below meth c H locs 0 0 (MQ below (fm_Qi G o) args s 0 0 (fm_A G)) (F0 m 2 ls []) := by
  have hx := hC.1.1
  have hb := hC.1.2.1
  have hown := hC.1.2.2.2.1
  have hts := hC.1.2.2.2.2
  induction n with
  | zero =>
    intro z1 z2 σ H locs ls hI hl hf
    cases hf
  | succ n ih =>
    intro z1 z2 σ H locs ls hI hl hf
    rw [m_X12_presentFor_2] at hf
    refine lv_iload_n hx hb dX12_presentFor_2 rfl (lv_at hl 2 rfl) ?_
    refine lv_aload_n hx hb dX12_presentFor_3 rfl (lv_at hl 0 rfl) ?_
    refine fm_gr hC hI fd_X12_0 fc_96 fr_96_0 q_798 dX12_presentFor_4 ?_
    refine lv_iconst (v := (2 : Int32)) hx hb dX12_presentFor_7 (by decide) ?_
    obtain ⟨hg1, hf⟩ := fm_gE hf
    refine fm_iald hC hI fc_97 fl_97 hg1 dX12_presentFor_8 ?_
    refine lv_icmp_ge (tgt := 50) hx hb dX12_presentFor_9 (by decide) (fun hc => ?_) (fun hc => ?_)
    · have hf := fm_pT hf hc
      exact hk z1 z2 σ _ _ _ hI (lv_sub hl [0, 1, 2] rfl) hf
    · have hf := fm_pF hf hc
      refine lv_aload_n hx hb dX12_presentFor_12 rfl (lv_at hl 0 rfl) ?_
      refine lv_iload_n hx hb dX12_presentFor_13 rfl (lv_at hl 2 rfl) ?_
      refine lv_iconst (v := (2 : Int32)) hx hb dX12_presentFor_14 (by decide) ?_
      obtain ⟨r2, σ3, hq4, hf⟩ := fm_bE hf
      refine fm_ci hI (fm_runV (As := [.int z2, .int (2 : Int32)]) (rest := []) (rm := { frames := 0, cells := 0, slots := 0, locals := 0 }) hC hI (c_X12_of1 hC.2.2.1 hq4) mV_X12_of1 q_896 ⟨rfl, rfl⟩ ⟨Nat.le_of_ble_eq_true rfl, Nat.le_of_ble_eq_true rfl⟩ fc_96 rfl (by decide) rfl hl.1 rfl (Nat.le_of_ble_eq_true rfl) dX12_presentFor_15 ⟨Nat.zero_le _, Nat.zero_le _⟩) (fun H locs hI => ?_)
      refine lv_iload_n hx hb dX12_presentFor_18 rfl (lv_at hl 1 rfl) ?_
      refine lv_icmp_ne (tgt := 44) hx hb dX12_presentFor_19 (by decide) (fun hc => ?_) (fun hc => ?_)
      · have hf := fm_pF hf hc
        refine lv_iinc (v := (z2 + (1 : Int32))) (lv' := [(2, .int (z2 + (1 : Int32))), (0, .ref (G.2.1 96)), (1, .int z1)]) hx hb dX12_presentFor_44 hl (k := 2) rfl rfl (Nat.le_of_ble_eq_true rfl) rfl (fun ls hl => ?_)
        refine lv_goto (tgt := 2) hx hb dX12_presentFor_47 (by decide) ?_
        exact ih z1 (z2 + (1 : Int32)) σ3 _ _ _ hI (lv_sub hl [1, 2, 0] rfl) hf
      · have hf := fm_pT hf hc
        refine lv_aload_n hx hb dX12_presentFor_22 rfl (lv_at hl 0 rfl) ?_
        refine lv_iload_n hx hb dX12_presentFor_23 rfl (lv_at hl 2 rfl) ?_
        refine lv_iconst (v := (3 : Int32)) hx hb dX12_presentFor_24 (by decide) ?_
        obtain ⟨r5, σ6, hq7, hf⟩ := fm_bE hf
        refine fm_ci hI (fm_runV (As := [.int z2, .int (3 : Int32)]) (rest := []) (rm := { frames := 0, cells := 0, slots := 0, locals := 0 }) hC hI (c_X12_of1 hC.2.2.1 hq7) mV_X12_of1 q_896 ⟨rfl, rfl⟩ ⟨Nat.le_of_ble_eq_true rfl, Nat.le_of_ble_eq_true rfl⟩ fc_96 rfl (by decide) rfl hl.1 rfl (Nat.le_of_ble_eq_true rfl) dX12_presentFor_25 ⟨Nat.zero_le _, Nat.zero_le _⟩) (fun H locs hI => ?_)
        refine lv_iconst (v := (1 : Int32)) hx hb dX12_presentFor_28 (by decide) ?_
        refine lv_icmp_eq (tgt := 44) hx hb dX12_presentFor_29 (by decide) (fun hc => ?_) (fun hc => ?_)
        · have hf := fm_pT hf hc
          refine lv_iinc (v := (z2 + (1 : Int32))) (lv' := [(2, .int (z2 + (1 : Int32))), (0, .ref (G.2.1 96)), (1, .int z1)]) hx hb dX12_presentFor_44 hl (k := 2) rfl rfl (Nat.le_of_ble_eq_true rfl) rfl (fun ls hl => ?_)
          refine lv_goto (tgt := 2) hx hb dX12_presentFor_47 (by decide) ?_
          exact ih z1 (z2 + (1 : Int32)) σ6 _ _ _ hI (lv_sub hl [1, 2, 0] rfl) hf
        · have hf := fm_pF hf hc
          refine lv_aload_n hx hb dX12_presentFor_32 rfl (lv_at hl 0 rfl) ?_
          refine fm_gi hC hI fd_X12_5 fc_96 q_803 dX12_presentFor_33 ?_
          refine lv_iload_n hx hb dX12_presentFor_36 rfl (lv_at hl 2 rfl) ?_
          refine lv_ishr hx hb dX12_presentFor_37 ?_
          refine lv_iconst (v := (1 : Int32)) hx hb dX12_presentFor_38 (by decide) ?_
          refine lv_iand hx hb dX12_presentFor_39 ?_
          refine lv_iconst (v := (1 : Int32)) hx hb dX12_presentFor_40 (by decide) ?_
          refine lv_icmp_ne (tgt := 50) hx hb dX12_presentFor_41 (by decide) (fun hc => ?_) (fun hc => ?_)
          · have hf := fm_pF hf hc
            exact hk z1 z2 σ6 _ _ _ hI (lv_sub hl [0, 1, 2] rfl) hf
          · have hf := fm_pT hf hc
            refine lv_iinc (v := (z2 + (1 : Int32))) (lv' := [(2, .int (z2 + (1 : Int32))), (0, .ref (G.2.1 96)), (1, .int z1)]) hx hb dX12_presentFor_44 hl (k := 2) rfl rfl (Nat.le_of_ble_eq_true rfl) rfl (fun ls hl => ?_)
            refine lv_goto (tgt := 2) hx hb dX12_presentFor_47 (by decide) ?_
            exact ih z1 (z2 + (1 : Int32)) σ6 _ _ _ hI (lv_sub hl [1, 2, 0] rfl) hf
set_option maxHeartbeats 4000000 in
set_option maxRecDepth 100000 in
theorem c_X12_presentFor {l : Launch} {G : fm_G} (hJ : fm_J G) {a1 : Int32} {σ : fm_M} {o : Int32 × fm_M}  (hf : m_X12_presentFor a1 σ = some o) : Met l yX12_presentFor (fm_w yX12_presentFor cX12_presentFor 3 (some .int)) { frames := 1, cells := 0, slots := 0, locals := 22 } (va_Pc [.ref (G.2.1 96), .int a1] (fm_st G σ)) (fm_Qi G o) 0 0 (fm_A G) := by
  refine fm_mth (own := RX12) hJ rfl (by decide +kernel) (Nat.le_of_ble_eq_true rfl) ?_
  intro p e s m below meth c ls hC hr hlk hI hl
  have hx := hC.1.1
  have hb := hC.1.2.1
  have hown := hC.1.2.2.2.1
  have hts := hC.1.2.2.2.2
  have hl : lv_has ls 3 [(0, .ref (G.2.1 96)), (1, .int a1)] := hl
  rw [m_X12_presentFor] at hf
  refine lv_iconst (v := (0 : Int32)) hx hb dX12_presentFor_0 (by decide) ?_
  refine lv_istore_n (lv' := [(2, .int (0 : Int32)), (0, .ref (G.2.1 96)), (1, .int a1)]) hx hb dX12_presentFor_1 rfl hl (Nat.le_of_ble_eq_true rfl) rfl (fun ls hl => ?_)
  refine w_X12_presentFor_2 hC hr hlk (fun x1_y8 x2_y8 σ_y8 H locs ls hI hl hf => ?_) fm_fu a1 (0 : Int32) σ _ _ _ hI (lv_sub hl [1, 2, 0] rfl) hf
  refine lv_iload_n hx hb dX12_presentFor_50 rfl (lv_at hl 2 rfl) ?_
  exact fm_ri hC hI hr hlk hf dX12_presentFor_51
def m_X12_enjoys (a1 : Int32) (a2 : Int32) (σ : fm_M) : Option (Unit × fm_M) := fm_b (m_X12_get a1 (1 : Int32) σ) fun r1 σ2 => (fm_b (m_X12_less (9999 : Int32) (r1 + a2) σ2) fun r4 σ5 => (fm_b (m_X12_puts a1 (1 : Int32) r4 σ5) fun _u7 σ8 => (some ((), σ8))))
set_option maxHeartbeats 4000000 in
set_option maxRecDepth 100000 in
theorem c_X12_enjoys {l : Launch} {G : fm_G} (hJ : fm_J G) {a1 : Int32} {a2 : Int32} {σ : fm_M} {o : Unit × fm_M}  (hf : m_X12_enjoys a1 a2 σ = some o) : Met l yX12_enjoys (fm_w yX12_enjoys cX12_enjoys 3 none) { frames := 1, cells := 0, slots := 0, locals := 23 } (va_Pc [.ref (G.2.1 96), .int a1, .int a2] (fm_st G σ)) (fm_Qv G o) 0 0 (fm_A G) := by
  refine fm_mth (own := RX12) hJ rfl (by decide +kernel) (Nat.le_of_ble_eq_true rfl) ?_
  intro p e s m below meth c ls hC hr hlk hI hl
  have hx := hC.1.1
  have hb := hC.1.2.1
  have hown := hC.1.2.2.2.1
  have hts := hC.1.2.2.2.2
  have hl : lv_has ls 3 [(0, .ref (G.2.1 96)), (1, .int a1), (2, .int a2)] := hl
  rw [m_X12_enjoys] at hf
  refine lv_aload_n hx hb dX12_enjoys_0 rfl (lv_at hl 0 rfl) ?_
  refine lv_iload_n hx hb dX12_enjoys_1 rfl (lv_at hl 1 rfl) ?_
  refine lv_iconst (v := (1 : Int32)) hx hb dX12_enjoys_2 (by decide) ?_
  refine lv_sipush (v := (9999 : Int32)) hx hb dX12_enjoys_3 (by decide) ?_
  refine lv_aload_n hx hb dX12_enjoys_6 rfl (lv_at hl 0 rfl) ?_
  refine lv_iload_n hx hb dX12_enjoys_7 rfl (lv_at hl 1 rfl) ?_
  refine lv_iconst (v := (1 : Int32)) hx hb dX12_enjoys_8 (by decide) ?_
  obtain ⟨r1, σ2, hq3, hf⟩ := fm_bE hf
  refine fm_ci hI (fm_runV (As := [.int a1, .int (1 : Int32)]) (rest := [.int (9999 : Int32), .int (1 : Int32), .int a1, .ref (G.2.1 96)]) (rm := { frames := 0, cells := 0, slots := 0, locals := 0 }) hC hI (c_X12_get hC.2.2.1 hq3) mV_X12_get q_888 ⟨rfl, rfl⟩ ⟨Nat.le_of_ble_eq_true rfl, Nat.le_of_ble_eq_true rfl⟩ fc_96 rfl (by decide) rfl hl.1 rfl (Nat.le_of_ble_eq_true rfl) dX12_enjoys_9 ⟨Nat.zero_le _, Nat.zero_le _⟩) (fun H locs hI => ?_)
  refine lv_iload_n hx hb dX12_enjoys_12 rfl (lv_at hl 2 rfl) ?_
  refine lv_iadd hx hb dX12_enjoys_13 ?_
  obtain ⟨r4, σ5, hq6, hf⟩ := fm_bE hf
  refine fm_ci hI (fm_runS (As := [.int (9999 : Int32), .int (r1 + a2)]) (rest := [.int (1 : Int32), .int a1, .ref (G.2.1 96)]) (rm := { frames := 0, cells := 0, slots := 0, locals := 0 }) hC hI (c_X12_less hC.2.2.1 hq6) mS_X12_less q_912 ⟨rfl, rfl⟩ ⟨Nat.le_of_ble_eq_true rfl, Nat.le_of_ble_eq_true rfl⟩ rfl hl.1 rfl (Nat.le_of_ble_eq_true rfl) dX12_enjoys_14 ⟨Nat.zero_le _, Nat.zero_le _⟩) (fun H locs hI => ?_)
  obtain ⟨_u7, σ8, hq9, hf⟩ := fm_bE hf
  refine fm_cv hI (fm_runV (As := [.int a1, .int (1 : Int32), .int r4]) (rest := []) (rm := { frames := 0, cells := 0, slots := 0, locals := 0 }) hC hI (c_X12_puts hC.2.2.1 hq9) mV_X12_puts q_876 ⟨rfl, rfl⟩ ⟨Nat.le_of_ble_eq_true rfl, Nat.le_of_ble_eq_true rfl⟩ fc_96 rfl (by decide) rfl hl.1 rfl (Nat.le_of_ble_eq_true rfl) dX12_enjoys_17 ⟨Nat.zero_le _, Nat.zero_le _⟩) (fun H locs hI => ?_)
  exact fm_rv hC hI hr hlk hf dX12_enjoys_20
def m_X12_opens_7 (kc : Int32 → Int32 → Int32 → fm_M → Option (Unit × fm_M)) : Nat → Int32 → Int32 → Int32 → fm_M → Option (Unit × fm_M)
  | 0, _, _, _, _ => none
  | n + 1, z1, z2, z3, σ => if z3 ≤ 0 then (kc z1 z2 z3 σ) else (fm_b (m_X12_takesLayer z2 σ) fun r4 σ5 => (fm_b (m_X12_enjoysOf z1 r4 σ5) fun r7 σ8 => (fm_b (m_X12_enjoys z1 r7 σ8) fun _u10 σ11 => (m_X12_opens_7 kc n z1 z2 (z3 + (-1 : Int32)) σ11))))
def m_X12_opens (a1 : Int32) (a2 : Int32) (σ : fm_M) : Option (Unit × fm_M) := fm_b (m_X12_opensOf a1 a2 σ) fun r1 σ2 => (m_X12_opens_7 (fun (x1_y13 : Int32) (x2_y13 : Int32) (x3_y13 : Int32) (σ_y13 : fm_M) => fm_b (m_X12_of1 x2_y13 (0 : Int32) σ_y13) fun r14 σ15 => (if r14 = 0 then (fm_b (m_X12_lays1 x2_y13 (3 : Int32) (1 : Int32) σ15) fun _u17 σ18 => (fm_b (m_X12_of1 x2_y13 (1 : Int32) σ18) fun r20 σ21 => (fm_b (m_X12_struckOf x1_y13 r20 σ21) fun r23 σ24 => (fm_b (m_X12_enjoys x1_y13 r23 σ24) fun _u26 σ27 => (some ((), σ27)))))) else (some ((), σ15)))) fm_fu a1 a2 r1 σ2)
set_option maxHeartbeats 4000000 in
set_option maxRecDepth 100000 in
theorem w_X12_opens_7 {p : Program} {l : Launch} {e : Env} {s : State} {m : MethodId} {args : Array Value} {below : List Frame} {meth : Method} {c : Code} {G : fm_G} {o : Unit × fm_M} {kc : Int32 → Int32 → Int32 → fm_M → Option (Unit × fm_M)} (hC : fm_C G p m c cX12_opens 4 s args RX12) (hr : meth.sig.returnType = none) (hlk : meth.locks = false) (hk : ∀ (z1 : Int32) (z2 : Int32) (z3 : Int32) (σ : fm_M) (H : Heap) (locs : List Loc) (ls : Array Slot), fm_I G σ s H locs → lv_has ls 4 [(0, .ref (G.2.1 96)), (1, .int z1), (2, .int z2), (3, .int z3)] → kc z1 z2 z3 σ = some o → W p l e { frames := 2, cells := 0, slots := 0, locals := 46 } s m args below meth c H locs 0 0 (MQ below (fm_Qv G o) args s 0 0 (fm_A G)) (F0 m 32 ls [])) (n : Nat) : ∀ (z1 : Int32) (z2 : Int32) (z3 : Int32) (σ : fm_M) (H : Heap) (locs : List Loc) (ls : Array Slot), fm_I G σ s H locs → lv_has ls 4 [(0, .ref (G.2.1 96)), (1, .int z1), (2, .int z2), (3, .int z3)] → m_X12_opens_7 kc n z1 z2 z3 σ = some o → W p l e { frames := 2, cells := 0, slots := 0, locals := 46 } s m args below meth c H locs 0 0 (MQ below (fm_Qv G o) args s 0 0 (fm_A G)) (F0 m 7 ls []) := by
  have hx := hC.1.1
  have hb := hC.1.2.1
  have hown := hC.1.2.2.2.1
  have hts := hC.1.2.2.2.2
  induction n with
  | zero =>
    intro z1 z2 z3 σ H locs ls hI hl hf
    cases hf
  | succ n ih =>
    intro z1 z2 z3 σ H locs ls hI hl hf
    rw [m_X12_opens_7] at hf
    refine lv_iload_n hx hb dX12_opens_7 rfl (lv_at hl 3 rfl) ?_
    refine lv_if_le (tgt := 32) hx hb dX12_opens_8 (by decide) (fun hc => ?_) (fun hc => ?_)
    · have hf := fm_pT hf hc
      exact hk z1 z2 z3 σ _ _ _ hI (lv_sub hl [0, 1, 2, 3] rfl) hf
    · have hf := fm_pF hf hc
      refine lv_aload_n hx hb dX12_opens_11 rfl (lv_at hl 0 rfl) ?_
      refine lv_iload_n hx hb dX12_opens_12 rfl (lv_at hl 1 rfl) ?_
      refine lv_aload_n hx hb dX12_opens_13 rfl (lv_at hl 0 rfl) ?_
      refine lv_iload_n hx hb dX12_opens_14 rfl (lv_at hl 1 rfl) ?_
      refine lv_aload_n hx hb dX12_opens_15 rfl (lv_at hl 0 rfl) ?_
      refine lv_iload_n hx hb dX12_opens_16 rfl (lv_at hl 2 rfl) ?_
      obtain ⟨r4, σ5, hq6, hf⟩ := fm_bE hf
      refine fm_ci hI (fm_runV (As := [.int z2]) (rest := [.int z1, .ref (G.2.1 96), .int z1, .ref (G.2.1 96)]) (rm := { frames := 1, cells := 0, slots := 0, locals := 23 }) hC hI (c_X12_takesLayer hC.2.2.1 hq6) mV_X12_takesLayer q_978 ⟨rfl, rfl⟩ ⟨Nat.le_of_ble_eq_true rfl, Nat.le_of_ble_eq_true rfl⟩ fc_96 rfl (by decide) rfl hl.1 rfl (Nat.le_of_ble_eq_true rfl) dX12_opens_17 ⟨Nat.zero_le _, Nat.zero_le _⟩) (fun H locs hI => ?_)
      obtain ⟨r7, σ8, hq9, hf⟩ := fm_bE hf
      refine fm_ci hI (fm_runV (As := [.int z1, .int r4]) (rest := [.int z1, .ref (G.2.1 96)]) (rm := { frames := 1, cells := 0, slots := 0, locals := 22 }) hC hI (c_X12_enjoysOf hC.2.2.1 hq9) mV_X12_enjoysOf q_915 ⟨rfl, rfl⟩ ⟨Nat.le_of_ble_eq_true rfl, Nat.le_of_ble_eq_true rfl⟩ fc_96 rfl (by decide) rfl hl.1 rfl (Nat.le_of_ble_eq_true rfl) dX12_opens_20 ⟨Nat.zero_le _, Nat.zero_le _⟩) (fun H locs hI => ?_)
      obtain ⟨_u10, σ11, hq12, hf⟩ := fm_bE hf
      refine fm_cv hI (fm_runV (As := [.int z1, .int r7]) (rest := []) (rm := { frames := 1, cells := 0, slots := 0, locals := 23 }) hC hI (c_X12_enjoys hC.2.2.1 hq12) mV_X12_enjoys q_1010 ⟨rfl, rfl⟩ ⟨Nat.le_of_ble_eq_true rfl, Nat.le_of_ble_eq_true rfl⟩ fc_96 rfl (by decide) rfl hl.1 rfl (Nat.le_of_ble_eq_true rfl) dX12_opens_23 ⟨Nat.zero_le _, Nat.zero_le _⟩) (fun H locs hI => ?_)
      refine lv_iinc (v := (z3 + (-1 : Int32))) (lv' := [(3, .int (z3 + (-1 : Int32))), (0, .ref (G.2.1 96)), (1, .int z1), (2, .int z2)]) hx hb dX12_opens_26 hl (k := 3) rfl rfl (Nat.le_of_ble_eq_true rfl) rfl (fun ls hl => ?_)
      refine lv_goto (tgt := 7) hx hb dX12_opens_29 (by decide) ?_
      exact ih z1 z2 (z3 + (-1 : Int32)) σ11 _ _ _ hI (lv_sub hl [1, 2, 3, 0] rfl) hf
set_option maxHeartbeats 4000000 in
set_option maxRecDepth 100000 in
theorem c_X12_opens {l : Launch} {G : fm_G} (hJ : fm_J G) {a1 : Int32} {a2 : Int32} {σ : fm_M} {o : Unit × fm_M}  (hf : m_X12_opens a1 a2 σ = some o) : Met l yX12_opens (fm_w yX12_opens cX12_opens 4 none) { frames := 2, cells := 0, slots := 0, locals := 46 } (va_Pc [.ref (G.2.1 96), .int a1, .int a2] (fm_st G σ)) (fm_Qv G o) 0 0 (fm_A G) := by
  refine fm_mth (own := RX12) hJ rfl (by decide +kernel) (Nat.le_of_ble_eq_true rfl) ?_
  intro p e s m below meth c ls hC hr hlk hI hl
  have hx := hC.1.1
  have hb := hC.1.2.1
  have hown := hC.1.2.2.2.1
  have hts := hC.1.2.2.2.2
  have hl : lv_has ls 4 [(0, .ref (G.2.1 96)), (1, .int a1), (2, .int a2)] := hl
  rw [m_X12_opens] at hf
  refine lv_aload_n hx hb dX12_opens_0 rfl (lv_at hl 0 rfl) ?_
  refine lv_iload_n hx hb dX12_opens_1 rfl (lv_at hl 1 rfl) ?_
  refine lv_iload_n hx hb dX12_opens_2 rfl (lv_at hl 2 rfl) ?_
  obtain ⟨r1, σ2, hq3, hf⟩ := fm_bE hf
  refine fm_ci hI (fm_runV (As := [.int a1, .int a2]) (rest := []) (rm := { frames := 1, cells := 0, slots := 0, locals := 22 }) hC hI (c_X12_opensOf hC.2.2.1 hq3) mV_X12_opensOf q_908 ⟨rfl, rfl⟩ ⟨Nat.le_of_ble_eq_true rfl, Nat.le_of_ble_eq_true rfl⟩ fc_96 rfl (by decide) rfl hl.1 rfl (Nat.le_of_ble_eq_true rfl) dX12_opens_3 ⟨Nat.zero_le _, Nat.zero_le _⟩) (fun H locs hI => ?_)
  refine lv_istore_n (lv' := [(3, .int r1), (0, .ref (G.2.1 96)), (1, .int a1), (2, .int a2)]) hx hb dX12_opens_6 rfl hl (Nat.le_of_ble_eq_true rfl) rfl (fun ls hl => ?_)
  refine w_X12_opens_7 hC hr hlk (fun x1_y13 x2_y13 x3_y13 σ_y13 H locs ls hI hl hf => ?_) fm_fu a1 a2 r1 σ2 _ _ _ hI (lv_sub hl [1, 2, 3, 0] rfl) hf
  refine lv_aload_n hx hb dX12_opens_32 rfl (lv_at hl 0 rfl) ?_
  refine lv_iload_n hx hb dX12_opens_33 rfl (lv_at hl 2 rfl) ?_
  refine lv_iconst (v := (0 : Int32)) hx hb dX12_opens_34 (by decide) ?_
  obtain ⟨r14, σ15, hq16, hf⟩ := fm_bE hf
  refine fm_ci hI (fm_runV (As := [.int x2_y13, .int (0 : Int32)]) (rest := []) (rm := { frames := 0, cells := 0, slots := 0, locals := 0 }) hC hI (c_X12_of1 hC.2.2.1 hq16) mV_X12_of1 q_896 ⟨rfl, rfl⟩ ⟨Nat.le_of_ble_eq_true rfl, Nat.le_of_ble_eq_true rfl⟩ fc_96 rfl (by decide) rfl hl.1 rfl (Nat.le_of_ble_eq_true rfl) dX12_opens_35 ⟨Nat.zero_le _, Nat.zero_le _⟩) (fun H locs hI => ?_)
  refine lv_if_ne (tgt := 64) hx hb dX12_opens_38 (by decide) (fun hc => ?_) (fun hc => ?_)
  · have hf := fm_pF hf hc
    exact fm_rv hC hI hr hlk hf dX12_opens_64
  · have hf := fm_pT hf hc
    refine lv_aload_n hx hb dX12_opens_41 rfl (lv_at hl 0 rfl) ?_
    refine lv_iload_n hx hb dX12_opens_42 rfl (lv_at hl 2 rfl) ?_
    refine lv_iconst (v := (3 : Int32)) hx hb dX12_opens_43 (by decide) ?_
    refine lv_iconst (v := (1 : Int32)) hx hb dX12_opens_44 (by decide) ?_
    obtain ⟨_u17, σ18, hq19, hf⟩ := fm_bE hf
    refine fm_cv hI (fm_runV (As := [.int x2_y13, .int (3 : Int32), .int (1 : Int32)]) (rest := []) (rm := { frames := 0, cells := 0, slots := 0, locals := 0 }) hC hI (c_X12_lays1 hC.2.2.1 hq19) mV_X12_lays1 q_947 ⟨rfl, rfl⟩ ⟨Nat.le_of_ble_eq_true rfl, Nat.le_of_ble_eq_true rfl⟩ fc_96 rfl (by decide) rfl hl.1 rfl (Nat.le_of_ble_eq_true rfl) dX12_opens_45 ⟨Nat.zero_le _, Nat.zero_le _⟩) (fun H locs hI => ?_)
    refine lv_aload_n hx hb dX12_opens_48 rfl (lv_at hl 0 rfl) ?_
    refine lv_iload_n hx hb dX12_opens_49 rfl (lv_at hl 1 rfl) ?_
    refine lv_aload_n hx hb dX12_opens_50 rfl (lv_at hl 0 rfl) ?_
    refine lv_iload_n hx hb dX12_opens_51 rfl (lv_at hl 1 rfl) ?_
    refine lv_aload_n hx hb dX12_opens_52 rfl (lv_at hl 0 rfl) ?_
    refine lv_iload_n hx hb dX12_opens_53 rfl (lv_at hl 2 rfl) ?_
    refine lv_iconst (v := (1 : Int32)) hx hb dX12_opens_54 (by decide) ?_
    obtain ⟨r20, σ21, hq22, hf⟩ := fm_bE hf
    refine fm_ci hI (fm_runV (As := [.int x2_y13, .int (1 : Int32)]) (rest := [.int x1_y13, .ref (G.2.1 96), .int x1_y13, .ref (G.2.1 96)]) (rm := { frames := 0, cells := 0, slots := 0, locals := 0 }) hC hI (c_X12_of1 hC.2.2.1 hq22) mV_X12_of1 q_896 ⟨rfl, rfl⟩ ⟨Nat.le_of_ble_eq_true rfl, Nat.le_of_ble_eq_true rfl⟩ fc_96 rfl (by decide) rfl hl.1 rfl (Nat.le_of_ble_eq_true rfl) dX12_opens_55 ⟨Nat.zero_le _, Nat.zero_le _⟩) (fun H locs hI => ?_)
    obtain ⟨r23, σ24, hq25, hf⟩ := fm_bE hf
    refine fm_ci hI (fm_runV (As := [.int x1_y13, .int r20]) (rest := [.int x1_y13, .ref (G.2.1 96)]) (rm := { frames := 1, cells := 0, slots := 0, locals := 22 }) hC hI (c_X12_struckOf hC.2.2.1 hq25) mV_X12_struckOf q_919 ⟨rfl, rfl⟩ ⟨Nat.le_of_ble_eq_true rfl, Nat.le_of_ble_eq_true rfl⟩ fc_96 rfl (by decide) rfl hl.1 rfl (Nat.le_of_ble_eq_true rfl) dX12_opens_58 ⟨Nat.zero_le _, Nat.zero_le _⟩) (fun H locs hI => ?_)
    obtain ⟨_u26, σ27, hq28, hf⟩ := fm_bE hf
    refine fm_cv hI (fm_runV (As := [.int x1_y13, .int r23]) (rest := []) (rm := { frames := 1, cells := 0, slots := 0, locals := 23 }) hC hI (c_X12_enjoys hC.2.2.1 hq28) mV_X12_enjoys q_1010 ⟨rfl, rfl⟩ ⟨Nat.le_of_ble_eq_true rfl, Nat.le_of_ble_eq_true rfl⟩ fc_96 rfl (by decide) rfl hl.1 rfl (Nat.le_of_ble_eq_true rfl) dX12_opens_61 ⟨Nat.zero_le _, Nat.zero_le _⟩) (fun H locs hI => ?_)
    exact fm_rv hC hI hr hlk hf dX12_opens_64
def m_X12_takesTurn (a1 : Int32) (a2 : Int32) (σ : fm_M) : Option (Unit × fm_M) := fm_b (m_X12_of1 a2 (0 : Int32) σ) fun r1 σ2 => (fm_b (m_X12_passesOf a1 r1 σ2) fun r4 σ5 => (if r4 < 0 then (fm_b (m_X12_opens a1 a2 σ5) fun _u7 σ8 => (some ((), σ8))) else (fm_g (fm_in1 (1 : Int32) 96) (if (σ5.1 97 (1 : Int32).toNatClampNeg) = (1 : Int32) then (fm_b (m_X12_opens a1 a2 σ5) fun _u25 σ26 => (some ((), σ26))) else (fm_b (m_X12_of1 a2 (0 : Int32) σ5) fun r11 σ12 => (fm_j (fun  (σ_J14 : fm_M) => fm_g (fm_in1 (1 : Int32) 96) (fm_g (decide (¬ (σ_J14.1 97 (1 : Int32).toNatClampNeg) = 0)) (fm_b (m_X12_lays1 a2 (2 : Int32) ((a1 + (1 : Int32)) - (a1 + (1 : Int32)) / (σ_J14.1 97 (1 : Int32).toNatClampNeg) * (σ_J14.1 97 (1 : Int32).toNatClampNeg)) σ_J14) fun _u17 σ18 => (fm_let (fm_sI σ18 96 5 ((σ18.1 96 5) ||| ((1 : Int32) <<< (a2 &&& 31)))) fun σ20 => (some ((), σ20)))))) (fun J14 => if (6 : Int32) ≤ r11 then (J14  σ12) else (fm_b (m_X12_addsLayer a2 r4 σ12) fun _u22 σ23 => (J14  σ23)))))))))
set_option maxHeartbeats 4000000 in
set_option maxRecDepth 100000 in
theorem c_X12_takesTurn {l : Launch} {G : fm_G} (hJ : fm_J G) {a1 : Int32} {a2 : Int32} {σ : fm_M} {o : Unit × fm_M}  (hf : m_X12_takesTurn a1 a2 σ = some o) : Met l yX12_takesTurn (fm_w yX12_takesTurn cX12_takesTurn 4 none) { frames := 3, cells := 0, slots := 0, locals := 69 } (va_Pc [.ref (G.2.1 96), .int a1, .int a2] (fm_st G σ)) (fm_Qv G o) 0 0 (fm_A G) := by
  refine fm_mth (own := RX12) hJ rfl (by decide +kernel) (Nat.le_of_ble_eq_true rfl) ?_
  intro p e s m below meth c ls hC hr hlk hI hl
  have hx := hC.1.1
  have hb := hC.1.2.1
  have hown := hC.1.2.2.2.1
  have hts := hC.1.2.2.2.2
  have hl : lv_has ls 4 [(0, .ref (G.2.1 96)), (1, .int a1), (2, .int a2)] := hl
  rw [m_X12_takesTurn] at hf
  refine lv_aload_n hx hb dX12_takesTurn_0 rfl (lv_at hl 0 rfl) ?_
  refine lv_iload_n hx hb dX12_takesTurn_1 rfl (lv_at hl 1 rfl) ?_
  refine lv_aload_n hx hb dX12_takesTurn_2 rfl (lv_at hl 0 rfl) ?_
  refine lv_iload_n hx hb dX12_takesTurn_3 rfl (lv_at hl 2 rfl) ?_
  refine lv_iconst (v := (0 : Int32)) hx hb dX12_takesTurn_4 (by decide) ?_
  obtain ⟨r1, σ2, hq3, hf⟩ := fm_bE hf
  refine fm_ci hI (fm_runV (As := [.int a2, .int (0 : Int32)]) (rest := [.int a1, .ref (G.2.1 96)]) (rm := { frames := 0, cells := 0, slots := 0, locals := 0 }) hC hI (c_X12_of1 hC.2.2.1 hq3) mV_X12_of1 q_896 ⟨rfl, rfl⟩ ⟨Nat.le_of_ble_eq_true rfl, Nat.le_of_ble_eq_true rfl⟩ fc_96 rfl (by decide) rfl hl.1 rfl (Nat.le_of_ble_eq_true rfl) dX12_takesTurn_5 ⟨Nat.zero_le _, Nat.zero_le _⟩) (fun H locs hI => ?_)
  obtain ⟨r4, σ5, hq6, hf⟩ := fm_bE hf
  refine fm_ci hI (fm_runV (As := [.int a1, .int r1]) (rest := []) (rm := { frames := 1, cells := 0, slots := 0, locals := 22 }) hC hI (c_X12_passesOf hC.2.2.1 hq6) mV_X12_passesOf q_923 ⟨rfl, rfl⟩ ⟨Nat.le_of_ble_eq_true rfl, Nat.le_of_ble_eq_true rfl⟩ fc_96 rfl (by decide) rfl hl.1 rfl (Nat.le_of_ble_eq_true rfl) dX12_takesTurn_8 ⟨Nat.zero_le _, Nat.zero_le _⟩) (fun H locs hI => ?_)
  refine lv_istore_n (lv' := [(3, .int r4), (0, .ref (G.2.1 96)), (1, .int a1), (2, .int a2)]) hx hb dX12_takesTurn_11 rfl hl (Nat.le_of_ble_eq_true rfl) rfl (fun ls hl => ?_)
  refine lv_iload_n hx hb dX12_takesTurn_12 rfl (lv_at hl 0 rfl) ?_
  refine lv_if_lt (tgt := 26) hx hb dX12_takesTurn_13 (by decide) (fun hc => ?_) (fun hc => ?_)
  · have hf := fm_pT hf hc
    refine lv_aload_n hx hb dX12_takesTurn_26 rfl (lv_at hl 1 rfl) ?_
    refine lv_iload_n hx hb dX12_takesTurn_27 rfl (lv_at hl 2 rfl) ?_
    refine lv_iload_n hx hb dX12_takesTurn_28 rfl (lv_at hl 3 rfl) ?_
    obtain ⟨_u7, σ8, hq9, hf⟩ := fm_bE hf
    refine fm_cv hI (fm_runV (As := [.int a1, .int a2]) (rest := []) (rm := { frames := 2, cells := 0, slots := 0, locals := 46 }) hC hI (c_X12_opens hC.2.2.1 hq9) mV_X12_opens q_1006 ⟨rfl, rfl⟩ ⟨Nat.le_of_ble_eq_true rfl, Nat.le_of_ble_eq_true rfl⟩ fc_96 rfl (by decide) rfl hl.1 rfl (Nat.le_of_ble_eq_true rfl) dX12_takesTurn_29 ⟨Nat.zero_le _, Nat.zero_le _⟩) (fun H locs hI => ?_)
    exact fm_rv hC hI hr hlk hf dX12_takesTurn_32
  · have hf := fm_pF hf hc
    refine lv_aload_n hx hb dX12_takesTurn_16 rfl (lv_at hl 1 rfl) ?_
    refine fm_gr hC hI fd_X12_0 fc_96 fr_96_0 q_798 dX12_takesTurn_17 ?_
    refine lv_iconst (v := (1 : Int32)) hx hb dX12_takesTurn_20 (by decide) ?_
    obtain ⟨hg10, hf⟩ := fm_gE hf
    refine fm_iald hC hI fc_97 fl_97 hg10 dX12_takesTurn_21 ?_
    refine lv_iconst (v := (1 : Int32)) hx hb dX12_takesTurn_22 (by decide) ?_
    refine lv_icmp_ne (tgt := 33) hx hb dX12_takesTurn_23 (by decide) (fun hc => ?_) (fun hc => ?_)
    · have hf := fm_pF hf hc
      refine lv_aload_n hx hb dX12_takesTurn_33 rfl (lv_at hl 1 rfl) ?_
      refine lv_iload_n hx hb dX12_takesTurn_34 rfl (lv_at hl 3 rfl) ?_
      refine lv_iconst (v := (0 : Int32)) hx hb dX12_takesTurn_35 (by decide) ?_
      obtain ⟨r11, σ12, hq13, hf⟩ := fm_bE hf
      refine fm_ci hI (fm_runV (As := [.int a2, .int (0 : Int32)]) (rest := []) (rm := { frames := 0, cells := 0, slots := 0, locals := 0 }) hC hI (c_X12_of1 hC.2.2.1 hq13) mV_X12_of1 q_896 ⟨rfl, rfl⟩ ⟨Nat.le_of_ble_eq_true rfl, Nat.le_of_ble_eq_true rfl⟩ fc_96 rfl (by decide) rfl hl.1 rfl (Nat.le_of_ble_eq_true rfl) dX12_takesTurn_36 ⟨Nat.zero_le _, Nat.zero_le _⟩) (fun H locs hI => ?_)
      refine lv_bipush (v := (6 : Int32)) hx hb dX12_takesTurn_39 (by decide) ?_
      obtain ⟨J14, eJ14, hf⟩ := fm_jE hf
      have hJ14 : ∀  (σ_J14 : fm_M) (H : Heap) (locs : List Loc) (ls : Array Slot), fm_I G σ_J14 s H locs → lv_has ls 4 [(0, .ref (G.2.1 96)), (1, .int a1), (2, .int a2)] → J14  σ_J14 = some o → W p l e { frames := 3, cells := 0, slots := 0, locals := 69 } s m ([.ref (G.2.1 96), .int a1, .int a2] : List Value).toArray below meth c H locs 0 0 (MQ below (fm_Qv G o) ([.ref (G.2.1 96), .int a1, .int a2] : List Value).toArray s 0 0 (fm_A G)) (F0 m 50 ls []) := by
        intro  σ_J14 H locs ls hI hl hf
        subst eJ14
        refine lv_aload_n hx hb dX12_takesTurn_50 rfl (lv_at hl 0 rfl) ?_
        refine lv_iload_n hx hb dX12_takesTurn_51 rfl (lv_at hl 2 rfl) ?_
        refine lv_iconst (v := (2 : Int32)) hx hb dX12_takesTurn_52 (by decide) ?_
        refine lv_iload_n hx hb dX12_takesTurn_53 rfl (lv_at hl 1 rfl) ?_
        refine lv_iconst (v := (1 : Int32)) hx hb dX12_takesTurn_54 (by decide) ?_
        refine lv_iadd hx hb dX12_takesTurn_55 ?_
        refine lv_aload_n hx hb dX12_takesTurn_56 rfl (lv_at hl 0 rfl) ?_
        refine fm_gr hC hI fd_X12_0 fc_96 fr_96_0 q_798 dX12_takesTurn_57 ?_
        refine lv_iconst (v := (1 : Int32)) hx hb dX12_takesTurn_60 (by decide) ?_
        obtain ⟨hg15, hf⟩ := fm_gE hf
        refine fm_iald hC hI fc_97 fl_97 hg15 dX12_takesTurn_61 ?_
        obtain ⟨hg16, hf⟩ := fm_gE hf
        refine lv_irem hx hb dX12_takesTurn_62 (of_decide_eq_true hg16) ?_
        obtain ⟨_u17, σ18, hq19, hf⟩ := fm_bE hf
        refine fm_cv hI (fm_runV (As := [.int a2, .int (2 : Int32), .int ((a1 + (1 : Int32)) - (a1 + (1 : Int32)) / (σ_J14.1 97 (1 : Int32).toNatClampNeg) * (σ_J14.1 97 (1 : Int32).toNatClampNeg))]) (rest := []) (rm := { frames := 0, cells := 0, slots := 0, locals := 0 }) hC hI (c_X12_lays1 hC.2.2.1 hq19) mV_X12_lays1 q_947 ⟨rfl, rfl⟩ ⟨Nat.le_of_ble_eq_true rfl, Nat.le_of_ble_eq_true rfl⟩ fc_96 rfl (by decide) rfl hl.1 rfl (Nat.le_of_ble_eq_true rfl) dX12_takesTurn_63 ⟨Nat.zero_le _, Nat.zero_le _⟩) (fun H locs hI => ?_)
        refine lv_aload_n hx hb dX12_takesTurn_66 rfl (lv_at hl 0 rfl) ?_
        refine lv_dup hx hb dX12_takesTurn_67 rfl ?_
        refine fm_gi hC hI fd_X12_5 fc_96 q_803 dX12_takesTurn_68 ?_
        refine lv_iconst (v := (1 : Int32)) hx hb dX12_takesTurn_71 (by decide) ?_
        refine lv_iload_n hx hb dX12_takesTurn_72 rfl (lv_at hl 2 rfl) ?_
        refine lv_ishl hx hb dX12_takesTurn_73 ?_
        refine lv_ior hx hb dX12_takesTurn_74 ?_
        obtain ⟨σ20, e21, hf⟩ := fm_letE hf
        refine fm_pi hC hI fp_X12_5 fc_96 ⟨rfl, rfl⟩ e21 q_803 dX12_takesTurn_75 (fun H locs hI => ?_)
        exact fm_rv hC hI hr hlk hf dX12_takesTurn_78
      refine lv_icmp_ge (tgt := 50) hx hb dX12_takesTurn_41 (by decide) (fun hc => ?_) (fun hc => ?_)
      · have hf := fm_pT hf hc
        exact hJ14  σ12 _ _ _ hI (lv_sub hl [1, 2, 3] rfl) hf
      · have hf := fm_pF hf hc
        refine lv_aload_n hx hb dX12_takesTurn_44 rfl (lv_at hl 1 rfl) ?_
        refine lv_iload_n hx hb dX12_takesTurn_45 rfl (lv_at hl 3 rfl) ?_
        refine lv_iload_n hx hb dX12_takesTurn_46 rfl (lv_at hl 0 rfl) ?_
        obtain ⟨_u22, σ23, hq24, hf⟩ := fm_bE hf
        refine fm_cv hI (fm_runV (As := [.int a2, .int r4]) (rest := []) (rm := { frames := 1, cells := 0, slots := 0, locals := 23 }) hC hI (c_X12_addsLayer hC.2.2.1 hq24) mV_X12_addsLayer q_970 ⟨rfl, rfl⟩ ⟨Nat.le_of_ble_eq_true rfl, Nat.le_of_ble_eq_true rfl⟩ fc_96 rfl (by decide) rfl hl.1 rfl (Nat.le_of_ble_eq_true rfl) dX12_takesTurn_47 ⟨Nat.zero_le _, Nat.zero_le _⟩) (fun H locs hI => ?_)
        exact hJ14  σ23 _ _ _ hI (lv_sub hl [1, 2, 3] rfl) hf
    · have hf := fm_pT hf hc
      refine lv_aload_n hx hb dX12_takesTurn_26 rfl (lv_at hl 1 rfl) ?_
      refine lv_iload_n hx hb dX12_takesTurn_27 rfl (lv_at hl 2 rfl) ?_
      refine lv_iload_n hx hb dX12_takesTurn_28 rfl (lv_at hl 3 rfl) ?_
      obtain ⟨_u25, σ26, hq27, hf⟩ := fm_bE hf
      refine fm_cv hI (fm_runV (As := [.int a1, .int a2]) (rest := []) (rm := { frames := 2, cells := 0, slots := 0, locals := 46 }) hC hI (c_X12_opens hC.2.2.1 hq27) mV_X12_opens q_1006 ⟨rfl, rfl⟩ ⟨Nat.le_of_ble_eq_true rfl, Nat.le_of_ble_eq_true rfl⟩ fc_96 rfl (by decide) rfl hl.1 rfl (Nat.le_of_ble_eq_true rfl) dX12_takesTurn_29 ⟨Nat.zero_le _, Nat.zero_le _⟩) (fun H locs hI => ?_)
      exact fm_rv hC hI hr hlk hf dX12_takesTurn_32
def m_X12_day_7 (kc : Int32 → fm_M → Option (Unit × fm_M)) : Nat → Int32 → fm_M → Option (Unit × fm_M)
  | 0, _, _ => none
  | n + 1, z1, σ => fm_g (fm_in1 (1 : Int32) 96) (if (σ.1 97 (1 : Int32).toNatClampNeg) ≤ z1 then (kc z1 σ) else (fm_b (m_X12_presentFor z1 σ) fun r4 σ5 => (fm_g (fm_in1 (2 : Int32) 96) (if (σ5.1 97 (2 : Int32).toNatClampNeg) ≤ r4 then (m_X12_day_7 kc n (z1 + (1 : Int32)) σ5) else (fm_b (m_X12_takesTurn z1 r4 σ5) fun _u8 σ9 => (m_X12_day_7 kc n (z1 + (1 : Int32)) σ9))))))
def m_X12_day  (σ : fm_M) : Option (Unit × fm_M) := fm_let (fm_sI σ 96 5 (0 : Int32)) fun σ1 => (m_X12_day_7 (fun (x1_y11 : Int32) (σ_y11 : fm_M) => fm_g (fm_in1 (0 : Int32) 96) (fm_g (fm_in1 (0 : Int32) 96) (fm_let (fm_sI σ_y11 97 (0 : Int32).toNatClampNeg ((σ_y11.1 97 (0 : Int32).toNatClampNeg) + (1 : Int32))) fun σ14 => (some ((), σ14))))) fm_fu (0 : Int32) σ1)
set_option maxHeartbeats 4000000 in
set_option maxRecDepth 100000 in
theorem w_X12_day_7 {p : Program} {l : Launch} {e : Env} {s : State} {m : MethodId} {args : Array Value} {below : List Frame} {meth : Method} {c : Code} {G : fm_G} {o : Unit × fm_M} {kc : Int32 → fm_M → Option (Unit × fm_M)} (hC : fm_C G p m c cX12_day 3 s args RX12) (hr : meth.sig.returnType = none) (hlk : meth.locks = false) (hk : ∀ (z1 : Int32) (σ : fm_M) (H : Heap) (locs : List Loc) (ls : Array Slot), fm_I G σ s H locs → lv_has ls 3 [(0, .ref (G.2.1 96)), (1, .int z1)] → kc z1 σ = some o → W p l e { frames := 4, cells := 0, slots := 0, locals := 92 } s m args below meth c H locs 0 0 (MQ below (fm_Qv G o) args s 0 0 (fm_A G)) (F0 m 45 ls [])) (n : Nat) : ∀ (z1 : Int32) (σ : fm_M) (H : Heap) (locs : List Loc) (ls : Array Slot), fm_I G σ s H locs → lv_has ls 3 [(0, .ref (G.2.1 96)), (1, .int z1)] → m_X12_day_7 kc n z1 σ = some o → W p l e { frames := 4, cells := 0, slots := 0, locals := 92 } s m args below meth c H locs 0 0 (MQ below (fm_Qv G o) args s 0 0 (fm_A G)) (F0 m 7 ls []) := by
  have hx := hC.1.1
  have hb := hC.1.2.1
  have hown := hC.1.2.2.2.1
  have hts := hC.1.2.2.2.2
  induction n with
  | zero =>
    intro z1 σ H locs ls hI hl hf
    cases hf
  | succ n ih =>
    intro z1 σ H locs ls hI hl hf
    rw [m_X12_day_7] at hf
    refine lv_iload_n hx hb dX12_day_7 rfl (lv_at hl 1 rfl) ?_
    refine lv_aload_n hx hb dX12_day_8 rfl (lv_at hl 0 rfl) ?_
    refine fm_gr hC hI fd_X12_0 fc_96 fr_96_0 q_798 dX12_day_9 ?_
    refine lv_iconst (v := (1 : Int32)) hx hb dX12_day_12 (by decide) ?_
    obtain ⟨hg3, hf⟩ := fm_gE hf
    refine fm_iald hC hI fc_97 fl_97 hg3 dX12_day_13 ?_
    refine lv_icmp_ge (tgt := 45) hx hb dX12_day_14 (by decide) (fun hc => ?_) (fun hc => ?_)
    · have hf := fm_pT hf hc
      exact hk z1 σ _ _ _ hI (lv_sub hl [0, 1] rfl) hf
    · have hf := fm_pF hf hc
      refine lv_aload_n hx hb dX12_day_17 rfl (lv_at hl 0 rfl) ?_
      refine lv_iload_n hx hb dX12_day_18 rfl (lv_at hl 1 rfl) ?_
      obtain ⟨r4, σ5, hq6, hf⟩ := fm_bE hf
      refine fm_ci hI (fm_runV (As := [.int z1]) (rest := []) (rm := { frames := 1, cells := 0, slots := 0, locals := 22 }) hC hI (c_X12_presentFor hC.2.2.1 hq6) mV_X12_presentFor q_998 ⟨rfl, rfl⟩ ⟨Nat.le_of_ble_eq_true rfl, Nat.le_of_ble_eq_true rfl⟩ fc_96 rfl (by decide) rfl hl.1 rfl (Nat.le_of_ble_eq_true rfl) dX12_day_19 ⟨Nat.zero_le _, Nat.zero_le _⟩) (fun H locs hI => ?_)
      refine lv_istore_n (lv' := [(2, .int r4), (0, .ref (G.2.1 96)), (1, .int z1)]) hx hb dX12_day_22 rfl hl (Nat.le_of_ble_eq_true rfl) rfl (fun ls hl => ?_)
      refine lv_iload_n hx hb dX12_day_23 rfl (lv_at hl 0 rfl) ?_
      refine lv_aload_n hx hb dX12_day_24 rfl (lv_at hl 1 rfl) ?_
      refine fm_gr hC hI fd_X12_0 fc_96 fr_96_0 q_798 dX12_day_25 ?_
      refine lv_iconst (v := (2 : Int32)) hx hb dX12_day_28 (by decide) ?_
      obtain ⟨hg7, hf⟩ := fm_gE hf
      refine fm_iald hC hI fc_97 fl_97 hg7 dX12_day_29 ?_
      refine lv_icmp_ge (tgt := 39) hx hb dX12_day_30 (by decide) (fun hc => ?_) (fun hc => ?_)
      · have hf := fm_pT hf hc
        refine lv_iinc (v := (z1 + (1 : Int32))) (lv' := [(1, .int (z1 + (1 : Int32))), (2, .int r4), (0, .ref (G.2.1 96))]) hx hb dX12_day_39 hl (k := 2) rfl rfl (Nat.le_of_ble_eq_true rfl) rfl (fun ls hl => ?_)
        refine lv_goto (tgt := 7) hx hb dX12_day_42 (by decide) ?_
        exact ih (z1 + (1 : Int32)) σ5 _ _ _ hI (lv_sub hl [2, 0] rfl) hf
      · have hf := fm_pF hf hc
        refine lv_aload_n hx hb dX12_day_33 rfl (lv_at hl 1 rfl) ?_
        refine lv_iload_n hx hb dX12_day_34 rfl (lv_at hl 2 rfl) ?_
        refine lv_iload_n hx hb dX12_day_35 rfl (lv_at hl 0 rfl) ?_
        obtain ⟨_u8, σ9, hq10, hf⟩ := fm_bE hf
        refine fm_cv hI (fm_runV (As := [.int z1, .int r4]) (rest := []) (rm := { frames := 3, cells := 0, slots := 0, locals := 69 }) hC hI (c_X12_takesTurn hC.2.2.1 hq10) mV_X12_takesTurn q_1002 ⟨rfl, rfl⟩ ⟨Nat.le_of_ble_eq_true rfl, Nat.le_of_ble_eq_true rfl⟩ fc_96 rfl (by decide) rfl hl.1 rfl (Nat.le_of_ble_eq_true rfl) dX12_day_36 ⟨Nat.zero_le _, Nat.zero_le _⟩) (fun H locs hI => ?_)
        refine lv_iinc (v := (z1 + (1 : Int32))) (lv' := [(1, .int (z1 + (1 : Int32))), (2, .int r4), (0, .ref (G.2.1 96))]) hx hb dX12_day_39 hl (k := 2) rfl rfl (Nat.le_of_ble_eq_true rfl) rfl (fun ls hl => ?_)
        refine lv_goto (tgt := 7) hx hb dX12_day_42 (by decide) ?_
        exact ih (z1 + (1 : Int32)) σ9 _ _ _ hI (lv_sub hl [2, 0] rfl) hf
set_option maxHeartbeats 4000000 in
set_option maxRecDepth 100000 in
theorem c_X12_day {l : Launch} {G : fm_G} (hJ : fm_J G) {σ : fm_M} {o : Unit × fm_M}  (hf : m_X12_day  σ = some o) : Met l yX12_day (fm_w yX12_day cX12_day 3 none) { frames := 4, cells := 0, slots := 0, locals := 92 } (va_Pc [.ref (G.2.1 96)] (fm_st G σ)) (fm_Qv G o) 0 0 (fm_A G) := by
  refine fm_mth (own := RX12) hJ rfl (by decide +kernel) (Nat.le_of_ble_eq_true rfl) ?_
  intro p e s m below meth c ls hC hr hlk hI hl
  have hx := hC.1.1
  have hb := hC.1.2.1
  have hown := hC.1.2.2.2.1
  have hts := hC.1.2.2.2.2
  have hl : lv_has ls 3 [(0, .ref (G.2.1 96))] := hl
  rw [m_X12_day] at hf
  refine lv_aload_n hx hb dX12_day_0 rfl (lv_at hl 0 rfl) ?_
  refine lv_iconst (v := (0 : Int32)) hx hb dX12_day_1 (by decide) ?_
  obtain ⟨σ1, e2, hf⟩ := fm_letE hf
  refine fm_pi hC hI fp_X12_5 fc_96 ⟨rfl, rfl⟩ e2 q_803 dX12_day_2 (fun H locs hI => ?_)
  refine lv_iconst (v := (0 : Int32)) hx hb dX12_day_5 (by decide) ?_
  refine lv_istore_n (lv' := [(1, .int (0 : Int32)), (0, .ref (G.2.1 96))]) hx hb dX12_day_6 rfl hl (Nat.le_of_ble_eq_true rfl) rfl (fun ls hl => ?_)
  refine w_X12_day_7 hC hr hlk (fun x1_y11 σ_y11 H locs ls hI hl hf => ?_) fm_fu (0 : Int32) σ1 _ _ _ hI (lv_sub hl [1, 0] rfl) hf
  refine lv_aload_n hx hb dX12_day_45 rfl (lv_at hl 0 rfl) ?_
  refine fm_gr hC hI fd_X12_0 fc_96 fr_96_0 q_798 dX12_day_46 ?_
  refine lv_iconst (v := (0 : Int32)) hx hb dX12_day_49 (by decide) ?_
  refine lv_dup2_11 hx hb dX12_day_50 rfl rfl ?_
  obtain ⟨hg12, hf⟩ := fm_gE hf
  refine fm_iald hC hI fc_97 fl_97 hg12 dX12_day_51 ?_
  refine lv_iconst (v := (1 : Int32)) hx hb dX12_day_52 (by decide) ?_
  refine lv_iadd hx hb dX12_day_53 ?_
  obtain ⟨hg13, hf⟩ := fm_gE hf
  obtain ⟨σ14, e15, hf⟩ := fm_letE hf
  refine fm_iast hC hI fc_97 fl_97 hg13 e15 dX12_day_54 (fun H locs hI => ?_)
  exact fm_rv hC hI hr hlk hf dX12_day_55
def m_X12_goes_2 (kc : Int32 → Int32 → fm_M → Option (Unit × fm_M)) : Nat → Int32 → Int32 → fm_M → Option (Unit × fm_M)
  | 0, _, _, _ => none
  | n + 1, z1, z2, σ => if z1 ≤ z2 then (kc z1 z2 σ) else (fm_b (m_X12_day  σ) fun _u1 σ2 => (m_X12_goes_2 kc n z1 (z2 + (1 : Int32)) σ2))
def m_X12_goes (a1 : Int32) (σ : fm_M) : Option (Unit × fm_M) := m_X12_goes_2 (fun (x1_y4 : Int32) (x2_y4 : Int32) (σ_y4 : fm_M) => some ((), σ_y4)) fm_fu a1 (0 : Int32) σ
set_option maxHeartbeats 4000000 in
set_option maxRecDepth 100000 in
theorem w_X12_goes_2 {p : Program} {l : Launch} {e : Env} {s : State} {m : MethodId} {args : Array Value} {below : List Frame} {meth : Method} {c : Code} {G : fm_G} {o : Unit × fm_M} {kc : Int32 → Int32 → fm_M → Option (Unit × fm_M)} (hC : fm_C G p m c cX12_goes 3 s args RX12) (hr : meth.sig.returnType = none) (hlk : meth.locks = false) (hk : ∀ (z1 : Int32) (z2 : Int32) (σ : fm_M) (H : Heap) (locs : List Loc) (ls : Array Slot), fm_I G σ s H locs → lv_has ls 3 [(0, .ref (G.2.1 96)), (1, .int z1), (2, .int z2)] → kc z1 z2 σ = some o → W p l e { frames := 5, cells := 0, slots := 0, locals := 114 } s m args below meth c H locs 0 0 (MQ below (fm_Qv G o) args s 0 0 (fm_A G)) (F0 m 17 ls [])) (n : Nat) : ∀ (z1 : Int32) (z2 : Int32) (σ : fm_M) (H : Heap) (locs : List Loc) (ls : Array Slot), fm_I G σ s H locs → lv_has ls 3 [(0, .ref (G.2.1 96)), (1, .int z1), (2, .int z2)] → m_X12_goes_2 kc n z1 z2 σ = some o → W p l e { frames := 5, cells := 0, slots := 0, locals := 114 } s m args below meth c H locs 0 0 (MQ below (fm_Qv G o) args s 0 0 (fm_A G)) (F0 m 2 ls []) := by
  have hx := hC.1.1
  have hb := hC.1.2.1
  have hown := hC.1.2.2.2.1
  have hts := hC.1.2.2.2.2
  induction n with
  | zero =>
    intro z1 z2 σ H locs ls hI hl hf
    cases hf
  | succ n ih =>
    intro z1 z2 σ H locs ls hI hl hf
    rw [m_X12_goes_2] at hf
    refine lv_iload_n hx hb dX12_goes_2 rfl (lv_at hl 2 rfl) ?_
    refine lv_iload_n hx hb dX12_goes_3 rfl (lv_at hl 1 rfl) ?_
    refine lv_icmp_ge (tgt := 17) hx hb dX12_goes_4 (by decide) (fun hc => ?_) (fun hc => ?_)
    · have hf := fm_pT hf hc
      exact hk z1 z2 σ _ _ _ hI (lv_sub hl [0, 1, 2] rfl) hf
    · have hf := fm_pF hf hc
      refine lv_aload_n hx hb dX12_goes_7 rfl (lv_at hl 0 rfl) ?_
      obtain ⟨_u1, σ2, hq3, hf⟩ := fm_bE hf
      refine fm_cv hI (fm_runV (As := []) (rest := []) (rm := { frames := 4, cells := 0, slots := 0, locals := 92 }) hC hI (c_X12_day hC.2.2.1 hq3) mV_X12_day q_994 ⟨rfl, rfl⟩ ⟨Nat.le_of_ble_eq_true rfl, Nat.le_of_ble_eq_true rfl⟩ fc_96 rfl (by decide) rfl hl.1 rfl (Nat.le_of_ble_eq_true rfl) dX12_goes_8 ⟨Nat.zero_le _, Nat.zero_le _⟩) (fun H locs hI => ?_)
      refine lv_iinc (v := (z2 + (1 : Int32))) (lv' := [(2, .int (z2 + (1 : Int32))), (0, .ref (G.2.1 96)), (1, .int z1)]) hx hb dX12_goes_11 hl (k := 2) rfl rfl (Nat.le_of_ble_eq_true rfl) rfl (fun ls hl => ?_)
      refine lv_goto (tgt := 2) hx hb dX12_goes_14 (by decide) ?_
      exact ih z1 (z2 + (1 : Int32)) σ2 _ _ _ hI (lv_sub hl [1, 2, 0] rfl) hf
set_option maxHeartbeats 4000000 in
set_option maxRecDepth 100000 in
theorem c_X12_goes {l : Launch} {G : fm_G} (hJ : fm_J G) {a1 : Int32} {σ : fm_M} {o : Unit × fm_M}  (hf : m_X12_goes a1 σ = some o) : Met l yX12_goes (fm_w yX12_goes cX12_goes 3 none) { frames := 5, cells := 0, slots := 0, locals := 114 } (va_Pc [.ref (G.2.1 96), .int a1] (fm_st G σ)) (fm_Qv G o) 0 0 (fm_A G) := by
  refine fm_mth (own := RX12) hJ rfl (by decide +kernel) (Nat.le_of_ble_eq_true rfl) ?_
  intro p e s m below meth c ls hC hr hlk hI hl
  have hx := hC.1.1
  have hb := hC.1.2.1
  have hown := hC.1.2.2.2.1
  have hts := hC.1.2.2.2.2
  have hl : lv_has ls 3 [(0, .ref (G.2.1 96)), (1, .int a1)] := hl
  rw [m_X12_goes] at hf
  refine lv_iconst (v := (0 : Int32)) hx hb dX12_goes_0 (by decide) ?_
  refine lv_istore_n (lv' := [(2, .int (0 : Int32)), (0, .ref (G.2.1 96)), (1, .int a1)]) hx hb dX12_goes_1 rfl hl (Nat.le_of_ble_eq_true rfl) rfl (fun ls hl => ?_)
  refine w_X12_goes_2 hC hr hlk (fun x1_y4 x2_y4 σ_y4 H locs ls hI hl hf => ?_) fm_fu a1 (0 : Int32) σ _ _ _ hI (lv_sub hl [1, 2, 0] rfl) hf
  exact fm_rv hC hI hr hlk hf dX12_goes_17
def m_X12_addsPerson (a1 : Int32) (σ : fm_M) : Option (Unit × fm_M) := fm_g (fm_in1 (1 : Int32) 96) (fm_b (m_X12_puts (σ.1 97 (1 : Int32).toNatClampNeg) (0 : Int32) a1 σ) fun _u2 σ3 => (fm_g (fm_in1 (1 : Int32) 96) (fm_b (m_X12_puts (σ3.1 97 (1 : Int32).toNatClampNeg) (1 : Int32) (0 : Int32) σ3) fun _u6 σ7 => (fm_g (fm_in1 (1 : Int32) 96) (fm_g (fm_in1 (1 : Int32) 96) (fm_let (fm_sI σ7 97 (1 : Int32).toNatClampNeg ((σ7.1 97 (1 : Int32).toNatClampNeg) + (1 : Int32))) fun σ11 => (some ((), σ11))))))))
set_option maxHeartbeats 4000000 in
set_option maxRecDepth 100000 in
theorem c_X12_addsPerson {l : Launch} {G : fm_G} (hJ : fm_J G) {a1 : Int32} {σ : fm_M} {o : Unit × fm_M}  (hf : m_X12_addsPerson a1 σ = some o) : Met l yX12_addsPerson (fm_w yX12_addsPerson cX12_addsPerson 2 none) { frames := 1, cells := 0, slots := 0, locals := 23 } (va_Pc [.ref (G.2.1 96), .int a1] (fm_st G σ)) (fm_Qv G o) 0 0 (fm_A G) := by
  refine fm_mth (own := RX12) hJ rfl (by decide +kernel) (Nat.le_of_ble_eq_true rfl) ?_
  intro p e s m below meth c ls hC hr hlk hI hl
  have hx := hC.1.1
  have hb := hC.1.2.1
  have hown := hC.1.2.2.2.1
  have hts := hC.1.2.2.2.2
  have hl : lv_has ls 2 [(0, .ref (G.2.1 96)), (1, .int a1)] := hl
  rw [m_X12_addsPerson] at hf
  refine lv_aload_n hx hb dX12_addsPerson_0 rfl (lv_at hl 0 rfl) ?_
  refine lv_aload_n hx hb dX12_addsPerson_1 rfl (lv_at hl 0 rfl) ?_
  refine fm_gr hC hI fd_X12_0 fc_96 fr_96_0 q_798 dX12_addsPerson_2 ?_
  refine lv_iconst (v := (1 : Int32)) hx hb dX12_addsPerson_5 (by decide) ?_
  obtain ⟨hg1, hf⟩ := fm_gE hf
  refine fm_iald hC hI fc_97 fl_97 hg1 dX12_addsPerson_6 ?_
  refine lv_iconst (v := (0 : Int32)) hx hb dX12_addsPerson_7 (by decide) ?_
  refine lv_iload_n hx hb dX12_addsPerson_8 rfl (lv_at hl 1 rfl) ?_
  obtain ⟨_u2, σ3, hq4, hf⟩ := fm_bE hf
  refine fm_cv hI (fm_runV (As := [.int (σ.1 97 (1 : Int32).toNatClampNeg), .int (0 : Int32), .int a1]) (rest := []) (rm := { frames := 0, cells := 0, slots := 0, locals := 0 }) hC hI (c_X12_puts hC.2.2.1 hq4) mV_X12_puts q_876 ⟨rfl, rfl⟩ ⟨Nat.le_of_ble_eq_true rfl, Nat.le_of_ble_eq_true rfl⟩ fc_96 rfl (by decide) rfl hl.1 rfl (Nat.le_of_ble_eq_true rfl) dX12_addsPerson_9 ⟨Nat.zero_le _, Nat.zero_le _⟩) (fun H locs hI => ?_)
  refine lv_aload_n hx hb dX12_addsPerson_12 rfl (lv_at hl 0 rfl) ?_
  refine lv_aload_n hx hb dX12_addsPerson_13 rfl (lv_at hl 0 rfl) ?_
  refine fm_gr hC hI fd_X12_0 fc_96 fr_96_0 q_798 dX12_addsPerson_14 ?_
  refine lv_iconst (v := (1 : Int32)) hx hb dX12_addsPerson_17 (by decide) ?_
  obtain ⟨hg5, hf⟩ := fm_gE hf
  refine fm_iald hC hI fc_97 fl_97 hg5 dX12_addsPerson_18 ?_
  refine lv_iconst (v := (1 : Int32)) hx hb dX12_addsPerson_19 (by decide) ?_
  refine lv_iconst (v := (0 : Int32)) hx hb dX12_addsPerson_20 (by decide) ?_
  obtain ⟨_u6, σ7, hq8, hf⟩ := fm_bE hf
  refine fm_cv hI (fm_runV (As := [.int (σ3.1 97 (1 : Int32).toNatClampNeg), .int (1 : Int32), .int (0 : Int32)]) (rest := []) (rm := { frames := 0, cells := 0, slots := 0, locals := 0 }) hC hI (c_X12_puts hC.2.2.1 hq8) mV_X12_puts q_876 ⟨rfl, rfl⟩ ⟨Nat.le_of_ble_eq_true rfl, Nat.le_of_ble_eq_true rfl⟩ fc_96 rfl (by decide) rfl hl.1 rfl (Nat.le_of_ble_eq_true rfl) dX12_addsPerson_21 ⟨Nat.zero_le _, Nat.zero_le _⟩) (fun H locs hI => ?_)
  refine lv_aload_n hx hb dX12_addsPerson_24 rfl (lv_at hl 0 rfl) ?_
  refine fm_gr hC hI fd_X12_0 fc_96 fr_96_0 q_798 dX12_addsPerson_25 ?_
  refine lv_iconst (v := (1 : Int32)) hx hb dX12_addsPerson_28 (by decide) ?_
  refine lv_dup2_11 hx hb dX12_addsPerson_29 rfl rfl ?_
  obtain ⟨hg9, hf⟩ := fm_gE hf
  refine fm_iald hC hI fc_97 fl_97 hg9 dX12_addsPerson_30 ?_
  refine lv_iconst (v := (1 : Int32)) hx hb dX12_addsPerson_31 (by decide) ?_
  refine lv_iadd hx hb dX12_addsPerson_32 ?_
  obtain ⟨hg10, hf⟩ := fm_gE hf
  obtain ⟨σ11, e12, hf⟩ := fm_letE hf
  refine fm_iast hC hI fc_97 fl_97 hg10 e12 dX12_addsPerson_33 (fun H locs hI => ?_)
  exact fm_rv hC hI hr hlk hf dX12_addsPerson_34
def m_X12_person (a1 : Int32) (σ : fm_M) : Option (Int32 × fm_M) := fm_b (m_X12_in1 a1 (0 : Int32) (5 : Int32) σ) fun r1 σ2 => (if r1 = 0 then (fm_b (m_X12_no (0 : Int32) σ2) fun r12 σ13 => (some (r12, σ13))) else (fm_g (fm_in1 (1 : Int32) 96) (if (σ2.1 97 (1 : Int32).toNatClampNeg) = (6 : Int32) then (fm_b (m_X12_no (1 : Int32) σ2) fun r9 σ10 => (some (r9, σ10))) else (fm_b (m_X12_addsPerson a1 σ2) fun _u5 σ6 => (fm_g (fm_in1 (1 : Int32) 96) (some (((σ6.1 97 (1 : Int32).toNatClampNeg) - (1 : Int32)), σ6)))))))
set_option maxHeartbeats 4000000 in
set_option maxRecDepth 100000 in
theorem c_X12_person {l : Launch} {G : fm_G} (hJ : fm_J G) {a1 : Int32} {σ : fm_M} {o : Int32 × fm_M}  (hf : m_X12_person a1 σ = some o) : Met l yX12_person (fm_w yX12_person cX12_person 2 (some .int)) { frames := 2, cells := 0, slots := 0, locals := 44 } (va_Pc [.ref (G.2.1 96), .int a1] (fm_st G σ)) (fm_Qi G o) 0 0 (fm_A G) := by
  refine fm_mth (own := RX12) hJ rfl (by decide +kernel) (Nat.le_of_ble_eq_true rfl) ?_
  intro p e s m below meth c ls hC hr hlk hI hl
  have hx := hC.1.1
  have hb := hC.1.2.1
  have hown := hC.1.2.2.2.1
  have hts := hC.1.2.2.2.2
  have hl : lv_has ls 2 [(0, .ref (G.2.1 96)), (1, .int a1)] := hl
  rw [m_X12_person] at hf
  refine lv_iload_n hx hb dX12_person_0 rfl (lv_at hl 1 rfl) ?_
  refine lv_iconst (v := (0 : Int32)) hx hb dX12_person_1 (by decide) ?_
  refine lv_iconst (v := (5 : Int32)) hx hb dX12_person_2 (by decide) ?_
  obtain ⟨r1, σ2, hq3, hf⟩ := fm_bE hf
  refine fm_ci hI (fm_runS (As := [.int a1, .int (0 : Int32), .int (5 : Int32)]) (rest := []) (rm := { frames := 0, cells := 0, slots := 0, locals := 0 }) hC hI (c_X12_in1 hC.2.2.1 hq3) mS_X12_in1 q_864 ⟨rfl, rfl⟩ ⟨Nat.le_of_ble_eq_true rfl, Nat.le_of_ble_eq_true rfl⟩ rfl hl.1 rfl (Nat.le_of_ble_eq_true rfl) dX12_person_3 ⟨Nat.zero_le _, Nat.zero_le _⟩) (fun H locs hI => ?_)
  refine lv_if_ne (tgt := 15) hx hb dX12_person_6 (by decide) (fun hc => ?_) (fun hc => ?_)
  · have hf := fm_pF hf hc
    refine lv_aload_n hx hb dX12_person_15 rfl (lv_at hl 0 rfl) ?_
    refine fm_gr hC hI fd_X12_0 fc_96 fr_96_0 q_798 dX12_person_16 ?_
    refine lv_iconst (v := (1 : Int32)) hx hb dX12_person_19 (by decide) ?_
    obtain ⟨hg4, hf⟩ := fm_gE hf
    refine fm_iald hC hI fc_97 fl_97 hg4 dX12_person_20 ?_
    refine lv_bipush (v := (6 : Int32)) hx hb dX12_person_21 (by decide) ?_
    refine lv_icmp_ne (tgt := 32) hx hb dX12_person_23 (by decide) (fun hc => ?_) (fun hc => ?_)
    · have hf := fm_pF hf hc
      refine lv_aload_n hx hb dX12_person_32 rfl (lv_at hl 0 rfl) ?_
      refine lv_iload_n hx hb dX12_person_33 rfl (lv_at hl 1 rfl) ?_
      obtain ⟨_u5, σ6, hq7, hf⟩ := fm_bE hf
      refine fm_cv hI (fm_runV (As := [.int a1]) (rest := []) (rm := { frames := 1, cells := 0, slots := 0, locals := 23 }) hC hI (c_X12_addsPerson hC.2.2.1 hq7) mV_X12_addsPerson q_872 ⟨rfl, rfl⟩ ⟨Nat.le_of_ble_eq_true rfl, Nat.le_of_ble_eq_true rfl⟩ fc_96 rfl (by decide) rfl hl.1 rfl (Nat.le_of_ble_eq_true rfl) dX12_person_34 ⟨Nat.zero_le _, Nat.zero_le _⟩) (fun H locs hI => ?_)
      refine lv_aload_n hx hb dX12_person_37 rfl (lv_at hl 0 rfl) ?_
      refine fm_gr hC hI fd_X12_0 fc_96 fr_96_0 q_798 dX12_person_38 ?_
      refine lv_iconst (v := (1 : Int32)) hx hb dX12_person_41 (by decide) ?_
      obtain ⟨hg8, hf⟩ := fm_gE hf
      refine fm_iald hC hI fc_97 fl_97 hg8 dX12_person_42 ?_
      refine lv_iconst (v := (1 : Int32)) hx hb dX12_person_43 (by decide) ?_
      refine lv_isub hx hb dX12_person_44 ?_
      exact fm_ri hC hI hr hlk hf dX12_person_45
    · have hf := fm_pT hf hc
      refine lv_aload_n hx hb dX12_person_26 rfl (lv_at hl 0 rfl) ?_
      refine lv_iconst (v := (1 : Int32)) hx hb dX12_person_27 (by decide) ?_
      obtain ⟨r9, σ10, hq11, hf⟩ := fm_bE hf
      refine fm_ci hI (fm_runV (As := [.int (1 : Int32)]) (rest := []) (rm := { frames := 0, cells := 0, slots := 0, locals := 0 }) hC hI (c_X12_no hC.2.2.1 hq11) mV_X12_no q_867 ⟨rfl, rfl⟩ ⟨Nat.le_of_ble_eq_true rfl, Nat.le_of_ble_eq_true rfl⟩ fc_96 rfl (by decide) rfl hl.1 rfl (Nat.le_of_ble_eq_true rfl) dX12_person_28 ⟨Nat.zero_le _, Nat.zero_le _⟩) (fun H locs hI => ?_)
      exact fm_ri hC hI hr hlk hf dX12_person_31
  · have hf := fm_pT hf hc
    refine lv_aload_n hx hb dX12_person_9 rfl (lv_at hl 0 rfl) ?_
    refine lv_iconst (v := (0 : Int32)) hx hb dX12_person_10 (by decide) ?_
    obtain ⟨r12, σ13, hq14, hf⟩ := fm_bE hf
    refine fm_ci hI (fm_runV (As := [.int (0 : Int32)]) (rest := []) (rm := { frames := 0, cells := 0, slots := 0, locals := 0 }) hC hI (c_X12_no hC.2.2.1 hq14) mV_X12_no q_867 ⟨rfl, rfl⟩ ⟨Nat.le_of_ble_eq_true rfl, Nat.le_of_ble_eq_true rfl⟩ fc_96 rfl (by decide) rfl hl.1 rfl (Nat.le_of_ble_eq_true rfl) dX12_person_11 ⟨Nat.zero_le _, Nat.zero_le _⟩) (fun H locs hI => ?_)
    exact fm_ri hC hI hr hlk hf dX12_person_14
def m_X12_presentsWith_5 (kc : Int32 → Int32 → Int32 → Int32 → fm_M → Option (Int32 × fm_M)) : Nat → Int32 → Int32 → Int32 → Int32 → fm_M → Option (Int32 × fm_M)
  | 0, _, _, _, _, _ => none
  | n + 1, z1, z2, z3, z4, σ => fm_g (fm_in1 (2 : Int32) 96) (if (σ.1 97 (2 : Int32).toNatClampNeg) ≤ z4 then (kc z1 z2 z3 z4 σ) else (fm_b (m_X12_of1 z4 (2 : Int32) σ) fun r2 σ3 => (if r2 = z1 then (if z2 = 0 then (m_X12_presentsWith_5 kc n z1 z2 (z3 ||| ((1 : Int32) <<< (z4 &&& 31))) (z4 + (1 : Int32)) σ3) else (fm_b (m_X12_of1 z4 (3 : Int32) σ3) fun r5 σ6 => (if r5 = 0 then (m_X12_presentsWith_5 kc n z1 z2 (z3 ||| ((1 : Int32) <<< (z4 &&& 31))) (z4 + (1 : Int32)) σ6) else (m_X12_presentsWith_5 kc n z1 z2 (z3 ||| (0 : Int32)) (z4 + (1 : Int32)) σ6)))) else (m_X12_presentsWith_5 kc n z1 z2 (z3 ||| (0 : Int32)) (z4 + (1 : Int32)) σ3))))
def m_X12_presentsWith (a1 : Int32) (a2 : Int32) (σ : fm_M) : Option (Int32 × fm_M) := m_X12_presentsWith_5 (fun (x1_y8 : Int32) (x2_y8 : Int32) (x3_y8 : Int32) (x4_y8 : Int32) (σ_y8 : fm_M) => some (x3_y8, σ_y8)) fm_fu a1 a2 (0 : Int32) (0 : Int32) σ
set_option maxHeartbeats 4000000 in
set_option maxRecDepth 100000 in
theorem w_X12_presentsWith_5 {p : Program} {l : Launch} {e : Env} {s : State} {m : MethodId} {args : Array Value} {below : List Frame} {meth : Method} {c : Code} {G : fm_G} {o : Int32 × fm_M} {kc : Int32 → Int32 → Int32 → Int32 → fm_M → Option (Int32 × fm_M)} (hC : fm_C G p m c cX12_presentsWith 5 s args RX12) (hr : meth.sig.returnType = (some .int)) (hlk : meth.locks = false) (hk : ∀ (z1 : Int32) (z2 : Int32) (z3 : Int32) (z4 : Int32) (σ : fm_M) (H : Heap) (locs : List Loc) (ls : Array Slot), fm_I G σ s H locs → lv_has ls 5 [(0, .ref (G.2.1 96)), (1, .int z1), (2, .int z2), (3, .int z3), (4, .int z4)] → kc z1 z2 z3 z4 σ = some o → W p l e { frames := 1, cells := 0, slots := 0, locals := 22 } s m args below meth c H locs 0 0 (MQ below (fm_Qi G o) args s 0 0 (fm_A G)) (F0 m 58 ls [])) (n : Nat) : ∀ (z1 : Int32) (z2 : Int32) (z3 : Int32) (z4 : Int32) (σ : fm_M) (H : Heap) (locs : List Loc) (ls : Array Slot), fm_I G σ s H locs → lv_has ls 5 [(0, .ref (G.2.1 96)), (1, .int z1), (2, .int z2), (3, .int z3), (4, .int z4)] → m_X12_presentsWith_5 kc n z1 z2 z3 z4 σ = some o → W p l e { frames := 1, cells := 0, slots := 0, locals := 22 } s m args below meth c H locs 0 0 (MQ below (fm_Qi G o) args s 0 0 (fm_A G)) (F0 m 5 ls []) := by
  have hx := hC.1.1
  have hb := hC.1.2.1
  have hown := hC.1.2.2.2.1
  have hts := hC.1.2.2.2.2
  induction n with
  | zero =>
    intro z1 z2 z3 z4 σ H locs ls hI hl hf
    cases hf
  | succ n ih =>
    intro z1 z2 z3 z4 σ H locs ls hI hl hf
    rw [m_X12_presentsWith_5] at hf
    refine lv_iload hx hb dX12_presentsWith_5 (lv_at hl 4 rfl) ?_
    refine lv_aload_n hx hb dX12_presentsWith_7 rfl (lv_at hl 0 rfl) ?_
    refine fm_gr hC hI fd_X12_0 fc_96 fr_96_0 q_798 dX12_presentsWith_8 ?_
    refine lv_iconst (v := (2 : Int32)) hx hb dX12_presentsWith_11 (by decide) ?_
    obtain ⟨hg1, hf⟩ := fm_gE hf
    refine fm_iald hC hI fc_97 fl_97 hg1 dX12_presentsWith_12 ?_
    refine lv_icmp_ge (tgt := 58) hx hb dX12_presentsWith_13 (by decide) (fun hc => ?_) (fun hc => ?_)
    · have hf := fm_pT hf hc
      exact hk z1 z2 z3 z4 σ _ _ _ hI (lv_sub hl [0, 1, 2, 3, 4] rfl) hf
    · have hf := fm_pF hf hc
      refine lv_iload_n hx hb dX12_presentsWith_16 rfl (lv_at hl 3 rfl) ?_
      refine lv_aload_n hx hb dX12_presentsWith_17 rfl (lv_at hl 0 rfl) ?_
      refine lv_iload hx hb dX12_presentsWith_18 (lv_at hl 4 rfl) ?_
      refine lv_iconst (v := (2 : Int32)) hx hb dX12_presentsWith_20 (by decide) ?_
      obtain ⟨r2, σ3, hq4, hf⟩ := fm_bE hf
      refine fm_ci hI (fm_runV (As := [.int z4, .int (2 : Int32)]) (rest := [.int z3]) (rm := { frames := 0, cells := 0, slots := 0, locals := 0 }) hC hI (c_X12_of1 hC.2.2.1 hq4) mV_X12_of1 q_896 ⟨rfl, rfl⟩ ⟨Nat.le_of_ble_eq_true rfl, Nat.le_of_ble_eq_true rfl⟩ fc_96 rfl (by decide) rfl hl.1 rfl (Nat.le_of_ble_eq_true rfl) dX12_presentsWith_21 ⟨Nat.zero_le _, Nat.zero_le _⟩) (fun H locs hI => ?_)
      refine lv_iload_n hx hb dX12_presentsWith_24 rfl (lv_at hl 1 rfl) ?_
      refine lv_icmp_ne (tgt := 49) hx hb dX12_presentsWith_25 (by decide) (fun hc => ?_) (fun hc => ?_)
      · have hf := fm_pF hf hc
        refine lv_iconst (v := (0 : Int32)) hx hb dX12_presentsWith_49 (by decide) ?_
        refine lv_ior hx hb dX12_presentsWith_50 ?_
        refine lv_istore_n (lv' := [(3, .int (z3 ||| (0 : Int32))), (0, .ref (G.2.1 96)), (1, .int z1), (2, .int z2), (4, .int z4)]) hx hb dX12_presentsWith_51 rfl hl (Nat.le_of_ble_eq_true rfl) rfl (fun ls hl => ?_)
        refine lv_iinc (v := (z4 + (1 : Int32))) (lv' := [(4, .int (z4 + (1 : Int32))), (3, .int (z3 ||| (0 : Int32))), (0, .ref (G.2.1 96)), (1, .int z1), (2, .int z2)]) hx hb dX12_presentsWith_52 hl (k := 4) rfl rfl (Nat.le_of_ble_eq_true rfl) rfl (fun ls hl => ?_)
        refine lv_goto (tgt := 5) hx hb dX12_presentsWith_55 (by decide) ?_
        exact ih z1 z2 (z3 ||| (0 : Int32)) (z4 + (1 : Int32)) σ3 _ _ _ hI (lv_sub hl [2, 3, 4, 1, 0] rfl) hf
      · have hf := fm_pT hf hc
        refine lv_iload_n hx hb dX12_presentsWith_28 rfl (lv_at hl 2 rfl) ?_
        refine lv_if_eq (tgt := 42) hx hb dX12_presentsWith_29 (by decide) (fun hc => ?_) (fun hc => ?_)
        · have hf := fm_pT hf hc
          refine lv_iconst (v := (1 : Int32)) hx hb dX12_presentsWith_42 (by decide) ?_
          refine lv_iload hx hb dX12_presentsWith_43 (lv_at hl 4 rfl) ?_
          refine lv_ishl hx hb dX12_presentsWith_45 ?_
          refine lv_goto (tgt := 50) hx hb dX12_presentsWith_46 (by decide) ?_
          refine lv_ior hx hb dX12_presentsWith_50 ?_
          refine lv_istore_n (lv' := [(3, .int (z3 ||| ((1 : Int32) <<< (z4 &&& 31)))), (0, .ref (G.2.1 96)), (1, .int z1), (2, .int z2), (4, .int z4)]) hx hb dX12_presentsWith_51 rfl hl (Nat.le_of_ble_eq_true rfl) rfl (fun ls hl => ?_)
          refine lv_iinc (v := (z4 + (1 : Int32))) (lv' := [(4, .int (z4 + (1 : Int32))), (3, .int (z3 ||| ((1 : Int32) <<< (z4 &&& 31)))), (0, .ref (G.2.1 96)), (1, .int z1), (2, .int z2)]) hx hb dX12_presentsWith_52 hl (k := 4) rfl rfl (Nat.le_of_ble_eq_true rfl) rfl (fun ls hl => ?_)
          refine lv_goto (tgt := 5) hx hb dX12_presentsWith_55 (by decide) ?_
          exact ih z1 z2 (z3 ||| ((1 : Int32) <<< (z4 &&& 31))) (z4 + (1 : Int32)) σ3 _ _ _ hI (lv_sub hl [2, 3, 4, 1, 0] rfl) hf
        · have hf := fm_pF hf hc
          refine lv_aload_n hx hb dX12_presentsWith_32 rfl (lv_at hl 0 rfl) ?_
          refine lv_iload hx hb dX12_presentsWith_33 (lv_at hl 4 rfl) ?_
          refine lv_iconst (v := (3 : Int32)) hx hb dX12_presentsWith_35 (by decide) ?_
          obtain ⟨r5, σ6, hq7, hf⟩ := fm_bE hf
          refine fm_ci hI (fm_runV (As := [.int z4, .int (3 : Int32)]) (rest := [.int z3]) (rm := { frames := 0, cells := 0, slots := 0, locals := 0 }) hC hI (c_X12_of1 hC.2.2.1 hq7) mV_X12_of1 q_896 ⟨rfl, rfl⟩ ⟨Nat.le_of_ble_eq_true rfl, Nat.le_of_ble_eq_true rfl⟩ fc_96 rfl (by decide) rfl hl.1 rfl (Nat.le_of_ble_eq_true rfl) dX12_presentsWith_36 ⟨Nat.zero_le _, Nat.zero_le _⟩) (fun H locs hI => ?_)
          refine lv_if_ne (tgt := 49) hx hb dX12_presentsWith_39 (by decide) (fun hc => ?_) (fun hc => ?_)
          · have hf := fm_pF hf hc
            refine lv_iconst (v := (0 : Int32)) hx hb dX12_presentsWith_49 (by decide) ?_
            refine lv_ior hx hb dX12_presentsWith_50 ?_
            refine lv_istore_n (lv' := [(3, .int (z3 ||| (0 : Int32))), (0, .ref (G.2.1 96)), (1, .int z1), (2, .int z2), (4, .int z4)]) hx hb dX12_presentsWith_51 rfl hl (Nat.le_of_ble_eq_true rfl) rfl (fun ls hl => ?_)
            refine lv_iinc (v := (z4 + (1 : Int32))) (lv' := [(4, .int (z4 + (1 : Int32))), (3, .int (z3 ||| (0 : Int32))), (0, .ref (G.2.1 96)), (1, .int z1), (2, .int z2)]) hx hb dX12_presentsWith_52 hl (k := 4) rfl rfl (Nat.le_of_ble_eq_true rfl) rfl (fun ls hl => ?_)
            refine lv_goto (tgt := 5) hx hb dX12_presentsWith_55 (by decide) ?_
            exact ih z1 z2 (z3 ||| (0 : Int32)) (z4 + (1 : Int32)) σ6 _ _ _ hI (lv_sub hl [2, 3, 4, 1, 0] rfl) hf
          · have hf := fm_pT hf hc
            refine lv_iconst (v := (1 : Int32)) hx hb dX12_presentsWith_42 (by decide) ?_
            refine lv_iload hx hb dX12_presentsWith_43 (lv_at hl 4 rfl) ?_
            refine lv_ishl hx hb dX12_presentsWith_45 ?_
            refine lv_goto (tgt := 50) hx hb dX12_presentsWith_46 (by decide) ?_
            refine lv_ior hx hb dX12_presentsWith_50 ?_
            refine lv_istore_n (lv' := [(3, .int (z3 ||| ((1 : Int32) <<< (z4 &&& 31)))), (0, .ref (G.2.1 96)), (1, .int z1), (2, .int z2), (4, .int z4)]) hx hb dX12_presentsWith_51 rfl hl (Nat.le_of_ble_eq_true rfl) rfl (fun ls hl => ?_)
            refine lv_iinc (v := (z4 + (1 : Int32))) (lv' := [(4, .int (z4 + (1 : Int32))), (3, .int (z3 ||| ((1 : Int32) <<< (z4 &&& 31)))), (0, .ref (G.2.1 96)), (1, .int z1), (2, .int z2)]) hx hb dX12_presentsWith_52 hl (k := 4) rfl rfl (Nat.le_of_ble_eq_true rfl) rfl (fun ls hl => ?_)
            refine lv_goto (tgt := 5) hx hb dX12_presentsWith_55 (by decide) ?_
            exact ih z1 z2 (z3 ||| ((1 : Int32) <<< (z4 &&& 31))) (z4 + (1 : Int32)) σ6 _ _ _ hI (lv_sub hl [2, 3, 4, 1, 0] rfl) hf
set_option maxHeartbeats 4000000 in
set_option maxRecDepth 100000 in
theorem c_X12_presentsWith {l : Launch} {G : fm_G} (hJ : fm_J G) {a1 : Int32} {a2 : Int32} {σ : fm_M} {o : Int32 × fm_M}  (hf : m_X12_presentsWith a1 a2 σ = some o) : Met l yX12_presentsWith (fm_w yX12_presentsWith cX12_presentsWith 5 (some .int)) { frames := 1, cells := 0, slots := 0, locals := 22 } (va_Pc [.ref (G.2.1 96), .int a1, .int a2] (fm_st G σ)) (fm_Qi G o) 0 0 (fm_A G) := by
  refine fm_mth (own := RX12) hJ rfl (by decide +kernel) (Nat.le_of_ble_eq_true rfl) ?_
  intro p e s m below meth c ls hC hr hlk hI hl
  have hx := hC.1.1
  have hb := hC.1.2.1
  have hown := hC.1.2.2.2.1
  have hts := hC.1.2.2.2.2
  have hl : lv_has ls 5 [(0, .ref (G.2.1 96)), (1, .int a1), (2, .int a2)] := hl
  rw [m_X12_presentsWith] at hf
  refine lv_iconst (v := (0 : Int32)) hx hb dX12_presentsWith_0 (by decide) ?_
  refine lv_istore_n (lv' := [(3, .int (0 : Int32)), (0, .ref (G.2.1 96)), (1, .int a1), (2, .int a2)]) hx hb dX12_presentsWith_1 rfl hl (Nat.le_of_ble_eq_true rfl) rfl (fun ls hl => ?_)
  refine lv_iconst (v := (0 : Int32)) hx hb dX12_presentsWith_2 (by decide) ?_
  refine lv_istore (lv' := [(4, .int (0 : Int32)), (3, .int (0 : Int32)), (0, .ref (G.2.1 96)), (1, .int a1), (2, .int a2)]) hx hb dX12_presentsWith_3 hl (Nat.le_of_ble_eq_true rfl) rfl (fun ls hl => ?_)
  refine w_X12_presentsWith_5 hC hr hlk (fun x1_y8 x2_y8 x3_y8 x4_y8 σ_y8 H locs ls hI hl hf => ?_) fm_fu a1 a2 (0 : Int32) (0 : Int32) σ _ _ _ hI (lv_sub hl [2, 3, 4, 1, 0] rfl) hf
  refine lv_iload_n hx hb dX12_presentsWith_58 rfl (lv_at hl 3 rfl) ?_
  exact fm_ri hC hI hr hlk hf dX12_presentsWith_59
def m_X12_of (a1 : Int32) (a2 : Int32) (σ : fm_M) : Option (Int32 × fm_M) := fm_b (m_X12_isPerson a1 σ) fun r1 σ2 => (if r1 = 0 then (fm_b (m_X12_no (0 : Int32) σ2) fun r4 σ5 => (some (r4, σ5))) else (fm_b (m_X12_in1 a2 (0 : Int32) (3 : Int32) σ2) fun r7 σ8 => (if r7 = 0 then (fm_b (m_X12_no (0 : Int32) σ8) fun r17 σ18 => (some (r17, σ18))) else (if (2 : Int32) ≤ a2 then (fm_j (fun (v0_J10 : Int32) (σ_J10 : fm_M) => fm_b (m_X12_presentsWith a1 v0_J10 σ_J10) fun r11 σ12 => (some (r11, σ12))) (fun J10 => if a2 = (3 : Int32) then (J10 (1 : Int32) σ8) else (J10 (0 : Int32) σ8))) else (fm_b (m_X12_get a1 a2 σ8) fun r14 σ15 => (some (r14, σ15)))))))
set_option maxHeartbeats 4000000 in
set_option maxRecDepth 100000 in
theorem c_X12_of {l : Launch} {G : fm_G} (hJ : fm_J G) {a1 : Int32} {a2 : Int32} {σ : fm_M} {o : Int32 × fm_M}  (hf : m_X12_of a1 a2 σ = some o) : Met l yX12_of (fm_w yX12_of cX12_of 3 (some .int)) { frames := 2, cells := 0, slots := 0, locals := 46 } (va_Pc [.ref (G.2.1 96), .int a1, .int a2] (fm_st G σ)) (fm_Qi G o) 0 0 (fm_A G) := by
  refine fm_mth (own := RX12) hJ rfl (by decide +kernel) (Nat.le_of_ble_eq_true rfl) ?_
  intro p e s m below meth c ls hC hr hlk hI hl
  have hx := hC.1.1
  have hb := hC.1.2.1
  have hown := hC.1.2.2.2.1
  have hts := hC.1.2.2.2.2
  have hl : lv_has ls 3 [(0, .ref (G.2.1 96)), (1, .int a1), (2, .int a2)] := hl
  rw [m_X12_of] at hf
  refine lv_aload_n hx hb dX12_of_0 rfl (lv_at hl 0 rfl) ?_
  refine lv_iload_n hx hb dX12_of_1 rfl (lv_at hl 1 rfl) ?_
  obtain ⟨r1, σ2, hq3, hf⟩ := fm_bE hf
  refine fm_ci hI (fm_runV (As := [.int a1]) (rest := []) (rm := { frames := 1, cells := 0, slots := 0, locals := 22 }) hC hI (c_X12_isPerson hC.2.2.1 hq3) mV_X12_isPerson q_884 ⟨rfl, rfl⟩ ⟨Nat.le_of_ble_eq_true rfl, Nat.le_of_ble_eq_true rfl⟩ fc_96 rfl (by decide) rfl hl.1 rfl (Nat.le_of_ble_eq_true rfl) dX12_of_2 ⟨Nat.zero_le _, Nat.zero_le _⟩) (fun H locs hI => ?_)
  refine lv_if_eq (tgt := 17) hx hb dX12_of_5 (by decide) (fun hc => ?_) (fun hc => ?_)
  · have hf := fm_pT hf hc
    refine lv_aload_n hx hb dX12_of_17 rfl (lv_at hl 0 rfl) ?_
    refine lv_iconst (v := (0 : Int32)) hx hb dX12_of_18 (by decide) ?_
    obtain ⟨r4, σ5, hq6, hf⟩ := fm_bE hf
    refine fm_ci hI (fm_runV (As := [.int (0 : Int32)]) (rest := []) (rm := { frames := 0, cells := 0, slots := 0, locals := 0 }) hC hI (c_X12_no hC.2.2.1 hq6) mV_X12_no q_867 ⟨rfl, rfl⟩ ⟨Nat.le_of_ble_eq_true rfl, Nat.le_of_ble_eq_true rfl⟩ fc_96 rfl (by decide) rfl hl.1 rfl (Nat.le_of_ble_eq_true rfl) dX12_of_19 ⟨Nat.zero_le _, Nat.zero_le _⟩) (fun H locs hI => ?_)
    exact fm_ri hC hI hr hlk hf dX12_of_22
  · have hf := fm_pF hf hc
    refine lv_iload_n hx hb dX12_of_8 rfl (lv_at hl 2 rfl) ?_
    refine lv_iconst (v := (0 : Int32)) hx hb dX12_of_9 (by decide) ?_
    refine lv_iconst (v := (3 : Int32)) hx hb dX12_of_10 (by decide) ?_
    obtain ⟨r7, σ8, hq9, hf⟩ := fm_bE hf
    refine fm_ci hI (fm_runS (As := [.int a2, .int (0 : Int32), .int (3 : Int32)]) (rest := []) (rm := { frames := 0, cells := 0, slots := 0, locals := 0 }) hC hI (c_X12_in1 hC.2.2.1 hq9) mS_X12_in1 q_864 ⟨rfl, rfl⟩ ⟨Nat.le_of_ble_eq_true rfl, Nat.le_of_ble_eq_true rfl⟩ rfl hl.1 rfl (Nat.le_of_ble_eq_true rfl) dX12_of_11 ⟨Nat.zero_le _, Nat.zero_le _⟩) (fun H locs hI => ?_)
    refine lv_if_ne (tgt := 23) hx hb dX12_of_14 (by decide) (fun hc => ?_) (fun hc => ?_)
    · have hf := fm_pF hf hc
      refine lv_iload_n hx hb dX12_of_23 rfl (lv_at hl 2 rfl) ?_
      refine lv_iconst (v := (2 : Int32)) hx hb dX12_of_24 (by decide) ?_
      refine lv_icmp_ge (tgt := 37) hx hb dX12_of_25 (by decide) (fun hc => ?_) (fun hc => ?_)
      · have hf := fm_pT hf hc
        refine lv_aload_n hx hb dX12_of_37 rfl (lv_at hl 0 rfl) ?_
        refine lv_iload_n hx hb dX12_of_38 rfl (lv_at hl 1 rfl) ?_
        refine lv_iload_n hx hb dX12_of_39 rfl (lv_at hl 2 rfl) ?_
        refine lv_iconst (v := (3 : Int32)) hx hb dX12_of_40 (by decide) ?_
        obtain ⟨J10, eJ10, hf⟩ := fm_jE hf
        have hJ10 : ∀ (v0_J10 : Int32) (σ_J10 : fm_M) (H : Heap) (locs : List Loc) (ls : Array Slot), fm_I G σ_J10 s H locs → lv_has ls 3 [] → J10 v0_J10 σ_J10 = some o → W p l e { frames := 2, cells := 0, slots := 0, locals := 46 } s m ([.ref (G.2.1 96), .int a1, .int a2] : List Value).toArray below meth c H locs 0 0 (MQ below (fm_Qi G o) ([.ref (G.2.1 96), .int a1, .int a2] : List Value).toArray s 0 0 (fm_A G)) (F0 m 49 ls [.int v0_J10, .int a1, .ref (G.2.1 96)]) := by
          intro v0_J10 σ_J10 H locs ls hI hl hf
          subst eJ10
          obtain ⟨r11, σ12, hq13, hf⟩ := fm_bE hf
          refine fm_ci hI (fm_runV (As := [.int a1, .int v0_J10]) (rest := []) (rm := { frames := 1, cells := 0, slots := 0, locals := 22 }) hC hI (c_X12_presentsWith hC.2.2.1 hq13) mV_X12_presentsWith q_892 ⟨rfl, rfl⟩ ⟨Nat.le_of_ble_eq_true rfl, Nat.le_of_ble_eq_true rfl⟩ fc_96 rfl (by decide) rfl hl.1 rfl (Nat.le_of_ble_eq_true rfl) dX12_of_49 ⟨Nat.zero_le _, Nat.zero_le _⟩) (fun H locs hI => ?_)
          exact fm_ri hC hI hr hlk hf dX12_of_52
        refine lv_icmp_ne (tgt := 48) hx hb dX12_of_41 (by decide) (fun hc => ?_) (fun hc => ?_)
        · have hf := fm_pF hf hc
          refine lv_iconst (v := (0 : Int32)) hx hb dX12_of_48 (by decide) ?_
          exact hJ10 (0 : Int32) σ8 _ _ _ hI (lv_sub hl [] rfl) hf
        · have hf := fm_pT hf hc
          refine lv_iconst (v := (1 : Int32)) hx hb dX12_of_44 (by decide) ?_
          refine lv_goto (tgt := 49) hx hb dX12_of_45 (by decide) ?_
          exact hJ10 (1 : Int32) σ8 _ _ _ hI (lv_sub hl [] rfl) hf
      · have hf := fm_pF hf hc
        refine lv_aload_n hx hb dX12_of_28 rfl (lv_at hl 0 rfl) ?_
        refine lv_iload_n hx hb dX12_of_29 rfl (lv_at hl 1 rfl) ?_
        refine lv_iload_n hx hb dX12_of_30 rfl (lv_at hl 2 rfl) ?_
        obtain ⟨r14, σ15, hq16, hf⟩ := fm_bE hf
        refine fm_ci hI (fm_runV (As := [.int a1, .int a2]) (rest := []) (rm := { frames := 0, cells := 0, slots := 0, locals := 0 }) hC hI (c_X12_get hC.2.2.1 hq16) mV_X12_get q_888 ⟨rfl, rfl⟩ ⟨Nat.le_of_ble_eq_true rfl, Nat.le_of_ble_eq_true rfl⟩ fc_96 rfl (by decide) rfl hl.1 rfl (Nat.le_of_ble_eq_true rfl) dX12_of_31 ⟨Nat.zero_le _, Nat.zero_le _⟩) (fun H locs hI => ?_)
        refine lv_goto (tgt := 52) hx hb dX12_of_34 (by decide) ?_
        exact fm_ri hC hI hr hlk hf dX12_of_52
    · have hf := fm_pT hf hc
      refine lv_aload_n hx hb dX12_of_17 rfl (lv_at hl 0 rfl) ?_
      refine lv_iconst (v := (0 : Int32)) hx hb dX12_of_18 (by decide) ?_
      obtain ⟨r17, σ18, hq19, hf⟩ := fm_bE hf
      refine fm_ci hI (fm_runV (As := [.int (0 : Int32)]) (rest := []) (rm := { frames := 0, cells := 0, slots := 0, locals := 0 }) hC hI (c_X12_no hC.2.2.1 hq19) mV_X12_no q_867 ⟨rfl, rfl⟩ ⟨Nat.le_of_ble_eq_true rfl, Nat.le_of_ble_eq_true rfl⟩ fc_96 rfl (by decide) rfl hl.1 rfl (Nat.le_of_ble_eq_true rfl) dX12_of_19 ⟨Nat.zero_le _, Nat.zero_le _⟩) (fun H locs hI => ?_)
      exact fm_ri hC hI hr hlk hf dX12_of_22
def m_X12_does (a1 : Int32) (a2 : Int32) (a3 : Int32) (σ : fm_M) : Option (Int32 × fm_M) := fm_b (m_X12_isPerson a1 σ) fun r1 σ2 => (if r1 = 0 then (fm_b (m_X12_no (0 : Int32) σ2) fun r4 σ5 => (some (r4, σ5))) else (fm_b (m_X12_in1 a2 (0 : Int32) (3 : Int32) σ2) fun r7 σ8 => (if r7 = 0 then (fm_b (m_X12_no (0 : Int32) σ8) fun r10 σ11 => (some (r10, σ11))) else (fm_b (m_X12_isPresent a3 σ8) fun r13 σ14 => (if r13 = 0 then (fm_b (m_X12_no (0 : Int32) σ14) fun r58 σ59 => (some (r58, σ59))) else (fm_b (m_X12_of1 a3 (0 : Int32) σ14) fun r16 σ17 => (if (2 : Int32) ≤ a2 then (if a2 = 0 then (fm_b (m_X12_opensOf a1 a3 σ17) fun r34 σ35 => (some (r34, σ35))) else (if a2 = (1 : Int32) then (fm_b (m_X12_of1 a3 (4 : Int32) σ17) fun r28 σ29 => (fm_b (m_X12_enjoysOf a1 r28 σ29) fun r31 σ32 => (some (r31, σ32)))) else (if a2 = (2 : Int32) then (fm_b (m_X12_of1 a3 (1 : Int32) σ17) fun r22 σ23 => (fm_b (m_X12_struckOf a1 r22 σ23) fun r25 σ26 => (some (r25, σ26)))) else (fm_b (m_X12_passesOf a1 r16 σ17) fun r19 σ20 => (some (((1 : Int32) + r19), σ20)))))) else (if r16 = 0 then (fm_b (m_X12_no (3 : Int32) σ17) fun r55 σ56 => (some (r55, σ56))) else (if a2 = 0 then (fm_b (m_X12_opensOf a1 a3 σ17) fun r52 σ53 => (some (r52, σ53))) else (if a2 = (1 : Int32) then (fm_b (m_X12_of1 a3 (4 : Int32) σ17) fun r46 σ47 => (fm_b (m_X12_enjoysOf a1 r46 σ47) fun r49 σ50 => (some (r49, σ50)))) else (if a2 = (2 : Int32) then (fm_b (m_X12_of1 a3 (1 : Int32) σ17) fun r40 σ41 => (fm_b (m_X12_struckOf a1 r40 σ41) fun r43 σ44 => (some (r43, σ44)))) else (fm_b (m_X12_passesOf a1 r16 σ17) fun r37 σ38 => (some (((1 : Int32) + r37), σ38))))))))))))))
set_option maxHeartbeats 4000000 in
set_option maxRecDepth 100000 in
theorem c_X12_does {l : Launch} {G : fm_G} (hJ : fm_J G) {a1 : Int32} {a2 : Int32} {a3 : Int32} {σ : fm_M} {o : Int32 × fm_M}  (hf : m_X12_does a1 a2 a3 σ = some o) : Met l yX12_does (fm_w yX12_does cX12_does 5 (some .int)) { frames := 2, cells := 0, slots := 0, locals := 45 } (va_Pc [.ref (G.2.1 96), .int a1, .int a2, .int a3] (fm_st G σ)) (fm_Qi G o) 0 0 (fm_A G) := by
  refine fm_mth (own := RX12) hJ rfl (by decide +kernel) (Nat.le_of_ble_eq_true rfl) ?_
  intro p e s m below meth c ls hC hr hlk hI hl
  have hx := hC.1.1
  have hb := hC.1.2.1
  have hown := hC.1.2.2.2.1
  have hts := hC.1.2.2.2.2
  have hl : lv_has ls 5 [(0, .ref (G.2.1 96)), (1, .int a1), (2, .int a2), (3, .int a3)] := hl
  rw [m_X12_does] at hf
  refine lv_aload_n hx hb dX12_does_0 rfl (lv_at hl 0 rfl) ?_
  refine lv_iload_n hx hb dX12_does_1 rfl (lv_at hl 1 rfl) ?_
  obtain ⟨r1, σ2, hq3, hf⟩ := fm_bE hf
  refine fm_ci hI (fm_runV (As := [.int a1]) (rest := []) (rm := { frames := 1, cells := 0, slots := 0, locals := 22 }) hC hI (c_X12_isPerson hC.2.2.1 hq3) mV_X12_isPerson q_884 ⟨rfl, rfl⟩ ⟨Nat.le_of_ble_eq_true rfl, Nat.le_of_ble_eq_true rfl⟩ fc_96 rfl (by decide) rfl hl.1 rfl (Nat.le_of_ble_eq_true rfl) dX12_does_2 ⟨Nat.zero_le _, Nat.zero_le _⟩) (fun H locs hI => ?_)
  refine lv_if_eq (tgt := 25) hx hb dX12_does_5 (by decide) (fun hc => ?_) (fun hc => ?_)
  · have hf := fm_pT hf hc
    refine lv_aload_n hx hb dX12_does_25 rfl (lv_at hl 0 rfl) ?_
    refine lv_iconst (v := (0 : Int32)) hx hb dX12_does_26 (by decide) ?_
    obtain ⟨r4, σ5, hq6, hf⟩ := fm_bE hf
    refine fm_ci hI (fm_runV (As := [.int (0 : Int32)]) (rest := []) (rm := { frames := 0, cells := 0, slots := 0, locals := 0 }) hC hI (c_X12_no hC.2.2.1 hq6) mV_X12_no q_867 ⟨rfl, rfl⟩ ⟨Nat.le_of_ble_eq_true rfl, Nat.le_of_ble_eq_true rfl⟩ fc_96 rfl (by decide) rfl hl.1 rfl (Nat.le_of_ble_eq_true rfl) dX12_does_27 ⟨Nat.zero_le _, Nat.zero_le _⟩) (fun H locs hI => ?_)
    exact fm_ri hC hI hr hlk hf dX12_does_30
  · have hf := fm_pF hf hc
    refine lv_iload_n hx hb dX12_does_8 rfl (lv_at hl 2 rfl) ?_
    refine lv_iconst (v := (0 : Int32)) hx hb dX12_does_9 (by decide) ?_
    refine lv_iconst (v := (3 : Int32)) hx hb dX12_does_10 (by decide) ?_
    obtain ⟨r7, σ8, hq9, hf⟩ := fm_bE hf
    refine fm_ci hI (fm_runS (As := [.int a2, .int (0 : Int32), .int (3 : Int32)]) (rest := []) (rm := { frames := 0, cells := 0, slots := 0, locals := 0 }) hC hI (c_X12_in1 hC.2.2.1 hq9) mS_X12_in1 q_864 ⟨rfl, rfl⟩ ⟨Nat.le_of_ble_eq_true rfl, Nat.le_of_ble_eq_true rfl⟩ rfl hl.1 rfl (Nat.le_of_ble_eq_true rfl) dX12_does_11 ⟨Nat.zero_le _, Nat.zero_le _⟩) (fun H locs hI => ?_)
    refine lv_if_eq (tgt := 25) hx hb dX12_does_14 (by decide) (fun hc => ?_) (fun hc => ?_)
    · have hf := fm_pT hf hc
      refine lv_aload_n hx hb dX12_does_25 rfl (lv_at hl 0 rfl) ?_
      refine lv_iconst (v := (0 : Int32)) hx hb dX12_does_26 (by decide) ?_
      obtain ⟨r10, σ11, hq12, hf⟩ := fm_bE hf
      refine fm_ci hI (fm_runV (As := [.int (0 : Int32)]) (rest := []) (rm := { frames := 0, cells := 0, slots := 0, locals := 0 }) hC hI (c_X12_no hC.2.2.1 hq12) mV_X12_no q_867 ⟨rfl, rfl⟩ ⟨Nat.le_of_ble_eq_true rfl, Nat.le_of_ble_eq_true rfl⟩ fc_96 rfl (by decide) rfl hl.1 rfl (Nat.le_of_ble_eq_true rfl) dX12_does_27 ⟨Nat.zero_le _, Nat.zero_le _⟩) (fun H locs hI => ?_)
      exact fm_ri hC hI hr hlk hf dX12_does_30
    · have hf := fm_pF hf hc
      refine lv_aload_n hx hb dX12_does_17 rfl (lv_at hl 0 rfl) ?_
      refine lv_iload_n hx hb dX12_does_18 rfl (lv_at hl 3 rfl) ?_
      obtain ⟨r13, σ14, hq15, hf⟩ := fm_bE hf
      refine fm_ci hI (fm_runV (As := [.int a3]) (rest := []) (rm := { frames := 1, cells := 0, slots := 0, locals := 22 }) hC hI (c_X12_isPresent hC.2.2.1 hq15) mV_X12_isPresent q_904 ⟨rfl, rfl⟩ ⟨Nat.le_of_ble_eq_true rfl, Nat.le_of_ble_eq_true rfl⟩ fc_96 rfl (by decide) rfl hl.1 rfl (Nat.le_of_ble_eq_true rfl) dX12_does_19 ⟨Nat.zero_le _, Nat.zero_le _⟩) (fun H locs hI => ?_)
      refine lv_if_ne (tgt := 31) hx hb dX12_does_22 (by decide) (fun hc => ?_) (fun hc => ?_)
      · have hf := fm_pF hf hc
        refine lv_aload_n hx hb dX12_does_31 rfl (lv_at hl 0 rfl) ?_
        refine lv_iload_n hx hb dX12_does_32 rfl (lv_at hl 3 rfl) ?_
        refine lv_iconst (v := (0 : Int32)) hx hb dX12_does_33 (by decide) ?_
        obtain ⟨r16, σ17, hq18, hf⟩ := fm_bE hf
        refine fm_ci hI (fm_runV (As := [.int a3, .int (0 : Int32)]) (rest := []) (rm := { frames := 0, cells := 0, slots := 0, locals := 0 }) hC hI (c_X12_of1 hC.2.2.1 hq18) mV_X12_of1 q_896 ⟨rfl, rfl⟩ ⟨Nat.le_of_ble_eq_true rfl, Nat.le_of_ble_eq_true rfl⟩ fc_96 rfl (by decide) rfl hl.1 rfl (Nat.le_of_ble_eq_true rfl) dX12_does_34 ⟨Nat.zero_le _, Nat.zero_le _⟩) (fun H locs hI => ?_)
        refine lv_istore (lv' := [(4, .int r16), (0, .ref (G.2.1 96)), (1, .int a1), (2, .int a2), (3, .int a3)]) hx hb dX12_does_37 hl (Nat.le_of_ble_eq_true rfl) rfl (fun ls hl => ?_)
        refine lv_iload_n hx hb dX12_does_39 rfl (lv_at hl 3 rfl) ?_
        refine lv_iconst (v := (2 : Int32)) hx hb dX12_does_40 (by decide) ?_
        refine lv_icmp_ge (tgt := 55) hx hb dX12_does_41 (by decide) (fun hc => ?_) (fun hc => ?_)
        · have hf := fm_pT hf hc
          refine lv_iload_n hx hb dX12_does_55 rfl (lv_at hl 3 rfl) ?_
          refine lv_if_ne (tgt := 68) hx hb dX12_does_56 (by decide) (fun hc => ?_) (fun hc => ?_)
          · have hf := fm_pF hf hc
            refine lv_iload_n hx hb dX12_does_68 rfl (lv_at hl 3 rfl) ?_
            refine lv_iconst (v := (1 : Int32)) hx hb dX12_does_69 (by decide) ?_
            refine lv_icmp_ne (tgt := 87) hx hb dX12_does_70 (by decide) (fun hc => ?_) (fun hc => ?_)
            · have hf := fm_pF hf hc
              refine lv_iload_n hx hb dX12_does_87 rfl (lv_at hl 3 rfl) ?_
              refine lv_iconst (v := (2 : Int32)) hx hb dX12_does_88 (by decide) ?_
              refine lv_icmp_ne (tgt := 106) hx hb dX12_does_89 (by decide) (fun hc => ?_) (fun hc => ?_)
              · have hf := fm_pF hf hc
                refine lv_iconst (v := (1 : Int32)) hx hb dX12_does_106 (by decide) ?_
                refine lv_aload_n hx hb dX12_does_107 rfl (lv_at hl 1 rfl) ?_
                refine lv_iload_n hx hb dX12_does_108 rfl (lv_at hl 2 rfl) ?_
                refine lv_iload hx hb dX12_does_109 (lv_at hl 0 rfl) ?_
                obtain ⟨r19, σ20, hq21, hf⟩ := fm_bE hf
                refine fm_ci hI (fm_runV (As := [.int a1, .int r16]) (rest := [.int (1 : Int32)]) (rm := { frames := 1, cells := 0, slots := 0, locals := 22 }) hC hI (c_X12_passesOf hC.2.2.1 hq21) mV_X12_passesOf q_923 ⟨rfl, rfl⟩ ⟨Nat.le_of_ble_eq_true rfl, Nat.le_of_ble_eq_true rfl⟩ fc_96 rfl (by decide) rfl hl.1 rfl (Nat.le_of_ble_eq_true rfl) dX12_does_111 ⟨Nat.zero_le _, Nat.zero_le _⟩) (fun H locs hI => ?_)
                refine lv_iadd hx hb dX12_does_114 ?_
                exact fm_ri hC hI hr hlk hf dX12_does_115
              · have hf := fm_pT hf hc
                refine lv_aload_n hx hb dX12_does_92 rfl (lv_at hl 1 rfl) ?_
                refine lv_iload_n hx hb dX12_does_93 rfl (lv_at hl 2 rfl) ?_
                refine lv_aload_n hx hb dX12_does_94 rfl (lv_at hl 1 rfl) ?_
                refine lv_iload_n hx hb dX12_does_95 rfl (lv_at hl 4 rfl) ?_
                refine lv_iconst (v := (1 : Int32)) hx hb dX12_does_96 (by decide) ?_
                obtain ⟨r22, σ23, hq24, hf⟩ := fm_bE hf
                refine fm_ci hI (fm_runV (As := [.int a3, .int (1 : Int32)]) (rest := [.int a1, .ref (G.2.1 96)]) (rm := { frames := 0, cells := 0, slots := 0, locals := 0 }) hC hI (c_X12_of1 hC.2.2.1 hq24) mV_X12_of1 q_896 ⟨rfl, rfl⟩ ⟨Nat.le_of_ble_eq_true rfl, Nat.le_of_ble_eq_true rfl⟩ fc_96 rfl (by decide) rfl hl.1 rfl (Nat.le_of_ble_eq_true rfl) dX12_does_97 ⟨Nat.zero_le _, Nat.zero_le _⟩) (fun H locs hI => ?_)
                obtain ⟨r25, σ26, hq27, hf⟩ := fm_bE hf
                refine fm_ci hI (fm_runV (As := [.int a1, .int r22]) (rest := []) (rm := { frames := 1, cells := 0, slots := 0, locals := 22 }) hC hI (c_X12_struckOf hC.2.2.1 hq27) mV_X12_struckOf q_919 ⟨rfl, rfl⟩ ⟨Nat.le_of_ble_eq_true rfl, Nat.le_of_ble_eq_true rfl⟩ fc_96 rfl (by decide) rfl hl.1 rfl (Nat.le_of_ble_eq_true rfl) dX12_does_100 ⟨Nat.zero_le _, Nat.zero_le _⟩) (fun H locs hI => ?_)
                refine lv_goto (tgt := 115) hx hb dX12_does_103 (by decide) ?_
                exact fm_ri hC hI hr hlk hf dX12_does_115
            · have hf := fm_pT hf hc
              refine lv_aload_n hx hb dX12_does_73 rfl (lv_at hl 1 rfl) ?_
              refine lv_iload_n hx hb dX12_does_74 rfl (lv_at hl 2 rfl) ?_
              refine lv_aload_n hx hb dX12_does_75 rfl (lv_at hl 1 rfl) ?_
              refine lv_iload_n hx hb dX12_does_76 rfl (lv_at hl 4 rfl) ?_
              refine lv_iconst (v := (4 : Int32)) hx hb dX12_does_77 (by decide) ?_
              obtain ⟨r28, σ29, hq30, hf⟩ := fm_bE hf
              refine fm_ci hI (fm_runV (As := [.int a3, .int (4 : Int32)]) (rest := [.int a1, .ref (G.2.1 96)]) (rm := { frames := 0, cells := 0, slots := 0, locals := 0 }) hC hI (c_X12_of1 hC.2.2.1 hq30) mV_X12_of1 q_896 ⟨rfl, rfl⟩ ⟨Nat.le_of_ble_eq_true rfl, Nat.le_of_ble_eq_true rfl⟩ fc_96 rfl (by decide) rfl hl.1 rfl (Nat.le_of_ble_eq_true rfl) dX12_does_78 ⟨Nat.zero_le _, Nat.zero_le _⟩) (fun H locs hI => ?_)
              obtain ⟨r31, σ32, hq33, hf⟩ := fm_bE hf
              refine fm_ci hI (fm_runV (As := [.int a1, .int r28]) (rest := []) (rm := { frames := 1, cells := 0, slots := 0, locals := 22 }) hC hI (c_X12_enjoysOf hC.2.2.1 hq33) mV_X12_enjoysOf q_915 ⟨rfl, rfl⟩ ⟨Nat.le_of_ble_eq_true rfl, Nat.le_of_ble_eq_true rfl⟩ fc_96 rfl (by decide) rfl hl.1 rfl (Nat.le_of_ble_eq_true rfl) dX12_does_81 ⟨Nat.zero_le _, Nat.zero_le _⟩) (fun H locs hI => ?_)
              refine lv_goto (tgt := 115) hx hb dX12_does_84 (by decide) ?_
              exact fm_ri hC hI hr hlk hf dX12_does_115
          · have hf := fm_pT hf hc
            refine lv_aload_n hx hb dX12_does_59 rfl (lv_at hl 1 rfl) ?_
            refine lv_iload_n hx hb dX12_does_60 rfl (lv_at hl 2 rfl) ?_
            refine lv_iload_n hx hb dX12_does_61 rfl (lv_at hl 4 rfl) ?_
            obtain ⟨r34, σ35, hq36, hf⟩ := fm_bE hf
            refine fm_ci hI (fm_runV (As := [.int a1, .int a3]) (rest := []) (rm := { frames := 1, cells := 0, slots := 0, locals := 22 }) hC hI (c_X12_opensOf hC.2.2.1 hq36) mV_X12_opensOf q_908 ⟨rfl, rfl⟩ ⟨Nat.le_of_ble_eq_true rfl, Nat.le_of_ble_eq_true rfl⟩ fc_96 rfl (by decide) rfl hl.1 rfl (Nat.le_of_ble_eq_true rfl) dX12_does_62 ⟨Nat.zero_le _, Nat.zero_le _⟩) (fun H locs hI => ?_)
            refine lv_goto (tgt := 115) hx hb dX12_does_65 (by decide) ?_
            exact fm_ri hC hI hr hlk hf dX12_does_115
        · have hf := fm_pF hf hc
          refine lv_iload hx hb dX12_does_44 (lv_at hl 0 rfl) ?_
          refine lv_if_ne (tgt := 55) hx hb dX12_does_46 (by decide) (fun hc => ?_) (fun hc => ?_)
          · have hf := fm_pF hf hc
            refine lv_iload_n hx hb dX12_does_55 rfl (lv_at hl 3 rfl) ?_
            refine lv_if_ne (tgt := 68) hx hb dX12_does_56 (by decide) (fun hc => ?_) (fun hc => ?_)
            · have hf := fm_pF hf hc
              refine lv_iload_n hx hb dX12_does_68 rfl (lv_at hl 3 rfl) ?_
              refine lv_iconst (v := (1 : Int32)) hx hb dX12_does_69 (by decide) ?_
              refine lv_icmp_ne (tgt := 87) hx hb dX12_does_70 (by decide) (fun hc => ?_) (fun hc => ?_)
              · have hf := fm_pF hf hc
                refine lv_iload_n hx hb dX12_does_87 rfl (lv_at hl 3 rfl) ?_
                refine lv_iconst (v := (2 : Int32)) hx hb dX12_does_88 (by decide) ?_
                refine lv_icmp_ne (tgt := 106) hx hb dX12_does_89 (by decide) (fun hc => ?_) (fun hc => ?_)
                · have hf := fm_pF hf hc
                  refine lv_iconst (v := (1 : Int32)) hx hb dX12_does_106 (by decide) ?_
                  refine lv_aload_n hx hb dX12_does_107 rfl (lv_at hl 1 rfl) ?_
                  refine lv_iload_n hx hb dX12_does_108 rfl (lv_at hl 2 rfl) ?_
                  refine lv_iload hx hb dX12_does_109 (lv_at hl 0 rfl) ?_
                  obtain ⟨r37, σ38, hq39, hf⟩ := fm_bE hf
                  refine fm_ci hI (fm_runV (As := [.int a1, .int r16]) (rest := [.int (1 : Int32)]) (rm := { frames := 1, cells := 0, slots := 0, locals := 22 }) hC hI (c_X12_passesOf hC.2.2.1 hq39) mV_X12_passesOf q_923 ⟨rfl, rfl⟩ ⟨Nat.le_of_ble_eq_true rfl, Nat.le_of_ble_eq_true rfl⟩ fc_96 rfl (by decide) rfl hl.1 rfl (Nat.le_of_ble_eq_true rfl) dX12_does_111 ⟨Nat.zero_le _, Nat.zero_le _⟩) (fun H locs hI => ?_)
                  refine lv_iadd hx hb dX12_does_114 ?_
                  exact fm_ri hC hI hr hlk hf dX12_does_115
                · have hf := fm_pT hf hc
                  refine lv_aload_n hx hb dX12_does_92 rfl (lv_at hl 1 rfl) ?_
                  refine lv_iload_n hx hb dX12_does_93 rfl (lv_at hl 2 rfl) ?_
                  refine lv_aload_n hx hb dX12_does_94 rfl (lv_at hl 1 rfl) ?_
                  refine lv_iload_n hx hb dX12_does_95 rfl (lv_at hl 4 rfl) ?_
                  refine lv_iconst (v := (1 : Int32)) hx hb dX12_does_96 (by decide) ?_
                  obtain ⟨r40, σ41, hq42, hf⟩ := fm_bE hf
                  refine fm_ci hI (fm_runV (As := [.int a3, .int (1 : Int32)]) (rest := [.int a1, .ref (G.2.1 96)]) (rm := { frames := 0, cells := 0, slots := 0, locals := 0 }) hC hI (c_X12_of1 hC.2.2.1 hq42) mV_X12_of1 q_896 ⟨rfl, rfl⟩ ⟨Nat.le_of_ble_eq_true rfl, Nat.le_of_ble_eq_true rfl⟩ fc_96 rfl (by decide) rfl hl.1 rfl (Nat.le_of_ble_eq_true rfl) dX12_does_97 ⟨Nat.zero_le _, Nat.zero_le _⟩) (fun H locs hI => ?_)
                  obtain ⟨r43, σ44, hq45, hf⟩ := fm_bE hf
                  refine fm_ci hI (fm_runV (As := [.int a1, .int r40]) (rest := []) (rm := { frames := 1, cells := 0, slots := 0, locals := 22 }) hC hI (c_X12_struckOf hC.2.2.1 hq45) mV_X12_struckOf q_919 ⟨rfl, rfl⟩ ⟨Nat.le_of_ble_eq_true rfl, Nat.le_of_ble_eq_true rfl⟩ fc_96 rfl (by decide) rfl hl.1 rfl (Nat.le_of_ble_eq_true rfl) dX12_does_100 ⟨Nat.zero_le _, Nat.zero_le _⟩) (fun H locs hI => ?_)
                  refine lv_goto (tgt := 115) hx hb dX12_does_103 (by decide) ?_
                  exact fm_ri hC hI hr hlk hf dX12_does_115
              · have hf := fm_pT hf hc
                refine lv_aload_n hx hb dX12_does_73 rfl (lv_at hl 1 rfl) ?_
                refine lv_iload_n hx hb dX12_does_74 rfl (lv_at hl 2 rfl) ?_
                refine lv_aload_n hx hb dX12_does_75 rfl (lv_at hl 1 rfl) ?_
                refine lv_iload_n hx hb dX12_does_76 rfl (lv_at hl 4 rfl) ?_
                refine lv_iconst (v := (4 : Int32)) hx hb dX12_does_77 (by decide) ?_
                obtain ⟨r46, σ47, hq48, hf⟩ := fm_bE hf
                refine fm_ci hI (fm_runV (As := [.int a3, .int (4 : Int32)]) (rest := [.int a1, .ref (G.2.1 96)]) (rm := { frames := 0, cells := 0, slots := 0, locals := 0 }) hC hI (c_X12_of1 hC.2.2.1 hq48) mV_X12_of1 q_896 ⟨rfl, rfl⟩ ⟨Nat.le_of_ble_eq_true rfl, Nat.le_of_ble_eq_true rfl⟩ fc_96 rfl (by decide) rfl hl.1 rfl (Nat.le_of_ble_eq_true rfl) dX12_does_78 ⟨Nat.zero_le _, Nat.zero_le _⟩) (fun H locs hI => ?_)
                obtain ⟨r49, σ50, hq51, hf⟩ := fm_bE hf
                refine fm_ci hI (fm_runV (As := [.int a1, .int r46]) (rest := []) (rm := { frames := 1, cells := 0, slots := 0, locals := 22 }) hC hI (c_X12_enjoysOf hC.2.2.1 hq51) mV_X12_enjoysOf q_915 ⟨rfl, rfl⟩ ⟨Nat.le_of_ble_eq_true rfl, Nat.le_of_ble_eq_true rfl⟩ fc_96 rfl (by decide) rfl hl.1 rfl (Nat.le_of_ble_eq_true rfl) dX12_does_81 ⟨Nat.zero_le _, Nat.zero_le _⟩) (fun H locs hI => ?_)
                refine lv_goto (tgt := 115) hx hb dX12_does_84 (by decide) ?_
                exact fm_ri hC hI hr hlk hf dX12_does_115
            · have hf := fm_pT hf hc
              refine lv_aload_n hx hb dX12_does_59 rfl (lv_at hl 1 rfl) ?_
              refine lv_iload_n hx hb dX12_does_60 rfl (lv_at hl 2 rfl) ?_
              refine lv_iload_n hx hb dX12_does_61 rfl (lv_at hl 4 rfl) ?_
              obtain ⟨r52, σ53, hq54, hf⟩ := fm_bE hf
              refine fm_ci hI (fm_runV (As := [.int a1, .int a3]) (rest := []) (rm := { frames := 1, cells := 0, slots := 0, locals := 22 }) hC hI (c_X12_opensOf hC.2.2.1 hq54) mV_X12_opensOf q_908 ⟨rfl, rfl⟩ ⟨Nat.le_of_ble_eq_true rfl, Nat.le_of_ble_eq_true rfl⟩ fc_96 rfl (by decide) rfl hl.1 rfl (Nat.le_of_ble_eq_true rfl) dX12_does_62 ⟨Nat.zero_le _, Nat.zero_le _⟩) (fun H locs hI => ?_)
              refine lv_goto (tgt := 115) hx hb dX12_does_65 (by decide) ?_
              exact fm_ri hC hI hr hlk hf dX12_does_115
          · have hf := fm_pT hf hc
            refine lv_aload_n hx hb dX12_does_49 rfl (lv_at hl 1 rfl) ?_
            refine lv_iconst (v := (3 : Int32)) hx hb dX12_does_50 (by decide) ?_
            obtain ⟨r55, σ56, hq57, hf⟩ := fm_bE hf
            refine fm_ci hI (fm_runV (As := [.int (3 : Int32)]) (rest := []) (rm := { frames := 0, cells := 0, slots := 0, locals := 0 }) hC hI (c_X12_no hC.2.2.1 hq57) mV_X12_no q_867 ⟨rfl, rfl⟩ ⟨Nat.le_of_ble_eq_true rfl, Nat.le_of_ble_eq_true rfl⟩ fc_96 rfl (by decide) rfl hl.1 rfl (Nat.le_of_ble_eq_true rfl) dX12_does_51 ⟨Nat.zero_le _, Nat.zero_le _⟩) (fun H locs hI => ?_)
            exact fm_ri hC hI hr hlk hf dX12_does_54
      · have hf := fm_pT hf hc
        refine lv_aload_n hx hb dX12_does_25 rfl (lv_at hl 0 rfl) ?_
        refine lv_iconst (v := (0 : Int32)) hx hb dX12_does_26 (by decide) ?_
        obtain ⟨r58, σ59, hq60, hf⟩ := fm_bE hf
        refine fm_ci hI (fm_runV (As := [.int (0 : Int32)]) (rest := []) (rm := { frames := 0, cells := 0, slots := 0, locals := 0 }) hC hI (c_X12_no hC.2.2.1 hq60) mV_X12_no q_867 ⟨rfl, rfl⟩ ⟨Nat.le_of_ble_eq_true rfl, Nat.le_of_ble_eq_true rfl⟩ fc_96 rfl (by decide) rfl hl.1 rfl (Nat.le_of_ble_eq_true rfl) dX12_does_27 ⟨Nat.zero_le _, Nat.zero_le _⟩) (fun H locs hI => ?_)
        exact fm_ri hC hI hr hlk hf dX12_does_30
