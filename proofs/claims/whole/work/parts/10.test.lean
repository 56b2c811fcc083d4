def m_X12_no (a1 : Int32) (σ : fm_M) : Option (Int32 × fm_M) := fm_g (fm_in1 a1 7) (fm_g (fm_in1 a1 7) (fm_let (fm_sI σ 100 a1.toNatClampNeg ((σ.1 100 a1.toNatClampNeg) + (1 : Int32))) fun σ3 => (some (((-1000000001 : Int32) - a1), σ3))))
def m_X12_in1 (a0 : Int32) (a1 : Int32) (a2 : Int32) (σ : fm_M) : Option (Int32 × fm_M) := if a0 < a1 then (some ((0 : Int32), σ)) else (if a2 < a0 then (some ((0 : Int32), σ)) else (some ((1 : Int32), σ)))
def m_X12_less (a0 : Int32) (a1 : Int32) (σ : fm_M) : Option (Int32 × fm_M) := if a1 ≤ a0 then (some (a1, σ)) else (some (a0, σ))
def m_X12_bits_4 (kc : Int32 → Int32 → fm_M → Option (Int32 × fm_M)) : Nat → Int32 → Int32 → fm_M → Option (Int32 × fm_M)
  | 0, _, _, _ => none
  | n + 1, z1, z2, σ => if z2 = 0 then (kc z1 z2 σ) else (m_X12_bits_4 kc n (z1 + (1 : Int32)) (z2 &&& (z2 - (1 : Int32))) σ)
def m_X12_bits (a0 : Int32) (σ : fm_M) : Option (Int32 × fm_M) := m_X12_bits_4 (fun (x1_y1 : Int32) (x2_y1 : Int32) (σ_y1 : fm_M) => some (x1_y1, σ_y1)) fm_fu (0 : Int32) a0 σ
def m_X12_isPerson (a1 : Int32) (σ : fm_M) : Option (Int32 × fm_M) := fm_g (fm_in1 (1 : Int32) 96) (fm_b (m_X12_in1 a1 (0 : Int32) ((σ.1 97 (1 : Int32).toNatClampNeg) - (1 : Int32)) σ) fun r2 σ3 => (fm_g (fm_bz r2) (some (r2, σ3))))
def m_X12_isPresent (a1 : Int32) (σ : fm_M) : Option (Int32 × fm_M) := fm_g (fm_in1 (2 : Int32) 96) (fm_b (m_X12_in1 a1 (0 : Int32) ((σ.1 97 (2 : Int32).toNatClampNeg) - (1 : Int32)) σ) fun r2 σ3 => (fm_g (fm_bz r2) (some (r2, σ3))))
def m_X12_get (a1 : Int32) (a2 : Int32) (σ : fm_M) : Option (Int32 × fm_M) := fm_g (fm_in1 (((4 : Int32) + ((2 : Int32) * a1)) + a2) 96) (some ((σ.1 97 (((4 : Int32) + ((2 : Int32) * a1)) + a2).toNatClampNeg), σ))
def m_X12_puts (a1 : Int32) (a2 : Int32) (a3 : Int32) (σ : fm_M) : Option (Unit × fm_M) := fm_g (fm_in1 (((4 : Int32) + ((2 : Int32) * a1)) + a2) 96) (fm_let (fm_sI σ 97 (((4 : Int32) + ((2 : Int32) * a1)) + a2).toNatClampNeg a3) fun σ2 => (some ((), σ2)))
def m_X12_of1 (a1 : Int32) (a2 : Int32) (σ : fm_M) : Option (Int32 × fm_M) := fm_g (fm_in1 (((16 : Int32) + ((10 : Int32) * a1)) + a2) 96) (some ((σ.1 97 (((16 : Int32) + ((10 : Int32) * a1)) + a2).toNatClampNeg), σ))
def m_X12_lays1 (a1 : Int32) (a2 : Int32) (a3 : Int32) (σ : fm_M) : Option (Unit × fm_M) := fm_g (fm_in1 (((16 : Int32) + ((10 : Int32) * a1)) + a2) 96) (fm_let (fm_sI σ 97 (((16 : Int32) + ((10 : Int32) * a1)) + a2).toNatClampNeg a3) fun σ2 => (some ((), σ2)))
def m_X12_setsAside_2 (kc : Int32 → fm_M → Option (Unit × fm_M)) : Nat → Int32 → fm_M → Option (Unit × fm_M)
  | 0, _, _ => none
  | n + 1, z1, σ => if (96 : Int32) ≤ z1 then (kc z1 σ) else (fm_g (fm_in1 z1 96) (fm_g (fm_in1 z1 96) (fm_let (fm_sI σ 99 z1.toNatClampNeg (σ.1 97 z1.toNatClampNeg)) fun σ3 => (m_X12_setsAside_2 kc n (z1 + (1 : Int32)) σ3))))
def m_X12_setsAside  (σ : fm_M) : Option (Unit × fm_M) := m_X12_setsAside_2 (fun (x1_y5 : Int32) (σ_y5 : fm_M) => some ((), σ_y5)) fm_fu (0 : Int32) σ
def m_X12_laysBack_2 (kc : Int32 → fm_M → Option (Unit × fm_M)) : Nat → Int32 → fm_M → Option (Unit × fm_M)
  | 0, _, _ => none
  | n + 1, z1, σ => if (96 : Int32) ≤ z1 then (kc z1 σ) else (fm_g (fm_in1 z1 96) (fm_g (fm_in1 z1 96) (fm_let (fm_sI σ 97 z1.toNatClampNeg (σ.1 99 z1.toNatClampNeg)) fun σ3 => (m_X12_laysBack_2 kc n (z1 + (1 : Int32)) σ3))))
def m_X12_laysBack  (σ : fm_M) : Option (Unit × fm_M) := m_X12_laysBack_2 (fun (x1_y5 : Int32) (σ_y5 : fm_M) => some ((), σ_y5)) fm_fu (0 : Int32) σ
def m_X12_addsLayer_7 (kc : Int32 → Int32 → Int32 → fm_M → Option (Unit × fm_M)) : Nat → Int32 → Int32 → Int32 → fm_M → Option (Unit × fm_M)
  | 0, _, _, _, _ => none
  | n + 1, z1, z2, z3, σ => if z3 ≤ 0 then (kc z1 z2 z3 σ) else (fm_b (m_X12_of1 z1 (((4 : Int32) + z3) - (1 : Int32)) σ) fun r4 σ5 => (fm_b (m_X12_lays1 z1 ((4 : Int32) + z3) r4 σ5) fun _u7 σ8 => (m_X12_addsLayer_7 kc n z1 z2 (z3 + (-1 : Int32)) σ8)))
def m_X12_addsLayer (a1 : Int32) (a2 : Int32) (σ : fm_M) : Option (Unit × fm_M) := fm_b (m_X12_of1 a1 (0 : Int32) σ) fun r1 σ2 => (m_X12_addsLayer_7 (fun (x1_y10 : Int32) (x2_y10 : Int32) (x3_y10 : Int32) (σ_y10 : fm_M) => fm_b (m_X12_lays1 x1_y10 (4 : Int32) x2_y10 σ_y10) fun _u11 σ12 => (fm_b (m_X12_of1 x1_y10 (0 : Int32) σ12) fun r14 σ15 => (fm_b (m_X12_lays1 x1_y10 (0 : Int32) (r14 + (1 : Int32)) σ15) fun _u17 σ18 => (some ((), σ18))))) fm_fu a1 a2 r1 σ2)
def m_X12_takesLayer_23 (kc : Int32 → Int32 → Int32 → fm_M → Option (Int32 × fm_M)) : Nat → Int32 → Int32 → Int32 → fm_M → Option (Int32 × fm_M)
  | 0, _, _, _, _ => none
  | n + 1, z1, z2, z3, σ => fm_b (m_X12_of1 z1 (0 : Int32) σ) fun r10 σ11 => (if r10 ≤ z3 then (kc z1 z2 z3 σ11) else (fm_b (m_X12_of1 z1 (((4 : Int32) + z3) + (1 : Int32)) σ11) fun r13 σ14 => (fm_b (m_X12_lays1 z1 ((4 : Int32) + z3) r13 σ14) fun _u16 σ17 => (m_X12_takesLayer_23 kc n z1 z2 (z3 + (1 : Int32)) σ17))))
def m_X12_takesLayer (a1 : Int32) (σ : fm_M) : Option (Int32 × fm_M) := fm_b (m_X12_of1 a1 (4 : Int32) σ) fun r1 σ2 => (fm_b (m_X12_of1 a1 (0 : Int32) σ2) fun r4 σ5 => (fm_b (m_X12_lays1 a1 (0 : Int32) (r4 - (1 : Int32)) σ5) fun _u7 σ8 => (m_X12_takesLayer_23 (fun (x1_y19 : Int32) (x2_y19 : Int32) (x3_y19 : Int32) (σ_y19 : fm_M) => some (x2_y19, σ_y19)) fm_fu a1 r1 (0 : Int32) σ8)))
def m_X12_opensOf (a1 : Int32) (a2 : Int32) (σ : fm_M) : Option (Int32 × fm_M) := fm_b (m_X12_of1 a2 (0 : Int32) σ) fun r1 σ2 => (fm_b (m_X12_get a1 (0 : Int32) σ2) fun r4 σ5 => (if r4 = (1 : Int32) then (some ((0 : Int32), σ5)) else (if r4 = (2 : Int32) then (fm_b (m_X12_less (2 : Int32) r1 σ5) fun r9 σ10 => (some (r9, σ10))) else (if r4 = (3 : Int32) then (if r1 = 0 then (some ((0 : Int32), σ5)) else (fm_b (m_X12_of1 a2 (4 : Int32) σ5) fun r13 σ14 => (if r13 = (3 : Int32) then (some ((0 : Int32), σ14)) else (some ((1 : Int32), σ14))))) else (if r4 = (4 : Int32) then (some (r1, σ5)) else (if r4 = (5 : Int32) then (fm_g (fm_in1 (0 : Int32) 96) (if ((σ5.1 97 (0 : Int32).toNatClampNeg) - (σ5.1 97 (0 : Int32).toNatClampNeg) / (5 : Int32) * (5 : Int32)) = 0 then (fm_b (m_X12_less (1 : Int32) r1 σ5) fun r19 σ20 => (some (r19, σ20))) else (some ((0 : Int32), σ5)))) else (fm_b (m_X12_less (1 : Int32) r1 σ5) fun r22 σ23 => (some (r22, σ23)))))))))
set_option maxHeartbeats 4000000 in
set_option maxRecDepth 100000 in
theorem c_X12_no {l : Launch} {G : fm_G} (hJ : fm_J G) {a1 : Int32} {σ : fm_M} {o : Int32 × fm_M}  (hf : m_X12_no a1 σ = some o) : Met l yX12_no (fm_w yX12_no cX12_no 2 (some .int)) { frames := 0, cells := 0, slots := 0, locals := 0 } (va_Pc [.ref (G.2.1 96), .int a1] (fm_st G σ)) (fm_Qi G o) 0 0 (fm_A G) := by
  refine fm_mth (own := RX12) hJ rfl (by decide +kernel) (Nat.le_of_ble_eq_true rfl) ?_
  intro p e s m below meth c ls hC hr hlk hI hl
  have hx := hC.1.1
  have hb := hC.1.2.1
  have hown := hC.1.2.2.2.1
  have hts := hC.1.2.2.2.2
  have hl : lv_has ls 2 [(0, .ref (G.2.1 96)), (1, .int a1)] := hl
  rw [m_X12_no] at hf
  refine lv_aload_n hx hb dX12_no_0 rfl (lv_at hl 0 rfl) ?_
  refine fm_gr hC hI fd_X12_4 fc_96 fr_96_4 q_801 dX12_no_1 ?_
  refine lv_iload_n hx hb dX12_no_4 rfl (lv_at hl 1 rfl) ?_
  refine lv_dup2_11 hx hb dX12_no_5 rfl rfl ?_
  obtain ⟨hg1, hf⟩ := fm_gE hf
  refine fm_iald hC hI fc_100 fl_100 hg1 dX12_no_6 ?_
  refine lv_iconst (v := (1 : Int32)) hx hb dX12_no_7 (by decide) ?_
  refine lv_iadd hx hb dX12_no_8 ?_
  obtain ⟨hg2, hf⟩ := fm_gE hf
  obtain ⟨σ3, e4, hf⟩ := fm_letE hf
  refine fm_iast hC hI fc_100 fl_100 hg2 e4 dX12_no_9 (fun H locs hI => ?_)
  refine lv_ldc (v := (-1000000001 : Int32)) hx hb hown (hts _ q_870) dX12_no_10 ?_
  refine lv_iload_n hx hb dX12_no_12 rfl (lv_at hl 1 rfl) ?_
  refine lv_isub hx hb dX12_no_13 ?_
  exact fm_ri hC hI hr hlk hf dX12_no_14
set_option maxHeartbeats 4000000 in
set_option maxRecDepth 100000 in
theorem c_X12_in1 {l : Launch} {G : fm_G} (hJ : fm_J G) {a0 : Int32} {a1 : Int32} {a2 : Int32} {σ : fm_M} {o : Int32 × fm_M}  (hf : m_X12_in1 a0 a1 a2 σ = some o) : Met l yX12_in1 (fm_w yX12_in1 cX12_in1 3 (some .boolean)) { frames := 0, cells := 0, slots := 0, locals := 0 } (va_Pc [.int a0, .int a1, .int a2] (fm_st G σ)) (fm_Qi G o) 0 0 (fm_A G) := by
  refine fm_mth (own := RX12) hJ rfl (by decide +kernel) (Nat.le_of_ble_eq_true rfl) ?_
  intro p e s m below meth c ls hC hr hlk hI hl
  have hx := hC.1.1
  have hb := hC.1.2.1
  have hown := hC.1.2.2.2.1
  have hts := hC.1.2.2.2.2
  have hl : lv_has ls 3 [(0, .int a0), (1, .int a1), (2, .int a2)] := hl
  rw [m_X12_in1] at hf
  refine lv_iload_n hx hb dX12_in1_0 rfl (lv_at hl 0 rfl) ?_
  refine lv_iload_n hx hb dX12_in1_1 rfl (lv_at hl 1 rfl) ?_
  refine lv_icmp_lt (tgt := 14) hx hb dX12_in1_2 (by decide) (fun hc => ?_) (fun hc => ?_)
  · have hf := fm_pT hf hc
    refine lv_iconst (v := (0 : Int32)) hx hb dX12_in1_14 (by decide) ?_
    exact fm_rz hC hI hr hlk (by decide) hf dX12_in1_15
  · have hf := fm_pF hf hc
    refine lv_iload_n hx hb dX12_in1_5 rfl (lv_at hl 0 rfl) ?_
    refine lv_iload_n hx hb dX12_in1_6 rfl (lv_at hl 2 rfl) ?_
    refine lv_icmp_gt (tgt := 14) hx hb dX12_in1_7 (by decide) (fun hc => ?_) (fun hc => ?_)
    · have hf := fm_pT hf hc
      refine lv_iconst (v := (0 : Int32)) hx hb dX12_in1_14 (by decide) ?_
      exact fm_rz hC hI hr hlk (by decide) hf dX12_in1_15
    · have hf := fm_pF hf hc
      refine lv_iconst (v := (1 : Int32)) hx hb dX12_in1_10 (by decide) ?_
      refine lv_goto (tgt := 15) hx hb dX12_in1_11 (by decide) ?_
      exact fm_rz hC hI hr hlk (by decide) hf dX12_in1_15
set_option maxHeartbeats 4000000 in
set_option maxRecDepth 100000 in
theorem c_X12_less {l : Launch} {G : fm_G} (hJ : fm_J G) {a0 : Int32} {a1 : Int32} {σ : fm_M} {o : Int32 × fm_M}  (hf : m_X12_less a0 a1 σ = some o) : Met l yX12_less (fm_w yX12_less cX12_less 2 (some .int)) { frames := 0, cells := 0, slots := 0, locals := 0 } (va_Pc [.int a0, .int a1] (fm_st G σ)) (fm_Qi G o) 0 0 (fm_A G) := by
  refine fm_mth (own := RX12) hJ rfl (by decide +kernel) (Nat.le_of_ble_eq_true rfl) ?_
  intro p e s m below meth c ls hC hr hlk hI hl
  have hx := hC.1.1
  have hb := hC.1.2.1
  have hown := hC.1.2.2.2.1
  have hts := hC.1.2.2.2.2
  have hl : lv_has ls 2 [(0, .int a0), (1, .int a1)] := hl
  rw [m_X12_less] at hf
  refine lv_iload_n hx hb dX12_less_0 rfl (lv_at hl 0 rfl) ?_
  refine lv_iload_n hx hb dX12_less_1 rfl (lv_at hl 1 rfl) ?_
  refine lv_icmp_ge (tgt := 9) hx hb dX12_less_2 (by decide) (fun hc => ?_) (fun hc => ?_)
  · have hf := fm_pT hf hc
    refine lv_iload_n hx hb dX12_less_9 rfl (lv_at hl 1 rfl) ?_
    exact fm_ri hC hI hr hlk hf dX12_less_10
  · have hf := fm_pF hf hc
    refine lv_iload_n hx hb dX12_less_5 rfl (lv_at hl 0 rfl) ?_
    refine lv_goto (tgt := 10) hx hb dX12_less_6 (by decide) ?_
    exact fm_ri hC hI hr hlk hf dX12_less_10
set_option maxHeartbeats 4000000 in
set_option maxRecDepth 100000 in
theorem w_X12_bits_4 {p : Program} {l : Launch} {e : Env} {s : State} {m : MethodId} {args : Array Value} {below : List Frame} {meth : Method} {c : Code} {G : fm_G} {o : Int32 × fm_M} {kc : Int32 → Int32 → fm_M → Option (Int32 × fm_M)} (hC : fm_C G p m c cX12_bits 3 s args RX12) (hr : meth.sig.returnType = (some .int)) (hlk : meth.locks = false) (hk : ∀ (z1 : Int32) (z2 : Int32) (σ : fm_M) (H : Heap) (locs : List Loc) (ls : Array Slot), fm_I G σ s H locs → lv_has ls 3 [(1, .int z1), (2, .int z2)] → kc z1 z2 σ = some o → W p l e { frames := 0, cells := 0, slots := 0, locals := 0 } s m args below meth c H locs 0 0 (MQ below (fm_Qi G o) args s 0 0 (fm_A G)) (F0 m 20 ls [])) (n : Nat) : ∀ (z1 : Int32) (z2 : Int32) (σ : fm_M) (H : Heap) (locs : List Loc) (ls : Array Slot), fm_I G σ s H locs → lv_has ls 3 [(1, .int z1), (2, .int z2)] → m_X12_bits_4 kc n z1 z2 σ = some o → W p l e { frames := 0, cells := 0, slots := 0, locals := 0 } s m args below meth c H locs 0 0 (MQ below (fm_Qi G o) args s 0 0 (fm_A G)) (F0 m 4 ls []) := by
  have hx := hC.1.1
  have hb := hC.1.2.1
  have hown := hC.1.2.2.2.1
  have hts := hC.1.2.2.2.2
  induction n with
  | zero =>
    intro z1 z2 σ H locs ls hI hl hf
    cases hf
  | succ n ih =>
    intro z1 z2 σ H locs ls hI hl hf
    rw [m_X12_bits_4] at hf
    refine lv_iload_n hx hb dX12_bits_4 rfl (lv_at hl 1 rfl) ?_
    refine lv_if_eq (tgt := 20) hx hb dX12_bits_5 (by decide) (fun hc => ?_) (fun hc => ?_)
    · have hf := fm_pT hf hc
      exact hk z1 z2 σ _ _ _ hI (lv_sub hl [0, 1] rfl) hf
    · have hf := fm_pF hf hc
      refine lv_iinc (v := (z1 + (1 : Int32))) (lv' := [(1, .int (z1 + (1 : Int32))), (2, .int z2)]) hx hb dX12_bits_8 hl (k := 0) rfl rfl (Nat.le_of_ble_eq_true rfl) rfl (fun ls hl => ?_)
      refine lv_iload_n hx hb dX12_bits_11 rfl (lv_at hl 1 rfl) ?_
      refine lv_iload_n hx hb dX12_bits_12 rfl (lv_at hl 1 rfl) ?_
      refine lv_iconst (v := (1 : Int32)) hx hb dX12_bits_13 (by decide) ?_
      refine lv_isub hx hb dX12_bits_14 ?_
      refine lv_iand hx hb dX12_bits_15 ?_
      refine lv_istore_n (lv' := [(2, .int (z2 &&& (z2 - (1 : Int32)))), (1, .int (z1 + (1 : Int32)))]) hx hb dX12_bits_16 rfl hl (Nat.le_of_ble_eq_true rfl) rfl (fun ls hl => ?_)
      refine lv_goto (tgt := 4) hx hb dX12_bits_17 (by decide) ?_
      exact ih (z1 + (1 : Int32)) (z2 &&& (z2 - (1 : Int32))) σ _ _ _ hI (lv_sub hl [1, 0] rfl) hf
set_option maxHeartbeats 4000000 in
set_option maxRecDepth 100000 in
theorem c_X12_bits {l : Launch} {G : fm_G} (hJ : fm_J G) {a0 : Int32} {σ : fm_M} {o : Int32 × fm_M}  (hf : m_X12_bits a0 σ = some o) : Met l yX12_bits (fm_w yX12_bits cX12_bits 3 (some .int)) { frames := 0, cells := 0, slots := 0, locals := 0 } (va_Pc [.int a0] (fm_st G σ)) (fm_Qi G o) 0 0 (fm_A G) := by
  refine fm_mth (own := RX12) hJ rfl (by decide +kernel) (Nat.le_of_ble_eq_true rfl) ?_
  intro p e s m below meth c ls hC hr hlk hI hl
  have hx := hC.1.1
  have hb := hC.1.2.1
  have hown := hC.1.2.2.2.1
  have hts := hC.1.2.2.2.2
  have hl : lv_has ls 3 [(0, .int a0)] := hl
  rw [m_X12_bits] at hf
  refine lv_iconst (v := (0 : Int32)) hx hb dX12_bits_0 (by decide) ?_
  refine lv_istore_n (lv' := [(1, .int (0 : Int32)), (0, .int a0)]) hx hb dX12_bits_1 rfl hl (Nat.le_of_ble_eq_true rfl) rfl (fun ls hl => ?_)
  refine lv_iload_n hx hb dX12_bits_2 rfl (lv_at hl 1 rfl) ?_
  refine lv_istore_n (lv' := [(2, .int a0), (1, .int (0 : Int32)), (0, .int a0)]) hx hb dX12_bits_3 rfl hl (Nat.le_of_ble_eq_true rfl) rfl (fun ls hl => ?_)
  refine w_X12_bits_4 hC hr hlk (fun x1_y1 x2_y1 σ_y1 H locs ls hI hl hf => ?_) fm_fu (0 : Int32) a0 σ _ _ _ hI (lv_sub hl [1, 0] rfl) hf
  refine lv_iload_n hx hb dX12_bits_20 rfl (lv_at hl 0 rfl) ?_
  exact fm_ri hC hI hr hlk hf dX12_bits_21
set_option maxHeartbeats 4000000 in
set_option maxRecDepth 100000 in
theorem c_X12_isPerson {l : Launch} {G : fm_G} (hJ : fm_J G) {a1 : Int32} {σ : fm_M} {o : Int32 × fm_M}  (hf : m_X12_isPerson a1 σ = some o) : Met l yX12_isPerson (fm_w yX12_isPerson cX12_isPerson 2 (some .boolean)) { frames := 1, cells := 0, slots := 0, locals := 22 } (va_Pc [.ref (G.2.1 96), .int a1] (fm_st G σ)) (fm_Qi G o) 0 0 (fm_A G) := by
  refine fm_mth (own := RX12) hJ rfl (by decide +kernel) (Nat.le_of_ble_eq_true rfl) ?_
  intro p e s m below meth c ls hC hr hlk hI hl
  have hx := hC.1.1
  have hb := hC.1.2.1
  have hown := hC.1.2.2.2.1
  have hts := hC.1.2.2.2.2
  have hl : lv_has ls 2 [(0, .ref (G.2.1 96)), (1, .int a1)] := hl
  rw [m_X12_isPerson] at hf
  refine lv_iload_n hx hb dX12_isPerson_0 rfl (lv_at hl 1 rfl) ?_
  refine lv_iconst (v := (0 : Int32)) hx hb dX12_isPerson_1 (by decide) ?_
  refine lv_aload_n hx hb dX12_isPerson_2 rfl (lv_at hl 0 rfl) ?_
  refine fm_gr hC hI fd_X12_0 fc_96 fr_96_0 q_797 dX12_isPerson_3 ?_
  refine lv_iconst (v := (1 : Int32)) hx hb dX12_isPerson_6 (by decide) ?_
  obtain ⟨hg1, hf⟩ := fm_gE hf
  refine fm_iald hC hI fc_97 fl_97 hg1 dX12_isPerson_7 ?_
  refine lv_iconst (v := (1 : Int32)) hx hb dX12_isPerson_8 (by decide) ?_
  refine lv_isub hx hb dX12_isPerson_9 ?_
  obtain ⟨r2, σ3, hq4, hf⟩ := fm_bE hf
  refine fm_ci hI (fm_runS (As := [.int a1, .int (0 : Int32), .int ((σ.1 97 (1 : Int32).toNatClampNeg) - (1 : Int32))]) (rest := []) (rm := { frames := 0, cells := 0, slots := 0, locals := 0 }) hC hI (c_X12_in1 hC.2.2 hq4) mS_X12_in1 q_863 ⟨rfl, rfl⟩ ⟨Nat.le_of_ble_eq_true rfl, Nat.le_of_ble_eq_true rfl⟩ rfl hl.1 rfl (Nat.le_of_ble_eq_true rfl) dX12_isPerson_10 ⟨Nat.zero_le _, Nat.zero_le _⟩) (fun H locs hI => ?_)
  obtain ⟨hg5, hf⟩ := fm_gE hf
  exact fm_rz hC hI hr hlk hg5 hf dX12_isPerson_13
set_option maxHeartbeats 4000000 in
set_option maxRecDepth 100000 in
theorem c_X12_isPresent {l : Launch} {G : fm_G} (hJ : fm_J G) {a1 : Int32} {σ : fm_M} {o : Int32 × fm_M}  (hf : m_X12_isPresent a1 σ = some o) : Met l yX12_isPresent (fm_w yX12_isPresent cX12_isPresent 2 (some .boolean)) { frames := 1, cells := 0, slots := 0, locals := 22 } (va_Pc [.ref (G.2.1 96), .int a1] (fm_st G σ)) (fm_Qi G o) 0 0 (fm_A G) := by
  refine fm_mth (own := RX12) hJ rfl (by decide +kernel) (Nat.le_of_ble_eq_true rfl) ?_
  intro p e s m below meth c ls hC hr hlk hI hl
  have hx := hC.1.1
  have hb := hC.1.2.1
  have hown := hC.1.2.2.2.1
  have hts := hC.1.2.2.2.2
  have hl : lv_has ls 2 [(0, .ref (G.2.1 96)), (1, .int a1)] := hl
  rw [m_X12_isPresent] at hf
  refine lv_iload_n hx hb dX12_isPresent_0 rfl (lv_at hl 1 rfl) ?_
  refine lv_iconst (v := (0 : Int32)) hx hb dX12_isPresent_1 (by decide) ?_
  refine lv_aload_n hx hb dX12_isPresent_2 rfl (lv_at hl 0 rfl) ?_
  refine fm_gr hC hI fd_X12_0 fc_96 fr_96_0 q_797 dX12_isPresent_3 ?_
  refine lv_iconst (v := (2 : Int32)) hx hb dX12_isPresent_6 (by decide) ?_
  obtain ⟨hg1, hf⟩ := fm_gE hf
  refine fm_iald hC hI fc_97 fl_97 hg1 dX12_isPresent_7 ?_
  refine lv_iconst (v := (1 : Int32)) hx hb dX12_isPresent_8 (by decide) ?_
  refine lv_isub hx hb dX12_isPresent_9 ?_
  obtain ⟨r2, σ3, hq4, hf⟩ := fm_bE hf
  refine fm_ci hI (fm_runS (As := [.int a1, .int (0 : Int32), .int ((σ.1 97 (2 : Int32).toNatClampNeg) - (1 : Int32))]) (rest := []) (rm := { frames := 0, cells := 0, slots := 0, locals := 0 }) hC hI (c_X12_in1 hC.2.2 hq4) mS_X12_in1 q_863 ⟨rfl, rfl⟩ ⟨Nat.le_of_ble_eq_true rfl, Nat.le_of_ble_eq_true rfl⟩ rfl hl.1 rfl (Nat.le_of_ble_eq_true rfl) dX12_isPresent_10 ⟨Nat.zero_le _, Nat.zero_le _⟩) (fun H locs hI => ?_)
  obtain ⟨hg5, hf⟩ := fm_gE hf
  exact fm_rz hC hI hr hlk hg5 hf dX12_isPresent_13
set_option maxHeartbeats 4000000 in
set_option maxRecDepth 100000 in
theorem c_X12_get {l : Launch} {G : fm_G} (hJ : fm_J G) {a1 : Int32} {a2 : Int32} {σ : fm_M} {o : Int32 × fm_M}  (hf : m_X12_get a1 a2 σ = some o) : Met l yX12_get (fm_w yX12_get cX12_get 3 (some .int)) { frames := 0, cells := 0, slots := 0, locals := 0 } (va_Pc [.ref (G.2.1 96), .int a1, .int a2] (fm_st G σ)) (fm_Qi G o) 0 0 (fm_A G) := by
  refine fm_mth (own := RX12) hJ rfl (by decide +kernel) (Nat.le_of_ble_eq_true rfl) ?_
  intro p e s m below meth c ls hC hr hlk hI hl
  have hx := hC.1.1
  have hb := hC.1.2.1
  have hown := hC.1.2.2.2.1
  have hts := hC.1.2.2.2.2
  have hl : lv_has ls 3 [(0, .ref (G.2.1 96)), (1, .int a1), (2, .int a2)] := hl
  rw [m_X12_get] at hf
  refine lv_aload_n hx hb dX12_get_0 rfl (lv_at hl 0 rfl) ?_
  refine fm_gr hC hI fd_X12_0 fc_96 fr_96_0 q_797 dX12_get_1 ?_
  refine lv_iconst (v := (4 : Int32)) hx hb dX12_get_4 (by decide) ?_
  refine lv_iconst (v := (2 : Int32)) hx hb dX12_get_5 (by decide) ?_
  refine lv_iload_n hx hb dX12_get_6 rfl (lv_at hl 1 rfl) ?_
  refine lv_imul hx hb dX12_get_7 ?_
  refine lv_iadd hx hb dX12_get_8 ?_
  refine lv_iload_n hx hb dX12_get_9 rfl (lv_at hl 2 rfl) ?_
  refine lv_iadd hx hb dX12_get_10 ?_
  obtain ⟨hg1, hf⟩ := fm_gE hf
  refine fm_iald hC hI fc_97 fl_97 hg1 dX12_get_11 ?_
  exact fm_ri hC hI hr hlk hf dX12_get_12
set_option maxHeartbeats 4000000 in
set_option maxRecDepth 100000 in
theorem c_X12_puts {l : Launch} {G : fm_G} (hJ : fm_J G) {a1 : Int32} {a2 : Int32} {a3 : Int32} {σ : fm_M} {o : Unit × fm_M}  (hf : m_X12_puts a1 a2 a3 σ = some o) : Met l yX12_puts (fm_w yX12_puts cX12_puts 4 none) { frames := 0, cells := 0, slots := 0, locals := 0 } (va_Pc [.ref (G.2.1 96), .int a1, .int a2, .int a3] (fm_st G σ)) (fm_Qv G o) 0 0 (fm_A G) := by
  refine fm_mth (own := RX12) hJ rfl (by decide +kernel) (Nat.le_of_ble_eq_true rfl) ?_
  intro p e s m below meth c ls hC hr hlk hI hl
  have hx := hC.1.1
  have hb := hC.1.2.1
  have hown := hC.1.2.2.2.1
  have hts := hC.1.2.2.2.2
  have hl : lv_has ls 4 [(0, .ref (G.2.1 96)), (1, .int a1), (2, .int a2), (3, .int a3)] := hl
  rw [m_X12_puts] at hf
  refine lv_aload_n hx hb dX12_puts_0 rfl (lv_at hl 0 rfl) ?_
  refine fm_gr hC hI fd_X12_0 fc_96 fr_96_0 q_797 dX12_puts_1 ?_
  refine lv_iconst (v := (4 : Int32)) hx hb dX12_puts_4 (by decide) ?_
  refine lv_iconst (v := (2 : Int32)) hx hb dX12_puts_5 (by decide) ?_
  refine lv_iload_n hx hb dX12_puts_6 rfl (lv_at hl 1 rfl) ?_
  refine lv_imul hx hb dX12_puts_7 ?_
  refine lv_iadd hx hb dX12_puts_8 ?_
  refine lv_iload_n hx hb dX12_puts_9 rfl (lv_at hl 2 rfl) ?_
  refine lv_iadd hx hb dX12_puts_10 ?_
  refine lv_iload_n hx hb dX12_puts_11 rfl (lv_at hl 3 rfl) ?_
  obtain ⟨hg1, hf⟩ := fm_gE hf
  obtain ⟨σ2, e3, hf⟩ := fm_letE hf
  refine fm_iast hC hI fc_97 fl_97 hg1 e3 dX12_puts_12 (fun H locs hI => ?_)
  exact fm_rv hC hI hr hlk hf dX12_puts_13
set_option maxHeartbeats 4000000 in
set_option maxRecDepth 100000 in
theorem c_X12_of1 {l : Launch} {G : fm_G} (hJ : fm_J G) {a1 : Int32} {a2 : Int32} {σ : fm_M} {o : Int32 × fm_M}  (hf : m_X12_of1 a1 a2 σ = some o) : Met l yX12_of1 (fm_w yX12_of1 cX12_of1 3 (some .int)) { frames := 0, cells := 0, slots := 0, locals := 0 } (va_Pc [.ref (G.2.1 96), .int a1, .int a2] (fm_st G σ)) (fm_Qi G o) 0 0 (fm_A G) := by
  refine fm_mth (own := RX12) hJ rfl (by decide +kernel) (Nat.le_of_ble_eq_true rfl) ?_
  intro p e s m below meth c ls hC hr hlk hI hl
  have hx := hC.1.1
  have hb := hC.1.2.1
  have hown := hC.1.2.2.2.1
  have hts := hC.1.2.2.2.2
  have hl : lv_has ls 3 [(0, .ref (G.2.1 96)), (1, .int a1), (2, .int a2)] := hl
  rw [m_X12_of1] at hf
  refine lv_aload_n hx hb dX12_of1_0 rfl (lv_at hl 0 rfl) ?_
  refine fm_gr hC hI fd_X12_0 fc_96 fr_96_0 q_797 dX12_of1_1 ?_
  refine lv_bipush (v := (16 : Int32)) hx hb dX12_of1_4 (by decide) ?_
  refine lv_bipush (v := (10 : Int32)) hx hb dX12_of1_6 (by decide) ?_
  refine lv_iload_n hx hb dX12_of1_8 rfl (lv_at hl 1 rfl) ?_
  refine lv_imul hx hb dX12_of1_9 ?_
  refine lv_iadd hx hb dX12_of1_10 ?_
  refine lv_iload_n hx hb dX12_of1_11 rfl (lv_at hl 2 rfl) ?_
  refine lv_iadd hx hb dX12_of1_12 ?_
  obtain ⟨hg1, hf⟩ := fm_gE hf
  refine fm_iald hC hI fc_97 fl_97 hg1 dX12_of1_13 ?_
  exact fm_ri hC hI hr hlk hf dX12_of1_14
set_option maxHeartbeats 4000000 in
set_option maxRecDepth 100000 in
theorem c_X12_lays1 {l : Launch} {G : fm_G} (hJ : fm_J G) {a1 : Int32} {a2 : Int32} {a3 : Int32} {σ : fm_M} {o : Unit × fm_M}  (hf : m_X12_lays1 a1 a2 a3 σ = some o) : Met l yX12_lays1 (fm_w yX12_lays1 cX12_lays1 4 none) { frames := 0, cells := 0, slots := 0, locals := 0 } (va_Pc [.ref (G.2.1 96), .int a1, .int a2, .int a3] (fm_st G σ)) (fm_Qv G o) 0 0 (fm_A G) := by
  refine fm_mth (own := RX12) hJ rfl (by decide +kernel) (Nat.le_of_ble_eq_true rfl) ?_
  intro p e s m below meth c ls hC hr hlk hI hl
  have hx := hC.1.1
  have hb := hC.1.2.1
  have hown := hC.1.2.2.2.1
  have hts := hC.1.2.2.2.2
  have hl : lv_has ls 4 [(0, .ref (G.2.1 96)), (1, .int a1), (2, .int a2), (3, .int a3)] := hl
  rw [m_X12_lays1] at hf
  refine lv_aload_n hx hb dX12_lays1_0 rfl (lv_at hl 0 rfl) ?_
  refine fm_gr hC hI fd_X12_0 fc_96 fr_96_0 q_797 dX12_lays1_1 ?_
  refine lv_bipush (v := (16 : Int32)) hx hb dX12_lays1_4 (by decide) ?_
  refine lv_bipush (v := (10 : Int32)) hx hb dX12_lays1_6 (by decide) ?_
  refine lv_iload_n hx hb dX12_lays1_8 rfl (lv_at hl 1 rfl) ?_
  refine lv_imul hx hb dX12_lays1_9 ?_
  refine lv_iadd hx hb dX12_lays1_10 ?_
  refine lv_iload_n hx hb dX12_lays1_11 rfl (lv_at hl 2 rfl) ?_
  refine lv_iadd hx hb dX12_lays1_12 ?_
  refine lv_iload_n hx hb dX12_lays1_13 rfl (lv_at hl 3 rfl) ?_
  obtain ⟨hg1, hf⟩ := fm_gE hf
  obtain ⟨σ2, e3, hf⟩ := fm_letE hf
  refine fm_iast hC hI fc_97 fl_97 hg1 e3 dX12_lays1_14 (fun H locs hI => ?_)
  exact fm_rv hC hI hr hlk hf dX12_lays1_15
set_option maxHeartbeats 4000000 in
set_option maxRecDepth 100000 in
theorem w_X12_setsAside_2 {p : Program} {l : Launch} {e : Env} {s : State} {m : MethodId} {args : Array Value} {below : List Frame} {meth : Method} {c : Code} {G : fm_G} {o : Unit × fm_M} {kc : Int32 → fm_M → Option (Unit × fm_M)} (hC : fm_C G p m c cX12_setsAside 2 s args RX12) (hr : meth.sig.returnType = none) (hlk : meth.locks = false) (hk : ∀ (z1 : Int32) (σ : fm_M) (H : Heap) (locs : List Loc) (ls : Array Slot), fm_I G σ s H locs → lv_has ls 2 [(0, .ref (G.2.1 96)), (1, .int z1)] → kc z1 σ = some o → W p l e { frames := 0, cells := 0, slots := 0, locals := 0 } s m args below meth c H locs 0 0 (MQ below (fm_Qv G o) args s 0 0 (fm_A G)) (F0 m 26 ls [])) (n : Nat) : ∀ (z1 : Int32) (σ : fm_M) (H : Heap) (locs : List Loc) (ls : Array Slot), fm_I G σ s H locs → lv_has ls 2 [(0, .ref (G.2.1 96)), (1, .int z1)] → m_X12_setsAside_2 kc n z1 σ = some o → W p l e { frames := 0, cells := 0, slots := 0, locals := 0 } s m args below meth c H locs 0 0 (MQ below (fm_Qv G o) args s 0 0 (fm_A G)) (F0 m 2 ls []) := by
  have hx := hC.1.1
  have hb := hC.1.2.1
  have hown := hC.1.2.2.2.1
  have hts := hC.1.2.2.2.2
  induction n with
  | zero =>
    intro z1 σ H locs ls hI hl hf
    cases hf
  | succ n ih =>
    intro z1 σ H locs ls hI hl hf
    rw [m_X12_setsAside_2] at hf
    refine lv_iload_n hx hb dX12_setsAside_2 rfl (lv_at hl 1 rfl) ?_
    refine lv_bipush (v := (96 : Int32)) hx hb dX12_setsAside_3 (by decide) ?_
    refine lv_icmp_ge (tgt := 26) hx hb dX12_setsAside_5 (by decide) (fun hc => ?_) (fun hc => ?_)
    · have hf := fm_pT hf hc
      exact hk z1 σ _ _ _ hI (lv_sub hl [0, 1] rfl) hf
    · have hf := fm_pF hf hc
      refine lv_aload_n hx hb dX12_setsAside_8 rfl (lv_at hl 0 rfl) ?_
      refine fm_gr hC hI fd_X12_2 fc_96 fr_96_2 q_799 dX12_setsAside_9 ?_
      refine lv_iload_n hx hb dX12_setsAside_12 rfl (lv_at hl 1 rfl) ?_
      refine lv_aload_n hx hb dX12_setsAside_13 rfl (lv_at hl 0 rfl) ?_
      refine fm_gr hC hI fd_X12_0 fc_96 fr_96_0 q_797 dX12_setsAside_14 ?_
      refine lv_iload_n hx hb dX12_setsAside_17 rfl (lv_at hl 1 rfl) ?_
      obtain ⟨hg1, hf⟩ := fm_gE hf
      refine fm_iald hC hI fc_97 fl_97 hg1 dX12_setsAside_18 ?_
      obtain ⟨hg2, hf⟩ := fm_gE hf
      obtain ⟨σ3, e4, hf⟩ := fm_letE hf
      refine fm_iast hC hI fc_99 fl_99 hg2 e4 dX12_setsAside_19 (fun H locs hI => ?_)
      refine lv_iinc (v := (z1 + (1 : Int32))) (lv' := [(1, .int (z1 + (1 : Int32))), (0, .ref (G.2.1 96))]) hx hb dX12_setsAside_20 hl (k := 1) rfl rfl (Nat.le_of_ble_eq_true rfl) rfl (fun ls hl => ?_)
      refine lv_goto (tgt := 2) hx hb dX12_setsAside_23 (by decide) ?_
      exact ih (z1 + (1 : Int32)) σ3 _ _ _ hI (lv_sub hl [1, 0] rfl) hf
set_option maxHeartbeats 4000000 in
set_option maxRecDepth 100000 in
theorem c_X12_setsAside {l : Launch} {G : fm_G} (hJ : fm_J G) {σ : fm_M} {o : Unit × fm_M}  (hf : m_X12_setsAside  σ = some o) : Met l yX12_setsAside (fm_w yX12_setsAside cX12_setsAside 2 none) { frames := 0, cells := 0, slots := 0, locals := 0 } (va_Pc [.ref (G.2.1 96)] (fm_st G σ)) (fm_Qv G o) 0 0 (fm_A G) := by
  refine fm_mth (own := RX12) hJ rfl (by decide +kernel) (Nat.le_of_ble_eq_true rfl) ?_
  intro p e s m below meth c ls hC hr hlk hI hl
  have hx := hC.1.1
  have hb := hC.1.2.1
  have hown := hC.1.2.2.2.1
  have hts := hC.1.2.2.2.2
  have hl : lv_has ls 2 [(0, .ref (G.2.1 96))] := hl
  rw [m_X12_setsAside] at hf
  refine lv_iconst (v := (0 : Int32)) hx hb dX12_setsAside_0 (by decide) ?_
  refine lv_istore_n (lv' := [(1, .int (0 : Int32)), (0, .ref (G.2.1 96))]) hx hb dX12_setsAside_1 rfl hl (Nat.le_of_ble_eq_true rfl) rfl (fun ls hl => ?_)
  refine w_X12_setsAside_2 hC hr hlk (fun x1_y5 σ_y5 H locs ls hI hl hf => ?_) fm_fu (0 : Int32) σ _ _ _ hI (lv_sub hl [1, 0] rfl) hf
  exact fm_rv hC hI hr hlk hf dX12_setsAside_26
set_option maxHeartbeats 4000000 in
set_option maxRecDepth 100000 in
theorem w_X12_laysBack_2 {p : Program} {l : Launch} {e : Env} {s : State} {m : MethodId} {args : Array Value} {below : List Frame} {meth : Method} {c : Code} {G : fm_G} {o : Unit × fm_M} {kc : Int32 → fm_M → Option (Unit × fm_M)} (hC : fm_C G p m c cX12_laysBack 2 s args RX12) (hr : meth.sig.returnType = none) (hlk : meth.locks = false) (hk : ∀ (z1 : Int32) (σ : fm_M) (H : Heap) (locs : List Loc) (ls : Array Slot), fm_I G σ s H locs → lv_has ls 2 [(0, .ref (G.2.1 96)), (1, .int z1)] → kc z1 σ = some o → W p l e { frames := 0, cells := 0, slots := 0, locals := 0 } s m args below meth c H locs 0 0 (MQ below (fm_Qv G o) args s 0 0 (fm_A G)) (F0 m 26 ls [])) (n : Nat) : ∀ (z1 : Int32) (σ : fm_M) (H : Heap) (locs : List Loc) (ls : Array Slot), fm_I G σ s H locs → lv_has ls 2 [(0, .ref (G.2.1 96)), (1, .int z1)] → m_X12_laysBack_2 kc n z1 σ = some o → W p l e { frames := 0, cells := 0, slots := 0, locals := 0 } s m args below meth c H locs 0 0 (MQ below (fm_Qv G o) args s 0 0 (fm_A G)) (F0 m 2 ls []) := by
  have hx := hC.1.1
  have hb := hC.1.2.1
  have hown := hC.1.2.2.2.1
  have hts := hC.1.2.2.2.2
  induction n with
  | zero =>
    intro z1 σ H locs ls hI hl hf
    cases hf
  | succ n ih =>
    intro z1 σ H locs ls hI hl hf
    rw [m_X12_laysBack_2] at hf
    refine lv_iload_n hx hb dX12_laysBack_2 rfl (lv_at hl 1 rfl) ?_
    refine lv_bipush (v := (96 : Int32)) hx hb dX12_laysBack_3 (by decide) ?_
    refine lv_icmp_ge (tgt := 26) hx hb dX12_laysBack_5 (by decide) (fun hc => ?_) (fun hc => ?_)
    · have hf := fm_pT hf hc
      exact hk z1 σ _ _ _ hI (lv_sub hl [0, 1] rfl) hf
    · have hf := fm_pF hf hc
      refine lv_aload_n hx hb dX12_laysBack_8 rfl (lv_at hl 0 rfl) ?_
      refine fm_gr hC hI fd_X12_0 fc_96 fr_96_0 q_797 dX12_laysBack_9 ?_
      refine lv_iload_n hx hb dX12_laysBack_12 rfl (lv_at hl 1 rfl) ?_
      refine lv_aload_n hx hb dX12_laysBack_13 rfl (lv_at hl 0 rfl) ?_
      refine fm_gr hC hI fd_X12_2 fc_96 fr_96_2 q_799 dX12_laysBack_14 ?_
      refine lv_iload_n hx hb dX12_laysBack_17 rfl (lv_at hl 1 rfl) ?_
      obtain ⟨hg1, hf⟩ := fm_gE hf
      refine fm_iald hC hI fc_99 fl_99 hg1 dX12_laysBack_18 ?_
      obtain ⟨hg2, hf⟩ := fm_gE hf
      obtain ⟨σ3, e4, hf⟩ := fm_letE hf
      refine fm_iast hC hI fc_97 fl_97 hg2 e4 dX12_laysBack_19 (fun H locs hI => ?_)
      refine lv_iinc (v := (z1 + (1 : Int32))) (lv' := [(1, .int (z1 + (1 : Int32))), (0, .ref (G.2.1 96))]) hx hb dX12_laysBack_20 hl (k := 1) rfl rfl (Nat.le_of_ble_eq_true rfl) rfl (fun ls hl => ?_)
      refine lv_goto (tgt := 2) hx hb dX12_laysBack_23 (by decide) ?_
      exact ih (z1 + (1 : Int32)) σ3 _ _ _ hI (lv_sub hl [1, 0] rfl) hf
set_option maxHeartbeats 4000000 in
set_option maxRecDepth 100000 in
theorem c_X12_laysBack {l : Launch} {G : fm_G} (hJ : fm_J G) {σ : fm_M} {o : Unit × fm_M}  (hf : m_X12_laysBack  σ = some o) : Met l yX12_laysBack (fm_w yX12_laysBack cX12_laysBack 2 none) { frames := 0, cells := 0, slots := 0, locals := 0 } (va_Pc [.ref (G.2.1 96)] (fm_st G σ)) (fm_Qv G o) 0 0 (fm_A G) := by
  refine fm_mth (own := RX12) hJ rfl (by decide +kernel) (Nat.le_of_ble_eq_true rfl) ?_
  intro p e s m below meth c ls hC hr hlk hI hl
  have hx := hC.1.1
  have hb := hC.1.2.1
  have hown := hC.1.2.2.2.1
  have hts := hC.1.2.2.2.2
  have hl : lv_has ls 2 [(0, .ref (G.2.1 96))] := hl
  rw [m_X12_laysBack] at hf
  refine lv_iconst (v := (0 : Int32)) hx hb dX12_laysBack_0 (by decide) ?_
  refine lv_istore_n (lv' := [(1, .int (0 : Int32)), (0, .ref (G.2.1 96))]) hx hb dX12_laysBack_1 rfl hl (Nat.le_of_ble_eq_true rfl) rfl (fun ls hl => ?_)
  refine w_X12_laysBack_2 hC hr hlk (fun x1_y5 σ_y5 H locs ls hI hl hf => ?_) fm_fu (0 : Int32) σ _ _ _ hI (lv_sub hl [1, 0] rfl) hf
  exact fm_rv hC hI hr hlk hf dX12_laysBack_26
set_option maxHeartbeats 4000000 in
set_option maxRecDepth 100000 in
theorem w_X12_addsLayer_7 {p : Program} {l : Launch} {e : Env} {s : State} {m : MethodId} {args : Array Value} {below : List Frame} {meth : Method} {c : Code} {G : fm_G} {o : Unit × fm_M} {kc : Int32 → Int32 → Int32 → fm_M → Option (Unit × fm_M)} (hC : fm_C G p m c cX12_addsLayer 4 s args RX12) (hr : meth.sig.returnType = none) (hlk : meth.locks = false) (hk : ∀ (z1 : Int32) (z2 : Int32) (z3 : Int32) (σ : fm_M) (H : Heap) (locs : List Loc) (ls : Array Slot), fm_I G σ s H locs → lv_has ls 4 [(0, .ref (G.2.1 96)), (1, .int z1), (2, .int z2), (3, .int z3)] → kc z1 z2 z3 σ = some o → W p l e { frames := 1, cells := 0, slots := 0, locals := 23 } s m args below meth c H locs 0 0 (MQ below (fm_Qv G o) args s 0 0 (fm_A G)) (F0 m 35 ls [])) (n : Nat) : ∀ (z1 : Int32) (z2 : Int32) (z3 : Int32) (σ : fm_M) (H : Heap) (locs : List Loc) (ls : Array Slot), fm_I G σ s H locs → lv_has ls 4 [(0, .ref (G.2.1 96)), (1, .int z1), (2, .int z2), (3, .int z3)] → m_X12_addsLayer_7 kc n z1 z2 z3 σ = some o → W p l e { frames := 1, cells := 0, slots := 0, locals := 23 } s m args below meth c H locs 0 0 (MQ below (fm_Qv G o) args s 0 0 (fm_A G)) (F0 m 7 ls []) := by
  have hx := hC.1.1
  have hb := hC.1.2.1
  have hown := hC.1.2.2.2.1
  have hts := hC.1.2.2.2.2
  induction n with
  | zero =>
    intro z1 z2 z3 σ H locs ls hI hl hf
    cases hf
  | succ n ih =>
    intro z1 z2 z3 σ H locs ls hI hl hf
    rw [m_X12_addsLayer_7] at hf
    refine lv_iload_n hx hb dX12_addsLayer_7 rfl (lv_at hl 3 rfl) ?_
    refine lv_if_le (tgt := 35) hx hb dX12_addsLayer_8 (by decide) (fun hc => ?_) (fun hc => ?_)
    · have hf := fm_pT hf hc
      exact hk z1 z2 z3 σ _ _ _ hI (lv_sub hl [0, 1, 2, 3] rfl) hf
    · have hf := fm_pF hf hc
      refine lv_aload_n hx hb dX12_addsLayer_11 rfl (lv_at hl 0 rfl) ?_
      refine lv_iload_n hx hb dX12_addsLayer_12 rfl (lv_at hl 1 rfl) ?_
      refine lv_iconst (v := (4 : Int32)) hx hb dX12_addsLayer_13 (by decide) ?_
      refine lv_iload_n hx hb dX12_addsLayer_14 rfl (lv_at hl 3 rfl) ?_
      refine lv_iadd hx hb dX12_addsLayer_15 ?_
      refine lv_aload_n hx hb dX12_addsLayer_16 rfl (lv_at hl 0 rfl) ?_
      refine lv_iload_n hx hb dX12_addsLayer_17 rfl (lv_at hl 1 rfl) ?_
      refine lv_iconst (v := (4 : Int32)) hx hb dX12_addsLayer_18 (by decide) ?_
      refine lv_iload_n hx hb dX12_addsLayer_19 rfl (lv_at hl 3 rfl) ?_
      refine lv_iadd hx hb dX12_addsLayer_20 ?_
      refine lv_iconst (v := (1 : Int32)) hx hb dX12_addsLayer_21 (by decide) ?_
      refine lv_isub hx hb dX12_addsLayer_22 ?_
      obtain ⟨r4, σ5, hq6, hf⟩ := fm_bE hf
      refine fm_ci hI (fm_runV (As := [.int z1, .int (((4 : Int32) + z3) - (1 : Int32))]) (rest := [.int ((4 : Int32) + z3), .int z1, .ref (G.2.1 96)]) (rm := { frames := 0, cells := 0, slots := 0, locals := 0 }) hC hI (c_X12_of1 hC.2.2 hq6) mV_X12_of1 q_895 ⟨rfl, rfl⟩ ⟨Nat.le_of_ble_eq_true rfl, Nat.le_of_ble_eq_true rfl⟩ fc_96 rfl (by decide) rfl hl.1 rfl (Nat.le_of_ble_eq_true rfl) dX12_addsLayer_23 ⟨Nat.zero_le _, Nat.zero_le _⟩) (fun H locs hI => ?_)
      obtain ⟨_u7, σ8, hq9, hf⟩ := fm_bE hf
      refine fm_cv hI (fm_runV (As := [.int z1, .int ((4 : Int32) + z3), .int r4]) (rest := []) (rm := { frames := 0, cells := 0, slots := 0, locals := 0 }) hC hI (c_X12_lays1 hC.2.2 hq9) mV_X12_lays1 q_946 ⟨rfl, rfl⟩ ⟨Nat.le_of_ble_eq_true rfl, Nat.le_of_ble_eq_true rfl⟩ fc_96 rfl (by decide) rfl hl.1 rfl (Nat.le_of_ble_eq_true rfl) dX12_addsLayer_26 ⟨Nat.zero_le _, Nat.zero_le _⟩) (fun H locs hI => ?_)
      refine lv_iinc (v := (z3 + (-1 : Int32))) (lv' := [(3, .int (z3 + (-1 : Int32))), (0, .ref (G.2.1 96)), (1, .int z1), (2, .int z2)]) hx hb dX12_addsLayer_29 hl (k := 3) rfl rfl (Nat.le_of_ble_eq_true rfl) rfl (fun ls hl => ?_)
      refine lv_goto (tgt := 7) hx hb dX12_addsLayer_32 (by decide) ?_
      exact ih z1 z2 (z3 + (-1 : Int32)) σ8 _ _ _ hI (lv_sub hl [1, 2, 3, 0] rfl) hf
set_option maxHeartbeats 4000000 in
set_option maxRecDepth 100000 in
theorem c_X12_addsLayer {l : Launch} {G : fm_G} (hJ : fm_J G) {a1 : Int32} {a2 : Int32} {σ : fm_M} {o : Unit × fm_M}  (hf : m_X12_addsLayer a1 a2 σ = some o) : Met l yX12_addsLayer (fm_w yX12_addsLayer cX12_addsLayer 4 none) { frames := 1, cells := 0, slots := 0, locals := 23 } (va_Pc [.ref (G.2.1 96), .int a1, .int a2] (fm_st G σ)) (fm_Qv G o) 0 0 (fm_A G) := by
  refine fm_mth (own := RX12) hJ rfl (by decide +kernel) (Nat.le_of_ble_eq_true rfl) ?_
  intro p e s m below meth c ls hC hr hlk hI hl
  have hx := hC.1.1
  have hb := hC.1.2.1
  have hown := hC.1.2.2.2.1
  have hts := hC.1.2.2.2.2
  have hl : lv_has ls 4 [(0, .ref (G.2.1 96)), (1, .int a1), (2, .int a2)] := hl
  rw [m_X12_addsLayer] at hf
  refine lv_aload_n hx hb dX12_addsLayer_0 rfl (lv_at hl 0 rfl) ?_
  refine lv_iload_n hx hb dX12_addsLayer_1 rfl (lv_at hl 1 rfl) ?_
  refine lv_iconst (v := (0 : Int32)) hx hb dX12_addsLayer_2 (by decide) ?_
  obtain ⟨r1, σ2, hq3, hf⟩ := fm_bE hf
  refine fm_ci hI (fm_runV (As := [.int a1, .int (0 : Int32)]) (rest := []) (rm := { frames := 0, cells := 0, slots := 0, locals := 0 }) hC hI (c_X12_of1 hC.2.2 hq3) mV_X12_of1 q_895 ⟨rfl, rfl⟩ ⟨Nat.le_of_ble_eq_true rfl, Nat.le_of_ble_eq_true rfl⟩ fc_96 rfl (by decide) rfl hl.1 rfl (Nat.le_of_ble_eq_true rfl) dX12_addsLayer_3 ⟨Nat.zero_le _, Nat.zero_le _⟩) (fun H locs hI => ?_)
  refine lv_istore_n (lv' := [(3, .int r1), (0, .ref (G.2.1 96)), (1, .int a1), (2, .int a2)]) hx hb dX12_addsLayer_6 rfl hl (Nat.le_of_ble_eq_true rfl) rfl (fun ls hl => ?_)
  refine w_X12_addsLayer_7 hC hr hlk (fun x1_y10 x2_y10 x3_y10 σ_y10 H locs ls hI hl hf => ?_) fm_fu a1 a2 r1 σ2 _ _ _ hI (lv_sub hl [1, 2, 3, 0] rfl) hf
  refine lv_aload_n hx hb dX12_addsLayer_35 rfl (lv_at hl 0 rfl) ?_
  refine lv_iload_n hx hb dX12_addsLayer_36 rfl (lv_at hl 1 rfl) ?_
  refine lv_iconst (v := (4 : Int32)) hx hb dX12_addsLayer_37 (by decide) ?_
  refine lv_iload_n hx hb dX12_addsLayer_38 rfl (lv_at hl 2 rfl) ?_
  obtain ⟨_u11, σ12, hq13, hf⟩ := fm_bE hf
  refine fm_cv hI (fm_runV (As := [.int x1_y10, .int (4 : Int32), .int x2_y10]) (rest := []) (rm := { frames := 0, cells := 0, slots := 0, locals := 0 }) hC hI (c_X12_lays1 hC.2.2 hq13) mV_X12_lays1 q_946 ⟨rfl, rfl⟩ ⟨Nat.le_of_ble_eq_true rfl, Nat.le_of_ble_eq_true rfl⟩ fc_96 rfl (by decide) rfl hl.1 rfl (Nat.le_of_ble_eq_true rfl) dX12_addsLayer_39 ⟨Nat.zero_le _, Nat.zero_le _⟩) (fun H locs hI => ?_)
  refine lv_aload_n hx hb dX12_addsLayer_42 rfl (lv_at hl 0 rfl) ?_
  refine lv_iload_n hx hb dX12_addsLayer_43 rfl (lv_at hl 1 rfl) ?_
  refine lv_iconst (v := (0 : Int32)) hx hb dX12_addsLayer_44 (by decide) ?_
  refine lv_aload_n hx hb dX12_addsLayer_45 rfl (lv_at hl 0 rfl) ?_
  refine lv_iload_n hx hb dX12_addsLayer_46 rfl (lv_at hl 1 rfl) ?_
  refine lv_iconst (v := (0 : Int32)) hx hb dX12_addsLayer_47 (by decide) ?_
  obtain ⟨r14, σ15, hq16, hf⟩ := fm_bE hf
  refine fm_ci hI (fm_runV (As := [.int x1_y10, .int (0 : Int32)]) (rest := [.int (0 : Int32), .int x1_y10, .ref (G.2.1 96)]) (rm := { frames := 0, cells := 0, slots := 0, locals := 0 }) hC hI (c_X12_of1 hC.2.2 hq16) mV_X12_of1 q_895 ⟨rfl, rfl⟩ ⟨Nat.le_of_ble_eq_true rfl, Nat.le_of_ble_eq_true rfl⟩ fc_96 rfl (by decide) rfl hl.1 rfl (Nat.le_of_ble_eq_true rfl) dX12_addsLayer_48 ⟨Nat.zero_le _, Nat.zero_le _⟩) (fun H locs hI => ?_)
  refine lv_iconst (v := (1 : Int32)) hx hb dX12_addsLayer_51 (by decide) ?_
  refine lv_iadd hx hb dX12_addsLayer_52 ?_
  obtain ⟨_u17, σ18, hq19, hf⟩ := fm_bE hf
  refine fm_cv hI (fm_runV (As := [.int x1_y10, .int (0 : Int32), .int (r14 + (1 : Int32))]) (rest := []) (rm := { frames := 0, cells := 0, slots := 0, locals := 0 }) hC hI (c_X12_lays1 hC.2.2 hq19) mV_X12_lays1 q_946 ⟨rfl, rfl⟩ ⟨Nat.le_of_ble_eq_true rfl, Nat.le_of_ble_eq_true rfl⟩ fc_96 rfl (by decide) rfl hl.1 rfl (Nat.le_of_ble_eq_true rfl) dX12_addsLayer_53 ⟨Nat.zero_le _, Nat.zero_le _⟩) (fun H locs hI => ?_)
  exact fm_rv hC hI hr hlk hf dX12_addsLayer_56
set_option maxHeartbeats 4000000 in
set_option maxRecDepth 100000 in
theorem w_X12_takesLayer_23 {p : Program} {l : Launch} {e : Env} {s : State} {m : MethodId} {args : Array Value} {below : List Frame} {meth : Method} {c : Code} {G : fm_G} {o : Int32 × fm_M} {kc : Int32 → Int32 → Int32 → fm_M → Option (Int32 × fm_M)} (hC : fm_C G p m c cX12_takesLayer 4 s args RX12) (hr : meth.sig.returnType = (some .int)) (hlk : meth.locks = false) (hk : ∀ (z1 : Int32) (z2 : Int32) (z3 : Int32) (σ : fm_M) (H : Heap) (locs : List Loc) (ls : Array Slot), fm_I G σ s H locs → lv_has ls 4 [(0, .ref (G.2.1 96)), (1, .int z1), (2, .int z2), (3, .int z3)] → kc z1 z2 z3 σ = some o → W p l e { frames := 1, cells := 0, slots := 0, locals := 23 } s m args below meth c H locs 0 0 (MQ below (fm_Qi G o) args s 0 0 (fm_A G)) (F0 m 57 ls [])) (n : Nat) : ∀ (z1 : Int32) (z2 : Int32) (z3 : Int32) (σ : fm_M) (H : Heap) (locs : List Loc) (ls : Array Slot), fm_I G σ s H locs → lv_has ls 4 [(0, .ref (G.2.1 96)), (1, .int z1), (2, .int z2), (3, .int z3)] → m_X12_takesLayer_23 kc n z1 z2 z3 σ = some o → W p l e { frames := 1, cells := 0, slots := 0, locals := 23 } s m args below meth c H locs 0 0 (MQ below (fm_Qi G o) args s 0 0 (fm_A G)) (F0 m 23 ls []) := by
  have hx := hC.1.1
  have hb := hC.1.2.1
  have hown := hC.1.2.2.2.1
  have hts := hC.1.2.2.2.2
  induction n with
  | zero =>
    intro z1 z2 z3 σ H locs ls hI hl hf
    cases hf
  | succ n ih =>
    intro z1 z2 z3 σ H locs ls hI hl hf
    rw [m_X12_takesLayer_23] at hf
    refine lv_iload_n hx hb dX12_takesLayer_23 rfl (lv_at hl 3 rfl) ?_
    refine lv_aload_n hx hb dX12_takesLayer_24 rfl (lv_at hl 0 rfl) ?_
    refine lv_iload_n hx hb dX12_takesLayer_25 rfl (lv_at hl 1 rfl) ?_
    refine lv_iconst (v := (0 : Int32)) hx hb dX12_takesLayer_26 (by decide) ?_
    obtain ⟨r10, σ11, hq12, hf⟩ := fm_bE hf
    refine fm_ci hI (fm_runV (As := [.int z1, .int (0 : Int32)]) (rest := [.int z3]) (rm := { frames := 0, cells := 0, slots := 0, locals := 0 }) hC hI (c_X12_of1 hC.2.2 hq12) mV_X12_of1 q_895 ⟨rfl, rfl⟩ ⟨Nat.le_of_ble_eq_true rfl, Nat.le_of_ble_eq_true rfl⟩ fc_96 rfl (by decide) rfl hl.1 rfl (Nat.le_of_ble_eq_true rfl) dX12_takesLayer_27 ⟨Nat.zero_le _, Nat.zero_le _⟩) (fun H locs hI => ?_)
    refine lv_icmp_ge (tgt := 57) hx hb dX12_takesLayer_30 (by decide) (fun hc => ?_) (fun hc => ?_)
    · have hf := fm_pT hf hc
      exact hk z1 z2 z3 σ11 _ _ _ hI (lv_sub hl [0, 1, 2, 3] rfl) hf
    · have hf := fm_pF hf hc
      refine lv_aload_n hx hb dX12_takesLayer_33 rfl (lv_at hl 0 rfl) ?_
      refine lv_iload_n hx hb dX12_takesLayer_34 rfl (lv_at hl 1 rfl) ?_
      refine lv_iconst (v := (4 : Int32)) hx hb dX12_takesLayer_35 (by decide) ?_
      refine lv_iload_n hx hb dX12_takesLayer_36 rfl (lv_at hl 3 rfl) ?_
      refine lv_iadd hx hb dX12_takesLayer_37 ?_
      refine lv_aload_n hx hb dX12_takesLayer_38 rfl (lv_at hl 0 rfl) ?_
      refine lv_iload_n hx hb dX12_takesLayer_39 rfl (lv_at hl 1 rfl) ?_
      refine lv_iconst (v := (4 : Int32)) hx hb dX12_takesLayer_40 (by decide) ?_
      refine lv_iload_n hx hb dX12_takesLayer_41 rfl (lv_at hl 3 rfl) ?_
      refine lv_iadd hx hb dX12_takesLayer_42 ?_
      refine lv_iconst (v := (1 : Int32)) hx hb dX12_takesLayer_43 (by decide) ?_
      refine lv_iadd hx hb dX12_takesLayer_44 ?_
      obtain ⟨r13, σ14, hq15, hf⟩ := fm_bE hf
      refine fm_ci hI (fm_runV (As := [.int z1, .int (((4 : Int32) + z3) + (1 : Int32))]) (rest := [.int ((4 : Int32) + z3), .int z1, .ref (G.2.1 96)]) (rm := { frames := 0, cells := 0, slots := 0, locals := 0 }) hC hI (c_X12_of1 hC.2.2 hq15) mV_X12_of1 q_895 ⟨rfl, rfl⟩ ⟨Nat.le_of_ble_eq_true rfl, Nat.le_of_ble_eq_true rfl⟩ fc_96 rfl (by decide) rfl hl.1 rfl (Nat.le_of_ble_eq_true rfl) dX12_takesLayer_45 ⟨Nat.zero_le _, Nat.zero_le _⟩) (fun H locs hI => ?_)
      obtain ⟨_u16, σ17, hq18, hf⟩ := fm_bE hf
      refine fm_cv hI (fm_runV (As := [.int z1, .int ((4 : Int32) + z3), .int r13]) (rest := []) (rm := { frames := 0, cells := 0, slots := 0, locals := 0 }) hC hI (c_X12_lays1 hC.2.2 hq18) mV_X12_lays1 q_946 ⟨rfl, rfl⟩ ⟨Nat.le_of_ble_eq_true rfl, Nat.le_of_ble_eq_true rfl⟩ fc_96 rfl (by decide) rfl hl.1 rfl (Nat.le_of_ble_eq_true rfl) dX12_takesLayer_48 ⟨Nat.zero_le _, Nat.zero_le _⟩) (fun H locs hI => ?_)
      refine lv_iinc (v := (z3 + (1 : Int32))) (lv' := [(3, .int (z3 + (1 : Int32))), (0, .ref (G.2.1 96)), (1, .int z1), (2, .int z2)]) hx hb dX12_takesLayer_51 hl (k := 3) rfl rfl (Nat.le_of_ble_eq_true rfl) rfl (fun ls hl => ?_)
      refine lv_goto (tgt := 23) hx hb dX12_takesLayer_54 (by decide) ?_
      exact ih z1 z2 (z3 + (1 : Int32)) σ17 _ _ _ hI (lv_sub hl [1, 2, 3, 0] rfl) hf
set_option maxHeartbeats 4000000 in
set_option maxRecDepth 100000 in
theorem c_X12_takesLayer {l : Launch} {G : fm_G} (hJ : fm_J G) {a1 : Int32} {σ : fm_M} {o : Int32 × fm_M}  (hf : m_X12_takesLayer a1 σ = some o) : Met l yX12_takesLayer (fm_w yX12_takesLayer cX12_takesLayer 4 (some .int)) { frames := 1, cells := 0, slots := 0, locals := 23 } (va_Pc [.ref (G.2.1 96), .int a1] (fm_st G σ)) (fm_Qi G o) 0 0 (fm_A G) := by
  refine fm_mth (own := RX12) hJ rfl (by decide +kernel) (Nat.le_of_ble_eq_true rfl) ?_
  intro p e s m below meth c ls hC hr hlk hI hl
  have hx := hC.1.1
  have hb := hC.1.2.1
  have hown := hC.1.2.2.2.1
  have hts := hC.1.2.2.2.2
  have hl : lv_has ls 4 [(0, .ref (G.2.1 96)), (1, .int a1)] := hl
  rw [m_X12_takesLayer] at hf
  refine lv_aload_n hx hb dX12_takesLayer_0 rfl (lv_at hl 0 rfl) ?_
  refine lv_iload_n hx hb dX12_takesLayer_1 rfl (lv_at hl 1 rfl) ?_
  refine lv_iconst (v := (4 : Int32)) hx hb dX12_takesLayer_2 (by decide) ?_
  obtain ⟨r1, σ2, hq3, hf⟩ := fm_bE hf
  refine fm_ci hI (fm_runV (As := [.int a1, .int (4 : Int32)]) (rest := []) (rm := { frames := 0, cells := 0, slots := 0, locals := 0 }) hC hI (c_X12_of1 hC.2.2 hq3) mV_X12_of1 q_895 ⟨rfl, rfl⟩ ⟨Nat.le_of_ble_eq_true rfl, Nat.le_of_ble_eq_true rfl⟩ fc_96 rfl (by decide) rfl hl.1 rfl (Nat.le_of_ble_eq_true rfl) dX12_takesLayer_3 ⟨Nat.zero_le _, Nat.zero_le _⟩) (fun H locs hI => ?_)
  refine lv_istore_n (lv' := [(2, .int r1), (0, .ref (G.2.1 96)), (1, .int a1)]) hx hb dX12_takesLayer_6 rfl hl (Nat.le_of_ble_eq_true rfl) rfl (fun ls hl => ?_)
  refine lv_aload_n hx hb dX12_takesLayer_7 rfl (lv_at hl 1 rfl) ?_
  refine lv_iload_n hx hb dX12_takesLayer_8 rfl (lv_at hl 2 rfl) ?_
  refine lv_iconst (v := (0 : Int32)) hx hb dX12_takesLayer_9 (by decide) ?_
  refine lv_aload_n hx hb dX12_takesLayer_10 rfl (lv_at hl 1 rfl) ?_
  refine lv_iload_n hx hb dX12_takesLayer_11 rfl (lv_at hl 2 rfl) ?_
  refine lv_iconst (v := (0 : Int32)) hx hb dX12_takesLayer_12 (by decide) ?_
  obtain ⟨r4, σ5, hq6, hf⟩ := fm_bE hf
  refine fm_ci hI (fm_runV (As := [.int a1, .int (0 : Int32)]) (rest := [.int (0 : Int32), .int a1, .ref (G.2.1 96)]) (rm := { frames := 0, cells := 0, slots := 0, locals := 0 }) hC hI (c_X12_of1 hC.2.2 hq6) mV_X12_of1 q_895 ⟨rfl, rfl⟩ ⟨Nat.le_of_ble_eq_true rfl, Nat.le_of_ble_eq_true rfl⟩ fc_96 rfl (by decide) rfl hl.1 rfl (Nat.le_of_ble_eq_true rfl) dX12_takesLayer_13 ⟨Nat.zero_le _, Nat.zero_le _⟩) (fun H locs hI => ?_)
  refine lv_iconst (v := (1 : Int32)) hx hb dX12_takesLayer_16 (by decide) ?_
  refine lv_isub hx hb dX12_takesLayer_17 ?_
  obtain ⟨_u7, σ8, hq9, hf⟩ := fm_bE hf
  refine fm_cv hI (fm_runV (As := [.int a1, .int (0 : Int32), .int (r4 - (1 : Int32))]) (rest := []) (rm := { frames := 0, cells := 0, slots := 0, locals := 0 }) hC hI (c_X12_lays1 hC.2.2 hq9) mV_X12_lays1 q_946 ⟨rfl, rfl⟩ ⟨Nat.le_of_ble_eq_true rfl, Nat.le_of_ble_eq_true rfl⟩ fc_96 rfl (by decide) rfl hl.1 rfl (Nat.le_of_ble_eq_true rfl) dX12_takesLayer_18 ⟨Nat.zero_le _, Nat.zero_le _⟩) (fun H locs hI => ?_)
  refine lv_iconst (v := (0 : Int32)) hx hb dX12_takesLayer_21 (by decide) ?_
  refine lv_istore_n (lv' := [(3, .int (0 : Int32)), (2, .int r1), (0, .ref (G.2.1 96)), (1, .int a1)]) hx hb dX12_takesLayer_22 rfl hl (Nat.le_of_ble_eq_true rfl) rfl (fun ls hl => ?_)
  refine w_X12_takesLayer_23 hC hr hlk (fun x1_y19 x2_y19 x3_y19 σ_y19 H locs ls hI hl hf => ?_) fm_fu a1 r1 (0 : Int32) σ8 _ _ _ hI (lv_sub hl [2, 3, 1, 0] rfl) hf
  refine lv_iload_n hx hb dX12_takesLayer_57 rfl (lv_at hl 2 rfl) ?_
  exact fm_ri hC hI hr hlk hf dX12_takesLayer_58
set_option maxHeartbeats 4000000 in
set_option maxRecDepth 100000 in
theorem c_X12_opensOf {l : Launch} {G : fm_G} (hJ : fm_J G) {a1 : Int32} {a2 : Int32} {σ : fm_M} {o : Int32 × fm_M}  (hf : m_X12_opensOf a1 a2 σ = some o) : Met l yX12_opensOf (fm_w yX12_opensOf cX12_opensOf 4 (some .int)) { frames := 1, cells := 0, slots := 0, locals := 22 } (va_Pc [.ref (G.2.1 96), .int a1, .int a2] (fm_st G σ)) (fm_Qi G o) 0 0 (fm_A G) := by
  refine fm_mth (own := RX12) hJ rfl (by decide +kernel) (Nat.le_of_ble_eq_true rfl) ?_
  intro p e s m below meth c ls hC hr hlk hI hl
  have hx := hC.1.1
  have hb := hC.1.2.1
  have hown := hC.1.2.2.2.1
  have hts := hC.1.2.2.2.2
  have hl : lv_has ls 4 [(0, .ref (G.2.1 96)), (1, .int a1), (2, .int a2)] := hl
  rw [m_X12_opensOf] at hf
  refine lv_aload_n hx hb dX12_opensOf_0 rfl (lv_at hl 0 rfl) ?_
  refine lv_iload_n hx hb dX12_opensOf_1 rfl (lv_at hl 2 rfl) ?_
  refine lv_iconst (v := (0 : Int32)) hx hb dX12_opensOf_2 (by decide) ?_
  obtain ⟨r1, σ2, hq3, hf⟩ := fm_bE hf
  refine fm_ci hI (fm_runV (As := [.int a2, .int (0 : Int32)]) (rest := []) (rm := { frames := 0, cells := 0, slots := 0, locals := 0 }) hC hI (c_X12_of1 hC.2.2 hq3) mV_X12_of1 q_895 ⟨rfl, rfl⟩ ⟨Nat.le_of_ble_eq_true rfl, Nat.le_of_ble_eq_true rfl⟩ fc_96 rfl (by decide) rfl hl.1 rfl (Nat.le_of_ble_eq_true rfl) dX12_opensOf_3 ⟨Nat.zero_le _, Nat.zero_le _⟩) (fun H locs hI => ?_)
  refine lv_istore_n (lv' := [(3, .int r1), (0, .ref (G.2.1 96)), (1, .int a1), (2, .int a2)]) hx hb dX12_opensOf_6 rfl hl (Nat.le_of_ble_eq_true rfl) rfl (fun ls hl => ?_)
  refine lv_aload_n hx hb dX12_opensOf_7 rfl (lv_at hl 1 rfl) ?_
  refine lv_iload_n hx hb dX12_opensOf_8 rfl (lv_at hl 2 rfl) ?_
  refine lv_iconst (v := (0 : Int32)) hx hb dX12_opensOf_9 (by decide) ?_
  obtain ⟨r4, σ5, hq6, hf⟩ := fm_bE hf
  refine fm_ci hI (fm_runV (As := [.int a1, .int (0 : Int32)]) (rest := []) (rm := { frames := 0, cells := 0, slots := 0, locals := 0 }) hC hI (c_X12_get hC.2.2 hq6) mV_X12_get q_887 ⟨rfl, rfl⟩ ⟨Nat.le_of_ble_eq_true rfl, Nat.le_of_ble_eq_true rfl⟩ fc_96 rfl (by decide) rfl hl.1 rfl (Nat.le_of_ble_eq_true rfl) dX12_opensOf_10 ⟨Nat.zero_le _, Nat.zero_le _⟩) (fun H locs hI => ?_)
  by_cases hc7 : r4 = (1 : Int32)
  · have hf := fm_pT hf hc7
    refine lv_tableIn (off := 35) (tgt := 48) hx hb dX12_opensOf_13 (by rw [hc7]; decide) (by rw [hc7]; decide) (by rw [hc7]; decide) (by decide) ?_
    refine lv_iconst (v := (0 : Int32)) hx hb dX12_opensOf_48 (by decide) ?_
    exact fm_ri hC hI hr hlk hf dX12_opensOf_49
  · have hf := fm_pF hf hc7
    by_cases hc8 : r4 = (2 : Int32)
    · have hf := fm_pT hf hc8
      refine lv_tableIn (off := 37) (tgt := 50) hx hb dX12_opensOf_13 (by rw [hc8]; decide) (by rw [hc8]; decide) (by rw [hc8]; decide) (by decide) ?_
      refine lv_iconst (v := (2 : Int32)) hx hb dX12_opensOf_50 (by decide) ?_
      refine lv_iload_n hx hb dX12_opensOf_51 rfl (lv_at hl 0 rfl) ?_
      obtain ⟨r9, σ10, hq11, hf⟩ := fm_bE hf
      refine fm_ci hI (fm_runS (As := [.int (2 : Int32), .int r1]) (rest := []) (rm := { frames := 0, cells := 0, slots := 0, locals := 0 }) hC hI (c_X12_less hC.2.2 hq11) mS_X12_less q_911 ⟨rfl, rfl⟩ ⟨Nat.le_of_ble_eq_true rfl, Nat.le_of_ble_eq_true rfl⟩ rfl hl.1 rfl (Nat.le_of_ble_eq_true rfl) dX12_opensOf_52 ⟨Nat.zero_le _, Nat.zero_le _⟩) (fun H locs hI => ?_)
      exact fm_ri hC hI hr hlk hf dX12_opensOf_55
    · have hf := fm_pF hf hc8
      by_cases hc12 : r4 = (3 : Int32)
      · have hf := fm_pT hf hc12
        refine lv_tableIn (off := 43) (tgt := 56) hx hb dX12_opensOf_13 (by rw [hc12]; decide) (by rw [hc12]; decide) (by rw [hc12]; decide) (by decide) ?_
        refine lv_iload_n hx hb dX12_opensOf_56 rfl (lv_at hl 0 rfl) ?_
        refine lv_if_eq (tgt := 70) hx hb dX12_opensOf_57 (by decide) (fun hc => ?_) (fun hc => ?_)
        · have hf := fm_pT hf hc
          refine lv_iconst (v := (0 : Int32)) hx hb dX12_opensOf_70 (by decide) ?_
          refine lv_goto (tgt := 75) hx hb dX12_opensOf_71 (by decide) ?_
          exact fm_ri hC hI hr hlk hf dX12_opensOf_75
        · have hf := fm_pF hf hc
          refine lv_aload_n hx hb dX12_opensOf_60 rfl (lv_at hl 1 rfl) ?_
          refine lv_iload_n hx hb dX12_opensOf_61 rfl (lv_at hl 3 rfl) ?_
          refine lv_iconst (v := (4 : Int32)) hx hb dX12_opensOf_62 (by decide) ?_
          obtain ⟨r13, σ14, hq15, hf⟩ := fm_bE hf
          refine fm_ci hI (fm_runV (As := [.int a2, .int (4 : Int32)]) (rest := []) (rm := { frames := 0, cells := 0, slots := 0, locals := 0 }) hC hI (c_X12_of1 hC.2.2 hq15) mV_X12_of1 q_895 ⟨rfl, rfl⟩ ⟨Nat.le_of_ble_eq_true rfl, Nat.le_of_ble_eq_true rfl⟩ fc_96 rfl (by decide) rfl hl.1 rfl (Nat.le_of_ble_eq_true rfl) dX12_opensOf_63 ⟨Nat.zero_le _, Nat.zero_le _⟩) (fun H locs hI => ?_)
          refine lv_iconst (v := (3 : Int32)) hx hb dX12_opensOf_66 (by decide) ?_
          refine lv_icmp_ne (tgt := 74) hx hb dX12_opensOf_67 (by decide) (fun hc => ?_) (fun hc => ?_)
          · have hf := fm_pF hf hc
            refine lv_iconst (v := (1 : Int32)) hx hb dX12_opensOf_74 (by decide) ?_
            exact fm_ri hC hI hr hlk hf dX12_opensOf_75
          · have hf := fm_pT hf hc
            refine lv_iconst (v := (0 : Int32)) hx hb dX12_opensOf_70 (by decide) ?_
            refine lv_goto (tgt := 75) hx hb dX12_opensOf_71 (by decide) ?_
            exact fm_ri hC hI hr hlk hf dX12_opensOf_75
      · have hf := fm_pF hf hc12
        by_cases hc16 : r4 = (4 : Int32)
        · have hf := fm_pT hf hc16
          refine lv_tableIn (off := 63) (tgt := 76) hx hb dX12_opensOf_13 (by rw [hc16]; decide) (by rw [hc16]; decide) (by rw [hc16]; decide) (by decide) ?_
          refine lv_iload_n hx hb dX12_opensOf_76 rfl (lv_at hl 0 rfl) ?_
          exact fm_ri hC hI hr hlk hf dX12_opensOf_77
        · have hf := fm_pF hf hc16
          by_cases hc17 : r4 = (5 : Int32)
          · have hf := fm_pT hf hc17
            refine lv_tableIn (off := 65) (tgt := 78) hx hb dX12_opensOf_13 (by rw [hc17]; decide) (by rw [hc17]; decide) (by rw [hc17]; decide) (by decide) ?_
            refine lv_aload_n hx hb dX12_opensOf_78 rfl (lv_at hl 1 rfl) ?_
            refine fm_gr hC hI fd_X12_0 fc_96 fr_96_0 q_797 dX12_opensOf_79 ?_
            refine lv_iconst (v := (0 : Int32)) hx hb dX12_opensOf_82 (by decide) ?_
            obtain ⟨hg18, hf⟩ := fm_gE hf
            refine fm_iald hC hI fc_97 fl_97 hg18 dX12_opensOf_83 ?_
            refine lv_iconst (v := (5 : Int32)) hx hb dX12_opensOf_84 (by decide) ?_
            refine lv_irem hx hb dX12_opensOf_85 (by decide) ?_
            refine lv_if_ne (tgt := 97) hx hb dX12_opensOf_86 (by decide) (fun hc => ?_) (fun hc => ?_)
            · have hf := fm_pF hf hc
              refine lv_iconst (v := (0 : Int32)) hx hb dX12_opensOf_97 (by decide) ?_
              exact fm_ri hC hI hr hlk hf dX12_opensOf_98
            · have hf := fm_pT hf hc
              refine lv_iconst (v := (1 : Int32)) hx hb dX12_opensOf_89 (by decide) ?_
              refine lv_iload_n hx hb dX12_opensOf_90 rfl (lv_at hl 0 rfl) ?_
              obtain ⟨r19, σ20, hq21, hf⟩ := fm_bE hf
              refine fm_ci hI (fm_runS (As := [.int (1 : Int32), .int r1]) (rest := []) (rm := { frames := 0, cells := 0, slots := 0, locals := 0 }) hC hI (c_X12_less hC.2.2 hq21) mS_X12_less q_911 ⟨rfl, rfl⟩ ⟨Nat.le_of_ble_eq_true rfl, Nat.le_of_ble_eq_true rfl⟩ rfl hl.1 rfl (Nat.le_of_ble_eq_true rfl) dX12_opensOf_91 ⟨Nat.zero_le _, Nat.zero_le _⟩) (fun H locs hI => ?_)
              refine lv_goto (tgt := 98) hx hb dX12_opensOf_94 (by decide) ?_
              exact fm_ri hC hI hr hlk hf dX12_opensOf_98
          · have hf := fm_pF hf hc17
            have hsw : (r4 : Int32).toInt < 1 ∨ 5 < (r4 : Int32).toInt := by
              have t0 := fm_neI hc7
              rw [show ((1 : Int32)).toInt = 1 from by decide] at t0
              have t1 := fm_neI hc8
              rw [show ((2 : Int32)).toInt = 2 from by decide] at t1
              have t2 := fm_neI hc12
              rw [show ((3 : Int32)).toInt = 3 from by decide] at t2
              have t3 := fm_neI hc16
              rw [show ((4 : Int32)).toInt = 4 from by decide] at t3
              have t4 := fm_neI hc17
              rw [show ((5 : Int32)).toInt = 5 from by decide] at t4
              omega
            refine lv_tableOut (tgt := 99) hx hb dX12_opensOf_13 hsw (by decide) ?_
            refine lv_iconst (v := (1 : Int32)) hx hb dX12_opensOf_99 (by decide) ?_
            refine lv_iload_n hx hb dX12_opensOf_100 rfl (lv_at hl 0 rfl) ?_
            obtain ⟨r22, σ23, hq24, hf⟩ := fm_bE hf
            refine fm_ci hI (fm_runS (As := [.int (1 : Int32), .int r1]) (rest := []) (rm := { frames := 0, cells := 0, slots := 0, locals := 0 }) hC hI (c_X12_less hC.2.2 hq24) mS_X12_less q_911 ⟨rfl, rfl⟩ ⟨Nat.le_of_ble_eq_true rfl, Nat.le_of_ble_eq_true rfl⟩ rfl hl.1 rfl (Nat.le_of_ble_eq_true rfl) dX12_opensOf_101 ⟨Nat.zero_le _, Nat.zero_le _⟩) (fun H locs hI => ?_)
            exact fm_ri hC hI hr hlk hf dX12_opensOf_104
