def mv_enjoys (a : Nat) (x1 : Int32) (σ : fm_M) : Option (Int32 × fm_M) := if a = 2 then m_X4_enjoys a x1 σ else if a = 3 then m_X0_enjoys a x1 σ else if a = 4 then m_X1_enjoys a x1 σ else if a = 5 then m_X6_enjoys a x1 σ else if a = 6 then m_X3_enjoys a x1 σ else m_X2_enjoys a x1 σ
set_option maxHeartbeats 4000000 in
theorem vm_X10_117 {p : Program} {l : Launch} {e : Env} {R : Room} {s : State} {m : MethodId} {args : Array Value} {below : List Frame} {meth : Method} {c : Code} {H : Heap} {locs : List Loc} {cc : ByteArray} {pc nL : Nat} {ls : Array Slot} {rest st0 : List Value} {G : fm_G} {σ : fm_M} {a : Nat} {x1 : Int32} {o : Int32 × fm_M} (hC : fm_C G p m c cc nL s args RX10) (hI : fm_I G σ s H locs) (hm : fm_man a) (hq : mv_enjoys a x1 σ = some o) (hR : 3 ≤ R.frames ∧ 63 ≤ R.locals) (hsz : ls.size = nL) (hst : st0 = [.int x1, .ref (G.2.1 a)] ++ rest) (hW : (rest.map fun v => v.category).sum ≤ 8) (hdg : decode cc pc = .ok (.invokevirtual 117, 3)) : va_Run p l e R s m args below meth c H locs 0 0 0 0 (F0 m pc ls st0) rest (fm_Qi G o (Value.ref (G.2.1 a) :: [.int x1]).toArray) (fm_A G) := by
  obtain ⟨h1, h2⟩ := id hm
  have h3 : a = 2 ∨ a = 3 ∨ a = 4 ∨ a = 5 ∨ a = 6 ∨ a = 7 := by omega
  rcases h3 with rfl | rfl | rfl | rfl | rfl | rfl
  · exact fm_runV (As := [.int x1]) (rest := rest) (rm := { frames := 0, cells := 0, slots := 0, locals := 0 }) hC hI (c_X4_enjoys hC.2.2.1 hm (show m_X4_enjoys 2 x1 σ = some o from hq)) mV_X4_enjoys q_480 ⟨rfl, rfl⟩ ⟨Nat.le_trans (Nat.le_of_ble_eq_true rfl) hR.1, Nat.le_trans (Nat.le_of_ble_eq_true rfl) hR.2⟩ fc_2 rfl (by decide) rfl hsz hst hW hdg ⟨Nat.zero_le _, Nat.zero_le _⟩
  · exact fm_runU (x := yX4_enjoys) (As := [.int x1]) (rest := rest) (rm := { frames := 1, cells := 0, slots := 0, locals := 21 }) hC hI (c_X0_enjoys hC.2.2.1 hm (show m_X0_enjoys 3 x1 σ = some o from hq)) mU_X0_enjoys q_480 ⟨rfl, rfl⟩ ⟨Nat.le_trans (Nat.le_of_ble_eq_true rfl) hR.1, Nat.le_trans (Nat.le_of_ble_eq_true rfl) hR.2⟩ fc_3 rfl (by decide) rfl hsz hst hW hdg ⟨Nat.zero_le _, Nat.zero_le _⟩
  · exact fm_runU (x := yX4_enjoys) (As := [.int x1]) (rest := rest) (rm := { frames := 1, cells := 0, slots := 0, locals := 21 }) hC hI (c_X1_enjoys hC.2.2.1 hm (show m_X1_enjoys 4 x1 σ = some o from hq)) mU_X1_enjoys q_480 ⟨rfl, rfl⟩ ⟨Nat.le_trans (Nat.le_of_ble_eq_true rfl) hR.1, Nat.le_trans (Nat.le_of_ble_eq_true rfl) hR.2⟩ fc_4 rfl (by decide) rfl hsz hst hW hdg ⟨Nat.zero_le _, Nat.zero_le _⟩
  · exact fm_runU (x := yX4_enjoys) (As := [.int x1]) (rest := rest) (rm := { frames := 1, cells := 0, slots := 0, locals := 21 }) hC hI (c_X6_enjoys hC.2.2.1 hm (show m_X6_enjoys 5 x1 σ = some o from hq)) mU_X6_enjoys q_480 ⟨rfl, rfl⟩ ⟨Nat.le_trans (Nat.le_of_ble_eq_true rfl) hR.1, Nat.le_trans (Nat.le_of_ble_eq_true rfl) hR.2⟩ fc_5 rfl (by decide) rfl hsz hst hW hdg ⟨Nat.zero_le _, Nat.zero_le _⟩
  · exact fm_runU (x := yX4_enjoys) (As := [.int x1]) (rest := rest) (rm := { frames := 0, cells := 0, slots := 0, locals := 0 }) hC hI (c_X3_enjoys hC.2.2.1 hm (show m_X3_enjoys 6 x1 σ = some o from hq)) mU_X3_enjoys q_480 ⟨rfl, rfl⟩ ⟨Nat.le_trans (Nat.le_of_ble_eq_true rfl) hR.1, Nat.le_trans (Nat.le_of_ble_eq_true rfl) hR.2⟩ fc_6 rfl (by decide) rfl hsz hst hW hdg ⟨Nat.zero_le _, Nat.zero_le _⟩
  · exact fm_runU (x := yX4_enjoys) (As := [.int x1]) (rest := rest) (rm := { frames := 2, cells := 0, slots := 0, locals := 42 }) hC hI (c_X2_enjoys hC.2.2.1 hm (show m_X2_enjoys 7 x1 σ = some o from hq)) mU_X2_enjoys q_480 ⟨rfl, rfl⟩ ⟨Nat.le_trans (Nat.le_of_ble_eq_true rfl) hR.1, Nat.le_trans (Nat.le_of_ble_eq_true rfl) hR.2⟩ fc_7 rfl (by decide) rfl hsz hst hW hdg ⟨Nat.zero_le _, Nat.zero_le _⟩
def mv_isStruck (a : Nat) (x1 : Int32) (σ : fm_M) : Option (Int32 × fm_M) := if a = 2 then m_X4_isStruck a x1 σ else if a = 3 then m_X0_isStruck a x1 σ else if a = 4 then m_X1_isStruck a x1 σ else if a = 5 then m_X4_isStruck a x1 σ else if a = 6 then m_X3_isStruck a x1 σ else m_X2_isStruck a x1 σ
set_option maxHeartbeats 4000000 in
theorem vm_X10_124 {p : Program} {l : Launch} {e : Env} {R : Room} {s : State} {m : MethodId} {args : Array Value} {below : List Frame} {meth : Method} {c : Code} {H : Heap} {locs : List Loc} {cc : ByteArray} {pc nL : Nat} {ls : Array Slot} {rest st0 : List Value} {G : fm_G} {σ : fm_M} {a : Nat} {x1 : Int32} {o : Int32 × fm_M} (hC : fm_C G p m c cc nL s args RX10) (hI : fm_I G σ s H locs) (hm : fm_man a) (hq : mv_isStruck a x1 σ = some o) (hR : 3 ≤ R.frames ∧ 63 ≤ R.locals) (hsz : ls.size = nL) (hst : st0 = [.int x1, .ref (G.2.1 a)] ++ rest) (hW : (rest.map fun v => v.category).sum ≤ 8) (hdg : decode cc pc = .ok (.invokevirtual 124, 3)) : va_Run p l e R s m args below meth c H locs 0 0 0 0 (F0 m pc ls st0) rest (fm_Qi G o (Value.ref (G.2.1 a) :: [.int x1]).toArray) (fm_A G) := by
  obtain ⟨h1, h2⟩ := id hm
  have h3 : a = 2 ∨ a = 3 ∨ a = 4 ∨ a = 5 ∨ a = 6 ∨ a = 7 := by omega
  rcases h3 with rfl | rfl | rfl | rfl | rfl | rfl
  · exact fm_runV (As := [.int x1]) (rest := rest) (rm := { frames := 0, cells := 0, slots := 0, locals := 0 }) hC hI (c_X4_isStruck hC.2.2.1 hm (show m_X4_isStruck 2 x1 σ = some o from hq)) mV_X4_isStruck q_486 ⟨rfl, rfl⟩ ⟨Nat.le_trans (Nat.le_of_ble_eq_true rfl) hR.1, Nat.le_trans (Nat.le_of_ble_eq_true rfl) hR.2⟩ fc_2 rfl (by decide) rfl hsz hst hW hdg ⟨Nat.zero_le _, Nat.zero_le _⟩
  · exact fm_runU (x := yX4_isStruck) (As := [.int x1]) (rest := rest) (rm := { frames := 0, cells := 0, slots := 0, locals := 0 }) hC hI (c_X0_isStruck hC.2.2.1 hm (show m_X0_isStruck 3 x1 σ = some o from hq)) mU_X0_isStruck q_486 ⟨rfl, rfl⟩ ⟨Nat.le_trans (Nat.le_of_ble_eq_true rfl) hR.1, Nat.le_trans (Nat.le_of_ble_eq_true rfl) hR.2⟩ fc_3 rfl (by decide) rfl hsz hst hW hdg ⟨Nat.zero_le _, Nat.zero_le _⟩
  · exact fm_runU (x := yX4_isStruck) (As := [.int x1]) (rest := rest) (rm := { frames := 1, cells := 0, slots := 0, locals := 21 }) hC hI (c_X1_isStruck hC.2.2.1 hm (show m_X1_isStruck 4 x1 σ = some o from hq)) mU_X1_isStruck q_486 ⟨rfl, rfl⟩ ⟨Nat.le_trans (Nat.le_of_ble_eq_true rfl) hR.1, Nat.le_trans (Nat.le_of_ble_eq_true rfl) hR.2⟩ fc_4 rfl (by decide) rfl hsz hst hW hdg ⟨Nat.zero_le _, Nat.zero_le _⟩
  · exact fm_runU (x := yX4_isStruck) (As := [.int x1]) (rest := rest) (rm := { frames := 0, cells := 0, slots := 0, locals := 0 }) hC hI (c_X4_isStruck hC.2.2.1 hm (show m_X4_isStruck 5 x1 σ = some o from hq)) mU_X6_isStruck q_486 ⟨rfl, rfl⟩ ⟨Nat.le_trans (Nat.le_of_ble_eq_true rfl) hR.1, Nat.le_trans (Nat.le_of_ble_eq_true rfl) hR.2⟩ fc_5 rfl (by decide) rfl hsz hst hW hdg ⟨Nat.zero_le _, Nat.zero_le _⟩
  · exact fm_runU (x := yX4_isStruck) (As := [.int x1]) (rest := rest) (rm := { frames := 2, cells := 0, slots := 0, locals := 42 }) hC hI (c_X3_isStruck hC.2.2.1 hm (show m_X3_isStruck 6 x1 σ = some o from hq)) mU_X3_isStruck q_486 ⟨rfl, rfl⟩ ⟨Nat.le_trans (Nat.le_of_ble_eq_true rfl) hR.1, Nat.le_trans (Nat.le_of_ble_eq_true rfl) hR.2⟩ fc_6 rfl (by decide) rfl hsz hst hW hdg ⟨Nat.zero_le _, Nat.zero_le _⟩
  · exact fm_runU (x := yX4_isStruck) (As := [.int x1]) (rest := rest) (rm := { frames := 1, cells := 0, slots := 0, locals := 21 }) hC hI (c_X2_isStruck hC.2.2.1 hm (show m_X2_isStruck 7 x1 σ = some o from hq)) mU_X2_isStruck q_486 ⟨rfl, rfl⟩ ⟨Nat.le_trans (Nat.le_of_ble_eq_true rfl) hR.1, Nat.le_trans (Nat.le_of_ble_eq_true rfl) hR.2⟩ fc_7 rfl (by decide) rfl hsz hst hW hdg ⟨Nat.zero_le _, Nat.zero_le _⟩
def m_X10_openBy_17 (kc : Nat → Int32 → Nat → Nat → Int32 → Int32 → fm_M → Option (Unit × fm_M)) : Nat → Nat → Int32 → Nat → Nat → Int32 → Int32 → fm_M → Option (Unit × fm_M)
  | 0, _, _, _, _, _, _, _ => none
  | n + 1, z0, z1, z2, z3, z4, z5, σ => if z4 ≤ z5 then (kc z0 z1 z2 z3 z4 z5 σ) else (fm_g (fm_in1 z1 6) (fm_b (m_X7_takeOff z2 σ) fun r9 σ10 => (fm_b (mv_enjoys z3 r9 σ10) fun r12 σ13 => (fm_b (m_X5_pleaseBy (z0 + 2 + z1.toNatClampNeg) r12 σ13) fun _u15 σ16 => (m_X10_openBy_17 kc n z0 z1 z2 z3 z4 (z5 + (1 : Int32)) σ16)))))
def m_X10_openBy (a0 : Nat) (a1 : Int32) (a2 : Nat) (σ : fm_M) : Option (Unit × fm_M) := fm_b (m_X10_mannerOf a0 a1 σ) fun r1 σ2 => (fm_b (m_X10_takesOff a0 a1 a2 σ2) fun r5 σ6 => (m_X10_openBy_17 (fun (x0_y18 : Nat) (x1_y18 : Int32) (x2_y18 : Nat) (x3_y18 : Nat) (x4_y18 : Int32) (x5_y18 : Int32) (σ_y18 : fm_M) => if (σ_y18.1 x2_y18 1) = 0 then (fm_let (fm_sI σ_y18 x2_y18 4 (1 : Int32)) fun σ19 => (fm_g (fm_in1 x1_y18 6) (fm_b (mv_isStruck x3_y18 (σ19.1 x2_y18 2) σ19) fun r22 σ23 => (fm_b (m_X5_pleaseBy (x0_y18 + 2 + x1_y18.toNatClampNeg) r22 σ23) fun _u25 σ26 => (some ((), σ26)))))) else (some ((), σ_y18))) fm_fu a0 a1 a2 r1 r5 (0 : Int32) σ6))
set_option maxHeartbeats 4000000 in
set_option maxRecDepth 100000 in
theorem w_X10_openBy_17 {p : Program} {l : Launch} {e : Env} {s : State} {m : MethodId} {args : Array Value} {below : List Frame} {meth : Method} {c : Code} {G : fm_G} {o : Unit × fm_M} {kc : Nat → Int32 → Nat → Nat → Int32 → Int32 → fm_M → Option (Unit × fm_M)} (hC : fm_C G p m c cX10_openBy 6 s args RX10) (hr : meth.sig.returnType = none) (hlk : meth.locks = false) (hk : ∀ (z0 : Nat) (z1 : Int32) (z2 : Nat) (z3 : Nat) (z4 : Int32) (z5 : Int32) (σ : fm_M) (H : Heap) (locs : List Loc) (ls : Array Slot), fm_ct z0 = 10 → fm_ct z2 = 7 → fm_man z3 → fm_I G σ s H locs → lv_has ls 6 [(0, .ref (G.2.1 z0)), (1, .int z1), (2, .ref (G.2.1 z2)), (3, .ref (G.2.1 z3)), (4, .int z4), (5, .int z5)] → kc z0 z1 z2 z3 z4 z5 σ = some o → W p l e { frames := 3, cells := 0, slots := 0, locals := 69 } s m args below meth c H locs 0 0 (MQ below (fm_Qv G o) args s 0 0 (fm_A G)) (F0 m 47 ls [])) (n : Nat) : ∀ (z0 : Nat) (z1 : Int32) (z2 : Nat) (z3 : Nat) (z4 : Int32) (z5 : Int32) (σ : fm_M) (H : Heap) (locs : List Loc) (ls : Array Slot), fm_ct z0 = 10 → fm_ct z2 = 7 → fm_man z3 → fm_I G σ s H locs → lv_has ls 6 [(0, .ref (G.2.1 z0)), (1, .int z1), (2, .ref (G.2.1 z2)), (3, .ref (G.2.1 z3)), (4, .int z4), (5, .int z5)] → m_X10_openBy_17 kc n z0 z1 z2 z3 z4 z5 σ = some o → W p l e { frames := 3, cells := 0, slots := 0, locals := 69 } s m args below meth c H locs 0 0 (MQ below (fm_Qv G o) args s 0 0 (fm_A G)) (F0 m 17 ls []) := by
  have hx := hC.1.1
  have hb := hC.1.2.1
  have hown := hC.1.2.2.2.1
  have hts := hC.1.2.2.2.2
  induction n with
  | zero =>
    intro z0 z1 z2 z3 z4 z5 σ H locs ls hz0 hz2 hz3 hI hl hf
    cases hf
  | succ n ih =>
    intro z0 z1 z2 z3 z4 z5 σ H locs ls hz0 hz2 hz3 hI hl hf
    rw [m_X10_openBy_17] at hf
    refine lv_iload hx hb dX10_openBy_17 (lv_at hl 5 rfl) ?_
    refine lv_iload hx hb dX10_openBy_19 (lv_at hl 4 rfl) ?_
    refine lv_icmp_ge (tgt := 47) hx hb dX10_openBy_21 (by decide) (fun hc => ?_) (fun hc => ?_)
    · have hf := fm_pT hf hc
      exact hk z0 z1 z2 z3 z4 z5 σ _ _ _ hz0 hz2 hz3 hI (lv_sub hl [0, 1, 2, 3, 4, 5] rfl) hf
    · have hf := fm_pF hf hc
      refine lv_aload_n hx hb dX10_openBy_24 rfl (lv_at hl 0 rfl) ?_
      refine fm_gr hC hI fd_X10_1 hz0 (fm_T1 hz0).2.1 q_132 dX10_openBy_25 ?_
      refine lv_iload_n hx hb dX10_openBy_28 rfl (lv_at hl 1 rfl) ?_
      obtain ⟨hg8, hf⟩ := fm_gE hf
      refine fm_aald (t0 := 4) hC hI (fm_T1 hz0).1 (by decide) (by decide) rfl (fm_T1 hz0).2.2 hg8 (fm_T3 (x := z1) hz0 hg8).2 dX10_openBy_29 ?_
      refine lv_aload_n hx hb dX10_openBy_30 rfl (lv_at hl 3 rfl) ?_
      refine lv_aload_n hx hb dX10_openBy_31 rfl (lv_at hl 2 rfl) ?_
      obtain ⟨r9, σ10, hq11, hf⟩ := fm_bE hf
      refine fm_ci hI (fm_runV (As := []) (rest := [.ref (G.2.1 z3), .ref (G.2.1 (z0 + 2 + z1.toNatClampNeg))]) (rm := { frames := 2, cells := 0, slots := 0, locals := 41 }) hC hI (c_X7_takeOff hC.2.2.1 hz2 hq11) mV_X7_takeOff q_479 ⟨rfl, rfl⟩ ⟨Nat.le_of_ble_eq_true rfl, Nat.le_of_ble_eq_true rfl⟩ hz2 rfl (by decide) rfl hl.1 rfl (Nat.le_of_ble_eq_true rfl) dX10_openBy_32 ⟨Nat.zero_le _, Nat.zero_le _⟩) (fun H locs hI => ?_)
      obtain ⟨r12, σ13, hq14, hf⟩ := fm_bE hf
      refine fm_ci hI (vm_X10_117 (rest := [.ref (G.2.1 (z0 + 2 + z1.toNatClampNeg))]) hC hI hz3 hq14 ⟨Nat.le_of_ble_eq_true rfl, Nat.le_of_ble_eq_true rfl⟩ hl.1 rfl (Nat.le_of_ble_eq_true rfl) dX10_openBy_35) (fun H locs hI => ?_)
      obtain ⟨_u15, σ16, hq17, hf⟩ := fm_bE hf
      refine fm_cv hI (fm_runV (As := [.int r12]) (rest := []) (rm := { frames := 1, cells := 0, slots := 0, locals := 14 }) hC hI (c_X5_pleaseBy hC.2.2.1 (fm_T3 (x := z1) hz0 hg8).1 hq17) mV_X5_pleaseBy q_481 ⟨rfl, rfl⟩ ⟨Nat.le_of_ble_eq_true rfl, Nat.le_of_ble_eq_true rfl⟩ (fm_T3 (x := z1) hz0 hg8).1 rfl (by decide) rfl hl.1 rfl (Nat.le_of_ble_eq_true rfl) dX10_openBy_38 ⟨Nat.zero_le _, Nat.zero_le _⟩) (fun H locs hI => ?_)
      refine lv_iinc (v := (z5 + (1 : Int32))) (lv' := [(5, .int (z5 + (1 : Int32))), (0, .ref (G.2.1 z0)), (1, .int z1), (2, .ref (G.2.1 z2)), (3, .ref (G.2.1 z3)), (4, .int z4)]) hx hb dX10_openBy_41 hl (k := 5) rfl rfl (Nat.le_of_ble_eq_true rfl) rfl (fun ls hl => ?_)
      refine lv_goto (tgt := 17) hx hb dX10_openBy_44 (by decide) ?_
      exact ih z0 z1 z2 z3 z4 (z5 + (1 : Int32)) σ16 _ _ _ hz0 hz2 hz3 hI (lv_sub hl [1, 2, 3, 4, 5, 0] rfl) hf
set_option maxHeartbeats 4000000 in
set_option maxRecDepth 100000 in
theorem c_X10_openBy {l : Launch} {G : fm_G} (hJ : fm_J G) {a0 : Nat} {a1 : Int32} {a2 : Nat} {σ : fm_M} {o : Unit × fm_M} (h0 : fm_ct a0 = 10) (h2 : fm_ct a2 = 7) (hf : m_X10_openBy a0 a1 a2 σ = some o) : Met l yX10_openBy (fm_w yX10_openBy cX10_openBy 6 none) { frames := 3, cells := 0, slots := 0, locals := 69 } (va_Pc [.ref (G.2.1 a0), .int a1, .ref (G.2.1 a2)] (fm_st G σ)) (fm_Qv G o) 0 0 (fm_A G) := by
  refine fm_mth (own := RX10) hJ rfl (by decide +kernel) (Nat.le_of_ble_eq_true rfl) ?_
  intro p e s m below meth c ls hC hr hlk hI hl
  have hx := hC.1.1
  have hb := hC.1.2.1
  have hown := hC.1.2.2.2.1
  have hts := hC.1.2.2.2.2
  have hl : lv_has ls 6 [(0, .ref (G.2.1 a0)), (1, .int a1), (2, .ref (G.2.1 a2))] := hl
  rw [m_X10_openBy] at hf
  refine lv_aload_n hx hb dX10_openBy_0 rfl (lv_at hl 0 rfl) ?_
  refine lv_iload_n hx hb dX10_openBy_1 rfl (lv_at hl 1 rfl) ?_
  obtain ⟨r1, σ2, hq3, hf⟩ := fm_bE hf
  refine fm_cr hI (fm_runV (As := [.int a1]) (rest := []) (rm := { frames := 0, cells := 0, slots := 0, locals := 0 }) hC hI (c_X10_mannerOf hC.2.2.1 h0 hq3) mV_X10_mannerOf q_287 ⟨rfl, rfl⟩ ⟨Nat.le_of_ble_eq_true rfl, Nat.le_of_ble_eq_true rfl⟩ h0 rfl (by decide) rfl hl.1 rfl (Nat.le_of_ble_eq_true rfl) dX10_openBy_2 ⟨Nat.zero_le _, Nat.zero_le _⟩) (fun H locs hI => ?_)
  have hm4 := man_X10_mannerOf hq3
  refine lv_astore_n (lv' := [(3, .ref (G.2.1 r1)), (0, .ref (G.2.1 a0)), (1, .int a1), (2, .ref (G.2.1 a2))]) hx hb dX10_openBy_5 rfl hl (Nat.le_of_ble_eq_true rfl) rfl (fun ls hl => ?_)
  refine lv_aload_n hx hb dX10_openBy_6 rfl (lv_at hl 1 rfl) ?_
  refine lv_iload_n hx hb dX10_openBy_7 rfl (lv_at hl 2 rfl) ?_
  refine lv_aload_n hx hb dX10_openBy_8 rfl (lv_at hl 3 rfl) ?_
  obtain ⟨r5, σ6, hq7, hf⟩ := fm_bE hf
  refine fm_ci hI (fm_runV (As := [.int a1, .ref (G.2.1 a2)]) (rest := []) (rm := { frames := 2, cells := 0, slots := 0, locals := 46 }) hC hI (c_X10_takesOff hC.2.2.1 h0 h2 hq7) mV_X10_takesOff q_478 ⟨rfl, rfl⟩ ⟨Nat.le_of_ble_eq_true rfl, Nat.le_of_ble_eq_true rfl⟩ h0 rfl (by decide) rfl hl.1 rfl (Nat.le_of_ble_eq_true rfl) dX10_openBy_9 ⟨Nat.zero_le _, Nat.zero_le _⟩) (fun H locs hI => ?_)
  refine lv_istore (lv' := [(4, .int r5), (3, .ref (G.2.1 r1)), (0, .ref (G.2.1 a0)), (1, .int a1), (2, .ref (G.2.1 a2))]) hx hb dX10_openBy_12 hl (Nat.le_of_ble_eq_true rfl) rfl (fun ls hl => ?_)
  refine lv_iconst (v := (0 : Int32)) hx hb dX10_openBy_14 (by decide) ?_
  refine lv_istore (lv' := [(5, .int (0 : Int32)), (4, .int r5), (3, .ref (G.2.1 r1)), (0, .ref (G.2.1 a0)), (1, .int a1), (2, .ref (G.2.1 a2))]) hx hb dX10_openBy_15 hl (Nat.le_of_ble_eq_true rfl) rfl (fun ls hl => ?_)
  refine w_X10_openBy_17 hC hr hlk (fun x0_y18 x1_y18 x2_y18 x3_y18 x4_y18 x5_y18 σ_y18 H locs ls hx0_y18 hx2_y18 hx3_y18 hI hl hf => ?_) fm_fu a0 a1 a2 r1 r5 (0 : Int32) σ6 _ _ _ h0 h2 hm4 hI (lv_sub hl [3, 4, 5, 2, 1, 0] rfl) hf
  refine lv_aload_n hx hb dX10_openBy_47 rfl (lv_at hl 2 rfl) ?_
  refine fm_gi hC hI fd_X7_1 hx2_y18 q_109 dX10_openBy_48 ?_
  refine lv_if_ne (tgt := 76) hx hb dX10_openBy_51 (by decide) (fun hc => ?_) (fun hc => ?_)
  · have hf := fm_pF hf hc
    exact fm_rv hC hI hr hlk hf dX10_openBy_76
  · have hf := fm_pT hf hc
    refine lv_aload_n hx hb dX10_openBy_54 rfl (lv_at hl 2 rfl) ?_
    refine lv_iconst (v := (1 : Int32)) hx hb dX10_openBy_55 (by decide) ?_
    obtain ⟨σ19, e20, hf⟩ := fm_letE hf
    refine fm_pi hC hI fp_X7_4 hx2_y18 ⟨rfl, rfl⟩ e20 q_117 dX10_openBy_56 (fun H locs hI => ?_)
    refine lv_aload_n hx hb dX10_openBy_59 rfl (lv_at hl 0 rfl) ?_
    refine fm_gr hC hI fd_X10_1 hx0_y18 (fm_T1 hx0_y18).2.1 q_132 dX10_openBy_60 ?_
    refine lv_iload_n hx hb dX10_openBy_63 rfl (lv_at hl 1 rfl) ?_
    obtain ⟨hg21, hf⟩ := fm_gE hf
    refine fm_aald (t0 := 4) hC hI (fm_T1 hx0_y18).1 (by decide) (by decide) rfl (fm_T1 hx0_y18).2.2 hg21 (fm_T3 (x := x1_y18) hx0_y18 hg21).2 dX10_openBy_64 ?_
    refine lv_aload_n hx hb dX10_openBy_65 rfl (lv_at hl 3 rfl) ?_
    refine lv_aload_n hx hb dX10_openBy_66 rfl (lv_at hl 2 rfl) ?_
    refine fm_gi hC hI fd_X7_2 hx2_y18 q_112 dX10_openBy_67 ?_
    obtain ⟨r22, σ23, hq24, hf⟩ := fm_bE hf
    refine fm_ci hI (vm_X10_124 (rest := [.ref (G.2.1 (x0_y18 + 2 + x1_y18.toNatClampNeg))]) hC hI hx3_y18 hq24 ⟨Nat.le_of_ble_eq_true rfl, Nat.le_of_ble_eq_true rfl⟩ hl.1 rfl (Nat.le_of_ble_eq_true rfl) dX10_openBy_70) (fun H locs hI => ?_)
    obtain ⟨_u25, σ26, hq27, hf⟩ := fm_bE hf
    refine fm_cv hI (fm_runV (As := [.int r22]) (rest := []) (rm := { frames := 1, cells := 0, slots := 0, locals := 14 }) hC hI (c_X5_pleaseBy hC.2.2.1 (fm_T3 (x := x1_y18) hx0_y18 hg21).1 hq27) mV_X5_pleaseBy q_481 ⟨rfl, rfl⟩ ⟨Nat.le_of_ble_eq_true rfl, Nat.le_of_ble_eq_true rfl⟩ (fm_T3 (x := x1_y18) hx0_y18 hg21).1 rfl (by decide) rfl hl.1 rfl (Nat.le_of_ble_eq_true rfl) dX10_openBy_73 ⟨Nat.zero_le _, Nat.zero_le _⟩) (fun H locs hI => ?_)
    exact fm_rv hC hI hr hlk hf dX10_openBy_76
def m_X10_oneDay_4 (kc : Nat → Int32 → Int32 → fm_M → Option (Unit × fm_M)) : Nat → Nat → Int32 → Int32 → fm_M → Option (Unit × fm_M)
  | 0, _, _, _, _ => none
  | n + 1, z0, z1, z2, σ => if (σ.1 z0 5) ≤ z2 then (kc z0 z1 z2 σ) else (fm_g (fm_in1 z2 8) (if (σ.1 (z0 + 9 + 2 * z2.toNatClampNeg) 4) = 0 then (if ((z1 >>> ((σ.1 (z0 + 9 + 2 * z2.toNatClampNeg) 3) &&& 31)) &&& (1 : Int32)) = 0 then (fm_b (m_X10_handsOn z0 (σ.1 (z0 + 9 + 2 * z2.toNatClampNeg) 3) (z0 + 9 + 2 * z2.toNatClampNeg) σ) fun r2 σ3 => (if r2 = 0 then (fm_b (m_X10_openBy z0 (σ.1 (z0 + 9 + 2 * z2.toNatClampNeg) 3) (z0 + 9 + 2 * z2.toNatClampNeg) σ3) fun _u5 σ6 => (m_X10_oneDay_4 kc n z0 (z1 ||| ((1 : Int32) <<< ((σ.1 (z0 + 9 + 2 * z2.toNatClampNeg) 3) &&& 31))) (z2 + (1 : Int32)) σ6)) else (m_X10_oneDay_4 kc n z0 (z1 ||| ((1 : Int32) <<< ((σ.1 (z0 + 9 + 2 * z2.toNatClampNeg) 3) &&& 31))) (z2 + (1 : Int32)) σ3))) else (m_X10_oneDay_4 kc n z0 z1 (z2 + (1 : Int32)) σ)) else (m_X10_oneDay_4 kc n z0 z1 (z2 + (1 : Int32)) σ)))
def m_X10_oneDay (a0 : Nat) (σ : fm_M) : Option (Unit × fm_M) := m_X10_oneDay_4 (fun (x0_y8 : Nat) (x1_y8 : Int32) (x2_y8 : Int32) (σ_y8 : fm_M) => fm_let (fm_sI σ_y8 x0_y8 3 ((σ_y8.1 x0_y8 3) + (1 : Int32))) fun σ9 => (some ((), σ9))) fm_fu a0 (0 : Int32) (0 : Int32) σ
set_option maxHeartbeats 4000000 in
set_option maxRecDepth 100000 in
theorem w_X10_oneDay_4 {p : Program} {l : Launch} {e : Env} {s : State} {m : MethodId} {args : Array Value} {below : List Frame} {meth : Method} {c : Code} {G : fm_G} {o : Unit × fm_M} {kc : Nat → Int32 → Int32 → fm_M → Option (Unit × fm_M)} (hC : fm_C G p m c cX10_oneDay 5 s args RX10) (hr : meth.sig.returnType = none) (hlk : meth.locks = false) (hk : ∀ (z0 : Nat) (z1 : Int32) (z2 : Int32) (σ : fm_M) (H : Heap) (locs : List Loc) (ls : Array Slot), fm_ct z0 = 10 → fm_I G σ s H locs → lv_has ls 5 [(0, .ref (G.2.1 z0)), (1, .int z1), (2, .int z2)] → kc z0 z1 z2 σ = some o → W p l e { frames := 4, cells := 0, slots := 0, locals := 94 } s m args below meth c H locs 0 0 (MQ below (fm_Qv G o) args s 0 0 (fm_A G)) (F0 m 74 ls [])) (n : Nat) : ∀ (z0 : Nat) (z1 : Int32) (z2 : Int32) (σ : fm_M) (H : Heap) (locs : List Loc) (ls : Array Slot), fm_ct z0 = 10 → fm_I G σ s H locs → lv_has ls 5 [(0, .ref (G.2.1 z0)), (1, .int z1), (2, .int z2)] → m_X10_oneDay_4 kc n z0 z1 z2 σ = some o → W p l e { frames := 4, cells := 0, slots := 0, locals := 94 } s m args below meth c H locs 0 0 (MQ below (fm_Qv G o) args s 0 0 (fm_A G)) (F0 m 4 ls []) := by
  have hx := hC.1.1
  have hb := hC.1.2.1
  have hown := hC.1.2.2.2.1
  have hts := hC.1.2.2.2.2
  induction n with
  | zero =>
    intro z0 z1 z2 σ H locs ls hz0 hI hl hf
    cases hf
  | succ n ih =>
    intro z0 z1 z2 σ H locs ls hz0 hI hl hf
    rw [m_X10_oneDay_4] at hf
    refine lv_iload_n hx hb dX10_oneDay_4 rfl (lv_at hl 2 rfl) ?_
    refine lv_aload_n hx hb dX10_oneDay_5 rfl (lv_at hl 0 rfl) ?_
    refine fm_gi hC hI fd_X10_5 hz0 q_142 dX10_oneDay_6 ?_
    refine lv_icmp_ge (tgt := 74) hx hb dX10_oneDay_9 (by decide) (fun hc => ?_) (fun hc => ?_)
    · have hf := fm_pT hf hc
      exact hk z0 z1 z2 σ _ _ _ hz0 hI (lv_sub hl [0, 1, 2] rfl) hf
    · have hf := fm_pF hf hc
      refine lv_aload_n hx hb dX10_oneDay_12 rfl (lv_at hl 0 rfl) ?_
      refine fm_gr hC hI fd_X10_2 hz0 (fm_T2 hz0).2.1 q_134 dX10_oneDay_13 ?_
      refine lv_iload_n hx hb dX10_oneDay_16 rfl (lv_at hl 2 rfl) ?_
      obtain ⟨hg1, hf⟩ := fm_gE hf
      refine fm_aald (t0 := 5) hC hI (fm_T2 hz0).1 (by decide) (by decide) rfl (fm_T2 hz0).2.2 hg1 (fm_T4 (x := z2) hz0 hg1).2 dX10_oneDay_17 ?_
      refine lv_astore_n (lv' := [(3, .ref (G.2.1 (z0 + 9 + 2 * z2.toNatClampNeg))), (0, .ref (G.2.1 z0)), (1, .int z1), (2, .int z2)]) hx hb dX10_oneDay_18 rfl hl (Nat.le_of_ble_eq_true rfl) rfl (fun ls hl => ?_)
      refine lv_aload_n hx hb dX10_oneDay_19 rfl (lv_at hl 0 rfl) ?_
      refine fm_gi hC hI fd_X7_3 (fm_T4 (x := z2) hz0 hg1).1 q_114 dX10_oneDay_20 ?_
      refine lv_istore (lv' := [(4, .int (σ.1 (z0 + 9 + 2 * z2.toNatClampNeg) 3)), (3, .ref (G.2.1 (z0 + 9 + 2 * z2.toNatClampNeg))), (0, .ref (G.2.1 z0)), (1, .int z1), (2, .int z2)]) hx hb dX10_oneDay_23 hl (Nat.le_of_ble_eq_true rfl) rfl (fun ls hl => ?_)
      refine lv_aload_n hx hb dX10_oneDay_25 rfl (lv_at hl 1 rfl) ?_
      refine fm_gi hC hI fd_X7_4 (fm_T4 (x := z2) hz0 hg1).1 q_117 dX10_oneDay_26 ?_
      refine lv_if_ne (tgt := 68) hx hb dX10_oneDay_29 (by decide) (fun hc => ?_) (fun hc => ?_)
      · have hf := fm_pF hf hc
        refine lv_iinc (v := (z2 + (1 : Int32))) (lv' := [(2, .int (z2 + (1 : Int32))), (4, .int (σ.1 (z0 + 9 + 2 * z2.toNatClampNeg) 3)), (3, .ref (G.2.1 (z0 + 9 + 2 * z2.toNatClampNeg))), (0, .ref (G.2.1 z0)), (1, .int z1)]) hx hb dX10_oneDay_68 hl (k := 4) rfl rfl (Nat.le_of_ble_eq_true rfl) rfl (fun ls hl => ?_)
        refine lv_goto (tgt := 4) hx hb dX10_oneDay_71 (by decide) ?_
        exact ih z0 z1 (z2 + (1 : Int32)) σ _ _ _ hz0 hI (lv_sub hl [3, 4, 0] rfl) hf
      · have hf := fm_pT hf hc
        refine lv_iload_n hx hb dX10_oneDay_32 rfl (lv_at hl 3 rfl) ?_
        refine lv_iload hx hb dX10_oneDay_33 (lv_at hl 0 rfl) ?_
        refine lv_ishr hx hb dX10_oneDay_35 ?_
        refine lv_iconst (v := (1 : Int32)) hx hb dX10_oneDay_36 (by decide) ?_
        refine lv_iand hx hb dX10_oneDay_37 ?_
        refine lv_if_eq (tgt := 44) hx hb dX10_oneDay_38 (by decide) (fun hc => ?_) (fun hc => ?_)
        · have hf := fm_pT hf hc
          refine lv_iload_n hx hb dX10_oneDay_44 rfl (lv_at hl 3 rfl) ?_
          refine lv_iconst (v := (1 : Int32)) hx hb dX10_oneDay_45 (by decide) ?_
          refine lv_iload hx hb dX10_oneDay_46 (lv_at hl 0 rfl) ?_
          refine lv_ishl hx hb dX10_oneDay_48 ?_
          refine lv_ior hx hb dX10_oneDay_49 ?_
          refine lv_istore_n (lv' := [(1, .int (z1 ||| ((1 : Int32) <<< ((σ.1 (z0 + 9 + 2 * z2.toNatClampNeg) 3) &&& 31)))), (4, .int (σ.1 (z0 + 9 + 2 * z2.toNatClampNeg) 3)), (3, .ref (G.2.1 (z0 + 9 + 2 * z2.toNatClampNeg))), (0, .ref (G.2.1 z0)), (2, .int z2)]) hx hb dX10_oneDay_50 rfl hl (Nat.le_of_ble_eq_true rfl) rfl (fun ls hl => ?_)
          refine lv_aload_n hx hb dX10_oneDay_51 rfl (lv_at hl 3 rfl) ?_
          refine lv_iload hx hb dX10_oneDay_52 (lv_at hl 1 rfl) ?_
          refine lv_aload_n hx hb dX10_oneDay_54 rfl (lv_at hl 2 rfl) ?_
          obtain ⟨r2, σ3, hq4, hf⟩ := fm_bE hf
          refine fm_ci hI (fm_runV (As := [.int (σ.1 (z0 + 9 + 2 * z2.toNatClampNeg) 3), .ref (G.2.1 (z0 + 9 + 2 * z2.toNatClampNeg))]) (rest := []) (rm := { frames := 2, cells := 0, slots := 0, locals := 44 }) hC hI (c_X10_handsOn hC.2.2.1 hz0 (fm_T4 (x := z2) hz0 hg1).1 hq4) mV_X10_handsOn q_468 ⟨rfl, rfl⟩ ⟨Nat.le_of_ble_eq_true rfl, Nat.le_of_ble_eq_true rfl⟩ hz0 rfl (by decide) rfl hl.1 rfl (Nat.le_of_ble_eq_true rfl) dX10_oneDay_55 ⟨Nat.zero_le _, Nat.zero_le _⟩) (fun H locs hI => ?_)
          refine lv_if_ne (tgt := 68) hx hb dX10_oneDay_58 (by decide) (fun hc => ?_) (fun hc => ?_)
          · have hf := fm_pF hf hc
            refine lv_iinc (v := (z2 + (1 : Int32))) (lv' := [(2, .int (z2 + (1 : Int32))), (1, .int (z1 ||| ((1 : Int32) <<< ((σ.1 (z0 + 9 + 2 * z2.toNatClampNeg) 3) &&& 31)))), (4, .int (σ.1 (z0 + 9 + 2 * z2.toNatClampNeg) 3)), (3, .ref (G.2.1 (z0 + 9 + 2 * z2.toNatClampNeg))), (0, .ref (G.2.1 z0))]) hx hb dX10_oneDay_68 hl (k := 4) rfl rfl (Nat.le_of_ble_eq_true rfl) rfl (fun ls hl => ?_)
            refine lv_goto (tgt := 4) hx hb dX10_oneDay_71 (by decide) ?_
            exact ih z0 (z1 ||| ((1 : Int32) <<< ((σ.1 (z0 + 9 + 2 * z2.toNatClampNeg) 3) &&& 31))) (z2 + (1 : Int32)) σ3 _ _ _ hz0 hI (lv_sub hl [4, 1, 0] rfl) hf
          · have hf := fm_pT hf hc
            refine lv_aload_n hx hb dX10_oneDay_61 rfl (lv_at hl 3 rfl) ?_
            refine lv_iload hx hb dX10_oneDay_62 (lv_at hl 1 rfl) ?_
            refine lv_aload_n hx hb dX10_oneDay_64 rfl (lv_at hl 2 rfl) ?_
            obtain ⟨_u5, σ6, hq7, hf⟩ := fm_bE hf
            refine fm_cv hI (fm_runV (As := [.int (σ.1 (z0 + 9 + 2 * z2.toNatClampNeg) 3), .ref (G.2.1 (z0 + 9 + 2 * z2.toNatClampNeg))]) (rest := []) (rm := { frames := 3, cells := 0, slots := 0, locals := 69 }) hC hI (c_X10_openBy hC.2.2.1 hz0 (fm_T4 (x := z2) hz0 hg1).1 hq7) mV_X10_openBy q_474 ⟨rfl, rfl⟩ ⟨Nat.le_of_ble_eq_true rfl, Nat.le_of_ble_eq_true rfl⟩ hz0 rfl (by decide) rfl hl.1 rfl (Nat.le_of_ble_eq_true rfl) dX10_oneDay_65 ⟨Nat.zero_le _, Nat.zero_le _⟩) (fun H locs hI => ?_)
            refine lv_iinc (v := (z2 + (1 : Int32))) (lv' := [(2, .int (z2 + (1 : Int32))), (1, .int (z1 ||| ((1 : Int32) <<< ((σ.1 (z0 + 9 + 2 * z2.toNatClampNeg) 3) &&& 31)))), (4, .int (σ.1 (z0 + 9 + 2 * z2.toNatClampNeg) 3)), (3, .ref (G.2.1 (z0 + 9 + 2 * z2.toNatClampNeg))), (0, .ref (G.2.1 z0))]) hx hb dX10_oneDay_68 hl (k := 4) rfl rfl (Nat.le_of_ble_eq_true rfl) rfl (fun ls hl => ?_)
            refine lv_goto (tgt := 4) hx hb dX10_oneDay_71 (by decide) ?_
            exact ih z0 (z1 ||| ((1 : Int32) <<< ((σ.1 (z0 + 9 + 2 * z2.toNatClampNeg) 3) &&& 31))) (z2 + (1 : Int32)) σ6 _ _ _ hz0 hI (lv_sub hl [4, 1, 0] rfl) hf
        · have hf := fm_pF hf hc
          refine lv_goto (tgt := 68) hx hb dX10_oneDay_41 (by decide) ?_
          refine lv_iinc (v := (z2 + (1 : Int32))) (lv' := [(2, .int (z2 + (1 : Int32))), (4, .int (σ.1 (z0 + 9 + 2 * z2.toNatClampNeg) 3)), (3, .ref (G.2.1 (z0 + 9 + 2 * z2.toNatClampNeg))), (0, .ref (G.2.1 z0)), (1, .int z1)]) hx hb dX10_oneDay_68 hl (k := 4) rfl rfl (Nat.le_of_ble_eq_true rfl) rfl (fun ls hl => ?_)
          refine lv_goto (tgt := 4) hx hb dX10_oneDay_71 (by decide) ?_
          exact ih z0 z1 (z2 + (1 : Int32)) σ _ _ _ hz0 hI (lv_sub hl [3, 4, 0] rfl) hf
set_option maxHeartbeats 4000000 in
set_option maxRecDepth 100000 in
theorem c_X10_oneDay {l : Launch} {G : fm_G} (hJ : fm_J G) {a0 : Nat} {σ : fm_M} {o : Unit × fm_M} (h0 : fm_ct a0 = 10) (hf : m_X10_oneDay a0 σ = some o) : Met l yX10_oneDay (fm_w yX10_oneDay cX10_oneDay 5 none) { frames := 4, cells := 0, slots := 0, locals := 94 } (va_Pc [.ref (G.2.1 a0)] (fm_st G σ)) (fm_Qv G o) 0 0 (fm_A G) := by
  refine fm_mth (own := RX10) hJ rfl (by decide +kernel) (Nat.le_of_ble_eq_true rfl) ?_
  intro p e s m below meth c ls hC hr hlk hI hl
  have hx := hC.1.1
  have hb := hC.1.2.1
  have hown := hC.1.2.2.2.1
  have hts := hC.1.2.2.2.2
  have hl : lv_has ls 5 [(0, .ref (G.2.1 a0))] := hl
  rw [m_X10_oneDay] at hf
  refine lv_iconst (v := (0 : Int32)) hx hb dX10_oneDay_0 (by decide) ?_
  refine lv_istore_n (lv' := [(1, .int (0 : Int32)), (0, .ref (G.2.1 a0))]) hx hb dX10_oneDay_1 rfl hl (Nat.le_of_ble_eq_true rfl) rfl (fun ls hl => ?_)
  refine lv_iconst (v := (0 : Int32)) hx hb dX10_oneDay_2 (by decide) ?_
  refine lv_istore_n (lv' := [(2, .int (0 : Int32)), (1, .int (0 : Int32)), (0, .ref (G.2.1 a0))]) hx hb dX10_oneDay_3 rfl hl (Nat.le_of_ble_eq_true rfl) rfl (fun ls hl => ?_)
  refine w_X10_oneDay_4 hC hr hlk (fun x0_y8 x1_y8 x2_y8 σ_y8 H locs ls hx0_y8 hI hl hf => ?_) fm_fu a0 (0 : Int32) (0 : Int32) σ _ _ _ h0 hI (lv_sub hl [2, 1, 0] rfl) hf
  refine lv_aload_n hx hb dX10_oneDay_74 rfl (lv_at hl 0 rfl) ?_
  refine lv_dup hx hb dX10_oneDay_75 rfl ?_
  refine fm_gi hC hI fd_X10_3 hx0_y8 q_137 dX10_oneDay_76 ?_
  refine lv_iconst (v := (1 : Int32)) hx hb dX10_oneDay_79 (by decide) ?_
  refine lv_iadd hx hb dX10_oneDay_80 ?_
  obtain ⟨σ9, e10, hf⟩ := fm_letE hf
  refine fm_pi hC hI fp_X10_3 hx0_y8 ⟨rfl, rfl⟩ e10 q_137 dX10_oneDay_81 (fun H locs hI => ?_)
  exact fm_rv hC hI hr hlk hf dX10_oneDay_84
def m_X10_goOn_2 (kc : Nat → Int32 → Int32 → fm_M → Option (Unit × fm_M)) : Nat → Nat → Int32 → Int32 → fm_M → Option (Unit × fm_M)
  | 0, _, _, _, _ => none
  | n + 1, z0, z1, z2, σ => if z1 ≤ z2 then (kc z0 z1 z2 σ) else (fm_b (m_X10_oneDay z0 σ) fun _u1 σ2 => (m_X10_goOn_2 kc n z0 z1 (z2 + (1 : Int32)) σ2))
def m_X10_goOn (a0 : Nat) (a1 : Int32) (σ : fm_M) : Option (Unit × fm_M) := m_X10_goOn_2 (fun (x0_y4 : Nat) (x1_y4 : Int32) (x2_y4 : Int32) (σ_y4 : fm_M) => some ((), σ_y4)) fm_fu a0 a1 (0 : Int32) σ
set_option maxHeartbeats 4000000 in
set_option maxRecDepth 100000 in
theorem w_X10_goOn_2 {p : Program} {l : Launch} {e : Env} {s : State} {m : MethodId} {args : Array Value} {below : List Frame} {meth : Method} {c : Code} {G : fm_G} {o : Unit × fm_M} {kc : Nat → Int32 → Int32 → fm_M → Option (Unit × fm_M)} (hC : fm_C G p m c cX10_goOn 3 s args RX10) (hr : meth.sig.returnType = none) (hlk : meth.locks = false) (hk : ∀ (z0 : Nat) (z1 : Int32) (z2 : Int32) (σ : fm_M) (H : Heap) (locs : List Loc) (ls : Array Slot), fm_ct z0 = 10 → fm_I G σ s H locs → lv_has ls 3 [(0, .ref (G.2.1 z0)), (1, .int z1), (2, .int z2)] → kc z0 z1 z2 σ = some o → W p l e { frames := 5, cells := 0, slots := 0, locals := 118 } s m args below meth c H locs 0 0 (MQ below (fm_Qv G o) args s 0 0 (fm_A G)) (F0 m 17 ls [])) (n : Nat) : ∀ (z0 : Nat) (z1 : Int32) (z2 : Int32) (σ : fm_M) (H : Heap) (locs : List Loc) (ls : Array Slot), fm_ct z0 = 10 → fm_I G σ s H locs → lv_has ls 3 [(0, .ref (G.2.1 z0)), (1, .int z1), (2, .int z2)] → m_X10_goOn_2 kc n z0 z1 z2 σ = some o → W p l e { frames := 5, cells := 0, slots := 0, locals := 118 } s m args below meth c H locs 0 0 (MQ below (fm_Qv G o) args s 0 0 (fm_A G)) (F0 m 2 ls []) := by
  have hx := hC.1.1
  have hb := hC.1.2.1
  have hown := hC.1.2.2.2.1
  have hts := hC.1.2.2.2.2
  induction n with
  | zero =>
    intro z0 z1 z2 σ H locs ls hz0 hI hl hf
    cases hf
  | succ n ih =>
    intro z0 z1 z2 σ H locs ls hz0 hI hl hf
    rw [m_X10_goOn_2] at hf
    refine lv_iload_n hx hb dX10_goOn_2 rfl (lv_at hl 2 rfl) ?_
    refine lv_iload_n hx hb dX10_goOn_3 rfl (lv_at hl 1 rfl) ?_
    refine lv_icmp_ge (tgt := 17) hx hb dX10_goOn_4 (by decide) (fun hc => ?_) (fun hc => ?_)
    · have hf := fm_pT hf hc
      exact hk z0 z1 z2 σ _ _ _ hz0 hI (lv_sub hl [0, 1, 2] rfl) hf
    · have hf := fm_pF hf hc
      refine lv_aload_n hx hb dX10_goOn_7 rfl (lv_at hl 0 rfl) ?_
      obtain ⟨_u1, σ2, hq3, hf⟩ := fm_bE hf
      refine fm_cv hI (fm_runV (As := []) (rest := []) (rm := { frames := 4, cells := 0, slots := 0, locals := 94 }) hC hI (c_X10_oneDay hC.2.2.1 hz0 hq3) mV_X10_oneDay q_464 ⟨rfl, rfl⟩ ⟨Nat.le_of_ble_eq_true rfl, Nat.le_of_ble_eq_true rfl⟩ hz0 rfl (by decide) rfl hl.1 rfl (Nat.le_of_ble_eq_true rfl) dX10_goOn_8 ⟨Nat.zero_le _, Nat.zero_le _⟩) (fun H locs hI => ?_)
      refine lv_iinc (v := (z2 + (1 : Int32))) (lv' := [(2, .int (z2 + (1 : Int32))), (0, .ref (G.2.1 z0)), (1, .int z1)]) hx hb dX10_goOn_11 hl (k := 2) rfl rfl (Nat.le_of_ble_eq_true rfl) rfl (fun ls hl => ?_)
      refine lv_goto (tgt := 2) hx hb dX10_goOn_14 (by decide) ?_
      exact ih z0 z1 (z2 + (1 : Int32)) σ2 _ _ _ hz0 hI (lv_sub hl [1, 2, 0] rfl) hf
set_option maxHeartbeats 4000000 in
set_option maxRecDepth 100000 in
theorem c_X10_goOn {l : Launch} {G : fm_G} (hJ : fm_J G) {a0 : Nat} {a1 : Int32} {σ : fm_M} {o : Unit × fm_M} (h0 : fm_ct a0 = 10) (hf : m_X10_goOn a0 a1 σ = some o) : Met l yX10_goOn (fm_w yX10_goOn cX10_goOn 3 none) { frames := 5, cells := 0, slots := 0, locals := 118 } (va_Pc [.ref (G.2.1 a0), .int a1] (fm_st G σ)) (fm_Qv G o) 0 0 (fm_A G) := by
  refine fm_mth (own := RX10) hJ rfl (by decide +kernel) (Nat.le_of_ble_eq_true rfl) ?_
  intro p e s m below meth c ls hC hr hlk hI hl
  have hx := hC.1.1
  have hb := hC.1.2.1
  have hown := hC.1.2.2.2.1
  have hts := hC.1.2.2.2.2
  have hl : lv_has ls 3 [(0, .ref (G.2.1 a0)), (1, .int a1)] := hl
  rw [m_X10_goOn] at hf
  refine lv_iconst (v := (0 : Int32)) hx hb dX10_goOn_0 (by decide) ?_
  refine lv_istore_n (lv' := [(2, .int (0 : Int32)), (0, .ref (G.2.1 a0)), (1, .int a1)]) hx hb dX10_goOn_1 rfl hl (Nat.le_of_ble_eq_true rfl) rfl (fun ls hl => ?_)
  refine w_X10_goOn_2 hC hr hlk (fun x0_y4 x1_y4 x2_y4 σ_y4 H locs ls hx0_y4 hI hl hf => ?_) fm_fu a0 a1 (0 : Int32) σ _ _ _ h0 hI (lv_sub hl [1, 2, 0] rfl) hf
  exact fm_rv hC hI hr hlk hf dX10_goOn_17
def m_X9_add (a1 : Int32) (σ : fm_M) : Option (Unit × fm_M) := if (120 : Int32) ≤ (σ.1 92 1) then (some ((), σ)) else (fm_g (fm_in1 (σ.1 92 1) 120) (fm_let (fm_sI σ 93 (σ.1 92 1).toNatClampNeg a1) fun σ2 => (fm_let (fm_sI σ2 92 1 ((σ2.1 92 1) + (1 : Int32))) fun σ4 => (some ((), σ4)))))
set_option maxHeartbeats 4000000 in
set_option maxRecDepth 100000 in
theorem c_X9_add {l : Launch} {G : fm_G} (hJ : fm_J G) {a1 : Int32} {σ : fm_M} {o : Unit × fm_M}  (hf : m_X9_add a1 σ = some o) : Met l yX9_add (fm_w yX9_add cX9_add 2 none) { frames := 0, cells := 0, slots := 0, locals := 0 } (va_Pc [.ref (G.2.1 92), .int a1] (fm_st G σ)) (fm_Qv G o) 0 0 (fm_A G) := by
  refine fm_mth (own := RX9) hJ rfl (by decide +kernel) (Nat.le_of_ble_eq_true rfl) ?_
  intro p e s m below meth c ls hC hr hlk hI hl
  have hx := hC.1.1
  have hb := hC.1.2.1
  have hown := hC.1.2.2.2.1
  have hts := hC.1.2.2.2.2
  have hl : lv_has ls 2 [(0, .ref (G.2.1 92)), (1, .int a1)] := hl
  rw [m_X9_add] at hf
  refine lv_aload_n hx hb dX9_add_0 rfl (lv_at hl 0 rfl) ?_
  refine fm_gi hC hI fd_X9_1 fc_92 q_186 dX9_add_1 ?_
  refine lv_bipush (v := (120 : Int32)) hx hb dX9_add_4 (by decide) ?_
  refine lv_icmp_ge (tgt := 29) hx hb dX9_add_6 (by decide) (fun hc => ?_) (fun hc => ?_)
  · have hf := fm_pT hf hc
    exact fm_rv hC hI hr hlk hf dX9_add_29
  · have hf := fm_pF hf hc
    refine lv_aload_n hx hb dX9_add_9 rfl (lv_at hl 0 rfl) ?_
    refine fm_gr hC hI fd_X9_0 fc_92 fr_92_0 q_185 dX9_add_10 ?_
    refine lv_aload_n hx hb dX9_add_13 rfl (lv_at hl 0 rfl) ?_
    refine fm_gi hC hI fd_X9_1 fc_92 q_186 dX9_add_14 ?_
    refine lv_iload_n hx hb dX9_add_17 rfl (lv_at hl 1 rfl) ?_
    obtain ⟨hg1, hf⟩ := fm_gE hf
    obtain ⟨σ2, e3, hf⟩ := fm_letE hf
    refine fm_iast hC hI fc_93 fl_93 hg1 e3 dX9_add_18 (fun H locs hI => ?_)
    refine lv_aload_n hx hb dX9_add_19 rfl (lv_at hl 0 rfl) ?_
    refine lv_dup hx hb dX9_add_20 rfl ?_
    refine fm_gi hC hI fd_X9_1 fc_92 q_186 dX9_add_21 ?_
    refine lv_iconst (v := (1 : Int32)) hx hb dX9_add_24 (by decide) ?_
    refine lv_iadd hx hb dX9_add_25 ?_
    obtain ⟨σ4, e5, hf⟩ := fm_letE hf
    refine fm_pi hC hI fp_X9_1 fc_92 ⟨rfl, rfl⟩ e5 q_186 dX9_add_26 (fun H locs hI => ?_)
    exact fm_rv hC hI hr hlk hf dX9_add_29
def m_X9_isLetter (a0 : Int32) (σ : fm_M) : Option (Int32 × fm_M) := if a0 < (97 : Int32) then (some ((0 : Int32), σ)) else (if (122 : Int32) < a0 then (some ((0 : Int32), σ)) else (some ((1 : Int32), σ)))
set_option maxHeartbeats 4000000 in
set_option maxRecDepth 100000 in
theorem c_X9_isLetter {l : Launch} {G : fm_G} (hJ : fm_J G) {a0 : Int32} {σ : fm_M} {o : Int32 × fm_M}  (hf : m_X9_isLetter a0 σ = some o) : Met l yX9_isLetter (fm_w yX9_isLetter cX9_isLetter 1 (some .boolean)) { frames := 0, cells := 0, slots := 0, locals := 0 } (va_Pc [.int a0] (fm_st G σ)) (fm_Qi G o) 0 0 (fm_A G) := by
  refine fm_mth (own := RX9) hJ rfl (by decide +kernel) (Nat.le_of_ble_eq_true rfl) ?_
  intro p e s m below meth c ls hC hr hlk hI hl
  have hx := hC.1.1
  have hb := hC.1.2.1
  have hown := hC.1.2.2.2.1
  have hts := hC.1.2.2.2.2
  have hl : lv_has ls 1 [(0, .int a0)] := hl
  rw [m_X9_isLetter] at hf
  refine lv_iload_n hx hb dX9_isLetter_0 rfl (lv_at hl 0 rfl) ?_
  refine lv_bipush (v := (97 : Int32)) hx hb dX9_isLetter_1 (by decide) ?_
  refine lv_icmp_lt (tgt := 16) hx hb dX9_isLetter_3 (by decide) (fun hc => ?_) (fun hc => ?_)
  · have hf := fm_pT hf hc
    refine lv_iconst (v := (0 : Int32)) hx hb dX9_isLetter_16 (by decide) ?_
    exact fm_rz hC hI hr hlk (by decide) hf dX9_isLetter_17
  · have hf := fm_pF hf hc
    refine lv_iload_n hx hb dX9_isLetter_6 rfl (lv_at hl 0 rfl) ?_
    refine lv_bipush (v := (122 : Int32)) hx hb dX9_isLetter_7 (by decide) ?_
    refine lv_icmp_gt (tgt := 16) hx hb dX9_isLetter_9 (by decide) (fun hc => ?_) (fun hc => ?_)
    · have hf := fm_pT hf hc
      refine lv_iconst (v := (0 : Int32)) hx hb dX9_isLetter_16 (by decide) ?_
      exact fm_rz hC hI hr hlk (by decide) hf dX9_isLetter_17
    · have hf := fm_pF hf hc
      refine lv_iconst (v := (1 : Int32)) hx hb dX9_isLetter_12 (by decide) ?_
      refine lv_goto (tgt := 17) hx hb dX9_isLetter_13 (by decide) ?_
      exact fm_rz hC hI hr hlk (by decide) hf dX9_isLetter_17
def m_X9_nameOf (a0 : Int32) (σ : fm_M) : Option (Nat × fm_M) := if a0 = (0 : Int32) then (some (0, σ)) else (if a0 = (1 : Int32) then (some (1, σ)) else (if a0 = (2 : Int32) then (some (2, σ)) else (if a0 = (3 : Int32) then (some (3, σ)) else (if a0 = (4 : Int32) then (some (4, σ)) else (if a0 = (5 : Int32) then (some (5, σ)) else (if a0 = (6 : Int32) then (some (6, σ)) else (if a0 = (7 : Int32) then (some (7, σ)) else (if a0 = (8 : Int32) then (some (8, σ)) else (if a0 = (9 : Int32) then (some (9, σ)) else (if a0 = (10 : Int32) then (some (10, σ)) else (some (11, σ))))))))))))
set_option maxHeartbeats 4000000 in
set_option maxRecDepth 100000 in
theorem c_X9_nameOf {l : Launch} {G : fm_G} (hJ : fm_J G) {a0 : Int32} {σ : fm_M} {o : Nat × fm_M}  (hf : m_X9_nameOf a0 σ = some o) : Met l yX9_nameOf (fm_w yX9_nameOf cX9_nameOf 1 (some (.object "java/lang/String"))) { frames := 0, cells := 0, slots := 0, locals := 0 } (va_Pc [.int a0] (fm_st G σ)) (fm_Qt G o) 0 0 (fm_A G) := by
  refine fm_mth (own := RX9) hJ rfl (by decide +kernel) (Nat.le_of_ble_eq_true rfl) ?_
  intro p e s m below meth c ls hC hr hlk hI hl
  have hx := hC.1.1
  have hb := hC.1.2.1
  have hown := hC.1.2.2.2.1
  have hts := hC.1.2.2.2.2
  have hl : lv_has ls 1 [(0, .int a0)] := hl
  rw [m_X9_nameOf] at hf
  refine lv_iload_n hx hb dX9_nameOf_0 rfl (lv_at hl 0 rfl) ?_
  by_cases hc1 : a0 = (0 : Int32)
  · have hf := fm_pT hf hc1
    refine lv_tableIn (off := 59) (tgt := 60) hx hb dX9_nameOf_1 (by rw [hc1]; decide) (by rw [hc1]; decide) (by rw [hc1]; decide) (by decide) ?_
    refine va_ldcS (index := 106) (tx := "man") hx hb hown (show vk_R "WrapGifts$Tape" 106 "man" (G.2.2.2.1 0) s from hC.2.2.2.2.1 0 (by decide)) dX9_nameOf_60 ?_
    exact fm_rt hC hI hr hlk hf dX9_nameOf_62
  · have hf := fm_pF hf hc1
    by_cases hc2 : a0 = (1 : Int32)
    · have hf := fm_pT hf hc2
      refine lv_tableIn (off := 62) (tgt := 63) hx hb dX9_nameOf_1 (by rw [hc2]; decide) (by rw [hc2]; decide) (by rw [hc2]; decide) (by decide) ?_
      refine va_ldcS (index := 108) (tx := "aunt") hx hb hown (show vk_R "WrapGifts$Tape" 108 "aunt" (G.2.2.2.1 1) s from hC.2.2.2.2.1 1 (by decide)) dX9_nameOf_63 ?_
      exact fm_rt hC hI hr hlk hf dX9_nameOf_65
    · have hf := fm_pF hf hc2
      by_cases hc3 : a0 = (2 : Int32)
      · have hf := fm_pT hf hc3
        refine lv_tableIn (off := 65) (tgt := 66) hx hb dX9_nameOf_1 (by rw [hc3]; decide) (by rw [hc3]; decide) (by rw [hc3]; decide) (by decide) ?_
        refine va_ldcS (index := 110) (tx := "child") hx hb hown (show vk_R "WrapGifts$Tape" 110 "child" (G.2.2.2.1 2) s from hC.2.2.2.2.1 2 (by decide)) dX9_nameOf_66 ?_
        exact fm_rt hC hI hr hlk hf dX9_nameOf_68
      · have hf := fm_pF hf hc3
        by_cases hc4 : a0 = (3 : Int32)
        · have hf := fm_pT hf hc4
          refine lv_tableIn (off := 68) (tgt := 69) hx hb dX9_nameOf_1 (by rw [hc4]; decide) (by rw [hc4]; decide) (by rw [hc4]; decide) (by decide) ?_
          refine va_ldcS (index := 112) (tx := "poor") hx hb hown (show vk_R "WrapGifts$Tape" 112 "poor" (G.2.2.2.1 3) s from hC.2.2.2.2.1 3 (by decide)) dX9_nameOf_69 ?_
          exact fm_rt hC hI hr hlk hf dX9_nameOf_71
        · have hf := fm_pF hf hc4
          by_cases hc5 : a0 = (4 : Int32)
          · have hf := fm_pT hf hc5
            refine lv_tableIn (off := 71) (tgt := 72) hx hb dX9_nameOf_1 (by rw [hc5]; decide) (by rw [hc5]; decide) (by rw [hc5]; decide) (by decide) ?_
            refine va_ldcS (index := 114) (tx := "girl") hx hb hown (show vk_R "WrapGifts$Tape" 114 "girl" (G.2.2.2.1 4) s from hC.2.2.2.2.1 4 (by decide)) dX9_nameOf_72 ?_
            exact fm_rt hC hI hr hlk hf dX9_nameOf_74
          · have hf := fm_pF hf hc5
            by_cases hc6 : a0 = (5 : Int32)
            · have hf := fm_pT hf hc6
              refine lv_tableIn (off := 74) (tgt := 75) hx hb dX9_nameOf_1 (by rw [hc6]; decide) (by rw [hc6]; decide) (by rw [hc6]; decide) (by decide) ?_
              refine va_ldcS (index := 116) (tx := "clerk") hx hb hown (show vk_R "WrapGifts$Tape" 116 "clerk" (G.2.2.2.1 5) s from hC.2.2.2.2.1 5 (by decide)) dX9_nameOf_75 ?_
              exact fm_rt hC hI hr hlk hf dX9_nameOf_77
            · have hf := fm_pF hf hc6
              by_cases hc7 : a0 = (6 : Int32)
              · have hf := fm_pT hf hc7
                refine lv_tableIn (off := 77) (tgt := 78) hx hb dX9_nameOf_1 (by rw [hc7]; decide) (by rw [hc7]; decide) (by rw [hc7]; decide) (by decide) ?_
                refine va_ldcS (index := 118) (tx := "news") hx hb hown (show vk_R "WrapGifts$Tape" 118 "news" (G.2.2.2.1 6) s from hC.2.2.2.2.1 6 (by decide)) dX9_nameOf_78 ?_
                exact fm_rt hC hI hr hlk hf dX9_nameOf_80
              · have hf := fm_pF hf hc7
                by_cases hc8 : a0 = (7 : Int32)
                · have hf := fm_pT hf hc8
                  refine lv_tableIn (off := 80) (tgt := 81) hx hb dX9_nameOf_1 (by rw [hc8]; decide) (by rw [hc8]; decide) (by rw [hc8]; decide) (by decide) ?_
                  refine va_ldcS (index := 120) (tx := "brown") hx hb hown (show vk_R "WrapGifts$Tape" 120 "brown" (G.2.2.2.1 7) s from hC.2.2.2.2.1 7 (by decide)) dX9_nameOf_81 ?_
                  exact fm_rt hC hI hr hlk hf dX9_nameOf_83
                · have hf := fm_pF hf hc8
                  by_cases hc9 : a0 = (8 : Int32)
                  · have hf := fm_pT hf hc9
                    refine lv_tableIn (off := 83) (tgt := 84) hx hb dX9_nameOf_1 (by rw [hc9]; decide) (by rw [hc9]; decide) (by rw [hc9]; decide) (by decide) ?_
                    refine va_ldcS (index := 122) (tx := "tissue") hx hb hown (show vk_R "WrapGifts$Tape" 122 "tissue" (G.2.2.2.1 8) s from hC.2.2.2.2.1 8 (by decide)) dX9_nameOf_84 ?_
                    exact fm_rt hC hI hr hlk hf dX9_nameOf_86
                  · have hf := fm_pF hf hc9
                    by_cases hc10 : a0 = (9 : Int32)
                    · have hf := fm_pT hf hc10
                      refine lv_tableIn (off := 86) (tgt := 87) hx hb dX9_nameOf_1 (by rw [hc10]; decide) (by rw [hc10]; decide) (by rw [hc10]; decide) (by decide) ?_
                      refine va_ldcS (index := 124) (tx := "marbled") hx hb hown (show vk_R "WrapGifts$Tape" 124 "marbled" (G.2.2.2.1 9) s from hC.2.2.2.2.1 9 (by decide)) dX9_nameOf_87 ?_
                      exact fm_rt hC hI hr hlk hf dX9_nameOf_89
                    · have hf := fm_pF hf hc10
                      by_cases hc11 : a0 = (10 : Int32)
                      · have hf := fm_pT hf hc11
                        refine lv_tableIn (off := 89) (tgt := 90) hx hb dX9_nameOf_1 (by rw [hc11]; decide) (by rw [hc11]; decide) (by rw [hc11]; decide) (by decide) ?_
                        refine va_ldcS (index := 126) (tx := "present") hx hb hown (show vk_R "WrapGifts$Tape" 126 "present" (G.2.2.2.1 10) s from hC.2.2.2.2.1 10 (by decide)) dX9_nameOf_90 ?_
                        exact fm_rt hC hI hr hlk hf dX9_nameOf_92
                      · have hf := fm_pF hf hc11
                        have hsw : (a0 : Int32).toInt < 0 ∨ 10 < (a0 : Int32).toInt := by
                          have t0 := fm_neI hc1
                          rw [show ((0 : Int32)).toInt = 0 from by decide] at t0
                          have t1 := fm_neI hc2
                          rw [show ((1 : Int32)).toInt = 1 from by decide] at t1
                          have t2 := fm_neI hc3
                          rw [show ((2 : Int32)).toInt = 2 from by decide] at t2
                          have t3 := fm_neI hc4
                          rw [show ((3 : Int32)).toInt = 3 from by decide] at t3
                          have t4 := fm_neI hc5
                          rw [show ((4 : Int32)).toInt = 4 from by decide] at t4
                          have t5 := fm_neI hc6
                          rw [show ((5 : Int32)).toInt = 5 from by decide] at t5
                          have t6 := fm_neI hc7
                          rw [show ((6 : Int32)).toInt = 6 from by decide] at t6
                          have t7 := fm_neI hc8
                          rw [show ((7 : Int32)).toInt = 7 from by decide] at t7
                          have t8 := fm_neI hc9
                          rw [show ((8 : Int32)).toInt = 8 from by decide] at t8
                          have t9 := fm_neI hc10
                          rw [show ((9 : Int32)).toInt = 9 from by decide] at t9
                          have t10 := fm_neI hc11
                          rw [show ((10 : Int32)).toInt = 10 from by decide] at t10
                          omega
                        refine lv_tableOut (tgt := 93) hx hb dX9_nameOf_1 hsw (by decide) ?_
                        refine va_ldcS (index := 128) (tx := "thing") hx hb hown (show vk_R "WrapGifts$Tape" 128 "thing" (G.2.2.2.1 11) s from hC.2.2.2.2.1 11 (by decide)) dX9_nameOf_93 ?_
                        exact fm_rt hC hI hr hlk hf dX9_nameOf_95
theorem txt_X9_nameOf {a0 : Int32} {σ σ' : fm_M} {r : Nat} (h : m_X9_nameOf a0 σ = some (r, σ')) : r < 12 := by
  unfold m_X9_nameOf at h
  repeat' split at h
  all_goals (cases h; decide)
def m_X9_reads_20 (kc : Nat → Int32 → fm_M → Option (Int32 × fm_M)) : Nat → Nat → Int32 → fm_M → Option (Int32 × fm_M)
  | 0, _, _, _ => none
  | n + 1, z1, z2, σ => fm_b (m_J0_length_8abf5 z1 σ) fun r4 σ5 => (if r4 ≤ z2 then (kc z1 z2 σ5) else (fm_g (fm_in1 ((σ5.1 92 2) + z2) 120) (fm_b (m_J0_charAt_5068e z1 z2 σ5) fun r8 σ9 => (if (σ5.1 93 ((σ5.1 92 2) + z2).toNatClampNeg) = r8 then (m_X9_reads_20 kc n z1 (z2 + (1 : Int32)) σ9) else (some ((0 : Int32), σ9))))))
def m_X9_reads (a1 : Nat) (σ : fm_M) : Option (Int32 × fm_M) := fm_b (m_J0_length_8abf5 a1 σ) fun r1 σ2 => (if r1 = ((σ2.1 92 3) - (σ2.1 92 2)) then (m_X9_reads_20 (fun (x1_y11 : Nat) (x2_y11 : Int32) (σ_y11 : fm_M) => some ((1 : Int32), σ_y11)) fm_fu a1 (0 : Int32) σ2) else (some ((0 : Int32), σ2)))
set_option maxHeartbeats 4000000 in
set_option maxRecDepth 100000 in
theorem w_X9_reads_20 {p : Program} {l : Launch} {e : Env} {s : State} {m : MethodId} {args : Array Value} {below : List Frame} {meth : Method} {c : Code} {G : fm_G} {o : Int32 × fm_M} {kc : Nat → Int32 → fm_M → Option (Int32 × fm_M)} (hC : fm_C G p m c cX9_reads 3 s args RX9) (hr : meth.sig.returnType = (some .boolean)) (hlk : meth.locks = false) (hk : ∀ (z1 : Nat) (z2 : Int32) (σ : fm_M) (H : Heap) (locs : List Loc) (ls : Array Slot), z1 < 12 → fm_I G σ s H locs → lv_has ls 3 [(0, .ref (G.2.1 92)), (1, .ref (G.2.2.2.1 z1)), (2, .int z2)] → kc z1 z2 σ = some o → W p l e { frames := 4, cells := 0, slots := 0, locals := 85 } s m args below meth c H locs 0 0 (MQ below (fm_Qi G o) args s 0 0 (fm_A G)) (F0 m 55 ls [])) (n : Nat) : ∀ (z1 : Nat) (z2 : Int32) (σ : fm_M) (H : Heap) (locs : List Loc) (ls : Array Slot), z1 < 12 → fm_I G σ s H locs → lv_has ls 3 [(0, .ref (G.2.1 92)), (1, .ref (G.2.2.2.1 z1)), (2, .int z2)] → m_X9_reads_20 kc n z1 z2 σ = some o → W p l e { frames := 4, cells := 0, slots := 0, locals := 85 } s m args below meth c H locs 0 0 (MQ below (fm_Qi G o) args s 0 0 (fm_A G)) (F0 m 20 ls []) := by
  have hx := hC.1.1
  have hb := hC.1.2.1
  have hown := hC.1.2.2.2.1
  have hts := hC.1.2.2.2.2
  induction n with
  | zero =>
    intro z1 z2 σ H locs ls hz1 hI hl hf
    cases hf
  | succ n ih =>
    intro z1 z2 σ H locs ls hz1 hI hl hf
    rw [m_X9_reads_20] at hf
    refine lv_iload_n hx hb dX9_reads_20 rfl (lv_at hl 2 rfl) ?_
    refine lv_aload_n hx hb dX9_reads_21 rfl (lv_at hl 1 rfl) ?_
    obtain ⟨r4, σ5, hq6, hf⟩ := fm_bE hf
    refine fm_ci hI (fm_runT (As := []) (rest := [.int z2]) (rm := { frames := 1, cells := 0, slots := 0, locals := 20 }) hC hI (c_J0_length_8abf5 hC.2.2.1 hz1 hq6) mV_J0_length_8abf5 q_640 ⟨rfl, rfl⟩ ⟨Nat.le_of_ble_eq_true rfl, Nat.le_of_ble_eq_true rfl⟩ hz1 rfl hl.1 rfl (Nat.le_of_ble_eq_true rfl) dX9_reads_22 ⟨Nat.zero_le _, Nat.zero_le _⟩) (fun H locs hI => ?_)
    refine lv_icmp_ge (tgt := 55) hx hb dX9_reads_25 (by decide) (fun hc => ?_) (fun hc => ?_)
    · have hf := fm_pT hf hc
      exact hk z1 z2 σ5 _ _ _ hz1 hI (lv_sub hl [0, 1, 2] rfl) hf
    · have hf := fm_pF hf hc
      refine lv_aload_n hx hb dX9_reads_28 rfl (lv_at hl 0 rfl) ?_
      refine fm_gr hC hI fd_X9_0 fc_92 fr_92_0 q_185 dX9_reads_29 ?_
      refine lv_aload_n hx hb dX9_reads_32 rfl (lv_at hl 0 rfl) ?_
      refine fm_gi hC hI fd_X9_2 fc_92 q_188 dX9_reads_33 ?_
      refine lv_iload_n hx hb dX9_reads_36 rfl (lv_at hl 2 rfl) ?_
      refine lv_iadd hx hb dX9_reads_37 ?_
      obtain ⟨hg7, hf⟩ := fm_gE hf
      refine fm_iald hC hI fc_93 fl_93 hg7 dX9_reads_38 ?_
      refine lv_aload_n hx hb dX9_reads_39 rfl (lv_at hl 1 rfl) ?_
      refine lv_iload_n hx hb dX9_reads_40 rfl (lv_at hl 2 rfl) ?_
      obtain ⟨r8, σ9, hq10, hf⟩ := fm_bE hf
      refine fm_ci hI (fm_runT (As := [.int z2]) (rest := [.int (σ5.1 93 ((σ5.1 92 2) + z2).toNatClampNeg)]) (rm := { frames := 3, cells := 0, slots := 0, locals := 64 }) hC hI (c_J0_charAt_5068e hC.2.2.1 hz1 hq10) mV_J0_charAt_5068e q_650 ⟨rfl, rfl⟩ ⟨Nat.le_of_ble_eq_true rfl, Nat.le_of_ble_eq_true rfl⟩ hz1 rfl hl.1 rfl (Nat.le_of_ble_eq_true rfl) dX9_reads_41 ⟨Nat.zero_le _, Nat.zero_le _⟩) (fun H locs hI => ?_)
      refine lv_icmp_eq (tgt := 49) hx hb dX9_reads_44 (by decide) (fun hc => ?_) (fun hc => ?_)
      · have hf := fm_pT hf hc
        refine lv_iinc (v := (z2 + (1 : Int32))) (lv' := [(2, .int (z2 + (1 : Int32))), (0, .ref (G.2.1 92)), (1, .ref (G.2.2.2.1 z1))]) hx hb dX9_reads_49 hl (k := 2) rfl rfl (Nat.le_of_ble_eq_true rfl) rfl (fun ls hl => ?_)
        refine lv_goto (tgt := 20) hx hb dX9_reads_52 (by decide) ?_
        exact ih z1 (z2 + (1 : Int32)) σ9 _ _ _ hz1 hI (lv_sub hl [1, 2, 0] rfl) hf
      · have hf := fm_pF hf hc
        refine lv_iconst (v := (0 : Int32)) hx hb dX9_reads_47 (by decide) ?_
        exact fm_rz hC hI hr hlk (by decide) hf dX9_reads_48
set_option maxHeartbeats 4000000 in
set_option maxRecDepth 100000 in
theorem c_X9_reads {l : Launch} {G : fm_G} (hJ : fm_J G) {a1 : Nat} {σ : fm_M} {o : Int32 × fm_M} (h1 : a1 < 12) (hf : m_X9_reads a1 σ = some o) : Met l yX9_reads (fm_w yX9_reads cX9_reads 3 (some .boolean)) { frames := 4, cells := 0, slots := 0, locals := 85 } (va_Pc [.ref (G.2.1 92), .ref (G.2.2.2.1 a1)] (fm_st G σ)) (fm_Qi G o) 0 0 (fm_A G) := by
  refine fm_mth (own := RX9) hJ rfl (by decide +kernel) (Nat.le_of_ble_eq_true rfl) ?_
  intro p e s m below meth c ls hC hr hlk hI hl
  have hx := hC.1.1
  have hb := hC.1.2.1
  have hown := hC.1.2.2.2.1
  have hts := hC.1.2.2.2.2
  have hl : lv_has ls 3 [(0, .ref (G.2.1 92)), (1, .ref (G.2.2.2.1 a1))] := hl
  rw [m_X9_reads] at hf
  refine lv_aload_n hx hb dX9_reads_0 rfl (lv_at hl 1 rfl) ?_
  obtain ⟨r1, σ2, hq3, hf⟩ := fm_bE hf
  refine fm_ci hI (fm_runT (As := []) (rest := []) (rm := { frames := 1, cells := 0, slots := 0, locals := 20 }) hC hI (c_J0_length_8abf5 hC.2.2.1 h1 hq3) mV_J0_length_8abf5 q_640 ⟨rfl, rfl⟩ ⟨Nat.le_of_ble_eq_true rfl, Nat.le_of_ble_eq_true rfl⟩ h1 rfl hl.1 rfl (Nat.le_of_ble_eq_true rfl) dX9_reads_1 ⟨Nat.zero_le _, Nat.zero_le _⟩) (fun H locs hI => ?_)
  refine lv_aload_n hx hb dX9_reads_4 rfl (lv_at hl 0 rfl) ?_
  refine fm_gi hC hI fd_X9_3 fc_92 q_189 dX9_reads_5 ?_
  refine lv_aload_n hx hb dX9_reads_8 rfl (lv_at hl 0 rfl) ?_
  refine fm_gi hC hI fd_X9_2 fc_92 q_188 dX9_reads_9 ?_
  refine lv_isub hx hb dX9_reads_12 ?_
  refine lv_icmp_eq (tgt := 18) hx hb dX9_reads_13 (by decide) (fun hc => ?_) (fun hc => ?_)
  · have hf := fm_pT hf hc
    refine lv_iconst (v := (0 : Int32)) hx hb dX9_reads_18 (by decide) ?_
    refine lv_istore_n (lv' := [(2, .int (0 : Int32)), (0, .ref (G.2.1 92)), (1, .ref (G.2.2.2.1 a1))]) hx hb dX9_reads_19 rfl hl (Nat.le_of_ble_eq_true rfl) rfl (fun ls hl => ?_)
    refine w_X9_reads_20 hC hr hlk (fun x1_y11 x2_y11 σ_y11 H locs ls hx1_y11 hI hl hf => ?_) fm_fu a1 (0 : Int32) σ2 _ _ _ h1 hI (lv_sub hl [1, 2, 0] rfl) hf
    refine lv_iconst (v := (1 : Int32)) hx hb dX9_reads_55 (by decide) ?_
    exact fm_rz hC hI hr hlk (by decide) hf dX9_reads_56
  · have hf := fm_pF hf hc
    refine lv_iconst (v := (0 : Int32)) hx hb dX9_reads_16 (by decide) ?_
    exact fm_rz hC hI hr hlk (by decide) hf dX9_reads_17
def m_X9_stepOverWord_0 (kc : fm_M → Option (Unit × fm_M)) : Nat → fm_M → Option (Unit × fm_M)
  | 0, _ => none
  | n + 1, σ => if (σ.1 92 1) ≤ (σ.1 92 3) then (kc  σ) else (fm_g (fm_in1 (σ.1 92 3) 120) (fm_b (m_X9_isLetter (σ.1 93 (σ.1 92 3).toNatClampNeg) σ) fun r2 σ3 => (if r2 = 0 then (kc  σ3) else (fm_let (fm_sI σ3 92 3 ((σ3.1 92 3) + (1 : Int32))) fun σ5 => (m_X9_stepOverWord_0 kc n  σ5)))))
def m_X9_stepOverWord_47 (kc : Int32 → fm_M → Option (Unit × fm_M)) : Nat → Int32 → fm_M → Option (Unit × fm_M)
  | 0, _, _ => none
  | n + 1, z1, σ => if (12 : Int32) ≤ z1 then (kc z1 σ) else (fm_b (m_X9_nameOf z1 σ) fun r10 σ11 => (fm_b (m_X9_reads r10 σ11) fun r14 σ15 => (if r14 = 0 then (m_X9_stepOverWord_47 kc n (z1 + (1 : Int32)) σ15) else (fm_let (fm_sI σ15 92 4 z1) fun σ17 => (m_X9_stepOverWord_47 kc n (z1 + (1 : Int32)) σ17)))))
def m_X9_stepOverWord  (σ : fm_M) : Option (Unit × fm_M) := m_X9_stepOverWord_0 (fun  (σ_y7 : fm_M) => fm_let (fm_sI σ_y7 92 4 (15 : Int32)) fun σ8 => (m_X9_stepOverWord_47 (fun (x1_y19 : Int32) (σ_y19 : fm_M) => some ((), σ_y19)) fm_fu (0 : Int32) σ8)) fm_fu  σ
set_option maxHeartbeats 4000000 in
set_option maxRecDepth 100000 in
theorem w_X9_stepOverWord_0 {p : Program} {l : Launch} {e : Env} {s : State} {m : MethodId} {args : Array Value} {below : List Frame} {meth : Method} {c : Code} {G : fm_G} {o : Unit × fm_M} {kc : fm_M → Option (Unit × fm_M)} (hC : fm_C G p m c cX9_stepOverWord 2 s args RX9) (hr : meth.sig.returnType = none) (hlk : meth.locks = false) (hk : ∀  (σ : fm_M) (H : Heap) (locs : List Loc) (ls : Array Slot), fm_I G σ s H locs → lv_has ls 2 [(0, .ref (G.2.1 92))] → kc  σ = some o → W p l e { frames := 5, cells := 0, slots := 0, locals := 107 } s m args below meth c H locs 0 0 (MQ below (fm_Qv G o) args s 0 0 (fm_A G)) (F0 m 39 ls [])) (n : Nat) : ∀  (σ : fm_M) (H : Heap) (locs : List Loc) (ls : Array Slot), fm_I G σ s H locs → lv_has ls 2 [(0, .ref (G.2.1 92))] → m_X9_stepOverWord_0 kc n  σ = some o → W p l e { frames := 5, cells := 0, slots := 0, locals := 107 } s m args below meth c H locs 0 0 (MQ below (fm_Qv G o) args s 0 0 (fm_A G)) (F0 m 0 ls []) := by
  have hx := hC.1.1
  have hb := hC.1.2.1
  have hown := hC.1.2.2.2.1
  have hts := hC.1.2.2.2.2
  induction n with
  | zero =>
    intro  σ H locs ls hI hl hf
    cases hf
  | succ n ih =>
    intro  σ H locs ls hI hl hf
    rw [m_X9_stepOverWord_0] at hf
    refine lv_aload_n hx hb dX9_stepOverWord_0 rfl (lv_at hl 0 rfl) ?_
    refine fm_gi hC hI fd_X9_3 fc_92 q_189 dX9_stepOverWord_1 ?_
    refine lv_aload_n hx hb dX9_stepOverWord_4 rfl (lv_at hl 0 rfl) ?_
    refine fm_gi hC hI fd_X9_1 fc_92 q_186 dX9_stepOverWord_5 ?_
    refine lv_icmp_ge (tgt := 39) hx hb dX9_stepOverWord_8 (by decide) (fun hc => ?_) (fun hc => ?_)
    · have hf := fm_pT hf hc
      exact hk  σ _ _ _ hI (lv_sub hl [0] rfl) hf
    · have hf := fm_pF hf hc
      refine lv_aload_n hx hb dX9_stepOverWord_11 rfl (lv_at hl 0 rfl) ?_
      refine fm_gr hC hI fd_X9_0 fc_92 fr_92_0 q_185 dX9_stepOverWord_12 ?_
      refine lv_aload_n hx hb dX9_stepOverWord_15 rfl (lv_at hl 0 rfl) ?_
      refine fm_gi hC hI fd_X9_3 fc_92 q_189 dX9_stepOverWord_16 ?_
      obtain ⟨hg1, hf⟩ := fm_gE hf
      refine fm_iald hC hI fc_93 fl_93 hg1 dX9_stepOverWord_19 ?_
      obtain ⟨r2, σ3, hq4, hf⟩ := fm_bE hf
      refine fm_ci hI (fm_runS (As := [.int (σ.1 93 (σ.1 92 3).toNatClampNeg)]) (rest := []) (rm := { frames := 0, cells := 0, slots := 0, locals := 0 }) hC hI (c_X9_isLetter hC.2.2.1 hq4) mS_X9_isLetter q_614 ⟨rfl, rfl⟩ ⟨Nat.le_of_ble_eq_true rfl, Nat.le_of_ble_eq_true rfl⟩ rfl hl.1 rfl (Nat.le_of_ble_eq_true rfl) dX9_stepOverWord_20 ⟨Nat.zero_le _, Nat.zero_le _⟩) (fun H locs hI => ?_)
      refine lv_if_eq (tgt := 39) hx hb dX9_stepOverWord_23 (by decide) (fun hc => ?_) (fun hc => ?_)
      · have hf := fm_pT hf hc
        exact hk  σ3 _ _ _ hI (lv_sub hl [0] rfl) hf
      · have hf := fm_pF hf hc
        refine lv_aload_n hx hb dX9_stepOverWord_26 rfl (lv_at hl 0 rfl) ?_
        refine lv_dup hx hb dX9_stepOverWord_27 rfl ?_
        refine fm_gi hC hI fd_X9_3 fc_92 q_189 dX9_stepOverWord_28 ?_
        refine lv_iconst (v := (1 : Int32)) hx hb dX9_stepOverWord_31 (by decide) ?_
        refine lv_iadd hx hb dX9_stepOverWord_32 ?_
        obtain ⟨σ5, e6, hf⟩ := fm_letE hf
        refine fm_pi hC hI fp_X9_3 fc_92 ⟨rfl, rfl⟩ e6 q_189 dX9_stepOverWord_33 (fun H locs hI => ?_)
        refine lv_goto (tgt := 0) hx hb dX9_stepOverWord_36 (by decide) ?_
        exact ih  σ5 _ _ _ hI (lv_sub hl [0] rfl) hf
set_option maxHeartbeats 4000000 in
set_option maxRecDepth 100000 in
theorem w_X9_stepOverWord_47 {p : Program} {l : Launch} {e : Env} {s : State} {m : MethodId} {args : Array Value} {below : List Frame} {meth : Method} {c : Code} {G : fm_G} {o : Unit × fm_M} {kc : Int32 → fm_M → Option (Unit × fm_M)} (hC : fm_C G p m c cX9_stepOverWord 2 s args RX9) (hr : meth.sig.returnType = none) (hlk : meth.locks = false) (hk : ∀ (z1 : Int32) (σ : fm_M) (H : Heap) (locs : List Loc) (ls : Array Slot), fm_I G σ s H locs → lv_has ls 2 [(0, .ref (G.2.1 92)), (1, .int z1)] → kc z1 σ = some o → W p l e { frames := 5, cells := 0, slots := 0, locals := 107 } s m args below meth c H locs 0 0 (MQ below (fm_Qv G o) args s 0 0 (fm_A G)) (F0 m 75 ls [])) (n : Nat) : ∀ (z1 : Int32) (σ : fm_M) (H : Heap) (locs : List Loc) (ls : Array Slot), fm_I G σ s H locs → lv_has ls 2 [(0, .ref (G.2.1 92)), (1, .int z1)] → m_X9_stepOverWord_47 kc n z1 σ = some o → W p l e { frames := 5, cells := 0, slots := 0, locals := 107 } s m args below meth c H locs 0 0 (MQ below (fm_Qv G o) args s 0 0 (fm_A G)) (F0 m 47 ls []) := by
  have hx := hC.1.1
  have hb := hC.1.2.1
  have hown := hC.1.2.2.2.1
  have hts := hC.1.2.2.2.2
  induction n with
  | zero =>
    intro z1 σ H locs ls hI hl hf
    cases hf
  | succ n ih =>
    intro z1 σ H locs ls hI hl hf
    rw [m_X9_stepOverWord_47] at hf
    refine lv_iload_n hx hb dX9_stepOverWord_47 rfl (lv_at hl 1 rfl) ?_
    refine lv_bipush (v := (12 : Int32)) hx hb dX9_stepOverWord_48 (by decide) ?_
    refine lv_icmp_ge (tgt := 75) hx hb dX9_stepOverWord_50 (by decide) (fun hc => ?_) (fun hc => ?_)
    · have hf := fm_pT hf hc
      exact hk z1 σ _ _ _ hI (lv_sub hl [0, 1] rfl) hf
    · have hf := fm_pF hf hc
      refine lv_aload_n hx hb dX9_stepOverWord_53 rfl (lv_at hl 0 rfl) ?_
      refine lv_iload_n hx hb dX9_stepOverWord_54 rfl (lv_at hl 1 rfl) ?_
      obtain ⟨r10, σ11, hq12, hf⟩ := fm_bE hf
      refine fm_cT hI (fm_runS (As := [.int z1]) (rest := [.ref (G.2.1 92)]) (rm := { frames := 0, cells := 0, slots := 0, locals := 0 }) hC hI (c_X9_nameOf hC.2.2.1 hq12) mS_X9_nameOf q_621 ⟨rfl, rfl⟩ ⟨Nat.le_of_ble_eq_true rfl, Nat.le_of_ble_eq_true rfl⟩ rfl hl.1 rfl (Nat.le_of_ble_eq_true rfl) dX9_stepOverWord_55 ⟨Nat.zero_le _, Nat.zero_le _⟩) (fun H locs hI => ?_)
      have ht13 := txt_X9_nameOf hq12
      obtain ⟨r14, σ15, hq16, hf⟩ := fm_bE hf
      refine fm_ci hI (fm_runV (As := [.ref (G.2.2.2.1 r10)]) (rest := []) (rm := { frames := 4, cells := 0, slots := 0, locals := 85 }) hC hI (c_X9_reads hC.2.2.1 ht13 hq16) mV_X9_reads q_636 ⟨rfl, rfl⟩ ⟨Nat.le_of_ble_eq_true rfl, Nat.le_of_ble_eq_true rfl⟩ fc_92 rfl (by decide) rfl hl.1 rfl (Nat.le_of_ble_eq_true rfl) dX9_stepOverWord_58 ⟨Nat.zero_le _, Nat.zero_le _⟩) (fun H locs hI => ?_)
      refine lv_if_eq (tgt := 69) hx hb dX9_stepOverWord_61 (by decide) (fun hc => ?_) (fun hc => ?_)
      · have hf := fm_pT hf hc
        refine lv_iinc (v := (z1 + (1 : Int32))) (lv' := [(1, .int (z1 + (1 : Int32))), (0, .ref (G.2.1 92))]) hx hb dX9_stepOverWord_69 hl (k := 1) rfl rfl (Nat.le_of_ble_eq_true rfl) rfl (fun ls hl => ?_)
        refine lv_goto (tgt := 47) hx hb dX9_stepOverWord_72 (by decide) ?_
        exact ih (z1 + (1 : Int32)) σ15 _ _ _ hI (lv_sub hl [1, 0] rfl) hf
      · have hf := fm_pF hf hc
        refine lv_aload_n hx hb dX9_stepOverWord_64 rfl (lv_at hl 0 rfl) ?_
        refine lv_iload_n hx hb dX9_stepOverWord_65 rfl (lv_at hl 1 rfl) ?_
        obtain ⟨σ17, e18, hf⟩ := fm_letE hf
        refine fm_pi hC hI fp_X9_4 fc_92 ⟨rfl, rfl⟩ e18 q_190 dX9_stepOverWord_66 (fun H locs hI => ?_)
        refine lv_iinc (v := (z1 + (1 : Int32))) (lv' := [(1, .int (z1 + (1 : Int32))), (0, .ref (G.2.1 92))]) hx hb dX9_stepOverWord_69 hl (k := 1) rfl rfl (Nat.le_of_ble_eq_true rfl) rfl (fun ls hl => ?_)
        refine lv_goto (tgt := 47) hx hb dX9_stepOverWord_72 (by decide) ?_
        exact ih (z1 + (1 : Int32)) σ17 _ _ _ hI (lv_sub hl [1, 0] rfl) hf
set_option maxHeartbeats 4000000 in
set_option maxRecDepth 100000 in
theorem c_X9_stepOverWord {l : Launch} {G : fm_G} (hJ : fm_J G) {σ : fm_M} {o : Unit × fm_M}  (hf : m_X9_stepOverWord  σ = some o) : Met l yX9_stepOverWord (fm_w yX9_stepOverWord cX9_stepOverWord 2 none) { frames := 5, cells := 0, slots := 0, locals := 107 } (va_Pc [.ref (G.2.1 92)] (fm_st G σ)) (fm_Qv G o) 0 0 (fm_A G) := by
  refine fm_mth (own := RX9) hJ rfl (by decide +kernel) (Nat.le_of_ble_eq_true rfl) ?_
  intro p e s m below meth c ls hC hr hlk hI hl
  have hx := hC.1.1
  have hb := hC.1.2.1
  have hown := hC.1.2.2.2.1
  have hts := hC.1.2.2.2.2
  have hl : lv_has ls 2 [(0, .ref (G.2.1 92))] := hl
  rw [m_X9_stepOverWord] at hf
  refine w_X9_stepOverWord_0 hC hr hlk (fun  σ_y7 H locs ls hI hl hf => ?_) fm_fu  σ _ _ _ hI (lv_sub hl [0] rfl) hf
  refine lv_aload_n hx hb dX9_stepOverWord_39 rfl (lv_at hl 0 rfl) ?_
  refine lv_bipush (v := (15 : Int32)) hx hb dX9_stepOverWord_40 (by decide) ?_
  obtain ⟨σ8, e9, hf⟩ := fm_letE hf
  refine fm_pi hC hI fp_X9_4 fc_92 ⟨rfl, rfl⟩ e9 q_190 dX9_stepOverWord_42 (fun H locs hI => ?_)
  refine lv_iconst (v := (0 : Int32)) hx hb dX9_stepOverWord_45 (by decide) ?_
  refine lv_istore_n (lv' := [(1, .int (0 : Int32)), (0, .ref (G.2.1 92))]) hx hb dX9_stepOverWord_46 rfl hl (Nat.le_of_ble_eq_true rfl) rfl (fun ls hl => ?_)
  refine w_X9_stepOverWord_47 hC hr hlk (fun x1_y19 σ_y19 H locs ls hI hl hf => ?_) fm_fu (0 : Int32) σ8 _ _ _ hI (lv_sub hl [1, 0] rfl) hf
  exact fm_rv hC hI hr hlk hf dX9_stepOverWord_75
def m_X9_isDigit (a0 : Int32) (σ : fm_M) : Option (Int32 × fm_M) := if a0 < (48 : Int32) then (some ((0 : Int32), σ)) else (if (57 : Int32) < a0 then (some ((0 : Int32), σ)) else (some ((1 : Int32), σ)))
set_option maxHeartbeats 4000000 in
set_option maxRecDepth 100000 in
theorem c_X9_isDigit {l : Launch} {G : fm_G} (hJ : fm_J G) {a0 : Int32} {σ : fm_M} {o : Int32 × fm_M}  (hf : m_X9_isDigit a0 σ = some o) : Met l yX9_isDigit (fm_w yX9_isDigit cX9_isDigit 1 (some .boolean)) { frames := 0, cells := 0, slots := 0, locals := 0 } (va_Pc [.int a0] (fm_st G σ)) (fm_Qi G o) 0 0 (fm_A G) := by
  refine fm_mth (own := RX9) hJ rfl (by decide +kernel) (Nat.le_of_ble_eq_true rfl) ?_
  intro p e s m below meth c ls hC hr hlk hI hl
  have hx := hC.1.1
  have hb := hC.1.2.1
  have hown := hC.1.2.2.2.1
  have hts := hC.1.2.2.2.2
  have hl : lv_has ls 1 [(0, .int a0)] := hl
  rw [m_X9_isDigit] at hf
  refine lv_iload_n hx hb dX9_isDigit_0 rfl (lv_at hl 0 rfl) ?_
  refine lv_bipush (v := (48 : Int32)) hx hb dX9_isDigit_1 (by decide) ?_
  refine lv_icmp_lt (tgt := 16) hx hb dX9_isDigit_3 (by decide) (fun hc => ?_) (fun hc => ?_)
  · have hf := fm_pT hf hc
    refine lv_iconst (v := (0 : Int32)) hx hb dX9_isDigit_16 (by decide) ?_
    exact fm_rz hC hI hr hlk (by decide) hf dX9_isDigit_17
  · have hf := fm_pF hf hc
    refine lv_iload_n hx hb dX9_isDigit_6 rfl (lv_at hl 0 rfl) ?_
    refine lv_bipush (v := (57 : Int32)) hx hb dX9_isDigit_7 (by decide) ?_
    refine lv_icmp_gt (tgt := 16) hx hb dX9_isDigit_9 (by decide) (fun hc => ?_) (fun hc => ?_)
    · have hf := fm_pT hf hc
      refine lv_iconst (v := (0 : Int32)) hx hb dX9_isDigit_16 (by decide) ?_
      exact fm_rz hC hI hr hlk (by decide) hf dX9_isDigit_17
    · have hf := fm_pF hf hc
      refine lv_iconst (v := (1 : Int32)) hx hb dX9_isDigit_12 (by decide) ?_
      refine lv_goto (tgt := 17) hx hb dX9_isDigit_13 (by decide) ?_
      exact fm_rz hC hI hr hlk (by decide) hf dX9_isDigit_17
def m_X9_stepOverNumber_11 (kc : fm_M → Option (Unit × fm_M)) : Nat → fm_M → Option (Unit × fm_M)
  | 0, _ => none
  | n + 1, σ => if (σ.1 92 1) ≤ (σ.1 92 3) then (kc  σ) else (fm_g (fm_in1 (σ.1 92 3) 120) (fm_b (m_X9_isDigit (σ.1 93 (σ.1 92 3).toNatClampNeg) σ) fun r6 σ7 => (if r6 = 0 then (kc  σ7) else (fm_g (fm_in1 (σ7.1 92 3) 120) (fm_let (fm_sI σ7 92 5 (if ((((σ7.1 92 5) * (10 : Int32)) + (σ7.1 93 (σ7.1 92 3).toNatClampNeg)) - (48 : Int32)) < (1000 : Int32) then ((((σ7.1 92 5) * (10 : Int32)) + (σ7.1 93 (σ7.1 92 3).toNatClampNeg)) - (48 : Int32)) else (1000 : Int32))) fun σ10 => (fm_let (fm_sI σ10 92 3 ((σ10.1 92 3) + (1 : Int32))) fun σ12 => (m_X9_stepOverNumber_11 kc n  σ12)))))))
def m_X9_stepOverNumber  (σ : fm_M) : Option (Unit × fm_M) := fm_let (fm_sI σ 92 4 (13 : Int32)) fun σ1 => (fm_let (fm_sI σ1 92 5 (0 : Int32)) fun σ3 => (m_X9_stepOverNumber_11 (fun  (σ_y14 : fm_M) => some ((), σ_y14)) fm_fu  σ3))
set_option maxHeartbeats 4000000 in
set_option maxRecDepth 100000 in
theorem w_X9_stepOverNumber_11 {p : Program} {l : Launch} {e : Env} {s : State} {m : MethodId} {args : Array Value} {below : List Frame} {meth : Method} {c : Code} {G : fm_G} {o : Unit × fm_M} {kc : fm_M → Option (Unit × fm_M)} (hC : fm_C G p m c cX9_stepOverNumber 1 s args RX9) (hr : meth.sig.returnType = none) (hlk : meth.locks = false) (hk : ∀  (σ : fm_M) (H : Heap) (locs : List Loc) (ls : Array Slot), fm_I G σ s H locs → lv_has ls 1 [(0, .ref (G.2.1 92))] → kc  σ = some o → W p l e { frames := 1, cells := 0, slots := 0, locals := 20 } s m args below meth c H locs 0 0 (MQ below (fm_Qv G o) args s 0 0 (fm_A G)) (F0 m 80 ls [])) (n : Nat) : ∀  (σ : fm_M) (H : Heap) (locs : List Loc) (ls : Array Slot), fm_I G σ s H locs → lv_has ls 1 [(0, .ref (G.2.1 92))] → m_X9_stepOverNumber_11 kc n  σ = some o → W p l e { frames := 1, cells := 0, slots := 0, locals := 20 } s m args below meth c H locs 0 0 (MQ below (fm_Qv G o) args s 0 0 (fm_A G)) (F0 m 11 ls []) := by
  have hx := hC.1.1
  have hb := hC.1.2.1
  have hown := hC.1.2.2.2.1
  have hts := hC.1.2.2.2.2
  induction n with
  | zero =>
    intro  σ H locs ls hI hl hf
    cases hf
  | succ n ih =>
    intro  σ H locs ls hI hl hf
    rw [m_X9_stepOverNumber_11] at hf
    refine lv_aload_n hx hb dX9_stepOverNumber_11 rfl (lv_at hl 0 rfl) ?_
    refine fm_gi hC hI fd_X9_3 fc_92 q_189 dX9_stepOverNumber_12 ?_
    refine lv_aload_n hx hb dX9_stepOverNumber_15 rfl (lv_at hl 0 rfl) ?_
    refine fm_gi hC hI fd_X9_1 fc_92 q_186 dX9_stepOverNumber_16 ?_
    refine lv_icmp_ge (tgt := 80) hx hb dX9_stepOverNumber_19 (by decide) (fun hc => ?_) (fun hc => ?_)
    · have hf := fm_pT hf hc
      exact hk  σ _ _ _ hI (lv_sub hl [0] rfl) hf
    · have hf := fm_pF hf hc
      refine lv_aload_n hx hb dX9_stepOverNumber_22 rfl (lv_at hl 0 rfl) ?_
      refine fm_gr hC hI fd_X9_0 fc_92 fr_92_0 q_185 dX9_stepOverNumber_23 ?_
      refine lv_aload_n hx hb dX9_stepOverNumber_26 rfl (lv_at hl 0 rfl) ?_
      refine fm_gi hC hI fd_X9_3 fc_92 q_189 dX9_stepOverNumber_27 ?_
      obtain ⟨hg5, hf⟩ := fm_gE hf
      refine fm_iald hC hI fc_93 fl_93 hg5 dX9_stepOverNumber_30 ?_
      obtain ⟨r6, σ7, hq8, hf⟩ := fm_bE hf
      refine fm_ci hI (fm_runS (As := [.int (σ.1 93 (σ.1 92 3).toNatClampNeg)]) (rest := []) (rm := { frames := 0, cells := 0, slots := 0, locals := 0 }) hC hI (c_X9_isDigit hC.2.2.1 hq8) mS_X9_isDigit q_688 ⟨rfl, rfl⟩ ⟨Nat.le_of_ble_eq_true rfl, Nat.le_of_ble_eq_true rfl⟩ rfl hl.1 rfl (Nat.le_of_ble_eq_true rfl) dX9_stepOverNumber_31 ⟨Nat.zero_le _, Nat.zero_le _⟩) (fun H locs hI => ?_)
      refine lv_if_eq (tgt := 80) hx hb dX9_stepOverNumber_34 (by decide) (fun hc => ?_) (fun hc => ?_)
      · have hf := fm_pT hf hc
        exact hk  σ7 _ _ _ hI (lv_sub hl [0] rfl) hf
      · have hf := fm_pF hf hc
        refine lv_aload_n hx hb dX9_stepOverNumber_37 rfl (lv_at hl 0 rfl) ?_
        refine lv_sipush (v := (1000 : Int32)) hx hb dX9_stepOverNumber_38 (by decide) ?_
        refine lv_aload_n hx hb dX9_stepOverNumber_41 rfl (lv_at hl 0 rfl) ?_
        refine fm_gi hC hI fd_X9_5 fc_92 q_191 dX9_stepOverNumber_42 ?_
        refine lv_bipush (v := (10 : Int32)) hx hb dX9_stepOverNumber_45 (by decide) ?_
        refine lv_imul hx hb dX9_stepOverNumber_47 ?_
        refine lv_aload_n hx hb dX9_stepOverNumber_48 rfl (lv_at hl 0 rfl) ?_
        refine fm_gr hC hI fd_X9_0 fc_92 fr_92_0 q_185 dX9_stepOverNumber_49 ?_
        refine lv_aload_n hx hb dX9_stepOverNumber_52 rfl (lv_at hl 0 rfl) ?_
        refine fm_gi hC hI fd_X9_3 fc_92 q_189 dX9_stepOverNumber_53 ?_
        obtain ⟨hg9, hf⟩ := fm_gE hf
        refine fm_iald hC hI fc_93 fl_93 hg9 dX9_stepOverNumber_56 ?_
        refine lv_iadd hx hb dX9_stepOverNumber_57 ?_
        refine lv_bipush (v := (48 : Int32)) hx hb dX9_stepOverNumber_58 (by decide) ?_
        refine lv_isub hx hb dX9_stepOverNumber_60 ?_
        refine va_mmin hx hb (hC.1.2.2.1.trans hl.1.symm) hown (hts _ q_695) (hts _ q_320) (hts _ q_14) (hts _ q_321) (Nat.le_of_ble_eq_true rfl) (Nat.le_of_ble_eq_true rfl) (Nat.zero_le _) (Nat.zero_le _) dX9_stepOverNumber_61 ?_
        obtain ⟨σ10, e11, hf⟩ := fm_letE hf
        refine fm_pi hC hI fp_X9_5 fc_92 ⟨rfl, rfl⟩ e11 q_191 dX9_stepOverNumber_64 (fun H locs hI => ?_)
        refine lv_aload_n hx hb dX9_stepOverNumber_67 rfl (lv_at hl 0 rfl) ?_
        refine lv_dup hx hb dX9_stepOverNumber_68 rfl ?_
        refine fm_gi hC hI fd_X9_3 fc_92 q_189 dX9_stepOverNumber_69 ?_
        refine lv_iconst (v := (1 : Int32)) hx hb dX9_stepOverNumber_72 (by decide) ?_
        refine lv_iadd hx hb dX9_stepOverNumber_73 ?_
        obtain ⟨σ12, e13, hf⟩ := fm_letE hf
        refine fm_pi hC hI fp_X9_3 fc_92 ⟨rfl, rfl⟩ e13 q_189 dX9_stepOverNumber_74 (fun H locs hI => ?_)
        refine lv_goto (tgt := 11) hx hb dX9_stepOverNumber_77 (by decide) ?_
        exact ih  σ12 _ _ _ hI (lv_sub hl [0] rfl) hf
set_option maxHeartbeats 4000000 in
set_option maxRecDepth 100000 in
theorem c_X9_stepOverNumber {l : Launch} {G : fm_G} (hJ : fm_J G) {σ : fm_M} {o : Unit × fm_M}  (hf : m_X9_stepOverNumber  σ = some o) : Met l yX9_stepOverNumber (fm_w yX9_stepOverNumber cX9_stepOverNumber 1 none) { frames := 1, cells := 0, slots := 0, locals := 20 } (va_Pc [.ref (G.2.1 92)] (fm_st G σ)) (fm_Qv G o) 0 0 (fm_A G) := by
  refine fm_mth (own := RX9) hJ rfl (by decide +kernel) (Nat.le_of_ble_eq_true rfl) ?_
  intro p e s m below meth c ls hC hr hlk hI hl
  have hx := hC.1.1
  have hb := hC.1.2.1
  have hown := hC.1.2.2.2.1
  have hts := hC.1.2.2.2.2
  have hl : lv_has ls 1 [(0, .ref (G.2.1 92))] := hl
  rw [m_X9_stepOverNumber] at hf
  refine lv_aload_n hx hb dX9_stepOverNumber_0 rfl (lv_at hl 0 rfl) ?_
  refine lv_bipush (v := (13 : Int32)) hx hb dX9_stepOverNumber_1 (by decide) ?_
  obtain ⟨σ1, e2, hf⟩ := fm_letE hf
  refine fm_pi hC hI fp_X9_4 fc_92 ⟨rfl, rfl⟩ e2 q_190 dX9_stepOverNumber_3 (fun H locs hI => ?_)
  refine lv_aload_n hx hb dX9_stepOverNumber_6 rfl (lv_at hl 0 rfl) ?_
  refine lv_iconst (v := (0 : Int32)) hx hb dX9_stepOverNumber_7 (by decide) ?_
  obtain ⟨σ3, e4, hf⟩ := fm_letE hf
  refine fm_pi hC hI fp_X9_5 fc_92 ⟨rfl, rfl⟩ e4 q_191 dX9_stepOverNumber_8 (fun H locs hI => ?_)
  refine w_X9_stepOverNumber_11 hC hr hlk (fun  σ_y14 H locs ls hI hl hf => ?_) fm_fu  σ3 _ _ _ hI (lv_sub hl [0] rfl) hf
  exact fm_rv hC hI hr hlk hf dX9_stepOverNumber_80
def m_X9_step_8 (kc : fm_M → Option (Unit × fm_M)) : Nat → fm_M → Option (Unit × fm_M)
  | 0, _ => none
  | n + 1, σ => if (σ.1 92 1) ≤ (σ.1 92 2) then (kc  σ) else (fm_g (fm_in1 (σ.1 92 2) 120) (if (σ.1 93 (σ.1 92 2).toNatClampNeg) = (32 : Int32) then (fm_let (fm_sI σ 92 2 ((σ.1 92 2) + (1 : Int32))) fun σ4 => (m_X9_step_8 kc n  σ4)) else (kc  σ)))
def m_X9_step  (σ : fm_M) : Option (Unit × fm_M) := fm_let (fm_sI σ 92 2 (σ.1 92 3)) fun σ1 => (m_X9_step_8 (fun  (σ_y6 : fm_M) => fm_let (fm_sI σ_y6 92 3 (σ_y6.1 92 2)) fun σ7 => (if (σ7.1 92 2) < (σ7.1 92 1) then (fm_g (fm_in1 (σ7.1 92 3) 120) (fm_b (m_X9_isLetter (σ7.1 93 (σ7.1 92 3).toNatClampNeg) σ7) fun r10 σ11 => (if r10 = 0 then (fm_g (fm_in1 (σ11.1 92 3) 120) (fm_b (m_X9_isDigit (σ11.1 93 (σ11.1 92 3).toNatClampNeg) σ11) fun r14 σ15 => (if r14 = 0 then (fm_g (fm_in1 (σ15.1 92 2) 120) (fm_j (fun (v0_J18 : Int32) (σ_J18 : fm_M) => fm_let (fm_sI σ_J18 92 4 v0_J18) fun σ19 => (fm_let (fm_sI σ19 92 3 ((σ19.1 92 3) + (1 : Int32))) fun σ21 => (some ((), σ21)))) (fun J18 => if (σ15.1 93 (σ15.1 92 2).toNatClampNeg) = (59 : Int32) then (J18 (12 : Int32) σ15) else (J18 (15 : Int32) σ15)))) else (fm_b (m_X9_stepOverNumber  σ15) fun _u23 σ24 => (some ((), σ24)))))) else (fm_b (m_X9_stepOverWord  σ11) fun _u26 σ27 => (some ((), σ27)))))) else (fm_let (fm_sI σ7 92 4 (14 : Int32)) fun σ29 => (some ((), σ29))))) fm_fu  σ1)
set_option maxHeartbeats 4000000 in
set_option maxRecDepth 100000 in
theorem w_X9_step_8 {p : Program} {l : Launch} {e : Env} {s : State} {m : MethodId} {args : Array Value} {below : List Frame} {meth : Method} {c : Code} {G : fm_G} {o : Unit × fm_M} {kc : fm_M → Option (Unit × fm_M)} (hC : fm_C G p m c cX9_step 1 s args RX9) (hr : meth.sig.returnType = none) (hlk : meth.locks = false) (hk : ∀  (σ : fm_M) (H : Heap) (locs : List Loc) (ls : Array Slot), fm_I G σ s H locs → lv_has ls 1 [(0, .ref (G.2.1 92))] → kc  σ = some o → W p l e { frames := 6, cells := 0, slots := 0, locals := 128 } s m args below meth c H locs 0 0 (MQ below (fm_Qv G o) args s 0 0 (fm_A G)) (F0 m 46 ls [])) (n : Nat) : ∀  (σ : fm_M) (H : Heap) (locs : List Loc) (ls : Array Slot), fm_I G σ s H locs → lv_has ls 1 [(0, .ref (G.2.1 92))] → m_X9_step_8 kc n  σ = some o → W p l e { frames := 6, cells := 0, slots := 0, locals := 128 } s m args below meth c H locs 0 0 (MQ below (fm_Qv G o) args s 0 0 (fm_A G)) (F0 m 8 ls []) := by
  have hx := hC.1.1
  have hb := hC.1.2.1
  have hown := hC.1.2.2.2.1
  have hts := hC.1.2.2.2.2
  induction n with
  | zero =>
    intro  σ H locs ls hI hl hf
    cases hf
  | succ n ih =>
    intro  σ H locs ls hI hl hf
    rw [m_X9_step_8] at hf
    refine lv_aload_n hx hb dX9_step_8 rfl (lv_at hl 0 rfl) ?_
    refine fm_gi hC hI fd_X9_2 fc_92 q_188 dX9_step_9 ?_
    refine lv_aload_n hx hb dX9_step_12 rfl (lv_at hl 0 rfl) ?_
    refine fm_gi hC hI fd_X9_1 fc_92 q_186 dX9_step_13 ?_
    refine lv_icmp_ge (tgt := 46) hx hb dX9_step_16 (by decide) (fun hc => ?_) (fun hc => ?_)
    · have hf := fm_pT hf hc
      exact hk  σ _ _ _ hI (lv_sub hl [0] rfl) hf
    · have hf := fm_pF hf hc
      refine lv_aload_n hx hb dX9_step_19 rfl (lv_at hl 0 rfl) ?_
      refine fm_gr hC hI fd_X9_0 fc_92 fr_92_0 q_185 dX9_step_20 ?_
      refine lv_aload_n hx hb dX9_step_23 rfl (lv_at hl 0 rfl) ?_
      refine fm_gi hC hI fd_X9_2 fc_92 q_188 dX9_step_24 ?_
      obtain ⟨hg3, hf⟩ := fm_gE hf
      refine fm_iald hC hI fc_93 fl_93 hg3 dX9_step_27 ?_
      refine lv_bipush (v := (32 : Int32)) hx hb dX9_step_28 (by decide) ?_
      refine lv_icmp_ne (tgt := 46) hx hb dX9_step_30 (by decide) (fun hc => ?_) (fun hc => ?_)
      · have hf := fm_pF hf hc
        exact hk  σ _ _ _ hI (lv_sub hl [0] rfl) hf
      · have hf := fm_pT hf hc
        refine lv_aload_n hx hb dX9_step_33 rfl (lv_at hl 0 rfl) ?_
        refine lv_dup hx hb dX9_step_34 rfl ?_
        refine fm_gi hC hI fd_X9_2 fc_92 q_188 dX9_step_35 ?_
        refine lv_iconst (v := (1 : Int32)) hx hb dX9_step_38 (by decide) ?_
        refine lv_iadd hx hb dX9_step_39 ?_
        obtain ⟨σ4, e5, hf⟩ := fm_letE hf
        refine fm_pi hC hI fp_X9_2 fc_92 ⟨rfl, rfl⟩ e5 q_188 dX9_step_40 (fun H locs hI => ?_)
        refine lv_goto (tgt := 8) hx hb dX9_step_43 (by decide) ?_
        exact ih  σ4 _ _ _ hI (lv_sub hl [0] rfl) hf
set_option maxHeartbeats 4000000 in
set_option maxRecDepth 100000 in
theorem c_X9_step {l : Launch} {G : fm_G} (hJ : fm_J G) {σ : fm_M} {o : Unit × fm_M}  (hf : m_X9_step  σ = some o) : Met l yX9_step (fm_w yX9_step cX9_step 1 none) { frames := 6, cells := 0, slots := 0, locals := 128 } (va_Pc [.ref (G.2.1 92)] (fm_st G σ)) (fm_Qv G o) 0 0 (fm_A G) := by
  refine fm_mth (own := RX9) hJ rfl (by decide +kernel) (Nat.le_of_ble_eq_true rfl) ?_
  intro p e s m below meth c ls hC hr hlk hI hl
  have hx := hC.1.1
  have hb := hC.1.2.1
  have hown := hC.1.2.2.2.1
  have hts := hC.1.2.2.2.2
  have hl : lv_has ls 1 [(0, .ref (G.2.1 92))] := hl
  rw [m_X9_step] at hf
  refine lv_aload_n hx hb dX9_step_0 rfl (lv_at hl 0 rfl) ?_
  refine lv_aload_n hx hb dX9_step_1 rfl (lv_at hl 0 rfl) ?_
  refine fm_gi hC hI fd_X9_3 fc_92 q_189 dX9_step_2 ?_
  obtain ⟨σ1, e2, hf⟩ := fm_letE hf
  refine fm_pi hC hI fp_X9_2 fc_92 ⟨rfl, rfl⟩ e2 q_188 dX9_step_5 (fun H locs hI => ?_)
  refine w_X9_step_8 hC hr hlk (fun  σ_y6 H locs ls hI hl hf => ?_) fm_fu  σ1 _ _ _ hI (lv_sub hl [0] rfl) hf
  refine lv_aload_n hx hb dX9_step_46 rfl (lv_at hl 0 rfl) ?_
  refine lv_aload_n hx hb dX9_step_47 rfl (lv_at hl 0 rfl) ?_
  refine fm_gi hC hI fd_X9_2 fc_92 q_188 dX9_step_48 ?_
  obtain ⟨σ7, e8, hf⟩ := fm_letE hf
  refine fm_pi hC hI fp_X9_3 fc_92 ⟨rfl, rfl⟩ e8 q_189 dX9_step_51 (fun H locs hI => ?_)
  refine lv_aload_n hx hb dX9_step_54 rfl (lv_at hl 0 rfl) ?_
  refine fm_gi hC hI fd_X9_2 fc_92 q_188 dX9_step_55 ?_
  refine lv_aload_n hx hb dX9_step_58 rfl (lv_at hl 0 rfl) ?_
  refine fm_gi hC hI fd_X9_1 fc_92 q_186 dX9_step_59 ?_
  refine lv_icmp_lt (tgt := 74) hx hb dX9_step_62 (by decide) (fun hc => ?_) (fun hc => ?_)
  · have hf := fm_pT hf hc
    refine lv_aload_n hx hb dX9_step_74 rfl (lv_at hl 0 rfl) ?_
    refine fm_gr hC hI fd_X9_0 fc_92 fr_92_0 q_185 dX9_step_75 ?_
    refine lv_aload_n hx hb dX9_step_78 rfl (lv_at hl 0 rfl) ?_
    refine fm_gi hC hI fd_X9_3 fc_92 q_189 dX9_step_79 ?_
    obtain ⟨hg9, hf⟩ := fm_gE hf
    refine fm_iald hC hI fc_93 fl_93 hg9 dX9_step_82 ?_
    obtain ⟨r10, σ11, hq12, hf⟩ := fm_bE hf
    refine fm_ci hI (fm_runS (As := [.int (σ7.1 93 (σ7.1 92 3).toNatClampNeg)]) (rest := []) (rm := { frames := 0, cells := 0, slots := 0, locals := 0 }) hC hI (c_X9_isLetter hC.2.2.1 hq12) mS_X9_isLetter q_614 ⟨rfl, rfl⟩ ⟨Nat.le_of_ble_eq_true rfl, Nat.le_of_ble_eq_true rfl⟩ rfl hl.1 rfl (Nat.le_of_ble_eq_true rfl) dX9_step_83 ⟨Nat.zero_le _, Nat.zero_le _⟩) (fun H locs hI => ?_)
    refine lv_if_eq (tgt := 96) hx hb dX9_step_86 (by decide) (fun hc => ?_) (fun hc => ?_)
    · have hf := fm_pT hf hc
      refine lv_aload_n hx hb dX9_step_96 rfl (lv_at hl 0 rfl) ?_
      refine fm_gr hC hI fd_X9_0 fc_92 fr_92_0 q_185 dX9_step_97 ?_
      refine lv_aload_n hx hb dX9_step_100 rfl (lv_at hl 0 rfl) ?_
      refine fm_gi hC hI fd_X9_3 fc_92 q_189 dX9_step_101 ?_
      obtain ⟨hg13, hf⟩ := fm_gE hf
      refine fm_iald hC hI fc_93 fl_93 hg13 dX9_step_104 ?_
      obtain ⟨r14, σ15, hq16, hf⟩ := fm_bE hf
      refine fm_ci hI (fm_runS (As := [.int (σ11.1 93 (σ11.1 92 3).toNatClampNeg)]) (rest := []) (rm := { frames := 0, cells := 0, slots := 0, locals := 0 }) hC hI (c_X9_isDigit hC.2.2.1 hq16) mS_X9_isDigit q_688 ⟨rfl, rfl⟩ ⟨Nat.le_of_ble_eq_true rfl, Nat.le_of_ble_eq_true rfl⟩ rfl hl.1 rfl (Nat.le_of_ble_eq_true rfl) dX9_step_105 ⟨Nat.zero_le _, Nat.zero_le _⟩) (fun H locs hI => ?_)
      refine lv_if_eq (tgt := 118) hx hb dX9_step_108 (by decide) (fun hc => ?_) (fun hc => ?_)
      · have hf := fm_pT hf hc
        refine lv_aload_n hx hb dX9_step_118 rfl (lv_at hl 0 rfl) ?_
        refine lv_aload_n hx hb dX9_step_119 rfl (lv_at hl 0 rfl) ?_
        refine fm_gr hC hI fd_X9_0 fc_92 fr_92_0 q_185 dX9_step_120 ?_
        refine lv_aload_n hx hb dX9_step_123 rfl (lv_at hl 0 rfl) ?_
        refine fm_gi hC hI fd_X9_2 fc_92 q_188 dX9_step_124 ?_
        obtain ⟨hg17, hf⟩ := fm_gE hf
        refine fm_iald hC hI fc_93 fl_93 hg17 dX9_step_127 ?_
        refine lv_bipush (v := (59 : Int32)) hx hb dX9_step_128 (by decide) ?_
        obtain ⟨J18, eJ18, hf⟩ := fm_jE hf
        have hJ18 : ∀ (v0_J18 : Int32) (σ_J18 : fm_M) (H : Heap) (locs : List Loc) (ls : Array Slot), fm_I G σ_J18 s H locs → lv_has ls 1 [(0, .ref (G.2.1 92))] → J18 v0_J18 σ_J18 = some o → W p l e { frames := 6, cells := 0, slots := 0, locals := 128 } s m ([.ref (G.2.1 92)] : List Value).toArray below meth c H locs 0 0 (MQ below (fm_Qv G o) ([.ref (G.2.1 92)] : List Value).toArray s 0 0 (fm_A G)) (F0 m 140 ls [.int v0_J18, .ref (G.2.1 92)]) := by
          intro v0_J18 σ_J18 H locs ls hI hl hf
          subst eJ18
          obtain ⟨σ19, e20, hf⟩ := fm_letE hf
          refine fm_pi hC hI fp_X9_4 fc_92 ⟨rfl, rfl⟩ e20 q_190 dX9_step_140 (fun H locs hI => ?_)
          refine lv_aload_n hx hb dX9_step_143 rfl (lv_at hl 0 rfl) ?_
          refine lv_dup hx hb dX9_step_144 rfl ?_
          refine fm_gi hC hI fd_X9_3 fc_92 q_189 dX9_step_145 ?_
          refine lv_iconst (v := (1 : Int32)) hx hb dX9_step_148 (by decide) ?_
          refine lv_iadd hx hb dX9_step_149 ?_
          obtain ⟨σ21, e22, hf⟩ := fm_letE hf
          refine fm_pi hC hI fp_X9_3 fc_92 ⟨rfl, rfl⟩ e22 q_189 dX9_step_150 (fun H locs hI => ?_)
          exact fm_rv hC hI hr hlk hf dX9_step_153
        refine lv_icmp_ne (tgt := 138) hx hb dX9_step_130 (by decide) (fun hc => ?_) (fun hc => ?_)
        · have hf := fm_pF hf hc
          refine lv_bipush (v := (15 : Int32)) hx hb dX9_step_138 (by decide) ?_
          exact hJ18 (15 : Int32) σ15 _ _ _ hI (lv_sub hl [0] rfl) hf
        · have hf := fm_pT hf hc
          refine lv_bipush (v := (12 : Int32)) hx hb dX9_step_133 (by decide) ?_
          refine lv_goto (tgt := 140) hx hb dX9_step_135 (by decide) ?_
          exact hJ18 (12 : Int32) σ15 _ _ _ hI (lv_sub hl [0] rfl) hf
      · have hf := fm_pF hf hc
        refine lv_aload_n hx hb dX9_step_111 rfl (lv_at hl 0 rfl) ?_
        obtain ⟨_u23, σ24, hq25, hf⟩ := fm_bE hf
        refine fm_cv hI (fm_runV (As := []) (rest := []) (rm := { frames := 1, cells := 0, slots := 0, locals := 20 }) hC hI (c_X9_stepOverNumber hC.2.2.1 hq25) mV_X9_stepOverNumber q_691 ⟨rfl, rfl⟩ ⟨Nat.le_of_ble_eq_true rfl, Nat.le_of_ble_eq_true rfl⟩ fc_92 rfl (by decide) rfl hl.1 rfl (Nat.le_of_ble_eq_true rfl) dX9_step_112 ⟨Nat.zero_le _, Nat.zero_le _⟩) (fun H locs hI => ?_)
        refine lv_goto (tgt := 153) hx hb dX9_step_115 (by decide) ?_
        exact fm_rv hC hI hr hlk hf dX9_step_153
    · have hf := fm_pF hf hc
      refine lv_aload_n hx hb dX9_step_89 rfl (lv_at hl 0 rfl) ?_
      obtain ⟨_u26, σ27, hq28, hf⟩ := fm_bE hf
      refine fm_cv hI (fm_runV (As := []) (rest := []) (rm := { frames := 5, cells := 0, slots := 0, locals := 107 }) hC hI (c_X9_stepOverWord hC.2.2.1 hq28) mV_X9_stepOverWord q_617 ⟨rfl, rfl⟩ ⟨Nat.le_of_ble_eq_true rfl, Nat.le_of_ble_eq_true rfl⟩ fc_92 rfl (by decide) rfl hl.1 rfl (Nat.le_of_ble_eq_true rfl) dX9_step_90 ⟨Nat.zero_le _, Nat.zero_le _⟩) (fun H locs hI => ?_)
      refine lv_goto (tgt := 153) hx hb dX9_step_93 (by decide) ?_
      exact fm_rv hC hI hr hlk hf dX9_step_153
  · have hf := fm_pF hf hc
    refine lv_aload_n hx hb dX9_step_65 rfl (lv_at hl 0 rfl) ?_
    refine lv_bipush (v := (14 : Int32)) hx hb dX9_step_66 (by decide) ?_
    obtain ⟨σ29, e30, hf⟩ := fm_letE hf
    refine fm_pi hC hI fp_X9_4 fc_92 ⟨rfl, rfl⟩ e30 q_190 dX9_step_68 (fun H locs hI => ?_)
    refine lv_goto (tgt := 153) hx hb dX9_step_71 (by decide) ?_
    exact fm_rv hC hI hr hlk hf dX9_step_153
def m_X9_isPaperName  (σ : fm_M) : Option (Int32 × fm_M) := if (σ.1 92 4) < (6 : Int32) then (some ((0 : Int32), σ)) else (if (10 : Int32) ≤ (σ.1 92 4) then (some ((0 : Int32), σ)) else (some ((1 : Int32), σ)))
set_option maxHeartbeats 4000000 in
set_option maxRecDepth 100000 in
theorem c_X9_isPaperName {l : Launch} {G : fm_G} (hJ : fm_J G) {σ : fm_M} {o : Int32 × fm_M}  (hf : m_X9_isPaperName  σ = some o) : Met l yX9_isPaperName (fm_w yX9_isPaperName cX9_isPaperName 1 (some .boolean)) { frames := 0, cells := 0, slots := 0, locals := 0 } (va_Pc [.ref (G.2.1 92)] (fm_st G σ)) (fm_Qi G o) 0 0 (fm_A G) := by
  refine fm_mth (own := RX9) hJ rfl (by decide +kernel) (Nat.le_of_ble_eq_true rfl) ?_
  intro p e s m below meth c ls hC hr hlk hI hl
  have hx := hC.1.1
  have hb := hC.1.2.1
  have hown := hC.1.2.2.2.1
  have hts := hC.1.2.2.2.2
  have hl : lv_has ls 1 [(0, .ref (G.2.1 92))] := hl
  rw [m_X9_isPaperName] at hf
  refine lv_aload_n hx hb dX9_isPaperName_0 rfl (lv_at hl 0 rfl) ?_
  refine fm_gi hC hI fd_X9_4 fc_92 q_190 dX9_isPaperName_1 ?_
  refine lv_bipush (v := (6 : Int32)) hx hb dX9_isPaperName_4 (by decide) ?_
  refine lv_icmp_lt (tgt := 22) hx hb dX9_isPaperName_6 (by decide) (fun hc => ?_) (fun hc => ?_)
  · have hf := fm_pT hf hc
    refine lv_iconst (v := (0 : Int32)) hx hb dX9_isPaperName_22 (by decide) ?_
    exact fm_rz hC hI hr hlk (by decide) hf dX9_isPaperName_23
  · have hf := fm_pF hf hc
    refine lv_aload_n hx hb dX9_isPaperName_9 rfl (lv_at hl 0 rfl) ?_
    refine fm_gi hC hI fd_X9_4 fc_92 q_190 dX9_isPaperName_10 ?_
    refine lv_bipush (v := (10 : Int32)) hx hb dX9_isPaperName_13 (by decide) ?_
    refine lv_icmp_ge (tgt := 22) hx hb dX9_isPaperName_15 (by decide) (fun hc => ?_) (fun hc => ?_)
    · have hf := fm_pT hf hc
      refine lv_iconst (v := (0 : Int32)) hx hb dX9_isPaperName_22 (by decide) ?_
      exact fm_rz hC hI hr hlk (by decide) hf dX9_isPaperName_23
    · have hf := fm_pF hf hc
      refine lv_iconst (v := (1 : Int32)) hx hb dX9_isPaperName_18 (by decide) ?_
      refine lv_goto (tgt := 23) hx hb dX9_isPaperName_19 (by decide) ?_
      exact fm_rz hC hI hr hlk (by decide) hf dX9_isPaperName_23
def m_X9_readPresent_86 (kc : Nat → Int32 → Int32 → fm_M → Option (Int32 × fm_M)) : Nat → Nat → Int32 → Int32 → fm_M → Option (Int32 × fm_M)
  | 0, _, _, _, _ => none
  | n + 1, z1, z4, z5, σ => if (6 : Int32) ≤ z5 then (kc z1 z4 z5 σ) else (if z4 < 0 then (kc z1 z4 z5 σ) else (fm_b (m_X9_isPaperName  σ) fun r7 σ8 => (if r7 = 0 then (kc z1 z4 z5 σ8) else (fm_g (fm_in1 z4 8) (fm_b (m_X7_layInnermost (z1 + 9 + 2 * z4.toNatClampNeg) ((σ8.1 92 4) - (6 : Int32)) σ8) fun _u11 σ12 => (fm_b (m_X9_step  σ12) fun _u14 σ15 => (m_X9_readPresent_86 kc n z1 z4 (z5 + (1 : Int32)) σ15)))))))
def m_X9_readPresent (a1 : Nat) (σ : fm_M) : Option (Int32 × fm_M) := if (σ.1 92 4) = (13 : Int32) then (if (σ.1 92 5) < (σ.1 a1 4) then (fm_b (m_X9_step  σ) fun _u1 σ2 => (if (σ2.1 92 4) = (11 : Int32) then (fm_b (m_X9_step  σ2) fun _u18 σ19 => (if (σ19.1 92 4) = (13 : Int32) then (if (σ19.1 92 5) ≤ (99 : Int32) then (fm_b (m_X9_step  σ19) fun _u21 σ22 => (fm_b (m_X10_addPresent a1 (σ.1 92 5) (σ19.1 92 5) σ22) fun r24 σ25 => (m_X9_readPresent_86 (fun (x1_y27 : Nat) (x4_y27 : Int32) (x5_y27 : Int32) (σ_y27 : fm_M) => if x4_y27 < 0 then (some ((0 : Int32), σ_y27)) else (some ((1 : Int32), σ_y27))) fm_fu a1 r24 (0 : Int32) σ25))) else (some ((0 : Int32), σ19))) else (some ((0 : Int32), σ19)))) else (fm_b (m_X10_addPresent a1 (σ.1 92 5) (0 : Int32) σ2) fun r4 σ5 => (m_X9_readPresent_86 (fun (x1_y17 : Nat) (x4_y17 : Int32) (x5_y17 : Int32) (σ_y17 : fm_M) => if x4_y17 < 0 then (some ((0 : Int32), σ_y17)) else (some ((1 : Int32), σ_y17))) fm_fu a1 r4 (0 : Int32) σ5)))) else (some ((0 : Int32), σ))) else (some ((0 : Int32), σ))
set_option maxHeartbeats 4000000 in
set_option maxRecDepth 100000 in
theorem w_X9_readPresent_86 {p : Program} {l : Launch} {e : Env} {s : State} {m : MethodId} {args : Array Value} {below : List Frame} {meth : Method} {c : Code} {G : fm_G} {o : Int32 × fm_M} {kc : Nat → Int32 → Int32 → fm_M → Option (Int32 × fm_M)} (hC : fm_C G p m c cX9_readPresent 6 s args RX9) (hr : meth.sig.returnType = (some .boolean)) (hlk : meth.locks = false) (hk : ∀ (z1 : Nat) (z4 : Int32) (z5 : Int32) (σ : fm_M) (H : Heap) (locs : List Loc) (ls : Array Slot), fm_ct z1 = 10 → fm_I G σ s H locs → lv_has ls 6 [(0, .ref (G.2.1 92)), (1, .ref (G.2.1 z1)), (4, .int z4), (5, .int z5)] → kc z1 z4 z5 σ = some o → W p l e { frames := 7, cells := 0, slots := 0, locals := 148 } s m args below meth c H locs 0 0 (MQ below (fm_Qi G o) args s 0 0 (fm_A G)) (F0 m 132 ls [])) (n : Nat) : ∀ (z1 : Nat) (z4 : Int32) (z5 : Int32) (σ : fm_M) (H : Heap) (locs : List Loc) (ls : Array Slot), fm_ct z1 = 10 → fm_I G σ s H locs → lv_has ls 6 [(0, .ref (G.2.1 92)), (1, .ref (G.2.1 z1)), (4, .int z4), (5, .int z5)] → m_X9_readPresent_86 kc n z1 z4 z5 σ = some o → W p l e { frames := 7, cells := 0, slots := 0, locals := 148 } s m args below meth c H locs 0 0 (MQ below (fm_Qi G o) args s 0 0 (fm_A G)) (F0 m 86 ls []) := by
  have hx := hC.1.1
  have hb := hC.1.2.1
  have hown := hC.1.2.2.2.1
  have hts := hC.1.2.2.2.2
  induction n with
  | zero =>
    intro z1 z4 z5 σ H locs ls hz1 hI hl hf
    cases hf
  | succ n ih =>
    intro z1 z4 z5 σ H locs ls hz1 hI hl hf
    rw [m_X9_readPresent_86] at hf
    refine lv_iload hx hb dX9_readPresent_86 (lv_at hl 3 rfl) ?_
    refine lv_bipush (v := (6 : Int32)) hx hb dX9_readPresent_88 (by decide) ?_
    refine lv_icmp_ge (tgt := 132) hx hb dX9_readPresent_90 (by decide) (fun hc => ?_) (fun hc => ?_)
    · have hf := fm_pT hf hc
      exact hk z1 z4 z5 σ _ _ _ hz1 hI (lv_sub hl [0, 1, 2, 3] rfl) hf
    · have hf := fm_pF hf hc
      refine lv_iload hx hb dX9_readPresent_93 (lv_at hl 2 rfl) ?_
      refine lv_if_lt (tgt := 132) hx hb dX9_readPresent_95 (by decide) (fun hc => ?_) (fun hc => ?_)
      · have hf := fm_pT hf hc
        exact hk z1 z4 z5 σ _ _ _ hz1 hI (lv_sub hl [0, 1, 2, 3] rfl) hf
      · have hf := fm_pF hf hc
        refine lv_aload_n hx hb dX9_readPresent_98 rfl (lv_at hl 0 rfl) ?_
        obtain ⟨r7, σ8, hq9, hf⟩ := fm_bE hf
        refine fm_ci hI (fm_runV (As := []) (rest := []) (rm := { frames := 0, cells := 0, slots := 0, locals := 0 }) hC hI (c_X9_isPaperName hC.2.2.1 hq9) mV_X9_isPaperName q_706 ⟨rfl, rfl⟩ ⟨Nat.le_of_ble_eq_true rfl, Nat.le_of_ble_eq_true rfl⟩ fc_92 rfl (by decide) rfl hl.1 rfl (Nat.le_of_ble_eq_true rfl) dX9_readPresent_99 ⟨Nat.zero_le _, Nat.zero_le _⟩) (fun H locs hI => ?_)
        refine lv_if_eq (tgt := 132) hx hb dX9_readPresent_102 (by decide) (fun hc => ?_) (fun hc => ?_)
        · have hf := fm_pT hf hc
          exact hk z1 z4 z5 σ8 _ _ _ hz1 hI (lv_sub hl [0, 1, 2, 3] rfl) hf
        · have hf := fm_pF hf hc
          refine lv_aload_n hx hb dX9_readPresent_105 rfl (lv_at hl 1 rfl) ?_
          refine fm_gr hC hI fd_X10_2 hz1 (fm_T2 hz1).2.1 q_136 dX9_readPresent_106 ?_
          refine lv_iload hx hb dX9_readPresent_109 (lv_at hl 2 rfl) ?_
          obtain ⟨hg10, hf⟩ := fm_gE hf
          refine fm_aald (t0 := 5) hC hI (fm_T2 hz1).1 (by decide) (by decide) rfl (fm_T2 hz1).2.2 hg10 (fm_T4 (x := z4) hz1 hg10).2 dX9_readPresent_111 ?_
          refine lv_aload_n hx hb dX9_readPresent_112 rfl (lv_at hl 0 rfl) ?_
          refine fm_gi hC hI fd_X9_4 fc_92 q_190 dX9_readPresent_113 ?_
          refine lv_bipush (v := (6 : Int32)) hx hb dX9_readPresent_116 (by decide) ?_
          refine lv_isub hx hb dX9_readPresent_118 ?_
          obtain ⟨_u11, σ12, hq13, hf⟩ := fm_bE hf
          refine fm_cv hI (fm_runV (As := [.int ((σ8.1 92 4) - (6 : Int32))]) (rest := []) (rm := { frames := 0, cells := 0, slots := 0, locals := 0 }) hC hI (c_X7_layInnermost hC.2.2.1 (fm_T4 (x := z4) hz1 hg10).1 hq13) mV_X7_layInnermost q_710 ⟨rfl, rfl⟩ ⟨Nat.le_of_ble_eq_true rfl, Nat.le_of_ble_eq_true rfl⟩ (fm_T4 (x := z4) hz1 hg10).1 rfl (by decide) rfl hl.1 rfl (Nat.le_of_ble_eq_true rfl) dX9_readPresent_119 ⟨Nat.zero_le _, Nat.zero_le _⟩) (fun H locs hI => ?_)
          refine lv_aload_n hx hb dX9_readPresent_122 rfl (lv_at hl 0 rfl) ?_
          obtain ⟨_u14, σ15, hq16, hf⟩ := fm_bE hf
          refine fm_cv hI (fm_runV (As := []) (rest := []) (rm := { frames := 6, cells := 0, slots := 0, locals := 128 }) hC hI (c_X9_step hC.2.2.1 hq16) mV_X9_step q_610 ⟨rfl, rfl⟩ ⟨Nat.le_of_ble_eq_true rfl, Nat.le_of_ble_eq_true rfl⟩ fc_92 rfl (by decide) rfl hl.1 rfl (Nat.le_of_ble_eq_true rfl) dX9_readPresent_123 ⟨Nat.zero_le _, Nat.zero_le _⟩) (fun H locs hI => ?_)
          refine lv_iinc (v := (z5 + (1 : Int32))) (lv' := [(5, .int (z5 + (1 : Int32))), (0, .ref (G.2.1 92)), (1, .ref (G.2.1 z1)), (4, .int z4)]) hx hb dX9_readPresent_126 hl (k := 3) rfl rfl (Nat.le_of_ble_eq_true rfl) rfl (fun ls hl => ?_)
          refine lv_goto (tgt := 86) hx hb dX9_readPresent_129 (by decide) ?_
          exact ih z1 z4 (z5 + (1 : Int32)) σ15 _ _ _ hz1 hI (lv_sub hl [1, 2, 3, 0] rfl) hf
set_option maxHeartbeats 4000000 in
set_option maxRecDepth 100000 in
theorem c_X9_readPresent {l : Launch} {G : fm_G} (hJ : fm_J G) {a1 : Nat} {σ : fm_M} {o : Int32 × fm_M} (h1 : fm_ct a1 = 10) (hf : m_X9_readPresent a1 σ = some o) : Met l yX9_readPresent (fm_w yX9_readPresent cX9_readPresent 6 (some .boolean)) { frames := 7, cells := 0, slots := 0, locals := 148 } (va_Pc [.ref (G.2.1 92), .ref (G.2.1 a1)] (fm_st G σ)) (fm_Qi G o) 0 0 (fm_A G) := by
  refine fm_mth (own := RX9) hJ rfl (by decide +kernel) (Nat.le_of_ble_eq_true rfl) ?_
  intro p e s m below meth c ls hC hr hlk hI hl
  have hx := hC.1.1
  have hb := hC.1.2.1
  have hown := hC.1.2.2.2.1
  have hts := hC.1.2.2.2.2
  have hl : lv_has ls 6 [(0, .ref (G.2.1 92)), (1, .ref (G.2.1 a1))] := hl
  rw [m_X9_readPresent] at hf
  refine lv_aload_n hx hb dX9_readPresent_0 rfl (lv_at hl 0 rfl) ?_
  refine fm_gi hC hI fd_X9_4 fc_92 q_190 dX9_readPresent_1 ?_
  refine lv_bipush (v := (13 : Int32)) hx hb dX9_readPresent_4 (by decide) ?_
  refine lv_icmp_ne (tgt := 20) hx hb dX9_readPresent_6 (by decide) (fun hc => ?_) (fun hc => ?_)
  · have hf := fm_pF hf hc
    refine lv_iconst (v := (0 : Int32)) hx hb dX9_readPresent_20 (by decide) ?_
    exact fm_rz hC hI hr hlk (by decide) hf dX9_readPresent_21
  · have hf := fm_pT hf hc
    refine lv_aload_n hx hb dX9_readPresent_9 rfl (lv_at hl 0 rfl) ?_
    refine fm_gi hC hI fd_X9_5 fc_92 q_191 dX9_readPresent_10 ?_
    refine lv_aload_n hx hb dX9_readPresent_13 rfl (lv_at hl 1 rfl) ?_
    refine fm_gi hC hI fd_X10_4 h1 q_141 dX9_readPresent_14 ?_
    refine lv_icmp_lt (tgt := 22) hx hb dX9_readPresent_17 (by decide) (fun hc => ?_) (fun hc => ?_)
    · have hf := fm_pT hf hc
      refine lv_aload_n hx hb dX9_readPresent_22 rfl (lv_at hl 0 rfl) ?_
      refine fm_gi hC hI fd_X9_5 fc_92 q_191 dX9_readPresent_23 ?_
      refine lv_istore_n (lv' := [(2, .int (σ.1 92 5)), (0, .ref (G.2.1 92)), (1, .ref (G.2.1 a1))]) hx hb dX9_readPresent_26 rfl hl (Nat.le_of_ble_eq_true rfl) rfl (fun ls hl => ?_)
      refine lv_iconst (v := (0 : Int32)) hx hb dX9_readPresent_27 (by decide) ?_
      refine lv_istore_n (lv' := [(3, .int (0 : Int32)), (2, .int (σ.1 92 5)), (0, .ref (G.2.1 92)), (1, .ref (G.2.1 a1))]) hx hb dX9_readPresent_28 rfl hl (Nat.le_of_ble_eq_true rfl) rfl (fun ls hl => ?_)
      refine lv_aload_n hx hb dX9_readPresent_29 rfl (lv_at hl 2 rfl) ?_
      obtain ⟨_u1, σ2, hq3, hf⟩ := fm_bE hf
      refine fm_cv hI (fm_runV (As := []) (rest := []) (rm := { frames := 6, cells := 0, slots := 0, locals := 128 }) hC hI (c_X9_step hC.2.2.1 hq3) mV_X9_step q_610 ⟨rfl, rfl⟩ ⟨Nat.le_of_ble_eq_true rfl, Nat.le_of_ble_eq_true rfl⟩ fc_92 rfl (by decide) rfl hl.1 rfl (Nat.le_of_ble_eq_true rfl) dX9_readPresent_30 ⟨Nat.zero_le _, Nat.zero_le _⟩) (fun H locs hI => ?_)
      refine lv_aload_n hx hb dX9_readPresent_33 rfl (lv_at hl 2 rfl) ?_
      refine fm_gi hC hI fd_X9_4 fc_92 q_190 dX9_readPresent_34 ?_
      refine lv_bipush (v := (11 : Int32)) hx hb dX9_readPresent_37 (by decide) ?_
      refine lv_icmp_ne (tgt := 75) hx hb dX9_readPresent_39 (by decide) (fun hc => ?_) (fun hc => ?_)
      · have hf := fm_pF hf hc
        refine lv_aload_n hx hb dX9_readPresent_75 rfl (lv_at hl 3 rfl) ?_
        refine lv_iload_n hx hb dX9_readPresent_76 rfl (lv_at hl 1 rfl) ?_
        refine lv_iload_n hx hb dX9_readPresent_77 rfl (lv_at hl 0 rfl) ?_
        obtain ⟨r4, σ5, hq6, hf⟩ := fm_bE hf
        refine fm_ci hI (fm_runV (As := [.int (σ.1 92 5), .int (0 : Int32)]) (rest := []) (rm := { frames := 1, cells := 0, slots := 0, locals := 22 }) hC hI (c_X10_addPresent hC.2.2.1 h1 hq6) mV_X10_addPresent q_705 ⟨rfl, rfl⟩ ⟨Nat.le_of_ble_eq_true rfl, Nat.le_of_ble_eq_true rfl⟩ h1 rfl (by decide) rfl hl.1 rfl (Nat.le_of_ble_eq_true rfl) dX9_readPresent_78 ⟨Nat.zero_le _, Nat.zero_le _⟩) (fun H locs hI => ?_)
        refine lv_istore (lv' := [(4, .int r4), (3, .int (0 : Int32)), (2, .int (σ.1 92 5)), (0, .ref (G.2.1 92)), (1, .ref (G.2.1 a1))]) hx hb dX9_readPresent_81 hl (Nat.le_of_ble_eq_true rfl) rfl (fun ls hl => ?_)
        refine lv_iconst (v := (0 : Int32)) hx hb dX9_readPresent_83 (by decide) ?_
        refine lv_istore (lv' := [(5, .int (0 : Int32)), (4, .int r4), (3, .int (0 : Int32)), (2, .int (σ.1 92 5)), (0, .ref (G.2.1 92)), (1, .ref (G.2.1 a1))]) hx hb dX9_readPresent_84 hl (Nat.le_of_ble_eq_true rfl) rfl (fun ls hl => ?_)
        refine w_X9_readPresent_86 hC hr hlk (fun x1_y17 x4_y17 x5_y17 σ_y17 H locs ls hx1_y17 hI hl hf => ?_) fm_fu a1 r4 (0 : Int32) σ5 _ _ _ h1 hI (lv_sub hl [4, 5, 1, 0] rfl) hf
        refine lv_iload hx hb dX9_readPresent_132 (lv_at hl 2 rfl) ?_
        refine lv_if_lt (tgt := 141) hx hb dX9_readPresent_134 (by decide) (fun hc => ?_) (fun hc => ?_)
        · have hf := fm_pT hf hc
          refine lv_iconst (v := (0 : Int32)) hx hb dX9_readPresent_141 (by decide) ?_
          exact fm_rz hC hI hr hlk (by decide) hf dX9_readPresent_142
        · have hf := fm_pF hf hc
          refine lv_iconst (v := (1 : Int32)) hx hb dX9_readPresent_137 (by decide) ?_
          refine lv_goto (tgt := 142) hx hb dX9_readPresent_138 (by decide) ?_
          exact fm_rz hC hI hr hlk (by decide) hf dX9_readPresent_142
      · have hf := fm_pT hf hc
        refine lv_aload_n hx hb dX9_readPresent_42 rfl (lv_at hl 2 rfl) ?_
        obtain ⟨_u18, σ19, hq20, hf⟩ := fm_bE hf
        refine fm_cv hI (fm_runV (As := []) (rest := []) (rm := { frames := 6, cells := 0, slots := 0, locals := 128 }) hC hI (c_X9_step hC.2.2.1 hq20) mV_X9_step q_610 ⟨rfl, rfl⟩ ⟨Nat.le_of_ble_eq_true rfl, Nat.le_of_ble_eq_true rfl⟩ fc_92 rfl (by decide) rfl hl.1 rfl (Nat.le_of_ble_eq_true rfl) dX9_readPresent_43 ⟨Nat.zero_le _, Nat.zero_le _⟩) (fun H locs hI => ?_)
        refine lv_aload_n hx hb dX9_readPresent_46 rfl (lv_at hl 2 rfl) ?_
        refine fm_gi hC hI fd_X9_4 fc_92 q_190 dX9_readPresent_47 ?_
        refine lv_bipush (v := (13 : Int32)) hx hb dX9_readPresent_50 (by decide) ?_
        refine lv_icmp_ne (tgt := 64) hx hb dX9_readPresent_52 (by decide) (fun hc => ?_) (fun hc => ?_)
        · have hf := fm_pF hf hc
          refine lv_iconst (v := (0 : Int32)) hx hb dX9_readPresent_64 (by decide) ?_
          exact fm_rz hC hI hr hlk (by decide) hf dX9_readPresent_65
        · have hf := fm_pT hf hc
          refine lv_aload_n hx hb dX9_readPresent_55 rfl (lv_at hl 2 rfl) ?_
          refine fm_gi hC hI fd_X9_5 fc_92 q_191 dX9_readPresent_56 ?_
          refine lv_bipush (v := (99 : Int32)) hx hb dX9_readPresent_59 (by decide) ?_
          refine lv_icmp_le (tgt := 66) hx hb dX9_readPresent_61 (by decide) (fun hc => ?_) (fun hc => ?_)
          · have hf := fm_pT hf hc
            refine lv_aload_n hx hb dX9_readPresent_66 rfl (lv_at hl 2 rfl) ?_
            refine fm_gi hC hI fd_X9_5 fc_92 q_191 dX9_readPresent_67 ?_
            refine lv_istore_n (lv' := [(3, .int (σ19.1 92 5)), (2, .int (σ.1 92 5)), (0, .ref (G.2.1 92)), (1, .ref (G.2.1 a1))]) hx hb dX9_readPresent_70 rfl hl (Nat.le_of_ble_eq_true rfl) rfl (fun ls hl => ?_)
            refine lv_aload_n hx hb dX9_readPresent_71 rfl (lv_at hl 2 rfl) ?_
            obtain ⟨_u21, σ22, hq23, hf⟩ := fm_bE hf
            refine fm_cv hI (fm_runV (As := []) (rest := []) (rm := { frames := 6, cells := 0, slots := 0, locals := 128 }) hC hI (c_X9_step hC.2.2.1 hq23) mV_X9_step q_610 ⟨rfl, rfl⟩ ⟨Nat.le_of_ble_eq_true rfl, Nat.le_of_ble_eq_true rfl⟩ fc_92 rfl (by decide) rfl hl.1 rfl (Nat.le_of_ble_eq_true rfl) dX9_readPresent_72 ⟨Nat.zero_le _, Nat.zero_le _⟩) (fun H locs hI => ?_)
            refine lv_aload_n hx hb dX9_readPresent_75 rfl (lv_at hl 3 rfl) ?_
            refine lv_iload_n hx hb dX9_readPresent_76 rfl (lv_at hl 1 rfl) ?_
            refine lv_iload_n hx hb dX9_readPresent_77 rfl (lv_at hl 0 rfl) ?_
            obtain ⟨r24, σ25, hq26, hf⟩ := fm_bE hf
            refine fm_ci hI (fm_runV (As := [.int (σ.1 92 5), .int (σ19.1 92 5)]) (rest := []) (rm := { frames := 1, cells := 0, slots := 0, locals := 22 }) hC hI (c_X10_addPresent hC.2.2.1 h1 hq26) mV_X10_addPresent q_705 ⟨rfl, rfl⟩ ⟨Nat.le_of_ble_eq_true rfl, Nat.le_of_ble_eq_true rfl⟩ h1 rfl (by decide) rfl hl.1 rfl (Nat.le_of_ble_eq_true rfl) dX9_readPresent_78 ⟨Nat.zero_le _, Nat.zero_le _⟩) (fun H locs hI => ?_)
            refine lv_istore (lv' := [(4, .int r24), (3, .int (σ19.1 92 5)), (2, .int (σ.1 92 5)), (0, .ref (G.2.1 92)), (1, .ref (G.2.1 a1))]) hx hb dX9_readPresent_81 hl (Nat.le_of_ble_eq_true rfl) rfl (fun ls hl => ?_)
            refine lv_iconst (v := (0 : Int32)) hx hb dX9_readPresent_83 (by decide) ?_
            refine lv_istore (lv' := [(5, .int (0 : Int32)), (4, .int r24), (3, .int (σ19.1 92 5)), (2, .int (σ.1 92 5)), (0, .ref (G.2.1 92)), (1, .ref (G.2.1 a1))]) hx hb dX9_readPresent_84 hl (Nat.le_of_ble_eq_true rfl) rfl (fun ls hl => ?_)
            refine w_X9_readPresent_86 hC hr hlk (fun x1_y27 x4_y27 x5_y27 σ_y27 H locs ls hx1_y27 hI hl hf => ?_) fm_fu a1 r24 (0 : Int32) σ25 _ _ _ h1 hI (lv_sub hl [4, 5, 1, 0] rfl) hf
            refine lv_iload hx hb dX9_readPresent_132 (lv_at hl 2 rfl) ?_
            refine lv_if_lt (tgt := 141) hx hb dX9_readPresent_134 (by decide) (fun hc => ?_) (fun hc => ?_)
            · have hf := fm_pT hf hc
              refine lv_iconst (v := (0 : Int32)) hx hb dX9_readPresent_141 (by decide) ?_
              exact fm_rz hC hI hr hlk (by decide) hf dX9_readPresent_142
            · have hf := fm_pF hf hc
              refine lv_iconst (v := (1 : Int32)) hx hb dX9_readPresent_137 (by decide) ?_
              refine lv_goto (tgt := 142) hx hb dX9_readPresent_138 (by decide) ?_
              exact fm_rz hC hI hr hlk (by decide) hf dX9_readPresent_142
          · have hf := fm_pF hf hc
            refine lv_iconst (v := (0 : Int32)) hx hb dX9_readPresent_64 (by decide) ?_
            exact fm_rz hC hI hr hlk (by decide) hf dX9_readPresent_65
    · have hf := fm_pF hf hc
      refine lv_iconst (v := (0 : Int32)) hx hb dX9_readPresent_20 (by decide) ?_
      exact fm_rz hC hI hr hlk (by decide) hf dX9_readPresent_21
def m_X9_readItem (a1 : Nat) (σ : fm_M) : Option (Int32 × fm_M) := if (6 : Int32) ≤ (σ.1 92 4) then (if (σ.1 92 4) = (10 : Int32) then (if (σ.1 a1 5) < (8 : Int32) then (fm_b (m_X9_step  σ) fun _u1 σ2 => (fm_b (m_X9_readPresent a1 σ2) fun r4 σ5 => (fm_g (fm_bz r4) (some (r4, σ5))))) else (some ((0 : Int32), σ))) else (some ((0 : Int32), σ))) else (fm_b (m_X10_addPerson a1 (σ.1 92 4) σ) fun r8 σ9 => (if 0 ≤ r8 then (fm_b (m_X9_step  σ9) fun _u11 σ12 => (some ((1 : Int32), σ12))) else (some ((0 : Int32), σ9))))
set_option maxHeartbeats 4000000 in
set_option maxRecDepth 100000 in
theorem c_X9_readItem {l : Launch} {G : fm_G} (hJ : fm_J G) {a1 : Nat} {σ : fm_M} {o : Int32 × fm_M} (h1 : fm_ct a1 = 10) (hf : m_X9_readItem a1 σ = some o) : Met l yX9_readItem (fm_w yX9_readItem cX9_readItem 2 (some .boolean)) { frames := 8, cells := 0, slots := 0, locals := 173 } (va_Pc [.ref (G.2.1 92), .ref (G.2.1 a1)] (fm_st G σ)) (fm_Qi G o) 0 0 (fm_A G) := by
  refine fm_mth (own := RX9) hJ rfl (by decide +kernel) (Nat.le_of_ble_eq_true rfl) ?_
  intro p e s m below meth c ls hC hr hlk hI hl
  have hx := hC.1.1
  have hb := hC.1.2.1
  have hown := hC.1.2.2.2.1
  have hts := hC.1.2.2.2.2
  have hl : lv_has ls 2 [(0, .ref (G.2.1 92)), (1, .ref (G.2.1 a1))] := hl
  rw [m_X9_readItem] at hf
  refine lv_aload_n hx hb dX9_readItem_0 rfl (lv_at hl 0 rfl) ?_
  refine fm_gi hC hI fd_X9_4 fc_92 q_190 dX9_readItem_1 ?_
  refine lv_bipush (v := (6 : Int32)) hx hb dX9_readItem_4 (by decide) ?_
  refine lv_icmp_ge (tgt := 28) hx hb dX9_readItem_6 (by decide) (fun hc => ?_) (fun hc => ?_)
  · have hf := fm_pT hf hc
    refine lv_aload_n hx hb dX9_readItem_28 rfl (lv_at hl 0 rfl) ?_
    refine fm_gi hC hI fd_X9_4 fc_92 q_190 dX9_readItem_29 ?_
    refine lv_bipush (v := (10 : Int32)) hx hb dX9_readItem_32 (by decide) ?_
    refine lv_icmp_ne (tgt := 46) hx hb dX9_readItem_34 (by decide) (fun hc => ?_) (fun hc => ?_)
    · have hf := fm_pF hf hc
      refine lv_iconst (v := (0 : Int32)) hx hb dX9_readItem_46 (by decide) ?_
      exact fm_rz hC hI hr hlk (by decide) hf dX9_readItem_47
    · have hf := fm_pT hf hc
      refine lv_aload_n hx hb dX9_readItem_37 rfl (lv_at hl 1 rfl) ?_
      refine fm_gi hC hI fd_X10_5 h1 q_143 dX9_readItem_38 ?_
      refine lv_bipush (v := (8 : Int32)) hx hb dX9_readItem_41 (by decide) ?_
      refine lv_icmp_lt (tgt := 48) hx hb dX9_readItem_43 (by decide) (fun hc => ?_) (fun hc => ?_)
      · have hf := fm_pT hf hc
        refine lv_aload_n hx hb dX9_readItem_48 rfl (lv_at hl 0 rfl) ?_
        obtain ⟨_u1, σ2, hq3, hf⟩ := fm_bE hf
        refine fm_cv hI (fm_runV (As := []) (rest := []) (rm := { frames := 6, cells := 0, slots := 0, locals := 128 }) hC hI (c_X9_step hC.2.2.1 hq3) mV_X9_step q_610 ⟨rfl, rfl⟩ ⟨Nat.le_of_ble_eq_true rfl, Nat.le_of_ble_eq_true rfl⟩ fc_92 rfl (by decide) rfl hl.1 rfl (Nat.le_of_ble_eq_true rfl) dX9_readItem_49 ⟨Nat.zero_le _, Nat.zero_le _⟩) (fun H locs hI => ?_)
        refine lv_aload_n hx hb dX9_readItem_52 rfl (lv_at hl 0 rfl) ?_
        refine lv_aload_n hx hb dX9_readItem_53 rfl (lv_at hl 1 rfl) ?_
        obtain ⟨r4, σ5, hq6, hf⟩ := fm_bE hf
        refine fm_ci hI (fm_runV (As := [.ref (G.2.1 a1)]) (rest := []) (rm := { frames := 7, cells := 0, slots := 0, locals := 148 }) hC hI (c_X9_readPresent hC.2.2.1 h1 hq6) mV_X9_readPresent q_701 ⟨rfl, rfl⟩ ⟨Nat.le_of_ble_eq_true rfl, Nat.le_of_ble_eq_true rfl⟩ fc_92 rfl (by decide) rfl hl.1 rfl (Nat.le_of_ble_eq_true rfl) dX9_readItem_54 ⟨Nat.zero_le _, Nat.zero_le _⟩) (fun H locs hI => ?_)
        obtain ⟨hg7, hf⟩ := fm_gE hf
        exact fm_rz hC hI hr hlk hg7 hf dX9_readItem_57
      · have hf := fm_pF hf hc
        refine lv_iconst (v := (0 : Int32)) hx hb dX9_readItem_46 (by decide) ?_
        exact fm_rz hC hI hr hlk (by decide) hf dX9_readItem_47
  · have hf := fm_pF hf hc
    refine lv_aload_n hx hb dX9_readItem_9 rfl (lv_at hl 1 rfl) ?_
    refine lv_aload_n hx hb dX9_readItem_10 rfl (lv_at hl 0 rfl) ?_
    refine fm_gi hC hI fd_X9_4 fc_92 q_190 dX9_readItem_11 ?_
    obtain ⟨r8, σ9, hq10, hf⟩ := fm_bE hf
    refine fm_ci hI (fm_runV (As := [.int (σ.1 92 4)]) (rest := []) (rm := { frames := 0, cells := 0, slots := 0, locals := 0 }) hC hI (c_X10_addPerson hC.2.2.1 h1 hq10) mV_X10_addPerson q_700 ⟨rfl, rfl⟩ ⟨Nat.le_of_ble_eq_true rfl, Nat.le_of_ble_eq_true rfl⟩ h1 rfl (by decide) rfl hl.1 rfl (Nat.le_of_ble_eq_true rfl) dX9_readItem_14 ⟨Nat.zero_le _, Nat.zero_le _⟩) (fun H locs hI => ?_)
    refine lv_if_ge (tgt := 22) hx hb dX9_readItem_17 (by decide) (fun hc => ?_) (fun hc => ?_)
    · have hf := fm_pT hf hc
      refine lv_aload_n hx hb dX9_readItem_22 rfl (lv_at hl 0 rfl) ?_
      obtain ⟨_u11, σ12, hq13, hf⟩ := fm_bE hf
      refine fm_cv hI (fm_runV (As := []) (rest := []) (rm := { frames := 6, cells := 0, slots := 0, locals := 128 }) hC hI (c_X9_step hC.2.2.1 hq13) mV_X9_step q_610 ⟨rfl, rfl⟩ ⟨Nat.le_of_ble_eq_true rfl, Nat.le_of_ble_eq_true rfl⟩ fc_92 rfl (by decide) rfl hl.1 rfl (Nat.le_of_ble_eq_true rfl) dX9_readItem_23 ⟨Nat.zero_le _, Nat.zero_le _⟩) (fun H locs hI => ?_)
      refine lv_iconst (v := (1 : Int32)) hx hb dX9_readItem_26 (by decide) ?_
      exact fm_rz hC hI hr hlk (by decide) hf dX9_readItem_27
    · have hf := fm_pF hf hc
      refine lv_iconst (v := (0 : Int32)) hx hb dX9_readItem_20 (by decide) ?_
      exact fm_rz hC hI hr hlk (by decide) hf dX9_readItem_21
def m_X9_readTown_11 (kc : Nat → Int32 → fm_M → Option (Int32 × fm_M)) : Nat → Nat → Int32 → fm_M → Option (Int32 × fm_M)
  | 0, _, _, _ => none
  | n + 1, z1, z2, σ => if (120 : Int32) < z2 then (kc z1 z2 σ) else (fm_b (m_X9_readItem z1 σ) fun r6 σ7 => (if r6 = 0 then (kc z1 z2 σ7) else (if (σ7.1 92 4) = (14 : Int32) then (some (z2, σ7)) else (if (σ7.1 92 4) = (12 : Int32) then (fm_b (m_X9_step  σ7) fun _u9 σ10 => (m_X9_readTown_11 kc n z1 (z2 + (1 : Int32)) σ10)) else (kc z1 z2 σ7)))))
def m_X9_readTown (a1 : Nat) (σ : fm_M) : Option (Int32 × fm_M) := fm_let (fm_sI σ 92 3 (0 : Int32)) fun σ1 => (fm_b (m_X9_step  σ1) fun _u3 σ4 => (m_X9_readTown_11 (fun (x1_y12 : Nat) (x2_y12 : Int32) (σ_y12 : fm_M) => some (((-1 : Int32) - (σ_y12.1 92 2)), σ_y12)) fm_fu a1 (1 : Int32) σ4))
set_option maxHeartbeats 4000000 in
set_option maxRecDepth 100000 in
theorem w_X9_readTown_11 {p : Program} {l : Launch} {e : Env} {s : State} {m : MethodId} {args : Array Value} {below : List Frame} {meth : Method} {c : Code} {G : fm_G} {o : Int32 × fm_M} {kc : Nat → Int32 → fm_M → Option (Int32 × fm_M)} (hC : fm_C G p m c cX9_readTown 3 s args RX9) (hr : meth.sig.returnType = (some .int)) (hlk : meth.locks = false) (hk : ∀ (z1 : Nat) (z2 : Int32) (σ : fm_M) (H : Heap) (locs : List Loc) (ls : Array Slot), fm_ct z1 = 10 → fm_I G σ s H locs → lv_has ls 3 [(0, .ref (G.2.1 92)), (1, .ref (G.2.1 z1)), (2, .int z2)] → kc z1 z2 σ = some o → W p l e { frames := 9, cells := 0, slots := 0, locals := 194 } s m args below meth c H locs 0 0 (MQ below (fm_Qi G o) args s 0 0 (fm_A G)) (F0 m 61 ls [])) (n : Nat) : ∀ (z1 : Nat) (z2 : Int32) (σ : fm_M) (H : Heap) (locs : List Loc) (ls : Array Slot), fm_ct z1 = 10 → fm_I G σ s H locs → lv_has ls 3 [(0, .ref (G.2.1 92)), (1, .ref (G.2.1 z1)), (2, .int z2)] → m_X9_readTown_11 kc n z1 z2 σ = some o → W p l e { frames := 9, cells := 0, slots := 0, locals := 194 } s m args below meth c H locs 0 0 (MQ below (fm_Qi G o) args s 0 0 (fm_A G)) (F0 m 11 ls []) := by
  have hx := hC.1.1
  have hb := hC.1.2.1
  have hown := hC.1.2.2.2.1
  have hts := hC.1.2.2.2.2
  induction n with
  | zero =>
    intro z1 z2 σ H locs ls hz1 hI hl hf
    cases hf
  | succ n ih =>
    intro z1 z2 σ H locs ls hz1 hI hl hf
    rw [m_X9_readTown_11] at hf
    refine lv_iload_n hx hb dX9_readTown_11 rfl (lv_at hl 2 rfl) ?_
    refine lv_bipush (v := (120 : Int32)) hx hb dX9_readTown_12 (by decide) ?_
    refine lv_icmp_gt (tgt := 61) hx hb dX9_readTown_14 (by decide) (fun hc => ?_) (fun hc => ?_)
    · have hf := fm_pT hf hc
      exact hk z1 z2 σ _ _ _ hz1 hI (lv_sub hl [0, 1, 2] rfl) hf
    · have hf := fm_pF hf hc
      refine lv_aload_n hx hb dX9_readTown_17 rfl (lv_at hl 0 rfl) ?_
      refine lv_aload_n hx hb dX9_readTown_18 rfl (lv_at hl 1 rfl) ?_
      obtain ⟨r6, σ7, hq8, hf⟩ := fm_bE hf
      refine fm_ci hI (fm_runV (As := [.ref (G.2.1 z1)]) (rest := []) (rm := { frames := 8, cells := 0, slots := 0, locals := 173 }) hC hI (c_X9_readItem hC.2.2.1 hz1 hq8) mV_X9_readItem q_696 ⟨rfl, rfl⟩ ⟨Nat.le_of_ble_eq_true rfl, Nat.le_of_ble_eq_true rfl⟩ fc_92 rfl (by decide) rfl hl.1 rfl (Nat.le_of_ble_eq_true rfl) dX9_readTown_19 ⟨Nat.zero_le _, Nat.zero_le _⟩) (fun H locs hI => ?_)
      refine lv_if_ne (tgt := 28) hx hb dX9_readTown_22 (by decide) (fun hc => ?_) (fun hc => ?_)
      · have hf := fm_pF hf hc
        refine lv_aload_n hx hb dX9_readTown_28 rfl (lv_at hl 0 rfl) ?_
        refine fm_gi hC hI fd_X9_4 fc_92 q_190 dX9_readTown_29 ?_
        refine lv_bipush (v := (14 : Int32)) hx hb dX9_readTown_32 (by decide) ?_
        refine lv_icmp_ne (tgt := 39) hx hb dX9_readTown_34 (by decide) (fun hc => ?_) (fun hc => ?_)
        · have hf := fm_pF hf hc
          refine lv_aload_n hx hb dX9_readTown_39 rfl (lv_at hl 0 rfl) ?_
          refine fm_gi hC hI fd_X9_4 fc_92 q_190 dX9_readTown_40 ?_
          refine lv_bipush (v := (12 : Int32)) hx hb dX9_readTown_43 (by decide) ?_
          refine lv_icmp_eq (tgt := 51) hx hb dX9_readTown_45 (by decide) (fun hc => ?_) (fun hc => ?_)
          · have hf := fm_pT hf hc
            refine lv_aload_n hx hb dX9_readTown_51 rfl (lv_at hl 0 rfl) ?_
            obtain ⟨_u9, σ10, hq11, hf⟩ := fm_bE hf
            refine fm_cv hI (fm_runV (As := []) (rest := []) (rm := { frames := 6, cells := 0, slots := 0, locals := 128 }) hC hI (c_X9_step hC.2.2.1 hq11) mV_X9_step q_610 ⟨rfl, rfl⟩ ⟨Nat.le_of_ble_eq_true rfl, Nat.le_of_ble_eq_true rfl⟩ fc_92 rfl (by decide) rfl hl.1 rfl (Nat.le_of_ble_eq_true rfl) dX9_readTown_52 ⟨Nat.zero_le _, Nat.zero_le _⟩) (fun H locs hI => ?_)
            refine lv_iinc (v := (z2 + (1 : Int32))) (lv' := [(2, .int (z2 + (1 : Int32))), (0, .ref (G.2.1 92)), (1, .ref (G.2.1 z1))]) hx hb dX9_readTown_55 hl (k := 2) rfl rfl (Nat.le_of_ble_eq_true rfl) rfl (fun ls hl => ?_)
            refine lv_goto (tgt := 11) hx hb dX9_readTown_58 (by decide) ?_
            exact ih z1 (z2 + (1 : Int32)) σ10 _ _ _ hz1 hI (lv_sub hl [1, 2, 0] rfl) hf
          · have hf := fm_pF hf hc
            refine lv_goto (tgt := 61) hx hb dX9_readTown_48 (by decide) ?_
            exact hk z1 z2 σ7 _ _ _ hz1 hI (lv_sub hl [0, 1, 2] rfl) hf
        · have hf := fm_pT hf hc
          refine lv_iload_n hx hb dX9_readTown_37 rfl (lv_at hl 2 rfl) ?_
          exact fm_ri hC hI hr hlk hf dX9_readTown_38
      · have hf := fm_pT hf hc
        refine lv_goto (tgt := 61) hx hb dX9_readTown_25 (by decide) ?_
        exact hk z1 z2 σ7 _ _ _ hz1 hI (lv_sub hl [0, 1, 2] rfl) hf
set_option maxHeartbeats 4000000 in
set_option maxRecDepth 100000 in
theorem c_X9_readTown {l : Launch} {G : fm_G} (hJ : fm_J G) {a1 : Nat} {σ : fm_M} {o : Int32 × fm_M} (h1 : fm_ct a1 = 10) (hf : m_X9_readTown a1 σ = some o) : Met l yX9_readTown (fm_w yX9_readTown cX9_readTown 3 (some .int)) { frames := 9, cells := 0, slots := 0, locals := 194 } (va_Pc [.ref (G.2.1 92), .ref (G.2.1 a1)] (fm_st G σ)) (fm_Qi G o) 0 0 (fm_A G) := by
  refine fm_mth (own := RX9) hJ rfl (by decide +kernel) (Nat.le_of_ble_eq_true rfl) ?_
  intro p e s m below meth c ls hC hr hlk hI hl
  have hx := hC.1.1
  have hb := hC.1.2.1
  have hown := hC.1.2.2.2.1
  have hts := hC.1.2.2.2.2
  have hl : lv_has ls 3 [(0, .ref (G.2.1 92)), (1, .ref (G.2.1 a1))] := hl
  rw [m_X9_readTown] at hf
  refine lv_aload_n hx hb dX9_readTown_0 rfl (lv_at hl 0 rfl) ?_
  refine lv_iconst (v := (0 : Int32)) hx hb dX9_readTown_1 (by decide) ?_
  obtain ⟨σ1, e2, hf⟩ := fm_letE hf
  refine fm_pi hC hI fp_X9_3 fc_92 ⟨rfl, rfl⟩ e2 q_189 dX9_readTown_2 (fun H locs hI => ?_)
  refine lv_aload_n hx hb dX9_readTown_5 rfl (lv_at hl 0 rfl) ?_
  obtain ⟨_u3, σ4, hq5, hf⟩ := fm_bE hf
  refine fm_cv hI (fm_runV (As := []) (rest := []) (rm := { frames := 6, cells := 0, slots := 0, locals := 128 }) hC hI (c_X9_step hC.2.2.1 hq5) mV_X9_step q_610 ⟨rfl, rfl⟩ ⟨Nat.le_of_ble_eq_true rfl, Nat.le_of_ble_eq_true rfl⟩ fc_92 rfl (by decide) rfl hl.1 rfl (Nat.le_of_ble_eq_true rfl) dX9_readTown_6 ⟨Nat.zero_le _, Nat.zero_le _⟩) (fun H locs hI => ?_)
  refine lv_iconst (v := (1 : Int32)) hx hb dX9_readTown_9 (by decide) ?_
  refine lv_istore_n (lv' := [(2, .int (1 : Int32)), (0, .ref (G.2.1 92)), (1, .ref (G.2.1 a1))]) hx hb dX9_readTown_10 rfl hl (Nat.le_of_ble_eq_true rfl) rfl (fun ls hl => ?_)
  refine w_X9_readTown_11 hC hr hlk (fun x1_y12 x2_y12 σ_y12 H locs ls hx1_y12 hI hl hf => ?_) fm_fu a1 (1 : Int32) σ4 _ _ _ h1 hI (lv_sub hl [1, 2, 0] rfl) hf
  refine lv_iconst (v := (-1 : Int32)) hx hb dX9_readTown_61 (by decide) ?_
  refine lv_aload_n hx hb dX9_readTown_62 rfl (lv_at hl 0 rfl) ?_
  refine fm_gi hC hI fd_X9_2 fc_92 q_188 dX9_readTown_63 ?_
  refine lv_isub hx hb dX9_readTown_66 ?_
  exact fm_ri hC hI hr hlk hf dX9_readTown_67
def m_J6_bitCount_0f7a4 (a0 : Int32) (σ : fm_M) : Option (Int32 × fm_M) := some (((((((((a0 - ((a0.toUInt32 >>> (Int32.toUInt32 (1 : Int32) &&& Int32.toUInt32 31)).toInt32 &&& (1431655765 : Int32))) &&& (858993459 : Int32)) + (((a0 - ((a0.toUInt32 >>> (Int32.toUInt32 (1 : Int32) &&& Int32.toUInt32 31)).toInt32 &&& (1431655765 : Int32))).toUInt32 >>> (Int32.toUInt32 (2 : Int32) &&& Int32.toUInt32 31)).toInt32 &&& (858993459 : Int32))) + ((((a0 - ((a0.toUInt32 >>> (Int32.toUInt32 (1 : Int32) &&& Int32.toUInt32 31)).toInt32 &&& (1431655765 : Int32))) &&& (858993459 : Int32)) + (((a0 - ((a0.toUInt32 >>> (Int32.toUInt32 (1 : Int32) &&& Int32.toUInt32 31)).toInt32 &&& (1431655765 : Int32))).toUInt32 >>> (Int32.toUInt32 (2 : Int32) &&& Int32.toUInt32 31)).toInt32 &&& (858993459 : Int32))).toUInt32 >>> (Int32.toUInt32 (4 : Int32) &&& Int32.toUInt32 31)).toInt32) &&& (252645135 : Int32)) + ((((((a0 - ((a0.toUInt32 >>> (Int32.toUInt32 (1 : Int32) &&& Int32.toUInt32 31)).toInt32 &&& (1431655765 : Int32))) &&& (858993459 : Int32)) + (((a0 - ((a0.toUInt32 >>> (Int32.toUInt32 (1 : Int32) &&& Int32.toUInt32 31)).toInt32 &&& (1431655765 : Int32))).toUInt32 >>> (Int32.toUInt32 (2 : Int32) &&& Int32.toUInt32 31)).toInt32 &&& (858993459 : Int32))) + ((((a0 - ((a0.toUInt32 >>> (Int32.toUInt32 (1 : Int32) &&& Int32.toUInt32 31)).toInt32 &&& (1431655765 : Int32))) &&& (858993459 : Int32)) + (((a0 - ((a0.toUInt32 >>> (Int32.toUInt32 (1 : Int32) &&& Int32.toUInt32 31)).toInt32 &&& (1431655765 : Int32))).toUInt32 >>> (Int32.toUInt32 (2 : Int32) &&& Int32.toUInt32 31)).toInt32 &&& (858993459 : Int32))).toUInt32 >>> (Int32.toUInt32 (4 : Int32) &&& Int32.toUInt32 31)).toInt32) &&& (252645135 : Int32)).toUInt32 >>> (Int32.toUInt32 (8 : Int32) &&& Int32.toUInt32 31)).toInt32) + (((((((a0 - ((a0.toUInt32 >>> (Int32.toUInt32 (1 : Int32) &&& Int32.toUInt32 31)).toInt32 &&& (1431655765 : Int32))) &&& (858993459 : Int32)) + (((a0 - ((a0.toUInt32 >>> (Int32.toUInt32 (1 : Int32) &&& Int32.toUInt32 31)).toInt32 &&& (1431655765 : Int32))).toUInt32 >>> (Int32.toUInt32 (2 : Int32) &&& Int32.toUInt32 31)).toInt32 &&& (858993459 : Int32))) + ((((a0 - ((a0.toUInt32 >>> (Int32.toUInt32 (1 : Int32) &&& Int32.toUInt32 31)).toInt32 &&& (1431655765 : Int32))) &&& (858993459 : Int32)) + (((a0 - ((a0.toUInt32 >>> (Int32.toUInt32 (1 : Int32) &&& Int32.toUInt32 31)).toInt32 &&& (1431655765 : Int32))).toUInt32 >>> (Int32.toUInt32 (2 : Int32) &&& Int32.toUInt32 31)).toInt32 &&& (858993459 : Int32))).toUInt32 >>> (Int32.toUInt32 (4 : Int32) &&& Int32.toUInt32 31)).toInt32) &&& (252645135 : Int32)) + ((((((a0 - ((a0.toUInt32 >>> (Int32.toUInt32 (1 : Int32) &&& Int32.toUInt32 31)).toInt32 &&& (1431655765 : Int32))) &&& (858993459 : Int32)) + (((a0 - ((a0.toUInt32 >>> (Int32.toUInt32 (1 : Int32) &&& Int32.toUInt32 31)).toInt32 &&& (1431655765 : Int32))).toUInt32 >>> (Int32.toUInt32 (2 : Int32) &&& Int32.toUInt32 31)).toInt32 &&& (858993459 : Int32))) + ((((a0 - ((a0.toUInt32 >>> (Int32.toUInt32 (1 : Int32) &&& Int32.toUInt32 31)).toInt32 &&& (1431655765 : Int32))) &&& (858993459 : Int32)) + (((a0 - ((a0.toUInt32 >>> (Int32.toUInt32 (1 : Int32) &&& Int32.toUInt32 31)).toInt32 &&& (1431655765 : Int32))).toUInt32 >>> (Int32.toUInt32 (2 : Int32) &&& Int32.toUInt32 31)).toInt32 &&& (858993459 : Int32))).toUInt32 >>> (Int32.toUInt32 (4 : Int32) &&& Int32.toUInt32 31)).toInt32) &&& (252645135 : Int32)).toUInt32 >>> (Int32.toUInt32 (8 : Int32) &&& Int32.toUInt32 31)).toInt32).toUInt32 >>> (Int32.toUInt32 (16 : Int32) &&& Int32.toUInt32 31)).toInt32) &&& (63 : Int32)), σ)
set_option maxHeartbeats 4000000 in
set_option maxRecDepth 100000 in
theorem c_J6_bitCount_0f7a4 {l : Launch} {G : fm_G} (hJ : fm_J G) {a0 : Int32} {σ : fm_M} {o : Int32 × fm_M}  (hf : m_J6_bitCount_0f7a4 a0 σ = some o) : Met l yJ6_bitCount_0f7a4 (fm_w yJ6_bitCount_0f7a4 cJ6_bitCount_0f7a4 1 (some .int)) { frames := 0, cells := 0, slots := 0, locals := 0 } (va_Pc [.int a0] (fm_st G σ)) (fm_Qi G o) 0 0 (fm_A G) := by
  refine fm_mth (own := RJ6) hJ rfl (by decide +kernel) (Nat.le_of_ble_eq_true rfl) ?_
  intro p e s m below meth c ls hC hr hlk hI hl
  have hx := hC.1.1
  have hb := hC.1.2.1
  have hown := hC.1.2.2.2.1
  have hts := hC.1.2.2.2.2
  have hl : lv_has ls 1 [(0, .int a0)] := hl
  rw [m_J6_bitCount_0f7a4] at hf
  refine lv_iload_n hx hb dJ6_bitCount_0f7a4_0 rfl (lv_at hl 0 rfl) ?_
  refine lv_iload_n hx hb dJ6_bitCount_0f7a4_1 rfl (lv_at hl 0 rfl) ?_
  refine lv_iconst (v := (1 : Int32)) hx hb dJ6_bitCount_0f7a4_2 (by decide) ?_
  refine lv_iushr (v := (a0.toUInt32 >>> (Int32.toUInt32 (1 : Int32) &&& Int32.toUInt32 31)).toInt32) hx hb dJ6_bitCount_0f7a4_3 rfl ?_
  refine lv_ldcw (v := (1431655765 : Int32)) hx hb hown (hts _ q_785) dJ6_bitCount_0f7a4_4 ?_
  refine lv_iand hx hb dJ6_bitCount_0f7a4_7 ?_
  refine lv_isub hx hb dJ6_bitCount_0f7a4_8 ?_
  refine lv_istore_n (lv' := [(0, .int (a0 - ((a0.toUInt32 >>> (Int32.toUInt32 (1 : Int32) &&& Int32.toUInt32 31)).toInt32 &&& (1431655765 : Int32))))]) hx hb dJ6_bitCount_0f7a4_9 rfl hl (Nat.le_of_ble_eq_true rfl) rfl (fun ls hl => ?_)
  refine lv_iload_n hx hb dJ6_bitCount_0f7a4_10 rfl (lv_at hl 0 rfl) ?_
  refine lv_ldcw (v := (858993459 : Int32)) hx hb hown (hts _ q_786) dJ6_bitCount_0f7a4_11 ?_
  refine lv_iand hx hb dJ6_bitCount_0f7a4_14 ?_
  refine lv_iload_n hx hb dJ6_bitCount_0f7a4_15 rfl (lv_at hl 0 rfl) ?_
  refine lv_iconst (v := (2 : Int32)) hx hb dJ6_bitCount_0f7a4_16 (by decide) ?_
  refine lv_iushr (v := ((a0 - ((a0.toUInt32 >>> (Int32.toUInt32 (1 : Int32) &&& Int32.toUInt32 31)).toInt32 &&& (1431655765 : Int32))).toUInt32 >>> (Int32.toUInt32 (2 : Int32) &&& Int32.toUInt32 31)).toInt32) hx hb dJ6_bitCount_0f7a4_17 rfl ?_
  refine lv_ldcw (v := (858993459 : Int32)) hx hb hown (hts _ q_786) dJ6_bitCount_0f7a4_18 ?_
  refine lv_iand hx hb dJ6_bitCount_0f7a4_21 ?_
  refine lv_iadd hx hb dJ6_bitCount_0f7a4_22 ?_
  refine lv_istore_n (lv' := [(0, .int (((a0 - ((a0.toUInt32 >>> (Int32.toUInt32 (1 : Int32) &&& Int32.toUInt32 31)).toInt32 &&& (1431655765 : Int32))) &&& (858993459 : Int32)) + (((a0 - ((a0.toUInt32 >>> (Int32.toUInt32 (1 : Int32) &&& Int32.toUInt32 31)).toInt32 &&& (1431655765 : Int32))).toUInt32 >>> (Int32.toUInt32 (2 : Int32) &&& Int32.toUInt32 31)).toInt32 &&& (858993459 : Int32))))]) hx hb dJ6_bitCount_0f7a4_23 rfl hl (Nat.le_of_ble_eq_true rfl) rfl (fun ls hl => ?_)
  refine lv_iload_n hx hb dJ6_bitCount_0f7a4_24 rfl (lv_at hl 0 rfl) ?_
  refine lv_iload_n hx hb dJ6_bitCount_0f7a4_25 rfl (lv_at hl 0 rfl) ?_
  refine lv_iconst (v := (4 : Int32)) hx hb dJ6_bitCount_0f7a4_26 (by decide) ?_
  refine lv_iushr (v := ((((a0 - ((a0.toUInt32 >>> (Int32.toUInt32 (1 : Int32) &&& Int32.toUInt32 31)).toInt32 &&& (1431655765 : Int32))) &&& (858993459 : Int32)) + (((a0 - ((a0.toUInt32 >>> (Int32.toUInt32 (1 : Int32) &&& Int32.toUInt32 31)).toInt32 &&& (1431655765 : Int32))).toUInt32 >>> (Int32.toUInt32 (2 : Int32) &&& Int32.toUInt32 31)).toInt32 &&& (858993459 : Int32))).toUInt32 >>> (Int32.toUInt32 (4 : Int32) &&& Int32.toUInt32 31)).toInt32) hx hb dJ6_bitCount_0f7a4_27 rfl ?_
  refine lv_iadd hx hb dJ6_bitCount_0f7a4_28 ?_
  refine lv_ldcw (v := (252645135 : Int32)) hx hb hown (hts _ q_787) dJ6_bitCount_0f7a4_29 ?_
  refine lv_iand hx hb dJ6_bitCount_0f7a4_32 ?_
  refine lv_istore_n (lv' := [(0, .int (((((a0 - ((a0.toUInt32 >>> (Int32.toUInt32 (1 : Int32) &&& Int32.toUInt32 31)).toInt32 &&& (1431655765 : Int32))) &&& (858993459 : Int32)) + (((a0 - ((a0.toUInt32 >>> (Int32.toUInt32 (1 : Int32) &&& Int32.toUInt32 31)).toInt32 &&& (1431655765 : Int32))).toUInt32 >>> (Int32.toUInt32 (2 : Int32) &&& Int32.toUInt32 31)).toInt32 &&& (858993459 : Int32))) + ((((a0 - ((a0.toUInt32 >>> (Int32.toUInt32 (1 : Int32) &&& Int32.toUInt32 31)).toInt32 &&& (1431655765 : Int32))) &&& (858993459 : Int32)) + (((a0 - ((a0.toUInt32 >>> (Int32.toUInt32 (1 : Int32) &&& Int32.toUInt32 31)).toInt32 &&& (1431655765 : Int32))).toUInt32 >>> (Int32.toUInt32 (2 : Int32) &&& Int32.toUInt32 31)).toInt32 &&& (858993459 : Int32))).toUInt32 >>> (Int32.toUInt32 (4 : Int32) &&& Int32.toUInt32 31)).toInt32) &&& (252645135 : Int32)))]) hx hb dJ6_bitCount_0f7a4_33 rfl hl (Nat.le_of_ble_eq_true rfl) rfl (fun ls hl => ?_)
  refine lv_iload_n hx hb dJ6_bitCount_0f7a4_34 rfl (lv_at hl 0 rfl) ?_
  refine lv_iload_n hx hb dJ6_bitCount_0f7a4_35 rfl (lv_at hl 0 rfl) ?_
  refine lv_bipush (v := (8 : Int32)) hx hb dJ6_bitCount_0f7a4_36 (by decide) ?_
  refine lv_iushr (v := ((((((a0 - ((a0.toUInt32 >>> (Int32.toUInt32 (1 : Int32) &&& Int32.toUInt32 31)).toInt32 &&& (1431655765 : Int32))) &&& (858993459 : Int32)) + (((a0 - ((a0.toUInt32 >>> (Int32.toUInt32 (1 : Int32) &&& Int32.toUInt32 31)).toInt32 &&& (1431655765 : Int32))).toUInt32 >>> (Int32.toUInt32 (2 : Int32) &&& Int32.toUInt32 31)).toInt32 &&& (858993459 : Int32))) + ((((a0 - ((a0.toUInt32 >>> (Int32.toUInt32 (1 : Int32) &&& Int32.toUInt32 31)).toInt32 &&& (1431655765 : Int32))) &&& (858993459 : Int32)) + (((a0 - ((a0.toUInt32 >>> (Int32.toUInt32 (1 : Int32) &&& Int32.toUInt32 31)).toInt32 &&& (1431655765 : Int32))).toUInt32 >>> (Int32.toUInt32 (2 : Int32) &&& Int32.toUInt32 31)).toInt32 &&& (858993459 : Int32))).toUInt32 >>> (Int32.toUInt32 (4 : Int32) &&& Int32.toUInt32 31)).toInt32) &&& (252645135 : Int32)).toUInt32 >>> (Int32.toUInt32 (8 : Int32) &&& Int32.toUInt32 31)).toInt32) hx hb dJ6_bitCount_0f7a4_38 rfl ?_
  refine lv_iadd hx hb dJ6_bitCount_0f7a4_39 ?_
  refine lv_istore_n (lv' := [(0, .int ((((((a0 - ((a0.toUInt32 >>> (Int32.toUInt32 (1 : Int32) &&& Int32.toUInt32 31)).toInt32 &&& (1431655765 : Int32))) &&& (858993459 : Int32)) + (((a0 - ((a0.toUInt32 >>> (Int32.toUInt32 (1 : Int32) &&& Int32.toUInt32 31)).toInt32 &&& (1431655765 : Int32))).toUInt32 >>> (Int32.toUInt32 (2 : Int32) &&& Int32.toUInt32 31)).toInt32 &&& (858993459 : Int32))) + ((((a0 - ((a0.toUInt32 >>> (Int32.toUInt32 (1 : Int32) &&& Int32.toUInt32 31)).toInt32 &&& (1431655765 : Int32))) &&& (858993459 : Int32)) + (((a0 - ((a0.toUInt32 >>> (Int32.toUInt32 (1 : Int32) &&& Int32.toUInt32 31)).toInt32 &&& (1431655765 : Int32))).toUInt32 >>> (Int32.toUInt32 (2 : Int32) &&& Int32.toUInt32 31)).toInt32 &&& (858993459 : Int32))).toUInt32 >>> (Int32.toUInt32 (4 : Int32) &&& Int32.toUInt32 31)).toInt32) &&& (252645135 : Int32)) + ((((((a0 - ((a0.toUInt32 >>> (Int32.toUInt32 (1 : Int32) &&& Int32.toUInt32 31)).toInt32 &&& (1431655765 : Int32))) &&& (858993459 : Int32)) + (((a0 - ((a0.toUInt32 >>> (Int32.toUInt32 (1 : Int32) &&& Int32.toUInt32 31)).toInt32 &&& (1431655765 : Int32))).toUInt32 >>> (Int32.toUInt32 (2 : Int32) &&& Int32.toUInt32 31)).toInt32 &&& (858993459 : Int32))) + ((((a0 - ((a0.toUInt32 >>> (Int32.toUInt32 (1 : Int32) &&& Int32.toUInt32 31)).toInt32 &&& (1431655765 : Int32))) &&& (858993459 : Int32)) + (((a0 - ((a0.toUInt32 >>> (Int32.toUInt32 (1 : Int32) &&& Int32.toUInt32 31)).toInt32 &&& (1431655765 : Int32))).toUInt32 >>> (Int32.toUInt32 (2 : Int32) &&& Int32.toUInt32 31)).toInt32 &&& (858993459 : Int32))).toUInt32 >>> (Int32.toUInt32 (4 : Int32) &&& Int32.toUInt32 31)).toInt32) &&& (252645135 : Int32)).toUInt32 >>> (Int32.toUInt32 (8 : Int32) &&& Int32.toUInt32 31)).toInt32))]) hx hb dJ6_bitCount_0f7a4_40 rfl hl (Nat.le_of_ble_eq_true rfl) rfl (fun ls hl => ?_)
  refine lv_iload_n hx hb dJ6_bitCount_0f7a4_41 rfl (lv_at hl 0 rfl) ?_
  refine lv_iload_n hx hb dJ6_bitCount_0f7a4_42 rfl (lv_at hl 0 rfl) ?_
  refine lv_bipush (v := (16 : Int32)) hx hb dJ6_bitCount_0f7a4_43 (by decide) ?_
  refine lv_iushr (v := (((((((a0 - ((a0.toUInt32 >>> (Int32.toUInt32 (1 : Int32) &&& Int32.toUInt32 31)).toInt32 &&& (1431655765 : Int32))) &&& (858993459 : Int32)) + (((a0 - ((a0.toUInt32 >>> (Int32.toUInt32 (1 : Int32) &&& Int32.toUInt32 31)).toInt32 &&& (1431655765 : Int32))).toUInt32 >>> (Int32.toUInt32 (2 : Int32) &&& Int32.toUInt32 31)).toInt32 &&& (858993459 : Int32))) + ((((a0 - ((a0.toUInt32 >>> (Int32.toUInt32 (1 : Int32) &&& Int32.toUInt32 31)).toInt32 &&& (1431655765 : Int32))) &&& (858993459 : Int32)) + (((a0 - ((a0.toUInt32 >>> (Int32.toUInt32 (1 : Int32) &&& Int32.toUInt32 31)).toInt32 &&& (1431655765 : Int32))).toUInt32 >>> (Int32.toUInt32 (2 : Int32) &&& Int32.toUInt32 31)).toInt32 &&& (858993459 : Int32))).toUInt32 >>> (Int32.toUInt32 (4 : Int32) &&& Int32.toUInt32 31)).toInt32) &&& (252645135 : Int32)) + ((((((a0 - ((a0.toUInt32 >>> (Int32.toUInt32 (1 : Int32) &&& Int32.toUInt32 31)).toInt32 &&& (1431655765 : Int32))) &&& (858993459 : Int32)) + (((a0 - ((a0.toUInt32 >>> (Int32.toUInt32 (1 : Int32) &&& Int32.toUInt32 31)).toInt32 &&& (1431655765 : Int32))).toUInt32 >>> (Int32.toUInt32 (2 : Int32) &&& Int32.toUInt32 31)).toInt32 &&& (858993459 : Int32))) + ((((a0 - ((a0.toUInt32 >>> (Int32.toUInt32 (1 : Int32) &&& Int32.toUInt32 31)).toInt32 &&& (1431655765 : Int32))) &&& (858993459 : Int32)) + (((a0 - ((a0.toUInt32 >>> (Int32.toUInt32 (1 : Int32) &&& Int32.toUInt32 31)).toInt32 &&& (1431655765 : Int32))).toUInt32 >>> (Int32.toUInt32 (2 : Int32) &&& Int32.toUInt32 31)).toInt32 &&& (858993459 : Int32))).toUInt32 >>> (Int32.toUInt32 (4 : Int32) &&& Int32.toUInt32 31)).toInt32) &&& (252645135 : Int32)).toUInt32 >>> (Int32.toUInt32 (8 : Int32) &&& Int32.toUInt32 31)).toInt32).toUInt32 >>> (Int32.toUInt32 (16 : Int32) &&& Int32.toUInt32 31)).toInt32) hx hb dJ6_bitCount_0f7a4_45 rfl ?_
  refine lv_iadd hx hb dJ6_bitCount_0f7a4_46 ?_
  refine lv_istore_n (lv' := [(0, .int (((((((a0 - ((a0.toUInt32 >>> (Int32.toUInt32 (1 : Int32) &&& Int32.toUInt32 31)).toInt32 &&& (1431655765 : Int32))) &&& (858993459 : Int32)) + (((a0 - ((a0.toUInt32 >>> (Int32.toUInt32 (1 : Int32) &&& Int32.toUInt32 31)).toInt32 &&& (1431655765 : Int32))).toUInt32 >>> (Int32.toUInt32 (2 : Int32) &&& Int32.toUInt32 31)).toInt32 &&& (858993459 : Int32))) + ((((a0 - ((a0.toUInt32 >>> (Int32.toUInt32 (1 : Int32) &&& Int32.toUInt32 31)).toInt32 &&& (1431655765 : Int32))) &&& (858993459 : Int32)) + (((a0 - ((a0.toUInt32 >>> (Int32.toUInt32 (1 : Int32) &&& Int32.toUInt32 31)).toInt32 &&& (1431655765 : Int32))).toUInt32 >>> (Int32.toUInt32 (2 : Int32) &&& Int32.toUInt32 31)).toInt32 &&& (858993459 : Int32))).toUInt32 >>> (Int32.toUInt32 (4 : Int32) &&& Int32.toUInt32 31)).toInt32) &&& (252645135 : Int32)) + ((((((a0 - ((a0.toUInt32 >>> (Int32.toUInt32 (1 : Int32) &&& Int32.toUInt32 31)).toInt32 &&& (1431655765 : Int32))) &&& (858993459 : Int32)) + (((a0 - ((a0.toUInt32 >>> (Int32.toUInt32 (1 : Int32) &&& Int32.toUInt32 31)).toInt32 &&& (1431655765 : Int32))).toUInt32 >>> (Int32.toUInt32 (2 : Int32) &&& Int32.toUInt32 31)).toInt32 &&& (858993459 : Int32))) + ((((a0 - ((a0.toUInt32 >>> (Int32.toUInt32 (1 : Int32) &&& Int32.toUInt32 31)).toInt32 &&& (1431655765 : Int32))) &&& (858993459 : Int32)) + (((a0 - ((a0.toUInt32 >>> (Int32.toUInt32 (1 : Int32) &&& Int32.toUInt32 31)).toInt32 &&& (1431655765 : Int32))).toUInt32 >>> (Int32.toUInt32 (2 : Int32) &&& Int32.toUInt32 31)).toInt32 &&& (858993459 : Int32))).toUInt32 >>> (Int32.toUInt32 (4 : Int32) &&& Int32.toUInt32 31)).toInt32) &&& (252645135 : Int32)).toUInt32 >>> (Int32.toUInt32 (8 : Int32) &&& Int32.toUInt32 31)).toInt32) + (((((((a0 - ((a0.toUInt32 >>> (Int32.toUInt32 (1 : Int32) &&& Int32.toUInt32 31)).toInt32 &&& (1431655765 : Int32))) &&& (858993459 : Int32)) + (((a0 - ((a0.toUInt32 >>> (Int32.toUInt32 (1 : Int32) &&& Int32.toUInt32 31)).toInt32 &&& (1431655765 : Int32))).toUInt32 >>> (Int32.toUInt32 (2 : Int32) &&& Int32.toUInt32 31)).toInt32 &&& (858993459 : Int32))) + ((((a0 - ((a0.toUInt32 >>> (Int32.toUInt32 (1 : Int32) &&& Int32.toUInt32 31)).toInt32 &&& (1431655765 : Int32))) &&& (858993459 : Int32)) + (((a0 - ((a0.toUInt32 >>> (Int32.toUInt32 (1 : Int32) &&& Int32.toUInt32 31)).toInt32 &&& (1431655765 : Int32))).toUInt32 >>> (Int32.toUInt32 (2 : Int32) &&& Int32.toUInt32 31)).toInt32 &&& (858993459 : Int32))).toUInt32 >>> (Int32.toUInt32 (4 : Int32) &&& Int32.toUInt32 31)).toInt32) &&& (252645135 : Int32)) + ((((((a0 - ((a0.toUInt32 >>> (Int32.toUInt32 (1 : Int32) &&& Int32.toUInt32 31)).toInt32 &&& (1431655765 : Int32))) &&& (858993459 : Int32)) + (((a0 - ((a0.toUInt32 >>> (Int32.toUInt32 (1 : Int32) &&& Int32.toUInt32 31)).toInt32 &&& (1431655765 : Int32))).toUInt32 >>> (Int32.toUInt32 (2 : Int32) &&& Int32.toUInt32 31)).toInt32 &&& (858993459 : Int32))) + ((((a0 - ((a0.toUInt32 >>> (Int32.toUInt32 (1 : Int32) &&& Int32.toUInt32 31)).toInt32 &&& (1431655765 : Int32))) &&& (858993459 : Int32)) + (((a0 - ((a0.toUInt32 >>> (Int32.toUInt32 (1 : Int32) &&& Int32.toUInt32 31)).toInt32 &&& (1431655765 : Int32))).toUInt32 >>> (Int32.toUInt32 (2 : Int32) &&& Int32.toUInt32 31)).toInt32 &&& (858993459 : Int32))).toUInt32 >>> (Int32.toUInt32 (4 : Int32) &&& Int32.toUInt32 31)).toInt32) &&& (252645135 : Int32)).toUInt32 >>> (Int32.toUInt32 (8 : Int32) &&& Int32.toUInt32 31)).toInt32).toUInt32 >>> (Int32.toUInt32 (16 : Int32) &&& Int32.toUInt32 31)).toInt32))]) hx hb dJ6_bitCount_0f7a4_47 rfl hl (Nat.le_of_ble_eq_true rfl) rfl (fun ls hl => ?_)
  refine lv_iload_n hx hb dJ6_bitCount_0f7a4_48 rfl (lv_at hl 0 rfl) ?_
  refine lv_bipush (v := (63 : Int32)) hx hb dJ6_bitCount_0f7a4_49 (by decide) ?_
  refine lv_iand hx hb dJ6_bitCount_0f7a4_51 ?_
  exact fm_ri hC hI hr hlk hf dJ6_bitCount_0f7a4_52
def m_X11_within (a0 : Int32) (a1 : Int32) (a2 : Int32) (σ : fm_M) : Option (Int32 × fm_M) := if a0 < a1 then (some ((0 : Int32), σ)) else (if a2 < a0 then (some ((0 : Int32), σ)) else (some ((1 : Int32), σ)))
set_option maxHeartbeats 4000000 in
set_option maxRecDepth 100000 in
theorem c_X11_within {l : Launch} {G : fm_G} (hJ : fm_J G) {a0 : Int32} {a1 : Int32} {a2 : Int32} {σ : fm_M} {o : Int32 × fm_M}  (hf : m_X11_within a0 a1 a2 σ = some o) : Met l yX11_within (fm_w yX11_within cX11_within 3 (some .boolean)) { frames := 0, cells := 0, slots := 0, locals := 0 } (va_Pc [.int a0, .int a1, .int a2] (fm_st G σ)) (fm_Qi G o) 0 0 (fm_A G) := by
  refine fm_mth (own := RX11) hJ rfl (by decide +kernel) (Nat.le_of_ble_eq_true rfl) ?_
  intro p e s m below meth c ls hC hr hlk hI hl
  have hx := hC.1.1
  have hb := hC.1.2.1
  have hown := hC.1.2.2.2.1
  have hts := hC.1.2.2.2.2
  have hl : lv_has ls 3 [(0, .int a0), (1, .int a1), (2, .int a2)] := hl
  rw [m_X11_within] at hf
  refine lv_iload_n hx hb dX11_within_0 rfl (lv_at hl 0 rfl) ?_
  refine lv_iload_n hx hb dX11_within_1 rfl (lv_at hl 1 rfl) ?_
  refine lv_icmp_lt (tgt := 14) hx hb dX11_within_2 (by decide) (fun hc => ?_) (fun hc => ?_)
  · have hf := fm_pT hf hc
    refine lv_iconst (v := (0 : Int32)) hx hb dX11_within_14 (by decide) ?_
    exact fm_rz hC hI hr hlk (by decide) hf dX11_within_15
  · have hf := fm_pF hf hc
    refine lv_iload_n hx hb dX11_within_5 rfl (lv_at hl 0 rfl) ?_
    refine lv_iload_n hx hb dX11_within_6 rfl (lv_at hl 2 rfl) ?_
    refine lv_icmp_gt (tgt := 14) hx hb dX11_within_7 (by decide) (fun hc => ?_) (fun hc => ?_)
    · have hf := fm_pT hf hc
      refine lv_iconst (v := (0 : Int32)) hx hb dX11_within_14 (by decide) ?_
      exact fm_rz hC hI hr hlk (by decide) hf dX11_within_15
    · have hf := fm_pF hf hc
      refine lv_iconst (v := (1 : Int32)) hx hb dX11_within_10 (by decide) ?_
      refine lv_goto (tgt := 15) hx hb dX11_within_11 (by decide) ?_
      exact fm_rz hC hI hr hlk (by decide) hf dX11_within_15
def m_X11_isKind (a0 : Int32) (σ : fm_M) : Option (Int32 × fm_M) := fm_b (m_X11_within a0 (0 : Int32) (5 : Int32) σ) fun r1 σ2 => (fm_g (fm_bz r1) (some (r1, σ2)))
set_option maxHeartbeats 4000000 in
set_option maxRecDepth 100000 in
theorem c_X11_isKind {l : Launch} {G : fm_G} (hJ : fm_J G) {a0 : Int32} {σ : fm_M} {o : Int32 × fm_M}  (hf : m_X11_isKind a0 σ = some o) : Met l yX11_isKind (fm_w yX11_isKind cX11_isKind 1 (some .boolean)) { frames := 1, cells := 0, slots := 0, locals := 22 } (va_Pc [.int a0] (fm_st G σ)) (fm_Qi G o) 0 0 (fm_A G) := by
  refine fm_mth (own := RX11) hJ rfl (by decide +kernel) (Nat.le_of_ble_eq_true rfl) ?_
  intro p e s m below meth c ls hC hr hlk hI hl
  have hx := hC.1.1
  have hb := hC.1.2.1
  have hown := hC.1.2.2.2.1
  have hts := hC.1.2.2.2.2
  have hl : lv_has ls 1 [(0, .int a0)] := hl
  rw [m_X11_isKind] at hf
  refine lv_iload_n hx hb dX11_isKind_0 rfl (lv_at hl 0 rfl) ?_
  refine lv_iconst (v := (0 : Int32)) hx hb dX11_isKind_1 (by decide) ?_
  refine lv_iconst (v := (5 : Int32)) hx hb dX11_isKind_2 (by decide) ?_
  obtain ⟨r1, σ2, hq3, hf⟩ := fm_bE hf
  refine fm_ci hI (fm_runS (As := [.int a0, .int (0 : Int32), .int (5 : Int32)]) (rest := []) (rm := { frames := 0, cells := 0, slots := 0, locals := 0 }) hC hI (c_X11_within hC.2.2.1 hq3) mS_X11_within q_237 ⟨rfl, rfl⟩ ⟨Nat.le_of_ble_eq_true rfl, Nat.le_of_ble_eq_true rfl⟩ rfl hl.1 rfl (Nat.le_of_ble_eq_true rfl) dX11_isKind_3 ⟨Nat.zero_le _, Nat.zero_le _⟩) (fun H locs hI => ?_)
  obtain ⟨hg4, hf⟩ := fm_gE hf
  exact fm_rz hC hI hr hlk hg4 hf dX11_isKind_6
def m_X11_tell (a1 : Int32) (σ : fm_M) : Option (Int32 × fm_M) := fm_b (m_X11_within ((-1000000001 : Int32) - a1) (0 : Int32) (6 : Int32) σ) fun r1 σ2 => (if r1 = 0 then (some (a1, σ2)) else (fm_g (fm_in1 ((-1000000001 : Int32) - a1) 7) (fm_g (fm_in1 ((-1000000001 : Int32) - a1) 7) (fm_let (fm_sI σ2 94 ((-1000000001 : Int32) - a1).toNatClampNeg ((σ2.1 94 ((-1000000001 : Int32) - a1).toNatClampNeg) + (1 : Int32))) fun σ6 => (some (a1, σ6))))))
set_option maxHeartbeats 4000000 in
set_option maxRecDepth 100000 in
theorem c_X11_tell {l : Launch} {G : fm_G} (hJ : fm_J G) {a1 : Int32} {σ : fm_M} {o : Int32 × fm_M}  (hf : m_X11_tell a1 σ = some o) : Met l yX11_tell (fm_w yX11_tell cX11_tell 3 (some .int)) { frames := 1, cells := 0, slots := 0, locals := 22 } (va_Pc [.ref (G.2.1 0), .int a1] (fm_st G σ)) (fm_Qi G o) 0 0 (fm_A G) := by
  refine fm_mth (own := RX11) hJ rfl (by decide +kernel) (Nat.le_of_ble_eq_true rfl) ?_
  intro p e s m below meth c ls hC hr hlk hI hl
  have hx := hC.1.1
  have hb := hC.1.2.1
  have hown := hC.1.2.2.2.1
  have hts := hC.1.2.2.2.2
  have hl : lv_has ls 3 [(0, .ref (G.2.1 0)), (1, .int a1)] := hl
  rw [m_X11_tell] at hf
  refine lv_ldc (v := (-1000000001 : Int32)) hx hb hown (hts _ q_240) dX11_tell_0 ?_
  refine lv_iload_n hx hb dX11_tell_2 rfl (lv_at hl 1 rfl) ?_
  refine lv_isub hx hb dX11_tell_3 ?_
  refine lv_istore_n (lv' := [(2, .int ((-1000000001 : Int32) - a1)), (0, .ref (G.2.1 0)), (1, .int a1)]) hx hb dX11_tell_4 rfl hl (Nat.le_of_ble_eq_true rfl) rfl (fun ls hl => ?_)
  refine lv_iload_n hx hb dX11_tell_5 rfl (lv_at hl 0 rfl) ?_
  refine lv_iconst (v := (0 : Int32)) hx hb dX11_tell_6 (by decide) ?_
  refine lv_bipush (v := (6 : Int32)) hx hb dX11_tell_7 (by decide) ?_
  obtain ⟨r1, σ2, hq3, hf⟩ := fm_bE hf
  refine fm_ci hI (fm_runS (As := [.int ((-1000000001 : Int32) - a1), .int (0 : Int32), .int (6 : Int32)]) (rest := []) (rm := { frames := 0, cells := 0, slots := 0, locals := 0 }) hC hI (c_X11_within hC.2.2.1 hq3) mS_X11_within q_237 ⟨rfl, rfl⟩ ⟨Nat.le_of_ble_eq_true rfl, Nat.le_of_ble_eq_true rfl⟩ rfl hl.1 rfl (Nat.le_of_ble_eq_true rfl) dX11_tell_9 ⟨Nat.zero_le _, Nat.zero_le _⟩) (fun H locs hI => ?_)
  refine lv_if_eq (tgt := 25) hx hb dX11_tell_12 (by decide) (fun hc => ?_) (fun hc => ?_)
  · have hf := fm_pT hf hc
    refine lv_iload_n hx hb dX11_tell_25 rfl (lv_at hl 2 rfl) ?_
    exact fm_ri hC hI hr hlk hf dX11_tell_26
  · have hf := fm_pF hf hc
    refine lv_aload_n hx hb dX11_tell_15 rfl (lv_at hl 1 rfl) ?_
    refine fm_gr hC hI fd_X11_6 fc_0 fr_0_6 q_211 dX11_tell_16 ?_
    refine lv_iload_n hx hb dX11_tell_19 rfl (lv_at hl 0 rfl) ?_
    refine lv_dup2_11 hx hb dX11_tell_20 rfl rfl ?_
    obtain ⟨hg4, hf⟩ := fm_gE hf
    refine fm_iald hC hI fc_94 fl_94 hg4 dX11_tell_21 ?_
    refine lv_iconst (v := (1 : Int32)) hx hb dX11_tell_22 (by decide) ?_
    refine lv_iadd hx hb dX11_tell_23 ?_
    obtain ⟨hg5, hf⟩ := fm_gE hf
    obtain ⟨σ6, e7, hf⟩ := fm_letE hf
    refine fm_iast hC hI fc_94 fl_94 hg5 e7 dX11_tell_24 (fun H locs hI => ?_)
    refine lv_iload_n hx hb dX11_tell_25 rfl (lv_at hl 2 rfl) ?_
    exact fm_ri hC hI hr hlk hf dX11_tell_26
def m_X11_person (a1 : Int32) (σ : fm_M) : Option (Int32 × fm_M) := fm_b (m_X11_isKind a1 σ) fun r1 σ2 => (if r1 = 0 then (fm_b (m_X11_tell (-1000000001 : Int32) σ2) fun r10 σ11 => (some (r10, σ11))) else (if (σ2.1 8 4) < (6 : Int32) then (fm_b (m_X10_addPerson 8 a1 σ2) fun r4 σ5 => (some (r4, σ5))) else (fm_b (m_X11_tell (-1000000002 : Int32) σ2) fun r7 σ8 => (some (r7, σ8)))))
set_option maxHeartbeats 4000000 in
set_option maxRecDepth 100000 in
theorem c_X11_person {l : Launch} {G : fm_G} (hJ : fm_J G) {a1 : Int32} {σ : fm_M} {o : Int32 × fm_M}  (hf : m_X11_person a1 σ = some o) : Met l yX11_person (fm_w yX11_person cX11_person 2 (some .int)) { frames := 2, cells := 0, slots := 0, locals := 44 } (va_Pc [.ref (G.2.1 0), .int a1] (fm_st G σ)) (fm_Qi G o) 0 0 (fm_A G) := by
  refine fm_mth (own := RX11) hJ rfl (by decide +kernel) (Nat.le_of_ble_eq_true rfl) ?_
  intro p e s m below meth c ls hC hr hlk hI hl
  have hx := hC.1.1
  have hb := hC.1.2.1
  have hown := hC.1.2.2.2.1
  have hts := hC.1.2.2.2.2
  have hl : lv_has ls 2 [(0, .ref (G.2.1 0)), (1, .int a1)] := hl
  rw [m_X11_person] at hf
  refine lv_iload_n hx hb dX11_person_0 rfl (lv_at hl 1 rfl) ?_
  obtain ⟨r1, σ2, hq3, hf⟩ := fm_bE hf
  refine fm_ci hI (fm_runS (As := [.int a1]) (rest := []) (rm := { frames := 1, cells := 0, slots := 0, locals := 22 }) hC hI (c_X11_isKind hC.2.2.1 hq3) mS_X11_isKind q_234 ⟨rfl, rfl⟩ ⟨Nat.le_of_ble_eq_true rfl, Nat.le_of_ble_eq_true rfl⟩ rfl hl.1 rfl (Nat.le_of_ble_eq_true rfl) dX11_person_1 ⟨Nat.zero_le _, Nat.zero_le _⟩) (fun H locs hI => ?_)
  refine lv_if_ne (tgt := 14) hx hb dX11_person_4 (by decide) (fun hc => ?_) (fun hc => ?_)
  · have hf := fm_pF hf hc
    refine lv_aload_n hx hb dX11_person_14 rfl (lv_at hl 0 rfl) ?_
    refine fm_gr hC hI fd_X11_0 fc_0 fr_0_0 q_205 dX11_person_15 ?_
    refine fm_gi hC hI fd_X10_4 fc_8 q_140 dX11_person_18 ?_
    refine lv_bipush (v := (6 : Int32)) hx hb dX11_person_21 (by decide) ?_
    refine lv_icmp_lt (tgt := 33) hx hb dX11_person_23 (by decide) (fun hc => ?_) (fun hc => ?_)
    · have hf := fm_pT hf hc
      refine lv_aload_n hx hb dX11_person_33 rfl (lv_at hl 0 rfl) ?_
      refine fm_gr hC hI fd_X11_0 fc_0 fr_0_0 q_205 dX11_person_34 ?_
      refine lv_iload_n hx hb dX11_person_37 rfl (lv_at hl 1 rfl) ?_
      obtain ⟨r4, σ5, hq6, hf⟩ := fm_bE hf
      refine fm_ci hI (fm_runV (As := [.int a1]) (rest := []) (rm := { frames := 0, cells := 0, slots := 0, locals := 0 }) hC hI (c_X10_addPerson hC.2.2.1 fc_8 hq6) mV_X10_addPerson q_246 ⟨rfl, rfl⟩ ⟨Nat.le_of_ble_eq_true rfl, Nat.le_of_ble_eq_true rfl⟩ fc_8 rfl (by decide) rfl hl.1 rfl (Nat.le_of_ble_eq_true rfl) dX11_person_38 ⟨Nat.zero_le _, Nat.zero_le _⟩) (fun H locs hI => ?_)
      exact fm_ri hC hI hr hlk hf dX11_person_41
    · have hf := fm_pF hf hc
      refine lv_aload_n hx hb dX11_person_26 rfl (lv_at hl 0 rfl) ?_
      refine lv_ldc (v := (-1000000002 : Int32)) hx hb hown (hts _ q_245) dX11_person_27 ?_
      obtain ⟨r7, σ8, hq9, hf⟩ := fm_bE hf
      refine fm_ci hI (fm_runV (As := [.int (-1000000002 : Int32)]) (rest := []) (rm := { frames := 1, cells := 0, slots := 0, locals := 22 }) hC hI (c_X11_tell hC.2.2.1 hq9) mV_X11_tell q_241 ⟨rfl, rfl⟩ ⟨Nat.le_of_ble_eq_true rfl, Nat.le_of_ble_eq_true rfl⟩ fc_0 rfl (by decide) rfl hl.1 rfl (Nat.le_of_ble_eq_true rfl) dX11_person_29 ⟨Nat.zero_le _, Nat.zero_le _⟩) (fun H locs hI => ?_)
      exact fm_ri hC hI hr hlk hf dX11_person_32
  · have hf := fm_pT hf hc
    refine lv_aload_n hx hb dX11_person_7 rfl (lv_at hl 0 rfl) ?_
    refine lv_ldc (v := (-1000000001 : Int32)) hx hb hown (hts _ q_240) dX11_person_8 ?_
    obtain ⟨r10, σ11, hq12, hf⟩ := fm_bE hf
    refine fm_ci hI (fm_runV (As := [.int (-1000000001 : Int32)]) (rest := []) (rm := { frames := 1, cells := 0, slots := 0, locals := 22 }) hC hI (c_X11_tell hC.2.2.1 hq12) mV_X11_tell q_241 ⟨rfl, rfl⟩ ⟨Nat.le_of_ble_eq_true rfl, Nat.le_of_ble_eq_true rfl⟩ fc_0 rfl (by decide) rfl hl.1 rfl (Nat.le_of_ble_eq_true rfl) dX11_person_10 ⟨Nat.zero_le _, Nat.zero_le _⟩) (fun H locs hI => ?_)
    exact fm_ri hC hI hr hlk hf dX11_person_13
def m_X11_isPerson (a1 : Int32) (σ : fm_M) : Option (Int32 × fm_M) := fm_b (m_X11_within a1 (0 : Int32) ((σ.1 8 4) - (1 : Int32)) σ) fun r1 σ2 => (fm_g (fm_bz r1) (some (r1, σ2)))
set_option maxHeartbeats 4000000 in
set_option maxRecDepth 100000 in
theorem c_X11_isPerson {l : Launch} {G : fm_G} (hJ : fm_J G) {a1 : Int32} {σ : fm_M} {o : Int32 × fm_M}  (hf : m_X11_isPerson a1 σ = some o) : Met l yX11_isPerson (fm_w yX11_isPerson cX11_isPerson 2 (some .boolean)) { frames := 1, cells := 0, slots := 0, locals := 22 } (va_Pc [.ref (G.2.1 0), .int a1] (fm_st G σ)) (fm_Qi G o) 0 0 (fm_A G) := by
  refine fm_mth (own := RX11) hJ rfl (by decide +kernel) (Nat.le_of_ble_eq_true rfl) ?_
  intro p e s m below meth c ls hC hr hlk hI hl
  have hx := hC.1.1
  have hb := hC.1.2.1
  have hown := hC.1.2.2.2.1
  have hts := hC.1.2.2.2.2
  have hl : lv_has ls 2 [(0, .ref (G.2.1 0)), (1, .int a1)] := hl
  rw [m_X11_isPerson] at hf
  refine lv_iload_n hx hb dX11_isPerson_0 rfl (lv_at hl 1 rfl) ?_
  refine lv_iconst (v := (0 : Int32)) hx hb dX11_isPerson_1 (by decide) ?_
  refine lv_aload_n hx hb dX11_isPerson_2 rfl (lv_at hl 0 rfl) ?_
  refine fm_gr hC hI fd_X11_0 fc_0 fr_0_0 q_205 dX11_isPerson_3 ?_
  refine fm_gi hC hI fd_X10_4 fc_8 q_140 dX11_isPerson_6 ?_
  refine lv_iconst (v := (1 : Int32)) hx hb dX11_isPerson_9 (by decide) ?_
  refine lv_isub hx hb dX11_isPerson_10 ?_
  obtain ⟨r1, σ2, hq3, hf⟩ := fm_bE hf
  refine fm_ci hI (fm_runS (As := [.int a1, .int (0 : Int32), .int ((σ.1 8 4) - (1 : Int32))]) (rest := []) (rm := { frames := 0, cells := 0, slots := 0, locals := 0 }) hC hI (c_X11_within hC.2.2.1 hq3) mS_X11_within q_237 ⟨rfl, rfl⟩ ⟨Nat.le_of_ble_eq_true rfl, Nat.le_of_ble_eq_true rfl⟩ rfl hl.1 rfl (Nat.le_of_ble_eq_true rfl) dX11_isPerson_11 ⟨Nat.zero_le _, Nat.zero_le _⟩) (fun H locs hI => ?_)
  obtain ⟨hg4, hf⟩ := fm_gE hf
  exact fm_rz hC hI hr hlk hg4 hf dX11_isPerson_14
def m_X11_of (a1 : Int32) (a2 : Int32) (σ : fm_M) : Option (Int32 × fm_M) := fm_b (m_X11_isPerson a1 σ) fun r1 σ2 => (if r1 = 0 then (fm_b (m_X11_tell (-1000000001 : Int32) σ2) fun r22 σ23 => (some (r22, σ23))) else (if a2 = (0 : Int32) then (fm_g (fm_in1 a1 6) (some ((σ2.1 (8 + 2 + a1.toNatClampNeg) 0), σ2))) else (if a2 = (1 : Int32) then (fm_g (fm_in1 a1 6) (some ((σ2.1 (8 + 2 + a1.toNatClampNeg) 1), σ2))) else (if a2 = (2 : Int32) then (fm_b (m_X10_giftsWith 8 a1 σ2) fun r9 σ10 => (some (r9, σ10))) else (if a2 = (3 : Int32) then (fm_b (m_X10_giftsWith 8 a1 σ2) fun r13 σ14 => (fm_b (m_X10_unopened 8 σ14) fun r16 σ17 => (some ((r13 &&& r16), σ17)))) else (fm_b (m_X11_tell (-1000000001 : Int32) σ2) fun r19 σ20 => (some (r19, σ20))))))))
set_option maxHeartbeats 4000000 in
set_option maxRecDepth 100000 in
theorem c_X11_of {l : Launch} {G : fm_G} (hJ : fm_J G) {a1 : Int32} {a2 : Int32} {σ : fm_M} {o : Int32 × fm_M}  (hf : m_X11_of a1 a2 σ = some o) : Met l yX11_of (fm_w yX11_of cX11_of 3 (some .int)) { frames := 2, cells := 0, slots := 0, locals := 44 } (va_Pc [.ref (G.2.1 0), .int a1, .int a2] (fm_st G σ)) (fm_Qi G o) 0 0 (fm_A G) := by
  refine fm_mth (own := RX11) hJ rfl (by decide +kernel) (Nat.le_of_ble_eq_true rfl) ?_
  intro p e s m below meth c ls hC hr hlk hI hl
  have hx := hC.1.1
  have hb := hC.1.2.1
  have hown := hC.1.2.2.2.1
  have hts := hC.1.2.2.2.2
  have hl : lv_has ls 3 [(0, .ref (G.2.1 0)), (1, .int a1), (2, .int a2)] := hl
  rw [m_X11_of] at hf
  refine lv_aload_n hx hb dX11_of_0 rfl (lv_at hl 0 rfl) ?_
  refine lv_iload_n hx hb dX11_of_1 rfl (lv_at hl 1 rfl) ?_
  obtain ⟨r1, σ2, hq3, hf⟩ := fm_bE hf
  refine fm_ci hI (fm_runV (As := [.int a1]) (rest := []) (rm := { frames := 1, cells := 0, slots := 0, locals := 22 }) hC hI (c_X11_isPerson hC.2.2.1 hq3) mV_X11_isPerson q_254 ⟨rfl, rfl⟩ ⟨Nat.le_of_ble_eq_true rfl, Nat.le_of_ble_eq_true rfl⟩ fc_0 rfl (by decide) rfl hl.1 rfl (Nat.le_of_ble_eq_true rfl) dX11_of_2 ⟨Nat.zero_le _, Nat.zero_le _⟩) (fun H locs hI => ?_)
  refine lv_if_ne (tgt := 15) hx hb dX11_of_5 (by decide) (fun hc => ?_) (fun hc => ?_)
  · have hf := fm_pF hf hc
    refine lv_iload_n hx hb dX11_of_15 rfl (lv_at hl 2 rfl) ?_
    by_cases hc4 : a2 = (0 : Int32)
    · have hf := fm_pT hf hc4
      refine lv_tableIn (off := 32) (tgt := 48) hx hb dX11_of_16 (by rw [hc4]; decide) (by rw [hc4]; decide) (by rw [hc4]; decide) (by decide) ?_
      refine lv_aload_n hx hb dX11_of_48 rfl (lv_at hl 0 rfl) ?_
      refine fm_gr hC hI fd_X11_0 fc_0 fr_0_0 q_205 dX11_of_49 ?_
      refine fm_gr hC hI fd_X10_1 fc_8 fr_8_1 q_133 dX11_of_52 ?_
      refine lv_iload_n hx hb dX11_of_55 rfl (lv_at hl 1 rfl) ?_
      obtain ⟨hg5, hf⟩ := fm_gE hf
      refine fm_aald (t0 := 4) hC hI fc_9 (by decide) (by decide) rfl fl_9 hg5 (fm_T3 (x := a1) fc_8 hg5).2 dX11_of_56 ?_
      refine fm_gi hC hI fd_X5_0 (fm_T3 (x := a1) fc_8 hg5).1 q_90 dX11_of_57 ?_
      exact fm_ri hC hI hr hlk hf dX11_of_60
    · have hf := fm_pF hf hc4
      by_cases hc6 : a2 = (1 : Int32)
      · have hf := fm_pT hf hc6
        refine lv_tableIn (off := 45) (tgt := 61) hx hb dX11_of_16 (by rw [hc6]; decide) (by rw [hc6]; decide) (by rw [hc6]; decide) (by decide) ?_
        refine lv_aload_n hx hb dX11_of_61 rfl (lv_at hl 0 rfl) ?_
        refine fm_gr hC hI fd_X11_0 fc_0 fr_0_0 q_205 dX11_of_62 ?_
        refine fm_gr hC hI fd_X10_1 fc_8 fr_8_1 q_133 dX11_of_65 ?_
        refine lv_iload_n hx hb dX11_of_68 rfl (lv_at hl 1 rfl) ?_
        obtain ⟨hg7, hf⟩ := fm_gE hf
        refine fm_aald (t0 := 4) hC hI fc_9 (by decide) (by decide) rfl fl_9 hg7 (fm_T3 (x := a1) fc_8 hg7).2 dX11_of_69 ?_
        refine fm_gi hC hI fd_X5_1 (fm_T3 (x := a1) fc_8 hg7).1 q_93 dX11_of_70 ?_
        exact fm_ri hC hI hr hlk hf dX11_of_73
      · have hf := fm_pF hf hc6
        by_cases hc8 : a2 = (2 : Int32)
        · have hf := fm_pT hf hc8
          refine lv_tableIn (off := 58) (tgt := 74) hx hb dX11_of_16 (by rw [hc8]; decide) (by rw [hc8]; decide) (by rw [hc8]; decide) (by decide) ?_
          refine lv_aload_n hx hb dX11_of_74 rfl (lv_at hl 0 rfl) ?_
          refine fm_gr hC hI fd_X11_0 fc_0 fr_0_0 q_205 dX11_of_75 ?_
          refine lv_iload_n hx hb dX11_of_78 rfl (lv_at hl 1 rfl) ?_
          obtain ⟨r9, σ10, hq11, hf⟩ := fm_bE hf
          refine fm_ci hI (fm_runV (As := [.int a1]) (rest := []) (rm := { frames := 0, cells := 0, slots := 0, locals := 0 }) hC hI (c_X10_giftsWith hC.2.2.1 fc_8 hq11) mV_X10_giftsWith q_258 ⟨rfl, rfl⟩ ⟨Nat.le_of_ble_eq_true rfl, Nat.le_of_ble_eq_true rfl⟩ fc_8 rfl (by decide) rfl hl.1 rfl (Nat.le_of_ble_eq_true rfl) dX11_of_79 ⟨Nat.zero_le _, Nat.zero_le _⟩) (fun H locs hI => ?_)
          exact fm_ri hC hI hr hlk hf dX11_of_82
        · have hf := fm_pF hf hc8
          by_cases hc12 : a2 = (3 : Int32)
          · have hf := fm_pT hf hc12
            refine lv_tableIn (off := 67) (tgt := 83) hx hb dX11_of_16 (by rw [hc12]; decide) (by rw [hc12]; decide) (by rw [hc12]; decide) (by decide) ?_
            refine lv_aload_n hx hb dX11_of_83 rfl (lv_at hl 0 rfl) ?_
            refine fm_gr hC hI fd_X11_0 fc_0 fr_0_0 q_205 dX11_of_84 ?_
            refine lv_iload_n hx hb dX11_of_87 rfl (lv_at hl 1 rfl) ?_
            obtain ⟨r13, σ14, hq15, hf⟩ := fm_bE hf
            refine fm_ci hI (fm_runV (As := [.int a1]) (rest := []) (rm := { frames := 0, cells := 0, slots := 0, locals := 0 }) hC hI (c_X10_giftsWith hC.2.2.1 fc_8 hq15) mV_X10_giftsWith q_258 ⟨rfl, rfl⟩ ⟨Nat.le_of_ble_eq_true rfl, Nat.le_of_ble_eq_true rfl⟩ fc_8 rfl (by decide) rfl hl.1 rfl (Nat.le_of_ble_eq_true rfl) dX11_of_88 ⟨Nat.zero_le _, Nat.zero_le _⟩) (fun H locs hI => ?_)
            refine lv_aload_n hx hb dX11_of_91 rfl (lv_at hl 0 rfl) ?_
            refine fm_gr hC hI fd_X11_0 fc_0 fr_0_0 q_205 dX11_of_92 ?_
            obtain ⟨r16, σ17, hq18, hf⟩ := fm_bE hf
            refine fm_ci hI (fm_runV (As := []) (rest := [.int r13]) (rm := { frames := 1, cells := 0, slots := 0, locals := 22 }) hC hI (c_X10_unopened hC.2.2.1 fc_8 hq18) mV_X10_unopened q_262 ⟨rfl, rfl⟩ ⟨Nat.le_of_ble_eq_true rfl, Nat.le_of_ble_eq_true rfl⟩ fc_8 rfl (by decide) rfl hl.1 rfl (Nat.le_of_ble_eq_true rfl) dX11_of_95 ⟨Nat.zero_le _, Nat.zero_le _⟩) (fun H locs hI => ?_)
            refine lv_iand hx hb dX11_of_98 ?_
            exact fm_ri hC hI hr hlk hf dX11_of_99
          · have hf := fm_pF hf hc12
            have hsw : (a2 : Int32).toInt < 0 ∨ 3 < (a2 : Int32).toInt := by
              have t0 := fm_neI hc4
              rw [show ((0 : Int32)).toInt = 0 from by decide] at t0
              have t1 := fm_neI hc6
              rw [show ((1 : Int32)).toInt = 1 from by decide] at t1
              have t2 := fm_neI hc8
              rw [show ((2 : Int32)).toInt = 2 from by decide] at t2
              have t3 := fm_neI hc12
              rw [show ((3 : Int32)).toInt = 3 from by decide] at t3
              omega
            refine lv_tableOut (tgt := 100) hx hb dX11_of_16 hsw (by decide) ?_
            refine lv_aload_n hx hb dX11_of_100 rfl (lv_at hl 0 rfl) ?_
            refine lv_ldc (v := (-1000000001 : Int32)) hx hb hown (hts _ q_240) dX11_of_101 ?_
            obtain ⟨r19, σ20, hq21, hf⟩ := fm_bE hf
            refine fm_ci hI (fm_runV (As := [.int (-1000000001 : Int32)]) (rest := []) (rm := { frames := 1, cells := 0, slots := 0, locals := 22 }) hC hI (c_X11_tell hC.2.2.1 hq21) mV_X11_tell q_241 ⟨rfl, rfl⟩ ⟨Nat.le_of_ble_eq_true rfl, Nat.le_of_ble_eq_true rfl⟩ fc_0 rfl (by decide) rfl hl.1 rfl (Nat.le_of_ble_eq_true rfl) dX11_of_103 ⟨Nat.zero_le _, Nat.zero_le _⟩) (fun H locs hI => ?_)
            exact fm_ri hC hI hr hlk hf dX11_of_106
  · have hf := fm_pT hf hc
    refine lv_aload_n hx hb dX11_of_8 rfl (lv_at hl 0 rfl) ?_
    refine lv_ldc (v := (-1000000001 : Int32)) hx hb hown (hts _ q_240) dX11_of_9 ?_
    obtain ⟨r22, σ23, hq24, hf⟩ := fm_bE hf
    refine fm_ci hI (fm_runV (As := [.int (-1000000001 : Int32)]) (rest := []) (rm := { frames := 1, cells := 0, slots := 0, locals := 22 }) hC hI (c_X11_tell hC.2.2.1 hq24) mV_X11_tell q_241 ⟨rfl, rfl⟩ ⟨Nat.le_of_ble_eq_true rfl, Nat.le_of_ble_eq_true rfl⟩ fc_0 rfl (by decide) rfl hl.1 rfl (Nat.le_of_ble_eq_true rfl) dX11_of_11 ⟨Nat.zero_le _, Nat.zero_le _⟩) (fun H locs hI => ?_)
    exact fm_ri hC hI hr hlk hf dX11_of_14
def m_X11_isPresent (a1 : Int32) (σ : fm_M) : Option (Int32 × fm_M) := fm_b (m_X11_within a1 (0 : Int32) ((σ.1 8 5) - (1 : Int32)) σ) fun r1 σ2 => (fm_g (fm_bz r1) (some (r1, σ2)))
set_option maxHeartbeats 4000000 in
set_option maxRecDepth 100000 in
theorem c_X11_isPresent {l : Launch} {G : fm_G} (hJ : fm_J G) {a1 : Int32} {σ : fm_M} {o : Int32 × fm_M}  (hf : m_X11_isPresent a1 σ = some o) : Met l yX11_isPresent (fm_w yX11_isPresent cX11_isPresent 2 (some .boolean)) { frames := 1, cells := 0, slots := 0, locals := 22 } (va_Pc [.ref (G.2.1 0), .int a1] (fm_st G σ)) (fm_Qi G o) 0 0 (fm_A G) := by
  refine fm_mth (own := RX11) hJ rfl (by decide +kernel) (Nat.le_of_ble_eq_true rfl) ?_
  intro p e s m below meth c ls hC hr hlk hI hl
  have hx := hC.1.1
  have hb := hC.1.2.1
  have hown := hC.1.2.2.2.1
  have hts := hC.1.2.2.2.2
  have hl : lv_has ls 2 [(0, .ref (G.2.1 0)), (1, .int a1)] := hl
  rw [m_X11_isPresent] at hf
  refine lv_iload_n hx hb dX11_isPresent_0 rfl (lv_at hl 1 rfl) ?_
  refine lv_iconst (v := (0 : Int32)) hx hb dX11_isPresent_1 (by decide) ?_
  refine lv_aload_n hx hb dX11_isPresent_2 rfl (lv_at hl 0 rfl) ?_
  refine fm_gr hC hI fd_X11_0 fc_0 fr_0_0 q_205 dX11_isPresent_3 ?_
  refine fm_gi hC hI fd_X10_5 fc_8 q_144 dX11_isPresent_6 ?_
  refine lv_iconst (v := (1 : Int32)) hx hb dX11_isPresent_9 (by decide) ?_
  refine lv_isub hx hb dX11_isPresent_10 ?_
  obtain ⟨r1, σ2, hq3, hf⟩ := fm_bE hf
  refine fm_ci hI (fm_runS (As := [.int a1, .int (0 : Int32), .int ((σ.1 8 5) - (1 : Int32))]) (rest := []) (rm := { frames := 0, cells := 0, slots := 0, locals := 0 }) hC hI (c_X11_within hC.2.2.1 hq3) mS_X11_within q_237 ⟨rfl, rfl⟩ ⟨Nat.le_of_ble_eq_true rfl, Nat.le_of_ble_eq_true rfl⟩ rfl hl.1 rfl (Nat.le_of_ble_eq_true rfl) dX11_isPresent_11 ⟨Nat.zero_le _, Nat.zero_le _⟩) (fun H locs hI => ?_)
  obtain ⟨hg4, hf⟩ := fm_gE hf
  exact fm_rz hC hI hr hlk hg4 hf dX11_isPresent_14
set_option maxHeartbeats 4000000 in
theorem vm_X11_120 {p : Program} {l : Launch} {e : Env} {R : Room} {s : State} {m : MethodId} {args : Array Value} {below : List Frame} {meth : Method} {c : Code} {H : Heap} {locs : List Loc} {cc : ByteArray} {pc nL : Nat} {ls : Array Slot} {rest st0 : List Value} {G : fm_G} {σ : fm_M} {a : Nat} {x1 : Int32} {o : Int32 × fm_M} (hC : fm_C G p m c cc nL s args RX11) (hI : fm_I G σ s H locs) (hm : fm_man a) (hq : mv_enjoys a x1 σ = some o) (hR : 3 ≤ R.frames ∧ 63 ≤ R.locals) (hsz : ls.size = nL) (hst : st0 = [.int x1, .ref (G.2.1 a)] ++ rest) (hW : (rest.map fun v => v.category).sum ≤ 8) (hdg : decode cc pc = .ok (.invokevirtual 120, 3)) : va_Run p l e R s m args below meth c H locs 0 0 0 0 (F0 m pc ls st0) rest (fm_Qi G o (Value.ref (G.2.1 a) :: [.int x1]).toArray) (fm_A G) := by
  obtain ⟨h1, h2⟩ := id hm
  have h3 : a = 2 ∨ a = 3 ∨ a = 4 ∨ a = 5 ∨ a = 6 ∨ a = 7 := by omega
  rcases h3 with rfl | rfl | rfl | rfl | rfl | rfl
  · exact fm_runV (As := [.int x1]) (rest := rest) (rm := { frames := 0, cells := 0, slots := 0, locals := 0 }) hC hI (c_X4_enjoys hC.2.2.1 hm (show m_X4_enjoys 2 x1 σ = some o from hq)) mV_X4_enjoys q_323 ⟨rfl, rfl⟩ ⟨Nat.le_trans (Nat.le_of_ble_eq_true rfl) hR.1, Nat.le_trans (Nat.le_of_ble_eq_true rfl) hR.2⟩ fc_2 rfl (by decide) rfl hsz hst hW hdg ⟨Nat.zero_le _, Nat.zero_le _⟩
  · exact fm_runU (x := yX4_enjoys) (As := [.int x1]) (rest := rest) (rm := { frames := 1, cells := 0, slots := 0, locals := 21 }) hC hI (c_X0_enjoys hC.2.2.1 hm (show m_X0_enjoys 3 x1 σ = some o from hq)) mU_X0_enjoys q_323 ⟨rfl, rfl⟩ ⟨Nat.le_trans (Nat.le_of_ble_eq_true rfl) hR.1, Nat.le_trans (Nat.le_of_ble_eq_true rfl) hR.2⟩ fc_3 rfl (by decide) rfl hsz hst hW hdg ⟨Nat.zero_le _, Nat.zero_le _⟩
  · exact fm_runU (x := yX4_enjoys) (As := [.int x1]) (rest := rest) (rm := { frames := 1, cells := 0, slots := 0, locals := 21 }) hC hI (c_X1_enjoys hC.2.2.1 hm (show m_X1_enjoys 4 x1 σ = some o from hq)) mU_X1_enjoys q_323 ⟨rfl, rfl⟩ ⟨Nat.le_trans (Nat.le_of_ble_eq_true rfl) hR.1, Nat.le_trans (Nat.le_of_ble_eq_true rfl) hR.2⟩ fc_4 rfl (by decide) rfl hsz hst hW hdg ⟨Nat.zero_le _, Nat.zero_le _⟩
  · exact fm_runU (x := yX4_enjoys) (As := [.int x1]) (rest := rest) (rm := { frames := 1, cells := 0, slots := 0, locals := 21 }) hC hI (c_X6_enjoys hC.2.2.1 hm (show m_X6_enjoys 5 x1 σ = some o from hq)) mU_X6_enjoys q_323 ⟨rfl, rfl⟩ ⟨Nat.le_trans (Nat.le_of_ble_eq_true rfl) hR.1, Nat.le_trans (Nat.le_of_ble_eq_true rfl) hR.2⟩ fc_5 rfl (by decide) rfl hsz hst hW hdg ⟨Nat.zero_le _, Nat.zero_le _⟩
  · exact fm_runU (x := yX4_enjoys) (As := [.int x1]) (rest := rest) (rm := { frames := 0, cells := 0, slots := 0, locals := 0 }) hC hI (c_X3_enjoys hC.2.2.1 hm (show m_X3_enjoys 6 x1 σ = some o from hq)) mU_X3_enjoys q_323 ⟨rfl, rfl⟩ ⟨Nat.le_trans (Nat.le_of_ble_eq_true rfl) hR.1, Nat.le_trans (Nat.le_of_ble_eq_true rfl) hR.2⟩ fc_6 rfl (by decide) rfl hsz hst hW hdg ⟨Nat.zero_le _, Nat.zero_le _⟩
  · exact fm_runU (x := yX4_enjoys) (As := [.int x1]) (rest := rest) (rm := { frames := 2, cells := 0, slots := 0, locals := 42 }) hC hI (c_X2_enjoys hC.2.2.1 hm (show m_X2_enjoys 7 x1 σ = some o from hq)) mU_X2_enjoys q_323 ⟨rfl, rfl⟩ ⟨Nat.le_trans (Nat.le_of_ble_eq_true rfl) hR.1, Nat.le_trans (Nat.le_of_ble_eq_true rfl) hR.2⟩ fc_7 rfl (by decide) rfl hsz hst hW hdg ⟨Nat.zero_le _, Nat.zero_le _⟩
set_option maxHeartbeats 4000000 in
theorem vm_X11_128 {p : Program} {l : Launch} {e : Env} {R : Room} {s : State} {m : MethodId} {args : Array Value} {below : List Frame} {meth : Method} {c : Code} {H : Heap} {locs : List Loc} {cc : ByteArray} {pc nL : Nat} {ls : Array Slot} {rest st0 : List Value} {G : fm_G} {σ : fm_M} {a : Nat} {x1 : Int32} {o : Int32 × fm_M} (hC : fm_C G p m c cc nL s args RX11) (hI : fm_I G σ s H locs) (hm : fm_man a) (hq : mv_isStruck a x1 σ = some o) (hR : 3 ≤ R.frames ∧ 63 ≤ R.locals) (hsz : ls.size = nL) (hst : st0 = [.int x1, .ref (G.2.1 a)] ++ rest) (hW : (rest.map fun v => v.category).sum ≤ 8) (hdg : decode cc pc = .ok (.invokevirtual 128, 3)) : va_Run p l e R s m args below meth c H locs 0 0 0 0 (F0 m pc ls st0) rest (fm_Qi G o (Value.ref (G.2.1 a) :: [.int x1]).toArray) (fm_A G) := by
  obtain ⟨h1, h2⟩ := id hm
  have h3 : a = 2 ∨ a = 3 ∨ a = 4 ∨ a = 5 ∨ a = 6 ∨ a = 7 := by omega
  rcases h3 with rfl | rfl | rfl | rfl | rfl | rfl
  · exact fm_runV (As := [.int x1]) (rest := rest) (rm := { frames := 0, cells := 0, slots := 0, locals := 0 }) hC hI (c_X4_isStruck hC.2.2.1 hm (show m_X4_isStruck 2 x1 σ = some o from hq)) mV_X4_isStruck q_347 ⟨rfl, rfl⟩ ⟨Nat.le_trans (Nat.le_of_ble_eq_true rfl) hR.1, Nat.le_trans (Nat.le_of_ble_eq_true rfl) hR.2⟩ fc_2 rfl (by decide) rfl hsz hst hW hdg ⟨Nat.zero_le _, Nat.zero_le _⟩
  · exact fm_runU (x := yX4_isStruck) (As := [.int x1]) (rest := rest) (rm := { frames := 0, cells := 0, slots := 0, locals := 0 }) hC hI (c_X0_isStruck hC.2.2.1 hm (show m_X0_isStruck 3 x1 σ = some o from hq)) mU_X0_isStruck q_347 ⟨rfl, rfl⟩ ⟨Nat.le_trans (Nat.le_of_ble_eq_true rfl) hR.1, Nat.le_trans (Nat.le_of_ble_eq_true rfl) hR.2⟩ fc_3 rfl (by decide) rfl hsz hst hW hdg ⟨Nat.zero_le _, Nat.zero_le _⟩
  · exact fm_runU (x := yX4_isStruck) (As := [.int x1]) (rest := rest) (rm := { frames := 1, cells := 0, slots := 0, locals := 21 }) hC hI (c_X1_isStruck hC.2.2.1 hm (show m_X1_isStruck 4 x1 σ = some o from hq)) mU_X1_isStruck q_347 ⟨rfl, rfl⟩ ⟨Nat.le_trans (Nat.le_of_ble_eq_true rfl) hR.1, Nat.le_trans (Nat.le_of_ble_eq_true rfl) hR.2⟩ fc_4 rfl (by decide) rfl hsz hst hW hdg ⟨Nat.zero_le _, Nat.zero_le _⟩
  · exact fm_runU (x := yX4_isStruck) (As := [.int x1]) (rest := rest) (rm := { frames := 0, cells := 0, slots := 0, locals := 0 }) hC hI (c_X4_isStruck hC.2.2.1 hm (show m_X4_isStruck 5 x1 σ = some o from hq)) mU_X6_isStruck q_347 ⟨rfl, rfl⟩ ⟨Nat.le_trans (Nat.le_of_ble_eq_true rfl) hR.1, Nat.le_trans (Nat.le_of_ble_eq_true rfl) hR.2⟩ fc_5 rfl (by decide) rfl hsz hst hW hdg ⟨Nat.zero_le _, Nat.zero_le _⟩
  · exact fm_runU (x := yX4_isStruck) (As := [.int x1]) (rest := rest) (rm := { frames := 2, cells := 0, slots := 0, locals := 42 }) hC hI (c_X3_isStruck hC.2.2.1 hm (show m_X3_isStruck 6 x1 σ = some o from hq)) mU_X3_isStruck q_347 ⟨rfl, rfl⟩ ⟨Nat.le_trans (Nat.le_of_ble_eq_true rfl) hR.1, Nat.le_trans (Nat.le_of_ble_eq_true rfl) hR.2⟩ fc_6 rfl (by decide) rfl hsz hst hW hdg ⟨Nat.zero_le _, Nat.zero_le _⟩
  · exact fm_runU (x := yX4_isStruck) (As := [.int x1]) (rest := rest) (rm := { frames := 1, cells := 0, slots := 0, locals := 21 }) hC hI (c_X2_isStruck hC.2.2.1 hm (show m_X2_isStruck 7 x1 σ = some o from hq)) mU_X2_isStruck q_347 ⟨rfl, rfl⟩ ⟨Nat.le_trans (Nat.le_of_ble_eq_true rfl) hR.1, Nat.le_trans (Nat.le_of_ble_eq_true rfl) hR.2⟩ fc_7 rfl (by decide) rfl hsz hst hW hdg ⟨Nat.zero_le _, Nat.zero_le _⟩
set_option maxHeartbeats 4000000 in
theorem vm_X11_134 {p : Program} {l : Launch} {e : Env} {R : Room} {s : State} {m : MethodId} {args : Array Value} {below : List Frame} {meth : Method} {c : Code} {H : Heap} {locs : List Loc} {cc : ByteArray} {pc nL : Nat} {ls : Array Slot} {rest st0 : List Value} {G : fm_G} {σ : fm_M} {a : Nat} {x1 x2 : Int32} {o : Int32 × fm_M} (hC : fm_C G p m c cc nL s args RX11) (hI : fm_I G σ s H locs) (hm : fm_man a) (hq : mv_passesOn a x1 x2 σ = some o) (hR : 2 ≤ R.frames ∧ 44 ≤ R.locals) (hsz : ls.size = nL) (hst : st0 = [.int x2, .int x1, .ref (G.2.1 a)] ++ rest) (hW : (rest.map fun v => v.category).sum ≤ 8) (hdg : decode cc pc = .ok (.invokevirtual 134, 3)) : va_Run p l e R s m args below meth c H locs 0 0 0 0 (F0 m pc ls st0) rest (fm_Qi G o (Value.ref (G.2.1 a) :: [.int x1, .int x2]).toArray) (fm_A G) := by
  obtain ⟨h1, h2⟩ := id hm
  have h3 : a = 2 ∨ a = 3 ∨ a = 4 ∨ a = 5 ∨ a = 6 ∨ a = 7 := by omega
  rcases h3 with rfl | rfl | rfl | rfl | rfl | rfl
  · exact fm_runV (As := [.int x1, .int x2]) (rest := rest) (rm := { frames := 0, cells := 0, slots := 0, locals := 0 }) hC hI (c_X4_passesOn hC.2.2.1 hm (show m_X4_passesOn 2 x1 x2 σ = some o from hq)) mV_X4_passesOn q_368 ⟨rfl, rfl⟩ ⟨Nat.le_trans (Nat.le_of_ble_eq_true rfl) hR.1, Nat.le_trans (Nat.le_of_ble_eq_true rfl) hR.2⟩ fc_2 rfl (by decide) rfl hsz hst hW hdg ⟨Nat.zero_le _, Nat.zero_le _⟩
  · exact fm_runU (x := yX4_passesOn) (As := [.int x1, .int x2]) (rest := rest) (rm := { frames := 1, cells := 0, slots := 0, locals := 22 }) hC hI (c_X0_passesOn hC.2.2.1 hm (show m_X0_passesOn 3 x1 x2 σ = some o from hq)) mU_X0_passesOn q_368 ⟨rfl, rfl⟩ ⟨Nat.le_trans (Nat.le_of_ble_eq_true rfl) hR.1, Nat.le_trans (Nat.le_of_ble_eq_true rfl) hR.2⟩ fc_3 rfl (by decide) rfl hsz hst hW hdg ⟨Nat.zero_le _, Nat.zero_le _⟩
  · exact fm_runU (x := yX4_passesOn) (As := [.int x1, .int x2]) (rest := rest) (rm := { frames := 0, cells := 0, slots := 0, locals := 0 }) hC hI (c_X1_passesOn hC.2.2.1 hm (show m_X1_passesOn 4 x1 x2 σ = some o from hq)) mU_X1_passesOn q_368 ⟨rfl, rfl⟩ ⟨Nat.le_trans (Nat.le_of_ble_eq_true rfl) hR.1, Nat.le_trans (Nat.le_of_ble_eq_true rfl) hR.2⟩ fc_4 rfl (by decide) rfl hsz hst hW hdg ⟨Nat.zero_le _, Nat.zero_le _⟩
  · exact fm_runU (x := yX4_passesOn) (As := [.int x1, .int x2]) (rest := rest) (rm := { frames := 0, cells := 0, slots := 0, locals := 0 }) hC hI (c_X6_passesOn hC.2.2.1 hm (show m_X6_passesOn 5 x1 x2 σ = some o from hq)) mU_X6_passesOn q_368 ⟨rfl, rfl⟩ ⟨Nat.le_trans (Nat.le_of_ble_eq_true rfl) hR.1, Nat.le_trans (Nat.le_of_ble_eq_true rfl) hR.2⟩ fc_5 rfl (by decide) rfl hsz hst hW hdg ⟨Nat.zero_le _, Nat.zero_le _⟩
  · exact fm_runU (x := yX4_passesOn) (As := [.int x1, .int x2]) (rest := rest) (rm := { frames := 0, cells := 0, slots := 0, locals := 0 }) hC hI (c_X1_passesOn hC.2.2.1 hm (show m_X1_passesOn 6 x1 x2 σ = some o from hq)) mU_X3_passesOn q_368 ⟨rfl, rfl⟩ ⟨Nat.le_trans (Nat.le_of_ble_eq_true rfl) hR.1, Nat.le_trans (Nat.le_of_ble_eq_true rfl) hR.2⟩ fc_6 rfl (by decide) rfl hsz hst hW hdg ⟨Nat.zero_le _, Nat.zero_le _⟩
  · exact fm_runU (x := yX4_passesOn) (As := [.int x1, .int x2]) (rest := rest) (rm := { frames := 0, cells := 0, slots := 0, locals := 0 }) hC hI (c_X2_passesOn hC.2.2.1 hm (show m_X2_passesOn 7 x1 x2 σ = some o from hq)) mU_X2_passesOn q_368 ⟨rfl, rfl⟩ ⟨Nat.le_trans (Nat.le_of_ble_eq_true rfl) hR.1, Nat.le_trans (Nat.le_of_ble_eq_true rfl) hR.2⟩ fc_7 rfl (by decide) rfl hsz hst hW hdg ⟨Nat.zero_le _, Nat.zero_le _⟩
def m_X11_does (a1 : Int32) (a2 : Int32) (a3 : Int32) (σ : fm_M) : Option (Int32 × fm_M) := fm_b (m_X11_isPerson a1 σ) fun r1 σ2 => (if r1 = 0 then (fm_b (m_X11_tell (-1000000001 : Int32) σ2) fun r4 σ5 => (some (r4, σ5))) else (fm_b (m_X11_within a2 (0 : Int32) (3 : Int32) σ2) fun r7 σ8 => (if r7 = 0 then (fm_b (m_X11_tell (-1000000001 : Int32) σ8) fun r10 σ11 => (some (r10, σ11))) else (fm_b (m_X11_isPresent a3 σ8) fun r13 σ14 => (if r13 = 0 then (fm_b (m_X11_tell (-1000000001 : Int32) σ14) fun r60 σ61 => (some (r60, σ61))) else (fm_b (m_X10_mannerOf 8 a1 σ14) fun r16 σ17 => (fm_g (fm_in1 a3 8) (if (1 : Int32) < a2 then (if a2 = (0 : Int32) then (fm_b (m_X10_takesOff 8 a1 (8 + 9 + 2 * a3.toNatClampNeg) σ17) fun r22 σ23 => (some (r22, σ23))) else (if a2 = (1 : Int32) then (fm_b (m_X7_outermost (8 + 9 + 2 * a3.toNatClampNeg) σ17) fun r26 σ27 => (fm_b (mv_enjoys r16 r26 σ27) fun r29 σ30 => (some (r29, σ30)))) else (if a2 = (2 : Int32) then (fm_b (mv_isStruck r16 (σ17.1 (8 + 9 + 2 * a3.toNatClampNeg) 2) σ17) fun r33 σ34 => (some (r33, σ34))) else (fm_b (mv_passesOn r16 (σ17.1 (8 + 9 + 2 * a3.toNatClampNeg) 1) ((σ17.1 8 3) - (σ17.1 8 3) / (4 : Int32) * (4 : Int32)) σ17) fun r36 σ37 => (some (((1 : Int32) + r36), σ37)))))) else (if (σ17.1 (8 + 9 + 2 * a3.toNatClampNeg) 1) = 0 then (fm_b (m_X11_tell (-1000000004 : Int32) σ17) fun r57 σ58 => (some (r57, σ58))) else (if a2 = (0 : Int32) then (fm_b (m_X10_takesOff 8 a1 (8 + 9 + 2 * a3.toNatClampNeg) σ17) fun r40 σ41 => (some (r40, σ41))) else (if a2 = (1 : Int32) then (fm_b (m_X7_outermost (8 + 9 + 2 * a3.toNatClampNeg) σ17) fun r44 σ45 => (fm_b (mv_enjoys r16 r44 σ45) fun r47 σ48 => (some (r47, σ48)))) else (if a2 = (2 : Int32) then (fm_b (mv_isStruck r16 (σ17.1 (8 + 9 + 2 * a3.toNatClampNeg) 2) σ17) fun r51 σ52 => (some (r51, σ52))) else (fm_b (mv_passesOn r16 (σ17.1 (8 + 9 + 2 * a3.toNatClampNeg) 1) ((σ17.1 8 3) - (σ17.1 8 3) / (4 : Int32) * (4 : Int32)) σ17) fun r54 σ55 => (some (((1 : Int32) + r54), σ55)))))))))))))))
set_option maxHeartbeats 4000000 in
set_option maxRecDepth 100000 in
theorem c_X11_does {l : Launch} {G : fm_G} (hJ : fm_J G) {a1 : Int32} {a2 : Int32} {a3 : Int32} {σ : fm_M} {o : Int32 × fm_M}  (hf : m_X11_does a1 a2 a3 σ = some o) : Met l yX11_does (fm_w yX11_does cX11_does 6 (some .int)) { frames := 3, cells := 0, slots := 0, locals := 69 } (va_Pc [.ref (G.2.1 0), .int a1, .int a2, .int a3] (fm_st G σ)) (fm_Qi G o) 0 0 (fm_A G) := by
  refine fm_mth (own := RX11) hJ rfl (by decide +kernel) (Nat.le_of_ble_eq_true rfl) ?_
  intro p e s m below meth c ls hC hr hlk hI hl
  have hx := hC.1.1
  have hb := hC.1.2.1
  have hown := hC.1.2.2.2.1
  have hts := hC.1.2.2.2.2
  have hl : lv_has ls 6 [(0, .ref (G.2.1 0)), (1, .int a1), (2, .int a2), (3, .int a3)] := hl
  rw [m_X11_does] at hf
  refine lv_aload_n hx hb dX11_does_0 rfl (lv_at hl 0 rfl) ?_
  refine lv_iload_n hx hb dX11_does_1 rfl (lv_at hl 1 rfl) ?_
  obtain ⟨r1, σ2, hq3, hf⟩ := fm_bE hf
  refine fm_ci hI (fm_runV (As := [.int a1]) (rest := []) (rm := { frames := 1, cells := 0, slots := 0, locals := 22 }) hC hI (c_X11_isPerson hC.2.2.1 hq3) mV_X11_isPerson q_254 ⟨rfl, rfl⟩ ⟨Nat.le_of_ble_eq_true rfl, Nat.le_of_ble_eq_true rfl⟩ fc_0 rfl (by decide) rfl hl.1 rfl (Nat.le_of_ble_eq_true rfl) dX11_does_2 ⟨Nat.zero_le _, Nat.zero_le _⟩) (fun H locs hI => ?_)
  refine lv_if_eq (tgt := 25) hx hb dX11_does_5 (by decide) (fun hc => ?_) (fun hc => ?_)
  · have hf := fm_pT hf hc
    refine lv_aload_n hx hb dX11_does_25 rfl (lv_at hl 0 rfl) ?_
    refine lv_ldc (v := (-1000000001 : Int32)) hx hb hown (hts _ q_240) dX11_does_26 ?_
    obtain ⟨r4, σ5, hq6, hf⟩ := fm_bE hf
    refine fm_ci hI (fm_runV (As := [.int (-1000000001 : Int32)]) (rest := []) (rm := { frames := 1, cells := 0, slots := 0, locals := 22 }) hC hI (c_X11_tell hC.2.2.1 hq6) mV_X11_tell q_241 ⟨rfl, rfl⟩ ⟨Nat.le_of_ble_eq_true rfl, Nat.le_of_ble_eq_true rfl⟩ fc_0 rfl (by decide) rfl hl.1 rfl (Nat.le_of_ble_eq_true rfl) dX11_does_28 ⟨Nat.zero_le _, Nat.zero_le _⟩) (fun H locs hI => ?_)
    exact fm_ri hC hI hr hlk hf dX11_does_31
  · have hf := fm_pF hf hc
    refine lv_iload_n hx hb dX11_does_8 rfl (lv_at hl 2 rfl) ?_
    refine lv_iconst (v := (0 : Int32)) hx hb dX11_does_9 (by decide) ?_
    refine lv_iconst (v := (3 : Int32)) hx hb dX11_does_10 (by decide) ?_
    obtain ⟨r7, σ8, hq9, hf⟩ := fm_bE hf
    refine fm_ci hI (fm_runS (As := [.int a2, .int (0 : Int32), .int (3 : Int32)]) (rest := []) (rm := { frames := 0, cells := 0, slots := 0, locals := 0 }) hC hI (c_X11_within hC.2.2.1 hq9) mS_X11_within q_237 ⟨rfl, rfl⟩ ⟨Nat.le_of_ble_eq_true rfl, Nat.le_of_ble_eq_true rfl⟩ rfl hl.1 rfl (Nat.le_of_ble_eq_true rfl) dX11_does_11 ⟨Nat.zero_le _, Nat.zero_le _⟩) (fun H locs hI => ?_)
    refine lv_if_eq (tgt := 25) hx hb dX11_does_14 (by decide) (fun hc => ?_) (fun hc => ?_)
    · have hf := fm_pT hf hc
      refine lv_aload_n hx hb dX11_does_25 rfl (lv_at hl 0 rfl) ?_
      refine lv_ldc (v := (-1000000001 : Int32)) hx hb hown (hts _ q_240) dX11_does_26 ?_
      obtain ⟨r10, σ11, hq12, hf⟩ := fm_bE hf
      refine fm_ci hI (fm_runV (As := [.int (-1000000001 : Int32)]) (rest := []) (rm := { frames := 1, cells := 0, slots := 0, locals := 22 }) hC hI (c_X11_tell hC.2.2.1 hq12) mV_X11_tell q_241 ⟨rfl, rfl⟩ ⟨Nat.le_of_ble_eq_true rfl, Nat.le_of_ble_eq_true rfl⟩ fc_0 rfl (by decide) rfl hl.1 rfl (Nat.le_of_ble_eq_true rfl) dX11_does_28 ⟨Nat.zero_le _, Nat.zero_le _⟩) (fun H locs hI => ?_)
      exact fm_ri hC hI hr hlk hf dX11_does_31
    · have hf := fm_pF hf hc
      refine lv_aload_n hx hb dX11_does_17 rfl (lv_at hl 0 rfl) ?_
      refine lv_iload_n hx hb dX11_does_18 rfl (lv_at hl 3 rfl) ?_
      obtain ⟨r13, σ14, hq15, hf⟩ := fm_bE hf
      refine fm_ci hI (fm_runV (As := [.int a3]) (rest := []) (rm := { frames := 1, cells := 0, slots := 0, locals := 22 }) hC hI (c_X11_isPresent hC.2.2.1 hq15) mV_X11_isPresent q_274 ⟨rfl, rfl⟩ ⟨Nat.le_of_ble_eq_true rfl, Nat.le_of_ble_eq_true rfl⟩ fc_0 rfl (by decide) rfl hl.1 rfl (Nat.le_of_ble_eq_true rfl) dX11_does_19 ⟨Nat.zero_le _, Nat.zero_le _⟩) (fun H locs hI => ?_)
      refine lv_if_ne (tgt := 32) hx hb dX11_does_22 (by decide) (fun hc => ?_) (fun hc => ?_)
      · have hf := fm_pF hf hc
        refine lv_aload_n hx hb dX11_does_32 rfl (lv_at hl 0 rfl) ?_
        refine fm_gr hC hI fd_X11_0 fc_0 fr_0_0 q_205 dX11_does_33 ?_
        refine lv_iload_n hx hb dX11_does_36 rfl (lv_at hl 1 rfl) ?_
        obtain ⟨r16, σ17, hq18, hf⟩ := fm_bE hf
        refine fm_cr hI (fm_runV (As := [.int a1]) (rest := []) (rm := { frames := 0, cells := 0, slots := 0, locals := 0 }) hC hI (c_X10_mannerOf hC.2.2.1 fc_8 hq18) mV_X10_mannerOf q_278 ⟨rfl, rfl⟩ ⟨Nat.le_of_ble_eq_true rfl, Nat.le_of_ble_eq_true rfl⟩ fc_8 rfl (by decide) rfl hl.1 rfl (Nat.le_of_ble_eq_true rfl) dX11_does_37 ⟨Nat.zero_le _, Nat.zero_le _⟩) (fun H locs hI => ?_)
        have hm19 := man_X10_mannerOf hq18
        refine lv_astore (lv' := [(4, .ref (G.2.1 r16)), (0, .ref (G.2.1 0)), (1, .int a1), (2, .int a2), (3, .int a3)]) hx hb dX11_does_40 hl (Nat.le_of_ble_eq_true rfl) rfl (fun ls hl => ?_)
        refine lv_aload_n hx hb dX11_does_42 rfl (lv_at hl 1 rfl) ?_
        refine fm_gr hC hI fd_X11_0 fc_0 fr_0_0 q_205 dX11_does_43 ?_
        refine fm_gr hC hI fd_X10_2 fc_8 fr_8_2 q_135 dX11_does_46 ?_
        refine lv_iload_n hx hb dX11_does_49 rfl (lv_at hl 4 rfl) ?_
        obtain ⟨hg20, hf⟩ := fm_gE hf
        refine fm_aald (t0 := 5) hC hI fc_16 (by decide) (by decide) rfl fl_16 hg20 (fm_T4 (x := a3) fc_8 hg20).2 dX11_does_50 ?_
        refine lv_astore (lv' := [(5, .ref (G.2.1 (8 + 9 + 2 * a3.toNatClampNeg))), (4, .ref (G.2.1 r16)), (0, .ref (G.2.1 0)), (1, .int a1), (2, .int a2), (3, .int a3)]) hx hb dX11_does_51 hl (Nat.le_of_ble_eq_true rfl) rfl (fun ls hl => ?_)
        refine lv_iload_n hx hb dX11_does_53 rfl (lv_at hl 4 rfl) ?_
        refine lv_iconst (v := (1 : Int32)) hx hb dX11_does_54 (by decide) ?_
        refine lv_icmp_gt (tgt := 73) hx hb dX11_does_55 (by decide) (fun hc => ?_) (fun hc => ?_)
        · have hf := fm_pT hf hc
          refine lv_iload_n hx hb dX11_does_73 rfl (lv_at hl 4 rfl) ?_
          by_cases hc21 : a2 = (0 : Int32)
          · have hf := fm_pT hf hc21
            refine lv_tableIn (off := 26) (tgt := 100) hx hb dX11_does_74 (by rw [hc21]; decide) (by rw [hc21]; decide) (by rw [hc21]; decide) (by decide) ?_
            refine lv_aload_n hx hb dX11_does_100 rfl (lv_at hl 2 rfl) ?_
            refine fm_gr hC hI fd_X11_0 fc_0 fr_0_0 q_205 dX11_does_101 ?_
            refine lv_iload_n hx hb dX11_does_104 rfl (lv_at hl 3 rfl) ?_
            refine lv_aload hx hb dX11_does_105 (lv_at hl 0 rfl) ?_
            obtain ⟨r22, σ23, hq24, hf⟩ := fm_bE hf
            refine fm_ci hI (fm_runV (As := [.int a1, .ref (G.2.1 (8 + 9 + 2 * a3.toNatClampNeg))]) (rest := []) (rm := { frames := 2, cells := 0, slots := 0, locals := 46 }) hC hI (c_X10_takesOff hC.2.2.1 fc_8 (fm_T4 (x := a3) fc_8 hg20).1 hq24) mV_X10_takesOff q_283 ⟨rfl, rfl⟩ ⟨Nat.le_of_ble_eq_true rfl, Nat.le_of_ble_eq_true rfl⟩ fc_8 rfl (by decide) rfl hl.1 rfl (Nat.le_of_ble_eq_true rfl) dX11_does_107 ⟨Nat.zero_le _, Nat.zero_le _⟩) (fun H locs hI => ?_)
            exact fm_ri hC hI hr hlk hf dX11_does_110
          · have hf := fm_pF hf hc21
            by_cases hc25 : a2 = (1 : Int32)
            · have hf := fm_pT hf hc25
              refine lv_tableIn (off := 37) (tgt := 111) hx hb dX11_does_74 (by rw [hc25]; decide) (by rw [hc25]; decide) (by rw [hc25]; decide) (by decide) ?_
              refine lv_aload hx hb dX11_does_111 (lv_at hl 1 rfl) ?_
              refine lv_aload hx hb dX11_does_113 (lv_at hl 0 rfl) ?_
              obtain ⟨r26, σ27, hq28, hf⟩ := fm_bE hf
              refine fm_ci hI (fm_runV (As := []) (rest := [.ref (G.2.1 r16)]) (rm := { frames := 1, cells := 0, slots := 0, locals := 21 }) hC hI (c_X7_outermost hC.2.2.1 (fm_T4 (x := a3) fc_8 hg20).1 hq28) mV_X7_outermost q_322 ⟨rfl, rfl⟩ ⟨Nat.le_of_ble_eq_true rfl, Nat.le_of_ble_eq_true rfl⟩ (fm_T4 (x := a3) fc_8 hg20).1 rfl (by decide) rfl hl.1 rfl (Nat.le_of_ble_eq_true rfl) dX11_does_115 ⟨Nat.zero_le _, Nat.zero_le _⟩) (fun H locs hI => ?_)
              obtain ⟨r29, σ30, hq31, hf⟩ := fm_bE hf
              refine fm_ci hI (vm_X11_120 (rest := []) hC hI hm19 hq31 ⟨Nat.le_of_ble_eq_true rfl, Nat.le_of_ble_eq_true rfl⟩ hl.1 rfl (Nat.le_of_ble_eq_true rfl) dX11_does_118) (fun H locs hI => ?_)
              exact fm_ri hC hI hr hlk hf dX11_does_121
            · have hf := fm_pF hf hc25
              by_cases hc32 : a2 = (2 : Int32)
              · have hf := fm_pT hf hc32
                refine lv_tableIn (off := 48) (tgt := 122) hx hb dX11_does_74 (by rw [hc32]; decide) (by rw [hc32]; decide) (by rw [hc32]; decide) (by decide) ?_
                refine lv_aload hx hb dX11_does_122 (lv_at hl 1 rfl) ?_
                refine lv_aload hx hb dX11_does_124 (lv_at hl 0 rfl) ?_
                refine fm_gi hC hI fd_X7_2 (fm_T4 (x := a3) fc_8 hg20).1 q_111 dX11_does_126 ?_
                obtain ⟨r33, σ34, hq35, hf⟩ := fm_bE hf
                refine fm_ci hI (vm_X11_128 (rest := []) hC hI hm19 hq35 ⟨Nat.le_of_ble_eq_true rfl, Nat.le_of_ble_eq_true rfl⟩ hl.1 rfl (Nat.le_of_ble_eq_true rfl) dX11_does_129) (fun H locs hI => ?_)
                exact fm_ri hC hI hr hlk hf dX11_does_132
              · have hf := fm_pF hf hc32
                have hsw : (a2 : Int32).toInt < 0 ∨ 2 < (a2 : Int32).toInt := by
                  have t0 := fm_neI hc21
                  rw [show ((0 : Int32)).toInt = 0 from by decide] at t0
                  have t1 := fm_neI hc25
                  rw [show ((1 : Int32)).toInt = 1 from by decide] at t1
                  have t2 := fm_neI hc32
                  rw [show ((2 : Int32)).toInt = 2 from by decide] at t2
                  omega
                refine lv_tableOut (tgt := 133) hx hb dX11_does_74 hsw (by decide) ?_
                refine lv_iconst (v := (1 : Int32)) hx hb dX11_does_133 (by decide) ?_
                refine lv_aload hx hb dX11_does_134 (lv_at hl 1 rfl) ?_
                refine lv_aload hx hb dX11_does_136 (lv_at hl 0 rfl) ?_
                refine fm_gi hC hI fd_X7_1 (fm_T4 (x := a3) fc_8 hg20).1 q_108 dX11_does_138 ?_
                refine lv_aload_n hx hb dX11_does_141 rfl (lv_at hl 2 rfl) ?_
                refine fm_gr hC hI fd_X11_0 fc_0 fr_0_0 q_205 dX11_does_142 ?_
                refine fm_gi hC hI fd_X10_3 fc_8 q_138 dX11_does_145 ?_
                refine lv_iconst (v := (4 : Int32)) hx hb dX11_does_148 (by decide) ?_
                refine lv_irem hx hb dX11_does_149 (by decide) ?_
                obtain ⟨r36, σ37, hq38, hf⟩ := fm_bE hf
                refine fm_ci hI (vm_X11_134 (rest := [.int (1 : Int32)]) hC hI hm19 hq38 ⟨Nat.le_of_ble_eq_true rfl, Nat.le_of_ble_eq_true rfl⟩ hl.1 rfl (Nat.le_of_ble_eq_true rfl) dX11_does_150) (fun H locs hI => ?_)
                refine lv_iadd hx hb dX11_does_153 ?_
                exact fm_ri hC hI hr hlk hf dX11_does_154
        · have hf := fm_pF hf hc
          refine lv_aload hx hb dX11_does_58 (lv_at hl 0 rfl) ?_
          refine fm_gi hC hI fd_X7_1 (fm_T4 (x := a3) fc_8 hg20).1 q_108 dX11_does_60 ?_
          refine lv_if_ne (tgt := 73) hx hb dX11_does_63 (by decide) (fun hc => ?_) (fun hc => ?_)
          · have hf := fm_pF hf hc
            refine lv_iload_n hx hb dX11_does_73 rfl (lv_at hl 4 rfl) ?_
            by_cases hc39 : a2 = (0 : Int32)
            · have hf := fm_pT hf hc39
              refine lv_tableIn (off := 26) (tgt := 100) hx hb dX11_does_74 (by rw [hc39]; decide) (by rw [hc39]; decide) (by rw [hc39]; decide) (by decide) ?_
              refine lv_aload_n hx hb dX11_does_100 rfl (lv_at hl 2 rfl) ?_
              refine fm_gr hC hI fd_X11_0 fc_0 fr_0_0 q_205 dX11_does_101 ?_
              refine lv_iload_n hx hb dX11_does_104 rfl (lv_at hl 3 rfl) ?_
              refine lv_aload hx hb dX11_does_105 (lv_at hl 0 rfl) ?_
              obtain ⟨r40, σ41, hq42, hf⟩ := fm_bE hf
              refine fm_ci hI (fm_runV (As := [.int a1, .ref (G.2.1 (8 + 9 + 2 * a3.toNatClampNeg))]) (rest := []) (rm := { frames := 2, cells := 0, slots := 0, locals := 46 }) hC hI (c_X10_takesOff hC.2.2.1 fc_8 (fm_T4 (x := a3) fc_8 hg20).1 hq42) mV_X10_takesOff q_283 ⟨rfl, rfl⟩ ⟨Nat.le_of_ble_eq_true rfl, Nat.le_of_ble_eq_true rfl⟩ fc_8 rfl (by decide) rfl hl.1 rfl (Nat.le_of_ble_eq_true rfl) dX11_does_107 ⟨Nat.zero_le _, Nat.zero_le _⟩) (fun H locs hI => ?_)
              exact fm_ri hC hI hr hlk hf dX11_does_110
            · have hf := fm_pF hf hc39
              by_cases hc43 : a2 = (1 : Int32)
              · have hf := fm_pT hf hc43
                refine lv_tableIn (off := 37) (tgt := 111) hx hb dX11_does_74 (by rw [hc43]; decide) (by rw [hc43]; decide) (by rw [hc43]; decide) (by decide) ?_
                refine lv_aload hx hb dX11_does_111 (lv_at hl 1 rfl) ?_
                refine lv_aload hx hb dX11_does_113 (lv_at hl 0 rfl) ?_
                obtain ⟨r44, σ45, hq46, hf⟩ := fm_bE hf
                refine fm_ci hI (fm_runV (As := []) (rest := [.ref (G.2.1 r16)]) (rm := { frames := 1, cells := 0, slots := 0, locals := 21 }) hC hI (c_X7_outermost hC.2.2.1 (fm_T4 (x := a3) fc_8 hg20).1 hq46) mV_X7_outermost q_322 ⟨rfl, rfl⟩ ⟨Nat.le_of_ble_eq_true rfl, Nat.le_of_ble_eq_true rfl⟩ (fm_T4 (x := a3) fc_8 hg20).1 rfl (by decide) rfl hl.1 rfl (Nat.le_of_ble_eq_true rfl) dX11_does_115 ⟨Nat.zero_le _, Nat.zero_le _⟩) (fun H locs hI => ?_)
                obtain ⟨r47, σ48, hq49, hf⟩ := fm_bE hf
                refine fm_ci hI (vm_X11_120 (rest := []) hC hI hm19 hq49 ⟨Nat.le_of_ble_eq_true rfl, Nat.le_of_ble_eq_true rfl⟩ hl.1 rfl (Nat.le_of_ble_eq_true rfl) dX11_does_118) (fun H locs hI => ?_)
                exact fm_ri hC hI hr hlk hf dX11_does_121
              · have hf := fm_pF hf hc43
                by_cases hc50 : a2 = (2 : Int32)
                · have hf := fm_pT hf hc50
                  refine lv_tableIn (off := 48) (tgt := 122) hx hb dX11_does_74 (by rw [hc50]; decide) (by rw [hc50]; decide) (by rw [hc50]; decide) (by decide) ?_
                  refine lv_aload hx hb dX11_does_122 (lv_at hl 1 rfl) ?_
                  refine lv_aload hx hb dX11_does_124 (lv_at hl 0 rfl) ?_
                  refine fm_gi hC hI fd_X7_2 (fm_T4 (x := a3) fc_8 hg20).1 q_111 dX11_does_126 ?_
                  obtain ⟨r51, σ52, hq53, hf⟩ := fm_bE hf
                  refine fm_ci hI (vm_X11_128 (rest := []) hC hI hm19 hq53 ⟨Nat.le_of_ble_eq_true rfl, Nat.le_of_ble_eq_true rfl⟩ hl.1 rfl (Nat.le_of_ble_eq_true rfl) dX11_does_129) (fun H locs hI => ?_)
                  exact fm_ri hC hI hr hlk hf dX11_does_132
                · have hf := fm_pF hf hc50
                  have hsw : (a2 : Int32).toInt < 0 ∨ 2 < (a2 : Int32).toInt := by
                    have t0 := fm_neI hc39
                    rw [show ((0 : Int32)).toInt = 0 from by decide] at t0
                    have t1 := fm_neI hc43
                    rw [show ((1 : Int32)).toInt = 1 from by decide] at t1
                    have t2 := fm_neI hc50
                    rw [show ((2 : Int32)).toInt = 2 from by decide] at t2
                    omega
                  refine lv_tableOut (tgt := 133) hx hb dX11_does_74 hsw (by decide) ?_
                  refine lv_iconst (v := (1 : Int32)) hx hb dX11_does_133 (by decide) ?_
                  refine lv_aload hx hb dX11_does_134 (lv_at hl 1 rfl) ?_
                  refine lv_aload hx hb dX11_does_136 (lv_at hl 0 rfl) ?_
                  refine fm_gi hC hI fd_X7_1 (fm_T4 (x := a3) fc_8 hg20).1 q_108 dX11_does_138 ?_
                  refine lv_aload_n hx hb dX11_does_141 rfl (lv_at hl 2 rfl) ?_
                  refine fm_gr hC hI fd_X11_0 fc_0 fr_0_0 q_205 dX11_does_142 ?_
                  refine fm_gi hC hI fd_X10_3 fc_8 q_138 dX11_does_145 ?_
                  refine lv_iconst (v := (4 : Int32)) hx hb dX11_does_148 (by decide) ?_
                  refine lv_irem hx hb dX11_does_149 (by decide) ?_
                  obtain ⟨r54, σ55, hq56, hf⟩ := fm_bE hf
                  refine fm_ci hI (vm_X11_134 (rest := [.int (1 : Int32)]) hC hI hm19 hq56 ⟨Nat.le_of_ble_eq_true rfl, Nat.le_of_ble_eq_true rfl⟩ hl.1 rfl (Nat.le_of_ble_eq_true rfl) dX11_does_150) (fun H locs hI => ?_)
                  refine lv_iadd hx hb dX11_does_153 ?_
                  exact fm_ri hC hI hr hlk hf dX11_does_154
          · have hf := fm_pT hf hc
            refine lv_aload_n hx hb dX11_does_66 rfl (lv_at hl 2 rfl) ?_
            refine lv_ldc (v := (-1000000004 : Int32)) hx hb hown (hts _ q_282) dX11_does_67 ?_
            obtain ⟨r57, σ58, hq59, hf⟩ := fm_bE hf
            refine fm_ci hI (fm_runV (As := [.int (-1000000004 : Int32)]) (rest := []) (rm := { frames := 1, cells := 0, slots := 0, locals := 22 }) hC hI (c_X11_tell hC.2.2.1 hq59) mV_X11_tell q_241 ⟨rfl, rfl⟩ ⟨Nat.le_of_ble_eq_true rfl, Nat.le_of_ble_eq_true rfl⟩ fc_0 rfl (by decide) rfl hl.1 rfl (Nat.le_of_ble_eq_true rfl) dX11_does_69 ⟨Nat.zero_le _, Nat.zero_le _⟩) (fun H locs hI => ?_)
            exact fm_ri hC hI hr hlk hf dX11_does_72
      · have hf := fm_pT hf hc
        refine lv_aload_n hx hb dX11_does_25 rfl (lv_at hl 0 rfl) ?_
        refine lv_ldc (v := (-1000000001 : Int32)) hx hb hown (hts _ q_240) dX11_does_26 ?_
        obtain ⟨r60, σ61, hq62, hf⟩ := fm_bE hf
        refine fm_ci hI (fm_runV (As := [.int (-1000000001 : Int32)]) (rest := []) (rm := { frames := 1, cells := 0, slots := 0, locals := 22 }) hC hI (c_X11_tell hC.2.2.1 hq62) mV_X11_tell q_241 ⟨rfl, rfl⟩ ⟨Nat.le_of_ble_eq_true rfl, Nat.le_of_ble_eq_true rfl⟩ fc_0 rfl (by decide) rfl hl.1 rfl (Nat.le_of_ble_eq_true rfl) dX11_does_28 ⟨Nat.zero_le _, Nat.zero_le _⟩) (fun H locs hI => ?_)
        exact fm_ri hC hI hr hlk hf dX11_does_31
