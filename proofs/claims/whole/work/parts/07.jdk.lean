/-! the JDK's own methods that a text is asked by -/
def m_J0_length_8abf5 (a0 : Nat) (σ : fm_M) : Option (Int32 × fm_M) := some (Int32.ofNat (fm_tl.getD a0 0) >>> ((0 : Int32) &&& 31), σ)
def m_J1_charAt_3b067 (a0 : Nat) (a1 : Int32) (σ : fm_M) : Option (Int32 × fm_M) := fm_g (fm_in1 a1 (fm_tl.getD a0 0)) (some ((((fm_tby.getD a0 []).getD a1.toNatClampNeg 0 &&& 255).toUInt32 % 65536).toInt32, σ))
def m_J0_charAt_5068e (a0 : Nat) (a1 : Int32) (σ : fm_M) : Option (Int32 × fm_M) := fm_b (m_J1_charAt_3b067 a0 a1 σ) fun r σ => fm_g (fm_cz r) (some (r, σ))
theorem c_J0_coder_7d493 {l : Launch} {G : fm_G} (hJ : fm_J G) {a0 : Nat} {σ : fm_M} (h0 : a0 < 12) : Met l yJ0_coder_7d493 (fm_w yJ0_coder_7d493 cJ0_coder_7d493 1 (some .byte)) { frames := 0, cells := 0, slots := 0, locals := 0 } (va_Pc [.ref (G.2.2.2.1 a0)] (fm_st G σ)) (fm_Qi G (0, σ)) 0 0 (fm_A G) := by
  refine fm_mth (own := RJ0) hJ rfl (by decide +kernel) (Nat.le_of_ble_eq_true rfl) ?_
  intro p e s m below meth c ls hC hr hlk hI hl
  have hx := hC.1.1
  have hb := hC.1.2.1
  have hown := hC.1.2.2.2.1
  have hts := hC.1.2.2.2.2
  have hl : lv_has ls 1 [(0, .ref (G.2.2.2.1 a0))] := hl
  refine va_gets hx hb hC.2.2.2.2.2.1 hI.2 hown (hts _ q_648) (fun _ h => h) dJ0_coder_7d493_0 ?_
  refine lv_if_eq (tgt := 13) hx hb dJ0_coder_7d493_3 (by decide) (fun hc => absurd hc (by decide)) (fun hc => ?_)
  refine lv_aload_n hx hb dJ0_coder_7d493_6 rfl (lv_at hl 0 rfl) ?_
  refine vk_getf hx hb (hC.2.2.2.1.1 a0 h0).2.1 hI.2 hown (hts _ q_1232) (fun _ h => h) dJ0_coder_7d493_7 ?_
  refine lv_goto (tgt := 14) hx hb dJ0_coder_7d493_10 (by decide) ?_
  exact fm_rn hC hI hr hlk rfl rfl dJ0_coder_7d493_14
theorem c_J0_isLatin1_aae02 {l : Launch} {G : fm_G} (hJ : fm_J G) {a0 : Nat} {σ : fm_M} (h0 : a0 < 12) : Met l yJ0_isLatin1_aae02 (fm_w yJ0_isLatin1_aae02 cJ0_isLatin1_aae02 1 (some .boolean)) { frames := 0, cells := 0, slots := 0, locals := 0 } (va_Pc [.ref (G.2.2.2.1 a0)] (fm_st G σ)) (fm_Qi G (1, σ)) 0 0 (fm_A G) := by
  refine fm_mth (own := RJ0) hJ rfl (by decide +kernel) (Nat.le_of_ble_eq_true rfl) ?_
  intro p e s m below meth c ls hC hr hlk hI hl
  have hx := hC.1.1
  have hb := hC.1.2.1
  have hown := hC.1.2.2.2.1
  have hts := hC.1.2.2.2.2
  have hl : lv_has ls 1 [(0, .ref (G.2.2.2.1 a0))] := hl
  refine va_gets hx hb hC.2.2.2.2.2.1 hI.2 hown (hts _ q_648) (fun _ h => h) dJ0_isLatin1_aae02_0 ?_
  refine lv_if_eq (tgt := 17) hx hb dJ0_isLatin1_aae02_3 (by decide) (fun hc => absurd hc (by decide)) (fun hc => ?_)
  refine lv_aload_n hx hb dJ0_isLatin1_aae02_6 rfl (lv_at hl 0 rfl) ?_
  refine vk_getf hx hb (hC.2.2.2.1.1 a0 h0).2.1 hI.2 hown (hts _ q_1232) (fun _ h => h) dJ0_isLatin1_aae02_7 ?_
  refine lv_if_ne (tgt := 17) hx hb dJ0_isLatin1_aae02_10 (by decide) (fun hc => absurd rfl hc) (fun hc => ?_)
  refine lv_iconst (v := (1 : Int32)) hx hb dJ0_isLatin1_aae02_13 (by decide) ?_
  refine lv_goto (tgt := 18) hx hb dJ0_isLatin1_aae02_14 (by decide) ?_
  exact fm_rn hC hI hr hlk rfl rfl dJ0_isLatin1_aae02_18
theorem c_J0_length_8abf5 {l : Launch} {G : fm_G} (hJ : fm_J G) {a0 : Nat} {σ : fm_M} {o : Int32 × fm_M} (h0 : a0 < 12) (hf : m_J0_length_8abf5 a0 σ = some o) : Met l yJ0_length_8abf5 (fm_w yJ0_length_8abf5 cJ0_length_8abf5 1 (some .int)) { frames := 1, cells := 0, slots := 0, locals := 20 } (va_Pc [.ref (G.2.2.2.1 a0)] (fm_st G σ)) (fm_Qi G o) 0 0 (fm_A G) := by
  refine fm_mth (own := RJ0) hJ rfl (by decide +kernel) (Nat.le_of_ble_eq_true rfl) ?_
  intro p e s m below meth c ls hC hr hlk hI hl
  have hx := hC.1.1
  have hb := hC.1.2.1
  have hown := hC.1.2.2.2.1
  have hts := hC.1.2.2.2.2
  have hl : lv_has ls 1 [(0, .ref (G.2.2.2.1 a0))] := hl
  refine lv_aload_n hx hb dJ0_length_8abf5_0 rfl (lv_at hl 0 rfl) ?_
  refine vk_getf hx hb (hC.2.2.2.1.1 a0 h0).2.2.1 hI.2 hown (hts _ q_1231) (fun _ h => h) dJ0_length_8abf5_1 ?_
  refine va_tlen hx hb (hC.2.2.2.1.1 a0 h0).2.2.2 hI.2 rfl dJ0_length_8abf5_4 ?_
  refine lv_aload_n hx hb dJ0_length_8abf5_5 rfl (lv_at hl 0 rfl) ?_
  refine fm_ci hI (fm_runT (As := []) (rest := [.int (Int32.ofNat (fm_tl.getD a0 0))]) (rm := { frames := 0, cells := 0, slots := 0, locals := 0 }) hC hI (c_J0_coder_7d493 hC.2.2.1 h0) mV_J0_coder_7d493 q_644 ⟨rfl, rfl⟩ ⟨Nat.le_of_ble_eq_true rfl, Nat.le_of_ble_eq_true rfl⟩ h0 rfl hl.1 rfl (Nat.le_of_ble_eq_true rfl) dJ0_length_8abf5_6 ⟨Nat.zero_le _, Nat.zero_le _⟩) (fun H locs hI => ?_)
  refine lv_ishr hx hb dJ0_length_8abf5_9 ?_
  exact fm_ri hC hI hr hlk hf dJ0_length_8abf5_10
theorem c_J3_checkIndex_8e157 {l : Launch} {G : fm_G} (hJ : fm_J G) {a0 : Int32} {n : Nat} {v : Value} {σ : fm_M} (hn : n < 2 ^ 31) (hi : fm_in1 a0 n = true) (hv : v = .null ∨ ∃ t, v = .ref t) : Met l yJ3_checkIndex_8e157 (fm_w yJ3_checkIndex_8e157 cJ3_checkIndex_8e157 3 (some .int)) { frames := 0, cells := 0, slots := 0, locals := 0 } (va_Pc [.int a0, .int (Int32.ofNat n), v] (fm_st G σ)) (fm_Qi G (a0, σ)) 0 0 (fm_A G) := by
  obtain ⟨j, hj, rfl⟩ := vp_in_of (fm_inE hi) hn
  have key : ∀ w : Value, (lg_sl [.int (nI j), .int (Int32.ofNat n), w]).length ≤ 3 → Met l yJ3_checkIndex_8e157 (fm_w yJ3_checkIndex_8e157 cJ3_checkIndex_8e157 3 (some .int)) { frames := 0, cells := 0, slots := 0, locals := 0 } (va_Pc [.int (nI j), .int (Int32.ofNat n), w] (fm_st G σ)) (fm_Qi G (nI j, σ)) 0 0 (fm_A G) := by
    intro w hlen
    refine fm_mth (own := RJ3) hJ rfl (by decide +kernel) hlen ?_
    intro p e s m below meth c ls hC hr hlk hI hl
    have hx := hC.1.1
    have hb := hC.1.2.1
    have hl : lv_has ls 3 [(0, .int (nI j)), (1, .int (Int32.ofNat n)), (2, w)] := hl
    refine lv_iload_n hx hb dJ3_checkIndex_8e157_0 rfl (lv_at hl 0 rfl) ?_
    refine lv_if_lt (tgt := 9) hx hb dJ3_checkIndex_8e157_1 (by decide) (fun hc => absurd hc (nI_pos (by omega))) (fun hc => ?_)
    refine lv_iload_n hx hb dJ3_checkIndex_8e157_4 rfl (lv_at hl 0 rfl) ?_
    refine lv_iload_n hx hb dJ3_checkIndex_8e157_5 rfl (lv_at hl 1 rfl) ?_
    refine lv_icmp_lt (tgt := 16) hx hb dJ3_checkIndex_8e157_6 (by decide) (fun hc => ?_) (fun hc => absurd (nI_lt hj hn) hc)
    refine lv_iload_n hx hb dJ3_checkIndex_8e157_16 rfl (lv_at hl 0 rfl) ?_
    exact fm_ri hC hI hr hlk rfl dJ3_checkIndex_8e157_17
  rcases hv with rfl | ⟨t, rfl⟩
  · exact key _ (Nat.le_of_ble_eq_true rfl)
  · exact key _ (Nat.le_of_ble_eq_true rfl)
theorem c_J0_checkIndex_df160 {l : Launch} {G : fm_G} (hJ : fm_J G) {a0 : Int32} {n : Nat} {σ : fm_M} (hn : n < 2 ^ 31) (hi : fm_in1 a0 n = true) : Met l yJ0_checkIndex_df160 (fm_w yJ0_checkIndex_df160 cJ0_checkIndex_df160 2 none) { frames := 1, cells := 0, slots := 0, locals := 22 } (va_Pc [.int a0, .int (Int32.ofNat n)] (fm_st G σ)) (fm_Qv G ((), σ)) 0 0 (fm_A G) := by
  refine fm_mth (own := RJ0) hJ rfl (by decide +kernel) (Nat.le_of_ble_eq_true rfl) ?_
  intro p e s m below meth c ls hC hr hlk hI hl
  have hx := hC.1.1
  have hb := hC.1.2.1
  have hown := hC.1.2.2.2.1
  have hts := hC.1.2.2.2.2
  have hl : lv_has ls 2 [(0, .int a0), (1, .int (Int32.ofNat n))] := hl
  have key : ∀ w : Value, (w = .null ∨ ∃ t, w = .ref t) → W p l e { frames := 1, cells := 0, slots := 0, locals := 22 } s m ([.int a0, .int (Int32.ofNat n)] : List Value).toArray below meth c s.heap [] 0 0 (MQ below (fm_Qv G ((), σ)) ([.int a0, .int (Int32.ofNat n)] : List Value).toArray s 0 0 (fm_A G)) (F0 m 5 ls (w :: [.int (Int32.ofNat n), .int a0])) := by
    intro w hw
    refine fm_ci hI (fm_runS (As := [.int a0, .int (Int32.ofNat n), w]) (rest := []) (rm := { frames := 0, cells := 0, slots := 0, locals := 0 }) hC hI (c_J3_checkIndex_8e157 hC.2.2.1 hn hi hw) mS_J3_checkIndex_8e157 q_666 ⟨rfl, rfl⟩ ⟨Nat.le_of_ble_eq_true rfl, Nat.le_of_ble_eq_true rfl⟩ rfl hl.1 rfl (Nat.le_of_ble_eq_true rfl) dJ0_checkIndex_df160_5 ⟨Nat.zero_le _, Nat.zero_le _⟩) (fun H locs hI => ?_)
    refine lv_pop hx hb dJ0_checkIndex_df160_8 rfl ?_
    exact fm_rv hC hI hr hlk rfl dJ0_checkIndex_df160_9
  refine lv_iload_n hx hb dJ0_checkIndex_df160_0 rfl (lv_at hl 0 rfl) ?_
  refine lv_iload_n hx hb dJ0_checkIndex_df160_1 rfl (lv_at hl 1 rfl) ?_
  rcases hC.2.2.2.2.2.2.1 with hz | ⟨t, hz⟩
  · refine va_gets hx hb hz hI.2 hown (hts _ q_664) (fun _ h => h) dJ0_checkIndex_df160_2 ?_
    exact key _ (Or.inl rfl)
  · refine va_gets hx hb hz hI.2 hown (hts _ q_664) (fun _ h => h) dJ0_checkIndex_df160_2 ?_
    exact key _ (Or.inr ⟨t, rfl⟩)
theorem fm_tl31 : ∀ i, i < 12 → fm_tl.getD i 0 < 2 ^ 31 := by decide +kernel
theorem c_J1_charAt_3b067 {l : Launch} {G : fm_G} (hJ : fm_J G) {a0 : Nat} {a1 : Int32} {σ : fm_M} {o : Int32 × fm_M} (h0 : a0 < 12) (hf : m_J1_charAt_3b067 a0 a1 σ = some o) : Met l yJ1_charAt_3b067 (fm_w yJ1_charAt_3b067 cJ1_charAt_3b067 2 (some .char)) { frames := 2, cells := 0, slots := 0, locals := 43 } (va_Pc [.ref (G.2.2.2.2 a0), .int a1] (fm_st G σ)) (fm_Qi G o) 0 0 (fm_A G) := by
  refine fm_mth (own := RJ1) hJ rfl (by decide +kernel) (Nat.le_of_ble_eq_true rfl) ?_
  intro p e s m below meth c ls hC hr hlk hI hl
  have hx := hC.1.1
  have hb := hC.1.2.1
  have hown := hC.1.2.2.2.1
  have hts := hC.1.2.2.2.2
  have hl : lv_has ls 2 [(0, .ref (G.2.2.2.2 a0)), (1, .int a1)] := hl
  obtain ⟨hg, hf⟩ := fm_gE hf
  refine lv_iload_n hx hb dJ1_charAt_3b067_0 rfl (lv_at hl 1 rfl) ?_
  refine lv_aload_n hx hb dJ1_charAt_3b067_1 rfl (lv_at hl 0 rfl) ?_
  refine va_tlen hx hb (hC.2.2.2.1.1 a0 h0).2.2.2 hI.2 rfl dJ1_charAt_3b067_2 ?_
  refine fm_cv hI (fm_runS (As := [.int a1, .int (Int32.ofNat (fm_tl.getD a0 0))]) (rest := []) (rm := { frames := 1, cells := 0, slots := 0, locals := 22 }) hC hI (c_J0_checkIndex_df160 hC.2.2.1 (fm_tl31 a0 h0) hg) mS_J0_checkIndex_df160 q_661 ⟨rfl, rfl⟩ ⟨Nat.le_of_ble_eq_true rfl, Nat.le_of_ble_eq_true rfl⟩ rfl hl.1 rfl (Nat.le_of_ble_eq_true rfl) dJ1_charAt_3b067_3 ⟨Nat.zero_le _, Nat.zero_le _⟩) (fun H locs hI => ?_)
  refine lv_aload_n hx hb dJ1_charAt_3b067_6 rfl (lv_at hl 0 rfl) ?_
  refine lv_iload_n hx hb dJ1_charAt_3b067_7 rfl (lv_at hl 1 rfl) ?_
  refine va_tb hx hb (hC.2.2.2.1.1 a0 h0).2.2.2 hI.2 (fm_inE hg) rfl dJ1_charAt_3b067_8 ?_
  refine lv_sipush (v := (255 : Int32)) hx hb dJ1_charAt_3b067_9 (by decide) ?_
  refine lv_iand hx hb dJ1_charAt_3b067_12 ?_
  refine lv_i2c hx hb dJ1_charAt_3b067_13 rfl ?_
  exact fm_rn hC hI hr hlk (pk_nc _) hf dJ1_charAt_3b067_14
theorem c_J0_charAt_5068e {l : Launch} {G : fm_G} (hJ : fm_J G) {a0 : Nat} {a1 : Int32} {σ : fm_M} {o : Int32 × fm_M} (h0 : a0 < 12) (hf : m_J0_charAt_5068e a0 a1 σ = some o) : Met l yJ0_charAt_5068e (fm_w yJ0_charAt_5068e cJ0_charAt_5068e 2 (some .char)) { frames := 3, cells := 0, slots := 0, locals := 64 } (va_Pc [.ref (G.2.2.2.1 a0), .int a1] (fm_st G σ)) (fm_Qi G o) 0 0 (fm_A G) := by
  refine fm_mth (own := RJ0) hJ rfl (by decide +kernel) (Nat.le_of_ble_eq_true rfl) ?_
  intro p e s m below meth c ls hC hr hlk hI hl
  have hx := hC.1.1
  have hb := hC.1.2.1
  have hown := hC.1.2.2.2.1
  have hts := hC.1.2.2.2.2
  have hl : lv_has ls 2 [(0, .ref (G.2.2.2.1 a0)), (1, .int a1)] := hl
  obtain ⟨r, σ1, hq, hf⟩ := fm_bE hf
  obtain ⟨hg, hf⟩ := fm_gE hf
  refine lv_aload_n hx hb dJ0_charAt_5068e_0 rfl (lv_at hl 0 rfl) ?_
  refine fm_ci hI (fm_runT (As := []) (rest := []) (rm := { frames := 0, cells := 0, slots := 0, locals := 0 }) hC hI (c_J0_isLatin1_aae02 hC.2.2.1 h0) mV_J0_isLatin1_aae02 q_654 ⟨rfl, rfl⟩ ⟨Nat.le_of_ble_eq_true rfl, Nat.le_of_ble_eq_true rfl⟩ h0 rfl hl.1 rfl (Nat.le_of_ble_eq_true rfl) dJ0_charAt_5068e_1 ⟨Nat.zero_le _, Nat.zero_le _⟩) (fun H locs hI => ?_)
  refine lv_if_eq (tgt := 16) hx hb dJ0_charAt_5068e_4 (by decide) (fun hc => absurd hc (by decide)) (fun hc => ?_)
  refine lv_aload_n hx hb dJ0_charAt_5068e_7 rfl (lv_at hl 0 rfl) ?_
  refine vk_getf hx hb (hC.2.2.2.1.1 a0 h0).2.2.1 hI.2 hown (hts _ q_1231) (fun _ h => h) dJ0_charAt_5068e_8 ?_
  refine lv_iload_n hx hb dJ0_charAt_5068e_11 rfl (lv_at hl 1 rfl) ?_
  refine fm_ci hI (fm_runS (As := [.ref (G.2.2.2.2 a0), .int a1]) (rest := []) (rm := { frames := 2, cells := 0, slots := 0, locals := 43 }) hC hI (c_J1_charAt_3b067 hC.2.2.1 h0 hq) mS_J1_charAt_3b067 q_658 ⟨rfl, rfl⟩ ⟨Nat.le_of_ble_eq_true rfl, Nat.le_of_ble_eq_true rfl⟩ rfl hl.1 rfl (Nat.le_of_ble_eq_true rfl) dJ0_charAt_5068e_12 ⟨Nat.zero_le _, Nat.zero_le _⟩) (fun H locs hI => ?_)
  exact fm_rn hC hI hr hlk (fm_cz_nar hg) hf dJ0_charAt_5068e_15
