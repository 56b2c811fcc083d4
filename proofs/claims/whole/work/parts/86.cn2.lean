theorem mc_X0_init : cn_mc yX0_init cX0_init 1 0 := ⟨q_44, q_3, q_43, rfl, by decide +kernel⟩
theorem mc_X1_init : cn_mc yX1_init cX1_init 1 0 := ⟨q_51, q_4, q_50, rfl, by decide +kernel⟩
theorem mc_X2_init : cn_mc yX2_init cX2_init 1 0 := ⟨q_72, q_7, q_71, rfl, by decide +kernel⟩
theorem mc_X3_init : cn_mc yX3_init cX3_init 1 0 := ⟨q_65, q_6, q_64, rfl, by decide +kernel⟩
theorem mc_X4_init : cn_mc yX4_init cX4_init 1 0 := ⟨q_37, q_2, q_36, rfl, by decide +kernel⟩
theorem mc_X5_init : cn_mc yX5_init cX5_init 1 0 := ⟨q_86, q_9, q_85, rfl, by decide +kernel⟩
theorem mc_X6_init : cn_mc yX6_init cX6_init 1 0 := ⟨q_58, q_5, q_57, rfl, by decide +kernel⟩
theorem mc_X7_init : cn_mc yX7_init cX7_init 1 0 := ⟨q_104, q_10, q_103, rfl, by decide +kernel⟩
theorem mc_X8_init : cn_mc yX8_init cX8_init 1 0 := ⟨q_163, q_11, q_162, rfl, by decide +kernel⟩
theorem mc_X9_init : cn_mc yX9_init cX9_init 1 0 := ⟨q_183, q_12, q_182, rfl, by decide +kernel⟩
theorem mc_X10_init : cn_mc yX10_init cX10_init 3 1 := ⟨q_79, q_8, q_78, rfl, by decide +kernel⟩
theorem mc_X11_init : cn_mc yX11_init cX11_init 3 0 := ⟨q_25, q_1, q_24, rfl, by decide +kernel⟩
theorem mc_X12_init : cn_mc yX12_init cX12_init 1 0 := ⟨q_796, q_13, q_795, rfl, by decide +kernel⟩
theorem cf_X0 : cn_cf RX0 TX0 0 0 tyX0 [] := ⟨rfl, (fun w h => by cases h), tyX0_ok, (fun j hj => absurd hj (Nat.not_lt_zero j)), q_41, q_3⟩
theorem cf_X1 : cn_cf RX1 TX1 0 1 tyX1 [] := ⟨rfl, (fun w h => by cases h), tyX1_ok, (fun j hj => absurd hj (Nat.not_lt_zero j)), q_48, q_4⟩
theorem cf_X2 : cn_cf RX2 TX2 0 2 tyX2 [] := ⟨rfl, (fun w h => by cases h), tyX2_ok, (fun j hj => absurd hj (Nat.not_lt_zero j)), q_69, q_7⟩
theorem cf_X3 : cn_cf RX3 TX3 0 3 tyX3 [] := ⟨rfl, (fun w h => by cases h), tyX3_ok, (fun j hj => absurd hj (Nat.not_lt_zero j)), q_62, q_6⟩
theorem cf_X4 : cn_cf RX4 TX4 0 4 tyX4 [] := ⟨rfl, (fun w h => by cases h), tyX4_ok, (fun j hj => absurd hj (Nat.not_lt_zero j)), q_34, q_2⟩
theorem cf_X5 : cn_cf RX5 TX5 2 5 tyX5 [.int 0, .int 0] := ⟨rfl, in_X5, tyX5_ok, (by intro j hj; have h : j = 0 ∨ j = 1 := (by omega); rcases h with rfl | rfl <;> rfl), q_83, q_9⟩
theorem cf_X6 : cn_cf RX6 TX6 0 6 tyX6 [] := ⟨rfl, (fun w h => by cases h), tyX6_ok, (fun j hj => absurd hj (Nat.not_lt_zero j)), q_55, q_5⟩
theorem cf_X7 : cn_cf RX7 TX7 5 7 tyX7 [.null, .int 0, .int 0, .int 0, .int 0] := ⟨rfl, in_X7, tyX7_ok, (by intro j hj; have h : j = 0 ∨ j = 1 ∨ j = 2 ∨ j = 3 ∨ j = 4 := (by omega); rcases h with rfl | rfl | rfl | rfl | rfl <;> rfl), q_101, q_10⟩
theorem ff_X7_0 : cn_ff RX7 TX7 5 7 0 tyX7 (.array .int) := ⟨rfl, in_X7, by decide, tyX7_ok, nmX7, rfl, rfl, by decide +kernel⟩
theorem cf_X8 : cn_cf RX8 TX8 3 8 tyX8 [.null, .int 0, .int 0] := ⟨rfl, in_X8, tyX8_ok, (by intro j hj; have h : j = 0 ∨ j = 1 ∨ j = 2 := (by omega); rcases h with rfl | rfl | rfl <;> rfl), q_160, q_11⟩
theorem ff_X8_0 : cn_ff RX8 TX8 3 8 0 tyX8 (.array .long) := ⟨rfl, in_X8, by decide, tyX8_ok, nmX8, rfl, rfl, by decide +kernel⟩
theorem cf_X9 : cn_cf RX9 TX9 6 9 tyX9 [.null, .int 0, .int 0, .int 0, .int 0, .int 0] := ⟨rfl, in_X9, tyX9_ok, (by intro j hj; have h : j = 0 ∨ j = 1 ∨ j = 2 ∨ j = 3 ∨ j = 4 ∨ j = 5 := (by omega); rcases h with rfl | rfl | rfl | rfl | rfl | rfl <;> rfl), q_180, q_12⟩
theorem ff_X9_0 : cn_ff RX9 TX9 6 9 0 tyX9 (.array .int) := ⟨rfl, in_X9, by decide, tyX9_ok, nmX9, rfl, rfl, by decide +kernel⟩
theorem cf_X10 : cn_cf RX10 TX10 6 10 tyX10 [.null, .null, .null, .int 0, .int 0, .int 0] := ⟨rfl, in_X10, tyX10_ok, (by intro j hj; have h : j = 0 ∨ j = 1 ∨ j = 2 ∨ j = 3 ∨ j = 4 ∨ j = 5 := (by omega); rcases h with rfl | rfl | rfl | rfl | rfl | rfl <;> rfl), q_76, q_8⟩
theorem ff_X10_0 : cn_ff RX10 TX10 6 10 0 tyX10 (.array (.object "WrapGifts$Man")) := ⟨rfl, in_X10, by decide, tyX10_ok, nmX10, rfl, rfl, by decide +kernel⟩
theorem ff_X10_1 : cn_ff RX10 TX10 6 10 1 tyX10 (.array (.object "WrapGifts$Person")) := ⟨rfl, in_X10, by decide, tyX10_ok, nmX10, rfl, rfl, by decide +kernel⟩
theorem ff_X10_2 : cn_ff RX10 TX10 6 10 2 tyX10 (.array (.object "WrapGifts$Present")) := ⟨rfl, in_X10, by decide, tyX10_ok, nmX10, rfl, rfl, by decide +kernel⟩
theorem cf_X11 : cn_cf RX11 TX11 8 11 tyX11 [.null, .null, .null, .int 0, .null, .null, .null, .null] := ⟨rfl, in_X11, tyX11_ok, (by intro j hj; have h : j = 0 ∨ j = 1 ∨ j = 2 ∨ j = 3 ∨ j = 4 ∨ j = 5 ∨ j = 6 ∨ j = 7 := (by omega); rcases h with rfl | rfl | rfl | rfl | rfl | rfl | rfl | rfl <;> rfl), q_22, q_1⟩
theorem ff_X11_0 : cn_ff RX11 TX11 8 11 0 tyX11 (.object "WrapGifts$Town") := ⟨rfl, in_X11, by decide, tyX11_ok, nmX11, rfl, rfl, by decide +kernel⟩
theorem ff_X11_1 : cn_ff RX11 TX11 8 11 1 tyX11 (.object "WrapGifts$Town") := ⟨rfl, in_X11, by decide, tyX11_ok, nmX11, rfl, rfl, by decide +kernel⟩
theorem ff_X11_2 : cn_ff RX11 TX11 8 11 2 tyX11 (.object "WrapGifts$Town") := ⟨rfl, in_X11, by decide, tyX11_ok, nmX11, rfl, rfl, by decide +kernel⟩
theorem ff_X11_4 : cn_ff RX11 TX11 8 11 4 tyX11 (.array (.object "WrapGifts$Sheet")) := ⟨rfl, in_X11, by decide, tyX11_ok, nmX11, rfl, rfl, by decide +kernel⟩
theorem ff_X11_5 : cn_ff RX11 TX11 8 11 5 tyX11 (.object "WrapGifts$Tape") := ⟨rfl, in_X11, by decide, tyX11_ok, nmX11, rfl, rfl, by decide +kernel⟩
theorem ff_X11_6 : cn_ff RX11 TX11 8 11 6 tyX11 (.array .int) := ⟨rfl, in_X11, by decide, tyX11_ok, nmX11, rfl, rfl, by decide +kernel⟩
theorem ff_X11_7 : cn_ff RX11 TX11 8 11 7 tyX11 (.array .int) := ⟨rfl, in_X11, by decide, tyX11_ok, nmX11, rfl, rfl, by decide +kernel⟩
theorem cf_X12 : cn_cf RX12 TX12 20 12 tyX12 [.null, .null, .null, .int 0, .null, .int 0, .null, .null, .int 0, .int 0, .int 0, .int 0, .long 0, .null, .null, .null, .null, .null, .null, .null] := ⟨rfl, in_X12, tyX12_ok, (by intro j hj; have h : j = 0 ∨ j = 1 ∨ j = 2 ∨ j = 3 ∨ j = 4 ∨ j = 5 ∨ j = 6 ∨ j = 7 ∨ j = 8 ∨ j = 9 ∨ j = 10 ∨ j = 11 ∨ j = 12 ∨ j = 13 ∨ j = 14 ∨ j = 15 ∨ j = 16 ∨ j = 17 ∨ j = 18 ∨ j = 19 := (by omega); rcases h with rfl | rfl | rfl | rfl | rfl | rfl | rfl | rfl | rfl | rfl | rfl | rfl | rfl | rfl | rfl | rfl | rfl | rfl | rfl | rfl <;> rfl), q_793, q_13⟩
theorem ff_X12_0 : cn_ff RX12 TX12 20 12 0 tyX12 (.array .int) := ⟨rfl, in_X12, by decide, tyX12_ok, nmX12, rfl, rfl, by decide +kernel⟩
theorem ff_X12_1 : cn_ff RX12 TX12 20 12 1 tyX12 (.array .int) := ⟨rfl, in_X12, by decide, tyX12_ok, nmX12, rfl, rfl, by decide +kernel⟩
theorem ff_X12_2 : cn_ff RX12 TX12 20 12 2 tyX12 (.array .int) := ⟨rfl, in_X12, by decide, tyX12_ok, nmX12, rfl, rfl, by decide +kernel⟩
theorem ff_X12_4 : cn_ff RX12 TX12 20 12 4 tyX12 (.array .int) := ⟨rfl, in_X12, by decide, tyX12_ok, nmX12, rfl, rfl, by decide +kernel⟩
theorem ff_X12_6 : cn_ff RX12 TX12 20 12 6 tyX12 (.array .int) := ⟨rfl, in_X12, by decide, tyX12_ok, nmX12, rfl, rfl, by decide +kernel⟩
theorem ff_X12_7 : cn_ff RX12 TX12 20 12 7 tyX12 (.array .int) := ⟨rfl, in_X12, by decide, tyX12_ok, nmX12, rfl, rfl, by decide +kernel⟩
theorem ff_X12_13 : cn_ff RX12 TX12 20 12 13 tyX12 (.array .char) := ⟨rfl, in_X12, by decide, tyX12_ok, nmX12, rfl, rfl, by decide +kernel⟩
theorem ff_X12_14 : cn_ff RX12 TX12 20 12 14 tyX12 (.array .char) := ⟨rfl, in_X12, by decide, tyX12_ok, nmX12, rfl, rfl, by decide +kernel⟩
theorem ff_X12_15 : cn_ff RX12 TX12 20 12 15 tyX12 (.array .char) := ⟨rfl, in_X12, by decide, tyX12_ok, nmX12, rfl, rfl, by decide +kernel⟩
theorem ff_X12_16 : cn_ff RX12 TX12 20 12 16 tyX12 (.array .int) := ⟨rfl, in_X12, by decide, tyX12_ok, nmX12, rfl, rfl, by decide +kernel⟩
theorem ff_X12_17 : cn_ff RX12 TX12 20 12 17 tyX12 (.array .int) := ⟨rfl, in_X12, by decide, tyX12_ok, nmX12, rfl, rfl, by decide +kernel⟩
theorem ff_X12_18 : cn_ff RX12 TX12 20 12 18 tyX12 (.array .long) := ⟨rfl, in_X12, by decide, tyX12_ok, nmX12, rfl, rfl, by decide +kernel⟩
theorem ff_X12_19 : cn_ff RX12 TX12 20 12 19 tyX12 (.array .long) := ⟨rfl, in_X12, by decide, tyX12_ok, nmX12, rfl, rfl, by decide +kernel⟩
