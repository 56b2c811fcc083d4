theorem fc_96 : fm_ct 96 = 12 := by decide +kernel
theorem q_801 : Cond.fieldLink RX12 19 "WrapGiftsModel" "found" "[I" ∈ fm_tb := fm_in 801 (by decide +kernel) (by decide +kernel)
theorem in_X12 : ∀ w ∈ u_ws RX12 TX12 20, w ∈ fm_tb := fm_inL [817, 819, 821, 823, 825, 827, 829, 831, 833, 835, 837, 839, 841, 843, 845, 847, 849, 851, 853, 855] (by decide +kernel) (by decide +kernel)
theorem fd_X12_4 : fm_fd RX12 TX12 20 12 4 2 := ⟨rfl, in_X12, by decide, by decide, by decide⟩
theorem fc_100 : fm_ct 100 = 14 := by decide +kernel
theorem fl_100 : fm_ln 100 = 7 := by decide +kernel
theorem fr_96_4 : fm_rf 96 4 = 100 := by decide +kernel
theorem q_870 : Cond.constant RX12 51 (-1000000001 : Int32) ∈ fm_tb := fm_in 870 (by decide +kernel) (by decide +kernel)
theorem q_797 : Cond.fieldLink RX12 9 "WrapGiftsModel" "s" "[I" ∈ fm_tb := fm_in 797 (by decide +kernel) (by decide +kernel)
theorem fd_X12_0 : fm_fd RX12 TX12 20 12 0 2 := ⟨rfl, in_X12, by decide, by decide, by decide⟩
theorem fc_97 : fm_ct 97 = 14 := by decide +kernel
theorem fl_97 : fm_ln 97 = 96 := by decide +kernel
theorem fr_96_0 : fm_rf 96 0 = 97 := by decide +kernel
theorem q_863 : Cond.methodLink RX12 52 yX12_in1 ∈ fm_tb := fm_in 863 (by decide +kernel) (by decide +kernel)
theorem q_864 : Cond.static yX12_in1 ∈ fm_tb := fm_in 864 (by decide +kernel) (by decide +kernel)
theorem q_13 : Cond.initialized RX12 ∈ fm_tb := fm_in 13 (by decide +kernel) (by decide +kernel)
theorem q_865 : Cond.code yX12_in1 cX12_in1 3 (some .boolean) ∈ fm_tb := fm_in 865 (by decide +kernel) (by decide +kernel)
theorem mS_X12_in1 : fm_mS yX12_in1 cX12_in1 3 (some .boolean) 3 := ⟨q_864, q_13, q_865, by decide +kernel⟩
theorem q_799 : Cond.fieldLink RX12 16 "WrapGiftsModel" "aside" "[I" ∈ fm_tb := fm_in 799 (by decide +kernel) (by decide +kernel)
theorem fd_X12_2 : fm_fd RX12 TX12 20 12 2 2 := ⟨rfl, in_X12, by decide, by decide, by decide⟩
theorem fc_99 : fm_ct 99 = 14 := by decide +kernel
theorem fl_99 : fm_ln 99 = 96 := by decide +kernel
theorem fr_96_2 : fm_rf 96 2 = 99 := by decide +kernel
theorem q_895 : Cond.methodLink RX12 56 yX12_of1 ∈ fm_tb := fm_in 895 (by decide +kernel) (by decide +kernel)
theorem q_897 : Cond.instanceMethod yX12_of1 ∈ fm_tb := fm_in 897 (by decide +kernel) (by decide +kernel)
theorem qs_25 : Cond.selects RX12 yX12_of1 yX12_of1 ∈ fm_tb := fm_inS 25 (by decide +kernel) (by decide +kernel)
theorem q_898 : Cond.code yX12_of1 cX12_of1 3 (some .int) ∈ fm_tb := fm_in 898 (by decide +kernel) (by decide +kernel)
theorem mV_X12_of1 : fm_mV RX12 yX12_of1 cX12_of1 3 (some .int) 2 := ⟨q_897, qs_25, q_13, q_898, by decide +kernel⟩
theorem q_946 : Cond.methodLink RX12 60 yX12_lays1 ∈ fm_tb := fm_in 946 (by decide +kernel) (by decide +kernel)
theorem q_948 : Cond.instanceMethod yX12_lays1 ∈ fm_tb := fm_in 948 (by decide +kernel) (by decide +kernel)
theorem qs_32 : Cond.selects RX12 yX12_lays1 yX12_lays1 ∈ fm_tb := fm_inS 32 (by decide +kernel) (by decide +kernel)
theorem q_949 : Cond.code yX12_lays1 cX12_lays1 4 none ∈ fm_tb := fm_in 949 (by decide +kernel) (by decide +kernel)
theorem mV_X12_lays1 : fm_mV RX12 yX12_lays1 cX12_lays1 4 none 3 := ⟨q_948, qs_32, q_13, q_949, by decide +kernel⟩
theorem q_887 : Cond.methodLink RX12 64 yX12_get ∈ fm_tb := fm_in 887 (by decide +kernel) (by decide +kernel)
theorem q_889 : Cond.instanceMethod yX12_get ∈ fm_tb := fm_in 889 (by decide +kernel) (by decide +kernel)
theorem qs_23 : Cond.selects RX12 yX12_get yX12_get ∈ fm_tb := fm_inS 23 (by decide +kernel) (by decide +kernel)
theorem q_890 : Cond.code yX12_get cX12_get 3 (some .int) ∈ fm_tb := fm_in 890 (by decide +kernel) (by decide +kernel)
theorem mV_X12_get : fm_mV RX12 yX12_get cX12_get 3 (some .int) 2 := ⟨q_889, qs_23, q_13, q_890, by decide +kernel⟩
theorem q_911 : Cond.methodLink RX12 67 yX12_less ∈ fm_tb := fm_in 911 (by decide +kernel) (by decide +kernel)
theorem q_912 : Cond.static yX12_less ∈ fm_tb := fm_in 912 (by decide +kernel) (by decide +kernel)
theorem q_913 : Cond.code yX12_less cX12_less 2 (some .int) ∈ fm_tb := fm_in 913 (by decide +kernel) (by decide +kernel)
theorem mS_X12_less : fm_mS yX12_less cX12_less 2 (some .int) 2 := ⟨q_912, q_13, q_913, by decide +kernel⟩
