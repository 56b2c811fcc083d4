theorem fc_96 : fm_ct 96 = 12 := by decide +kernel
theorem q_801 : Cond.fieldLink RX12 19 "WrapGiftsModel" "found" "[I" ∈ fm_tb := fm_in 801 (by decide +kernel) (by decide +kernel)
theorem in_X12 : ∀ w ∈ u_ws RX12 TX12 20, w ∈ fm_tb := fm_inL [817, 819, 821, 823, 825, 827, 829, 831, 833, 835, 837, 839, 841, 843, 845, 847, 849, 851, 853, 855] (by decide +kernel) (by decide +kernel)
theorem fd_X12_4 : fm_fd RX12 TX12 20 12 4 2 := ⟨rfl, in_X12, by decide, by decide, by decide⟩
theorem fc_100 : fm_ct 100 = 14 := by decide +kernel
theorem fl_100 : fm_ln 100 = 7 := by decide +kernel
theorem fr_96_4 : fm_rf 96 4 = 100 := by decide +kernel
theorem q_870 : Cond.constant RX12 51 (-1000000001 : Int32) ∈ fm_tb := fm_in 870 (by decide +kernel) (by decide +kernel)
theorem q_797 : Cond.fieldLink RX12 9 "WrapGiftsModel" "s" "[I" ∈ fm_tb := fm_in 797 (by decide +kernel) (by decide +kernel)
theorem fd_X12_0 : fm_fd RX12 TX12 20 12 0 2 := ⟨rfl, in_X12, by decide, by decide, by decide⟩
theorem fc_97 : fm_ct 97 = 14 := by decide +kernel
theorem fl_97 : fm_ln 97 = 96 := by decide +kernel
theorem fr_96_0 : fm_rf 96 0 = 97 := by decide +kernel
theorem q_863 : Cond.methodLink RX12 52 yX12_in1 ∈ fm_tb := fm_in 863 (by decide +kernel) (by decide +kernel)
theorem q_864 : Cond.static yX12_in1 ∈ fm_tb := fm_in 864 (by decide +kernel) (by decide +kernel)
theorem q_13 : Cond.initialized RX12 ∈ fm_tb := fm_in 13 (by decide +kernel) (by decide +kernel)
theorem q_865 : Cond.code yX12_in1 cX12_in1 3 (some .boolean) ∈ fm_tb := fm_in 865 (by decide +kernel) (by decide +kernel)
theorem mS_X12_in1 : fm_mS yX12_in1 cX12_in1 3 (some .boolean) 3 := ⟨q_864, q_13, q_865, by decide +kernel⟩
theorem q_799 : Cond.fieldLink RX12 16 "WrapGiftsModel" "aside" "[I" ∈ fm_tb := fm_in 799 (by decide +kernel) (by decide +kernel)
theorem fd_X12_2 : fm_fd RX12 TX12 20 12 2 2 := ⟨rfl, in_X12, by decide, by decide, by decide⟩
theorem fc_99 : fm_ct 99 = 14 := by decide +kernel
theorem fl_99 : fm_ln 99 = 96 := by decide +kernel
theorem fr_96_2 : fm_rf 96 2 = 99 := by decide +kernel
theorem q_895 : Cond.methodLink RX12 56 yX12_of1 ∈ fm_tb := fm_in 895 (by decide +kernel) (by decide +kernel)
theorem q_897 : Cond.instanceMethod yX12_of1 ∈ fm_tb := fm_in 897 (by decide +kernel) (by decide +kernel)
theorem qs_25 : Cond.selects RX12 yX12_of1 yX12_of1 ∈ fm_tb := fm_inS 25 (by decide +kernel) (by decide +kernel)
theorem q_898 : Cond.code yX12_of1 cX12_of1 3 (some .int) ∈ fm_tb := fm_in 898 (by decide +kernel) (by decide +kernel)
theorem mV_X12_of1 : fm_mV RX12 yX12_of1 cX12_of1 3 (some .int) 2 := ⟨q_897, qs_25, q_13, q_898, by decide +kernel⟩
theorem q_946 : Cond.methodLink RX12 60 yX12_lays1 ∈ fm_tb := fm_in 946 (by decide +kernel) (by decide +kernel)
theorem q_948 : Cond.instanceMethod yX12_lays1 ∈ fm_tb := fm_in 948 (by decide +kernel) (by decide +kernel)
theorem qs_32 : Cond.selects RX12 yX12_lays1 yX12_lays1 ∈ fm_tb := fm_inS 32 (by decide +kernel) (by decide +kernel)
theorem q_949 : Cond.code yX12_lays1 cX12_lays1 4 none ∈ fm_tb := fm_in 949 (by decide +kernel) (by decide +kernel)
theorem mV_X12_lays1 : fm_mV RX12 yX12_lays1 cX12_lays1 4 none 3 := ⟨q_948, qs_32, q_13, q_949, by decide +kernel⟩
theorem q_887 : Cond.methodLink RX12 64 yX12_get ∈ fm_tb := fm_in 887 (by decide +kernel) (by decide +kernel)
theorem q_889 : Cond.instanceMethod yX12_get ∈ fm_tb := fm_in 889 (by decide +kernel) (by decide +kernel)
theorem qs_23 : Cond.selects RX12 yX12_get yX12_get ∈ fm_tb := fm_inS 23 (by decide +kernel) (by decide +kernel)
theorem q_890 : Cond.code yX12_get cX12_get 3 (some .int) ∈ fm_tb := fm_in 890 (by decide +kernel) (by decide +kernel)
theorem mV_X12_get : fm_mV RX12 yX12_get cX12_get 3 (some .int) 2 := ⟨q_889, qs_23, q_13, q_890, by decide +kernel⟩
theorem q_911 : Cond.methodLink RX12 67 yX12_less ∈ fm_tb := fm_in 911 (by decide +kernel) (by decide +kernel)
theorem q_912 : Cond.static yX12_less ∈ fm_tb := fm_in 912 (by decide +kernel) (by decide +kernel)
theorem q_913 : Cond.code yX12_less cX12_less 2 (some .int) ∈ fm_tb := fm_in 913 (by decide +kernel) (by decide +kernel)
theorem mS_X12_less : fm_mS yX12_less cX12_less 2 (some .int) 2 := ⟨q_912, q_13, q_913, by decide +kernel⟩
theorem q_802 : Cond.fieldLink RX12 70 "WrapGiftsModel" "passed" "I" ∈ fm_tb := fm_in 802 (by decide +kernel) (by decide +kernel)
theorem fd_X12_5 : fm_fd RX12 TX12 20 12 5 0 := ⟨rfl, in_X12, by decide, by decide, by decide⟩
theorem q_875 : Cond.methodLink RX12 74 yX12_puts ∈ fm_tb := fm_in 875 (by decide +kernel) (by decide +kernel)
theorem q_877 : Cond.instanceMethod yX12_puts ∈ fm_tb := fm_in 877 (by decide +kernel) (by decide +kernel)
theorem qs_21 : Cond.selects RX12 yX12_puts yX12_puts ∈ fm_tb := fm_inS 21 (by decide +kernel) (by decide +kernel)
theorem q_878 : Cond.code yX12_puts cX12_puts 4 none ∈ fm_tb := fm_in 878 (by decide +kernel) (by decide +kernel)
theorem mV_X12_puts : fm_mV RX12 yX12_puts cX12_puts 4 none 3 := ⟨q_877, qs_21, q_13, q_878, by decide +kernel⟩
theorem q_907 : Cond.methodLink RX12 77 yX12_opensOf ∈ fm_tb := fm_in 907 (by decide +kernel) (by decide +kernel)
theorem q_909 : Cond.instanceMethod yX12_opensOf ∈ fm_tb := fm_in 909 (by decide +kernel) (by decide +kernel)
theorem qs_27 : Cond.selects RX12 yX12_opensOf yX12_opensOf ∈ fm_tb := fm_inS 27 (by decide +kernel) (by decide +kernel)
theorem q_910 : Cond.code yX12_opensOf cX12_opensOf 4 (some .int) ∈ fm_tb := fm_in 910 (by decide +kernel) (by decide +kernel)
theorem mV_X12_opensOf : fm_mV RX12 yX12_opensOf cX12_opensOf 4 (some .int) 2 := ⟨q_909, qs_27, q_13, q_910, by decide +kernel⟩
theorem q_977 : Cond.methodLink RX12 80 yX12_takesLayer ∈ fm_tb := fm_in 977 (by decide +kernel) (by decide +kernel)
theorem q_979 : Cond.instanceMethod yX12_takesLayer ∈ fm_tb := fm_in 979 (by decide +kernel) (by decide +kernel)
theorem qs_35 : Cond.selects RX12 yX12_takesLayer yX12_takesLayer ∈ fm_tb := fm_inS 35 (by decide +kernel) (by decide +kernel)
theorem q_980 : Cond.code yX12_takesLayer cX12_takesLayer 4 (some .int) ∈ fm_tb := fm_in 980 (by decide +kernel) (by decide +kernel)
theorem mV_X12_takesLayer : fm_mV RX12 yX12_takesLayer cX12_takesLayer 4 (some .int) 1 := ⟨q_979, qs_35, q_13, q_980, by decide +kernel⟩
theorem q_914 : Cond.methodLink RX12 84 yX12_enjoysOf ∈ fm_tb := fm_in 914 (by decide +kernel) (by decide +kernel)
theorem q_916 : Cond.instanceMethod yX12_enjoysOf ∈ fm_tb := fm_in 916 (by decide +kernel) (by decide +kernel)
theorem qs_28 : Cond.selects RX12 yX12_enjoysOf yX12_enjoysOf ∈ fm_tb := fm_inS 28 (by decide +kernel) (by decide +kernel)
theorem q_917 : Cond.code yX12_enjoysOf cX12_enjoysOf 3 (some .int) ∈ fm_tb := fm_in 917 (by decide +kernel) (by decide +kernel)
theorem mV_X12_enjoysOf : fm_mV RX12 yX12_enjoysOf cX12_enjoysOf 3 (some .int) 2 := ⟨q_916, qs_28, q_13, q_917, by decide +kernel⟩
theorem q_1009 : Cond.methodLink RX12 87 yX12_enjoys ∈ fm_tb := fm_in 1009 (by decide +kernel) (by decide +kernel)
theorem q_1011 : Cond.instanceMethod yX12_enjoys ∈ fm_tb := fm_in 1011 (by decide +kernel) (by decide +kernel)
theorem qs_41 : Cond.selects RX12 yX12_enjoys yX12_enjoys ∈ fm_tb := fm_inS 41 (by decide +kernel) (by decide +kernel)
theorem q_1012 : Cond.code yX12_enjoys cX12_enjoys 3 none ∈ fm_tb := fm_in 1012 (by decide +kernel) (by decide +kernel)
theorem mV_X12_enjoys : fm_mV RX12 yX12_enjoys cX12_enjoys 3 none 2 := ⟨q_1011, qs_41, q_13, q_1012, by decide +kernel⟩
theorem q_918 : Cond.methodLink RX12 91 yX12_struckOf ∈ fm_tb := fm_in 918 (by decide +kernel) (by decide +kernel)
theorem q_920 : Cond.instanceMethod yX12_struckOf ∈ fm_tb := fm_in 920 (by decide +kernel) (by decide +kernel)
theorem qs_29 : Cond.selects RX12 yX12_struckOf yX12_struckOf ∈ fm_tb := fm_inS 29 (by decide +kernel) (by decide +kernel)
theorem q_921 : Cond.code yX12_struckOf cX12_struckOf 4 (some .int) ∈ fm_tb := fm_in 921 (by decide +kernel) (by decide +kernel)
theorem mV_X12_struckOf : fm_mV RX12 yX12_struckOf cX12_struckOf 4 (some .int) 2 := ⟨q_920, qs_29, q_13, q_921, by decide +kernel⟩
theorem q_922 : Cond.methodLink RX12 94 yX12_passesOf ∈ fm_tb := fm_in 922 (by decide +kernel) (by decide +kernel)
theorem q_924 : Cond.instanceMethod yX12_passesOf ∈ fm_tb := fm_in 924 (by decide +kernel) (by decide +kernel)
theorem qs_30 : Cond.selects RX12 yX12_passesOf yX12_passesOf ∈ fm_tb := fm_inS 30 (by decide +kernel) (by decide +kernel)
theorem q_925 : Cond.code yX12_passesOf cX12_passesOf 4 (some .int) ∈ fm_tb := fm_in 925 (by decide +kernel) (by decide +kernel)
theorem mV_X12_passesOf : fm_mV RX12 yX12_passesOf cX12_passesOf 4 (some .int) 2 := ⟨q_924, qs_30, q_13, q_925, by decide +kernel⟩
theorem q_1005 : Cond.methodLink RX12 97 yX12_opens ∈ fm_tb := fm_in 1005 (by decide +kernel) (by decide +kernel)
theorem q_1007 : Cond.instanceMethod yX12_opens ∈ fm_tb := fm_in 1007 (by decide +kernel) (by decide +kernel)
theorem qs_40 : Cond.selects RX12 yX12_opens yX12_opens ∈ fm_tb := fm_inS 40 (by decide +kernel) (by decide +kernel)
theorem q_1008 : Cond.code yX12_opens cX12_opens 4 none ∈ fm_tb := fm_in 1008 (by decide +kernel) (by decide +kernel)
theorem mV_X12_opens : fm_mV RX12 yX12_opens cX12_opens 4 none 2 := ⟨q_1007, qs_40, q_13, q_1008, by decide +kernel⟩
theorem fp_X12_5 : fm_fp RX12 TX12 20 12 5 0 tyX12 .int := ⟨fd_X12_5, tyX12_ok, nmX12, rfl, by decide +kernel⟩
theorem q_969 : Cond.methodLink RX12 100 yX12_addsLayer ∈ fm_tb := fm_in 969 (by decide +kernel) (by decide +kernel)
theorem q_971 : Cond.instanceMethod yX12_addsLayer ∈ fm_tb := fm_in 971 (by decide +kernel) (by decide +kernel)
theorem qs_34 : Cond.selects RX12 yX12_addsLayer yX12_addsLayer ∈ fm_tb := fm_inS 34 (by decide +kernel) (by decide +kernel)
theorem q_972 : Cond.code yX12_addsLayer cX12_addsLayer 4 none ∈ fm_tb := fm_in 972 (by decide +kernel) (by decide +kernel)
theorem mV_X12_addsLayer : fm_mV RX12 yX12_addsLayer cX12_addsLayer 4 none 2 := ⟨q_971, qs_34, q_13, q_972, by decide +kernel⟩
theorem q_997 : Cond.methodLink RX12 103 yX12_presentFor ∈ fm_tb := fm_in 997 (by decide +kernel) (by decide +kernel)
theorem q_999 : Cond.instanceMethod yX12_presentFor ∈ fm_tb := fm_in 999 (by decide +kernel) (by decide +kernel)
theorem qs_38 : Cond.selects RX12 yX12_presentFor yX12_presentFor ∈ fm_tb := fm_inS 38 (by decide +kernel) (by decide +kernel)
theorem q_1000 : Cond.code yX12_presentFor cX12_presentFor 3 (some .int) ∈ fm_tb := fm_in 1000 (by decide +kernel) (by decide +kernel)
theorem mV_X12_presentFor : fm_mV RX12 yX12_presentFor cX12_presentFor 3 (some .int) 1 := ⟨q_999, qs_38, q_13, q_1000, by decide +kernel⟩
theorem q_1001 : Cond.methodLink RX12 106 yX12_takesTurn ∈ fm_tb := fm_in 1001 (by decide +kernel) (by decide +kernel)
theorem q_1003 : Cond.instanceMethod yX12_takesTurn ∈ fm_tb := fm_in 1003 (by decide +kernel) (by decide +kernel)
theorem qs_39 : Cond.selects RX12 yX12_takesTurn yX12_takesTurn ∈ fm_tb := fm_inS 39 (by decide +kernel) (by decide +kernel)
theorem q_1004 : Cond.code yX12_takesTurn cX12_takesTurn 4 none ∈ fm_tb := fm_in 1004 (by decide +kernel) (by decide +kernel)
theorem mV_X12_takesTurn : fm_mV RX12 yX12_takesTurn cX12_takesTurn 4 none 2 := ⟨q_1003, qs_39, q_13, q_1004, by decide +kernel⟩
theorem q_993 : Cond.methodLink RX12 109 yX12_day ∈ fm_tb := fm_in 993 (by decide +kernel) (by decide +kernel)
theorem q_995 : Cond.instanceMethod yX12_day ∈ fm_tb := fm_in 995 (by decide +kernel) (by decide +kernel)
theorem qs_37 : Cond.selects RX12 yX12_day yX12_day ∈ fm_tb := fm_inS 37 (by decide +kernel) (by decide +kernel)
theorem q_996 : Cond.code yX12_day cX12_day 3 none ∈ fm_tb := fm_in 996 (by decide +kernel) (by decide +kernel)
theorem mV_X12_day : fm_mV RX12 yX12_day cX12_day 3 none 0 := ⟨q_995, qs_37, q_13, q_996, by decide +kernel⟩
theorem q_871 : Cond.methodLink RX12 115 yX12_addsPerson ∈ fm_tb := fm_in 871 (by decide +kernel) (by decide +kernel)
theorem q_873 : Cond.instanceMethod yX12_addsPerson ∈ fm_tb := fm_in 873 (by decide +kernel) (by decide +kernel)
theorem qs_20 : Cond.selects RX12 yX12_addsPerson yX12_addsPerson ∈ fm_tb := fm_inS 20 (by decide +kernel) (by decide +kernel)
theorem q_874 : Cond.code yX12_addsPerson cX12_addsPerson 2 none ∈ fm_tb := fm_in 874 (by decide +kernel) (by decide +kernel)
theorem mV_X12_addsPerson : fm_mV RX12 yX12_addsPerson cX12_addsPerson 2 none 1 := ⟨q_873, qs_20, q_13, q_874, by decide +kernel⟩
theorem q_866 : Cond.methodLink RX12 112 yX12_no ∈ fm_tb := fm_in 866 (by decide +kernel) (by decide +kernel)
theorem q_868 : Cond.instanceMethod yX12_no ∈ fm_tb := fm_in 868 (by decide +kernel) (by decide +kernel)
theorem qs_19 : Cond.selects RX12 yX12_no yX12_no ∈ fm_tb := fm_inS 19 (by decide +kernel) (by decide +kernel)
theorem q_869 : Cond.code yX12_no cX12_no 2 (some .int) ∈ fm_tb := fm_in 869 (by decide +kernel) (by decide +kernel)
theorem mV_X12_no : fm_mV RX12 yX12_no cX12_no 2 (some .int) 1 := ⟨q_868, qs_19, q_13, q_869, by decide +kernel⟩
theorem q_883 : Cond.methodLink RX12 119 yX12_isPerson ∈ fm_tb := fm_in 883 (by decide +kernel) (by decide +kernel)
theorem q_885 : Cond.instanceMethod yX12_isPerson ∈ fm_tb := fm_in 885 (by decide +kernel) (by decide +kernel)
theorem qs_22 : Cond.selects RX12 yX12_isPerson yX12_isPerson ∈ fm_tb := fm_inS 22 (by decide +kernel) (by decide +kernel)
theorem q_886 : Cond.code yX12_isPerson cX12_isPerson 2 (some .boolean) ∈ fm_tb := fm_in 886 (by decide +kernel) (by decide +kernel)
theorem mV_X12_isPerson : fm_mV RX12 yX12_isPerson cX12_isPerson 2 (some .boolean) 1 := ⟨q_885, qs_22, q_13, q_886, by decide +kernel⟩
theorem q_891 : Cond.methodLink RX12 123 yX12_presentsWith ∈ fm_tb := fm_in 891 (by decide +kernel) (by decide +kernel)
theorem q_893 : Cond.instanceMethod yX12_presentsWith ∈ fm_tb := fm_in 893 (by decide +kernel) (by decide +kernel)
theorem qs_24 : Cond.selects RX12 yX12_presentsWith yX12_presentsWith ∈ fm_tb := fm_inS 24 (by decide +kernel) (by decide +kernel)
theorem q_894 : Cond.code yX12_presentsWith cX12_presentsWith 5 (some .int) ∈ fm_tb := fm_in 894 (by decide +kernel) (by decide +kernel)
theorem mV_X12_presentsWith : fm_mV RX12 yX12_presentsWith cX12_presentsWith 5 (some .int) 2 := ⟨q_893, qs_24, q_13, q_894, by decide +kernel⟩
theorem q_903 : Cond.methodLink RX12 127 yX12_isPresent ∈ fm_tb := fm_in 903 (by decide +kernel) (by decide +kernel)
theorem q_905 : Cond.instanceMethod yX12_isPresent ∈ fm_tb := fm_in 905 (by decide +kernel) (by decide +kernel)
theorem qs_26 : Cond.selects RX12 yX12_isPresent yX12_isPresent ∈ fm_tb := fm_inS 26 (by decide +kernel) (by decide +kernel)
theorem q_906 : Cond.code yX12_isPresent cX12_isPresent 2 (some .boolean) ∈ fm_tb := fm_in 906 (by decide +kernel) (by decide +kernel)
theorem mV_X12_isPresent : fm_mV RX12 yX12_isPresent cX12_isPresent 2 (some .boolean) 1 := ⟨q_905, qs_26, q_13, q_906, by decide +kernel⟩
theorem q_942 : Cond.methodLink RX12 130 yX12_addsPresent ∈ fm_tb := fm_in 942 (by decide +kernel) (by decide +kernel)
theorem q_944 : Cond.instanceMethod yX12_addsPresent ∈ fm_tb := fm_in 944 (by decide +kernel) (by decide +kernel)
theorem qs_31 : Cond.selects RX12 yX12_addsPresent yX12_addsPresent ∈ fm_tb := fm_inS 31 (by decide +kernel) (by decide +kernel)
theorem q_945 : Cond.code yX12_addsPresent cX12_addsPresent 4 none ∈ fm_tb := fm_in 945 (by decide +kernel) (by decide +kernel)
theorem mV_X12_addsPresent : fm_mV RX12 yX12_addsPresent cX12_addsPresent 4 none 2 := ⟨q_944, qs_31, q_13, q_945, by decide +kernel⟩
theorem q_962 : Cond.methodLink RX12 133 yX12_isPaper ∈ fm_tb := fm_in 962 (by decide +kernel) (by decide +kernel)
theorem q_963 : Cond.static yX12_isPaper ∈ fm_tb := fm_in 963 (by decide +kernel) (by decide +kernel)
theorem q_964 : Cond.code yX12_isPaper cX12_isPaper 1 (some .boolean) ∈ fm_tb := fm_in 964 (by decide +kernel) (by decide +kernel)
theorem mS_X12_isPaper : fm_mS yX12_isPaper cX12_isPaper 1 (some .boolean) 1 := ⟨q_963, q_13, q_964, by decide +kernel⟩
theorem q_965 : Cond.methodLink RX12 136 yX12_whyNoLayer ∈ fm_tb := fm_in 965 (by decide +kernel) (by decide +kernel)
theorem q_967 : Cond.instanceMethod yX12_whyNoLayer ∈ fm_tb := fm_in 967 (by decide +kernel) (by decide +kernel)
theorem qs_33 : Cond.selects RX12 yX12_whyNoLayer yX12_whyNoLayer ∈ fm_tb := fm_inS 33 (by decide +kernel) (by decide +kernel)
theorem q_968 : Cond.code yX12_whyNoLayer cX12_whyNoLayer 2 (some .int) ∈ fm_tb := fm_in 968 (by decide +kernel) (by decide +kernel)
theorem mV_X12_whyNoLayer : fm_mV RX12 yX12_whyNoLayer cX12_whyNoLayer 2 (some .int) 1 := ⟨q_967, qs_33, q_13, q_968, by decide +kernel⟩
theorem q_989 : Cond.methodLink RX12 139 yX12_goes ∈ fm_tb := fm_in 989 (by decide +kernel) (by decide +kernel)
theorem q_991 : Cond.instanceMethod yX12_goes ∈ fm_tb := fm_in 991 (by decide +kernel) (by decide +kernel)
theorem qs_36 : Cond.selects RX12 yX12_goes yX12_goes ∈ fm_tb := fm_inS 36 (by decide +kernel) (by decide +kernel)
theorem q_992 : Cond.code yX12_goes cX12_goes 3 none ∈ fm_tb := fm_in 992 (by decide +kernel) (by decide +kernel)
theorem mV_X12_goes : fm_mV RX12 yX12_goes cX12_goes 3 none 1 := ⟨q_991, qs_36, q_13, q_992, by decide +kernel⟩
theorem q_1013 : Cond.methodLink RX12 142 yX12_foundOnes ∈ fm_tb := fm_in 1013 (by decide +kernel) (by decide +kernel)
theorem q_1015 : Cond.instanceMethod yX12_foundOnes ∈ fm_tb := fm_in 1015 (by decide +kernel) (by decide +kernel)
theorem qs_42 : Cond.selects RX12 yX12_foundOnes yX12_foundOnes ∈ fm_tb := fm_inS 42 (by decide +kernel) (by decide +kernel)
theorem q_1016 : Cond.code yX12_foundOnes cX12_foundOnes 3 (some .int) ∈ fm_tb := fm_in 1016 (by decide +kernel) (by decide +kernel)
theorem mV_X12_foundOnes : fm_mV RX12 yX12_foundOnes cX12_foundOnes 3 (some .int) 0 := ⟨q_1015, qs_42, q_13, q_1016, by decide +kernel⟩
theorem q_1021 : Cond.methodLink RX12 146 yX12_allJoy ∈ fm_tb := fm_in 1021 (by decide +kernel) (by decide +kernel)
theorem q_1023 : Cond.instanceMethod yX12_allJoy ∈ fm_tb := fm_in 1023 (by decide +kernel) (by decide +kernel)
theorem qs_43 : Cond.selects RX12 yX12_allJoy yX12_allJoy ∈ fm_tb := fm_inS 43 (by decide +kernel) (by decide +kernel)
theorem q_1024 : Cond.code yX12_allJoy cX12_allJoy 3 (some .int) ∈ fm_tb := fm_in 1024 (by decide +kernel) (by decide +kernel)
theorem mV_X12_allJoy : fm_mV RX12 yX12_allJoy cX12_allJoy 3 (some .int) 0 := ⟨q_1023, qs_43, q_13, q_1024, by decide +kernel⟩
theorem q_1025 : Cond.methodLink RX12 149 yX12_allOf ∈ fm_tb := fm_in 1025 (by decide +kernel) (by decide +kernel)
theorem q_1027 : Cond.instanceMethod yX12_allOf ∈ fm_tb := fm_in 1027 (by decide +kernel) (by decide +kernel)
theorem qs_44 : Cond.selects RX12 yX12_allOf yX12_allOf ∈ fm_tb := fm_inS 44 (by decide +kernel) (by decide +kernel)
theorem q_1028 : Cond.code yX12_allOf cX12_allOf 5 (some .int) ∈ fm_tb := fm_in 1028 (by decide +kernel) (by decide +kernel)
theorem mV_X12_allOf : fm_mV RX12 yX12_allOf cX12_allOf 5 (some .int) 2 := ⟨q_1027, qs_44, q_13, q_1028, by decide +kernel⟩
theorem q_1033 : Cond.methodLink RX12 152 yX12_isAhead ∈ fm_tb := fm_in 1033 (by decide +kernel) (by decide +kernel)
theorem q_1034 : Cond.static yX12_isAhead ∈ fm_tb := fm_in 1034 (by decide +kernel) (by decide +kernel)
theorem q_1035 : Cond.code yX12_isAhead cX12_isAhead 1 (some .boolean) ∈ fm_tb := fm_in 1035 (by decide +kernel) (by decide +kernel)
theorem mS_X12_isAhead : fm_mS yX12_isAhead cX12_isAhead 1 (some .boolean) 1 := ⟨q_1034, q_13, q_1035, by decide +kernel⟩
theorem q_1036 : Cond.methodLink RX12 155 yX12_setsAside ∈ fm_tb := fm_in 1036 (by decide +kernel) (by decide +kernel)
theorem q_1038 : Cond.instanceMethod yX12_setsAside ∈ fm_tb := fm_in 1038 (by decide +kernel) (by decide +kernel)
theorem qs_45 : Cond.selects RX12 yX12_setsAside yX12_setsAside ∈ fm_tb := fm_inS 45 (by decide +kernel) (by decide +kernel)
theorem q_1039 : Cond.code yX12_setsAside cX12_setsAside 2 none ∈ fm_tb := fm_in 1039 (by decide +kernel) (by decide +kernel)
theorem mV_X12_setsAside : fm_mV RX12 yX12_setsAside cX12_setsAside 2 none 0 := ⟨q_1038, qs_45, q_13, q_1039, by decide +kernel⟩
theorem q_1040 : Cond.methodLink RX12 158 yX12_laysBack ∈ fm_tb := fm_in 1040 (by decide +kernel) (by decide +kernel)
theorem q_1042 : Cond.instanceMethod yX12_laysBack ∈ fm_tb := fm_in 1042 (by decide +kernel) (by decide +kernel)
theorem qs_46 : Cond.selects RX12 yX12_laysBack yX12_laysBack ∈ fm_tb := fm_inS 46 (by decide +kernel) (by decide +kernel)
theorem q_1043 : Cond.code yX12_laysBack cX12_laysBack 2 none ∈ fm_tb := fm_in 1043 (by decide +kernel) (by decide +kernel)
theorem mV_X12_laysBack : fm_mV RX12 yX12_laysBack cX12_laysBack 2 none 0 := ⟨q_1042, qs_46, q_13, q_1043, by decide +kernel⟩
theorem q_1052 : Cond.methodLink RX12 161 yX12_firstBy ∈ fm_tb := fm_in 1052 (by decide +kernel) (by decide +kernel)
theorem q_1054 : Cond.instanceMethod yX12_firstBy ∈ fm_tb := fm_in 1054 (by decide +kernel) (by decide +kernel)
theorem qs_47 : Cond.selects RX12 yX12_firstBy yX12_firstBy ∈ fm_tb := fm_inS 47 (by decide +kernel) (by decide +kernel)
theorem q_1055 : Cond.code yX12_firstBy cX12_firstBy 5 (some .int) ∈ fm_tb := fm_in 1055 (by decide +kernel) (by decide +kernel)
theorem mV_X12_firstBy : fm_mV RX12 yX12_firstBy cX12_firstBy 5 (some .int) 3 := ⟨q_1054, qs_47, q_13, q_1055, by decide +kernel⟩
theorem q_1067 : Cond.methodLink RX12 168 yX12_joyThen ∈ fm_tb := fm_in 1067 (by decide +kernel) (by decide +kernel)
theorem q_1069 : Cond.instanceMethod yX12_joyThen ∈ fm_tb := fm_in 1069 (by decide +kernel) (by decide +kernel)
theorem qs_48 : Cond.selects RX12 yX12_joyThen yX12_joyThen ∈ fm_tb := fm_inS 48 (by decide +kernel) (by decide +kernel)
theorem q_1070 : Cond.code yX12_joyThen cX12_joyThen 4 (some .int) ∈ fm_tb := fm_in 1070 (by decide +kernel) (by decide +kernel)
theorem mV_X12_joyThen : fm_mV RX12 yX12_joyThen cX12_joyThen 4 (some .int) 2 := ⟨q_1069, qs_48, q_13, q_1070, by decide +kernel⟩
theorem q_1064 : Cond.methodLink RX12 165 yX12_isSoon ∈ fm_tb := fm_in 1064 (by decide +kernel) (by decide +kernel)
theorem q_1065 : Cond.static yX12_isSoon ∈ fm_tb := fm_in 1065 (by decide +kernel) (by decide +kernel)
theorem q_1066 : Cond.code yX12_isSoon cX12_isSoon 1 (some .boolean) ∈ fm_tb := fm_in 1066 (by decide +kernel) (by decide +kernel)
theorem mS_X12_isSoon : fm_mS yX12_isSoon cX12_isSoon 1 (some .boolean) 1 := ⟨q_1065, q_13, q_1066, by decide +kernel⟩
theorem q_803 : Cond.fieldLink RX12 22 "WrapGiftsModel" "left" "[I" ∈ fm_tb := fm_in 803 (by decide +kernel) (by decide +kernel)
theorem fd_X12_6 : fm_fd RX12 TX12 20 12 6 2 := ⟨rfl, in_X12, by decide, by decide, by decide⟩
theorem fc_101 : fm_ct 101 = 14 := by decide +kernel
theorem fl_101 : fm_ln 101 = 5 := by decide +kernel
theorem fr_96_6 : fm_rf 96 6 = 101 := by decide +kernel
theorem q_1087 : Cond.methodLink RX12 171 yX12_isOrder ∈ fm_tb := fm_in 1087 (by decide +kernel) (by decide +kernel)
theorem q_1089 : Cond.instanceMethod yX12_isOrder ∈ fm_tb := fm_in 1089 (by decide +kernel) (by decide +kernel)
theorem qs_49 : Cond.selects RX12 yX12_isOrder yX12_isOrder ∈ fm_tb := fm_inS 49 (by decide +kernel) (by decide +kernel)
theorem q_1090 : Cond.code yX12_isOrder cX12_isOrder 5 (some .boolean) ∈ fm_tb := fm_in 1090 (by decide +kernel) (by decide +kernel)
theorem mV_X12_isOrder : fm_mV RX12 yX12_isOrder cX12_isOrder 5 (some .boolean) 2 := ⟨q_1089, qs_49, q_13, q_1090, by decide +kernel⟩
theorem q_1091 : Cond.methodLink RX12 175 yX12_joyBy ∈ fm_tb := fm_in 1091 (by decide +kernel) (by decide +kernel)
theorem q_1093 : Cond.instanceMethod yX12_joyBy ∈ fm_tb := fm_in 1093 (by decide +kernel) (by decide +kernel)
theorem qs_50 : Cond.selects RX12 yX12_joyBy yX12_joyBy ∈ fm_tb := fm_inS 50 (by decide +kernel) (by decide +kernel)
theorem q_1094 : Cond.code yX12_joyBy cX12_joyBy 6 (some .int) ∈ fm_tb := fm_in 1094 (by decide +kernel) (by decide +kernel)
theorem mV_X12_joyBy : fm_mV RX12 yX12_joyBy cX12_joyBy 6 (some .int) 3 := ⟨q_1093, qs_50, q_13, q_1094, by decide +kernel⟩
theorem q_1103 : Cond.methodLink RX12 178 yX12_isHiddenBy ∈ fm_tb := fm_in 1103 (by decide +kernel) (by decide +kernel)
theorem q_1105 : Cond.instanceMethod yX12_isHiddenBy ∈ fm_tb := fm_in 1105 (by decide +kernel) (by decide +kernel)
theorem qs_51 : Cond.selects RX12 yX12_isHiddenBy yX12_isHiddenBy ∈ fm_tb := fm_inS 51 (by decide +kernel) (by decide +kernel)
theorem q_1106 : Cond.code yX12_isHiddenBy cX12_isHiddenBy 6 (some .boolean) ∈ fm_tb := fm_in 1106 (by decide +kernel) (by decide +kernel)
theorem mV_X12_isHiddenBy : fm_mV RX12 yX12_isHiddenBy cX12_isHiddenBy 6 (some .boolean) 4 := ⟨q_1105, qs_51, q_13, q_1106, by decide +kernel⟩
theorem q_805 : Cond.fieldLink RX12 182 "WrapGiftsModel" "taped" "I" ∈ fm_tb := fm_in 805 (by decide +kernel) (by decide +kernel)
theorem fd_X12_8 : fm_fd RX12 TX12 20 12 8 0 := ⟨rfl, in_X12, by decide, by decide, by decide⟩
theorem q_804 : Cond.fieldLink RX12 25 "WrapGiftsModel" "tape" "[I" ∈ fm_tb := fm_in 804 (by decide +kernel) (by decide +kernel)
theorem fd_X12_7 : fm_fd RX12 TX12 20 12 7 2 := ⟨rfl, in_X12, by decide, by decide, by decide⟩
theorem fc_102 : fm_ct 102 = 14 := by decide +kernel
theorem fl_102 : fm_ln 102 = 120 := by decide +kernel
theorem fr_96_7 : fm_rf 96 7 = 102 := by decide +kernel
theorem fp_X12_8 : fm_fp RX12 TX12 20 12 8 0 tyX12 .int := ⟨fd_X12_8, tyX12_ok, nmX12, rfl, by decide +kernel⟩
theorem q_808 : Cond.fieldLink RX12 185 "WrapGiftsModel" "ended" "I" ∈ fm_tb := fm_in 808 (by decide +kernel) (by decide +kernel)
theorem fd_X12_11 : fm_fd RX12 TX12 20 12 11 0 := ⟨rfl, in_X12, by decide, by decide, by decide⟩
theorem q_807 : Cond.fieldLink RX12 188 "WrapGiftsModel" "begun" "I" ∈ fm_tb := fm_in 807 (by decide +kernel) (by decide +kernel)
theorem fd_X12_10 : fm_fd RX12 TX12 20 12 10 0 := ⟨rfl, in_X12, by decide, by decide, by decide⟩
theorem fp_X12_10 : fm_fp RX12 TX12 20 12 10 0 tyX12 .int := ⟨fd_X12_10, tyX12_ok, nmX12, rfl, by decide +kernel⟩
theorem fp_X12_11 : fm_fp RX12 TX12 20 12 11 0 tyX12 .int := ⟨fd_X12_11, tyX12_ok, nmX12, rfl, by decide +kernel⟩
theorem q_809 : Cond.fieldLink RX12 191 "WrapGiftsModel" "value" "J" ∈ fm_tb := fm_in 809 (by decide +kernel) (by decide +kernel)
theorem fd_X12_12 : fm_fd RX12 TX12 20 12 12 1 := ⟨rfl, in_X12, by decide, by decide, by decide⟩
theorem fp_X12_12 : fm_fp RX12 TX12 20 12 12 1 tyX12 .long := ⟨fd_X12_12, tyX12_ok, nmX12, rfl, by decide +kernel⟩
theorem q_1123 : Cond.methodLink RX12 198 yX12_isLetter ∈ fm_tb := fm_in 1123 (by decide +kernel) (by decide +kernel)
theorem q_1124 : Cond.static yX12_isLetter ∈ fm_tb := fm_in 1124 (by decide +kernel) (by decide +kernel)
theorem q_1125 : Cond.code yX12_isLetter cX12_isLetter 1 (some .boolean) ∈ fm_tb := fm_in 1125 (by decide +kernel) (by decide +kernel)
theorem mS_X12_isLetter : fm_mS yX12_isLetter cX12_isLetter 1 (some .boolean) 1 := ⟨q_1124, q_13, q_1125, by decide +kernel⟩
theorem q_1129 : Cond.methodLink RX12 207 yX12_isDigit ∈ fm_tb := fm_in 1129 (by decide +kernel) (by decide +kernel)
theorem q_1130 : Cond.static yX12_isDigit ∈ fm_tb := fm_in 1130 (by decide +kernel) (by decide +kernel)
theorem q_1131 : Cond.code yX12_isDigit cX12_isDigit 1 (some .boolean) ∈ fm_tb := fm_in 1131 (by decide +kernel) (by decide +kernel)
theorem mS_X12_isDigit : fm_mS yX12_isDigit cX12_isDigit 1 (some .boolean) 1 := ⟨q_1130, q_13, q_1131, by decide +kernel⟩
theorem q_806 : Cond.fieldLink RX12 195 "WrapGiftsModel" "token" "I" ∈ fm_tb := fm_in 806 (by decide +kernel) (by decide +kernel)
theorem fd_X12_9 : fm_fd RX12 TX12 20 12 9 0 := ⟨rfl, in_X12, by decide, by decide, by decide⟩
theorem fp_X12_9 : fm_fp RX12 TX12 20 12 9 0 tyX12 .int := ⟨fd_X12_9, tyX12_ok, nmX12, rfl, by decide +kernel⟩
theorem q_1132 : Cond.constantLong RX12 210 (999 : Int64) ∈ fm_tb := fm_in 1132 (by decide +kernel) (by decide +kernel)
theorem q_1133 : Cond.constantLong RX12 212 (10 : Int64) ∈ fm_tb := fm_in 1133 (by decide +kernel) (by decide +kernel)
theorem q_1134 : Cond.constantLong RX12 214 (48 : Int64) ∈ fm_tb := fm_in 1134 (by decide +kernel) (by decide +kernel)
theorem q_1126 : Cond.constantLong RX12 201 (9999999999999 : Int64) ∈ fm_tb := fm_in 1126 (by decide +kernel) (by decide +kernel)
theorem q_1127 : Cond.constantLong RX12 203 (27 : Int64) ∈ fm_tb := fm_in 1127 (by decide +kernel) (by decide +kernel)
theorem q_1128 : Cond.constantLong RX12 205 (96 : Int64) ∈ fm_tb := fm_in 1128 (by decide +kernel) (by decide +kernel)
theorem q_1119 : Cond.methodLink RX12 216 yX12_nextToken ∈ fm_tb := fm_in 1119 (by decide +kernel) (by decide +kernel)
theorem q_1121 : Cond.instanceMethod yX12_nextToken ∈ fm_tb := fm_in 1121 (by decide +kernel) (by decide +kernel)
theorem qs_52 : Cond.selects RX12 yX12_nextToken yX12_nextToken ∈ fm_tb := fm_inS 52 (by decide +kernel) (by decide +kernel)
theorem q_1122 : Cond.code yX12_nextToken cX12_nextToken 1 none ∈ fm_tb := fm_in 1122 (by decide +kernel) (by decide +kernel)
theorem mV_X12_nextToken : fm_mV RX12 yX12_nextToken cX12_nextToken 1 none 0 := ⟨q_1121, qs_52, q_13, q_1122, by decide +kernel⟩
theorem q_1147 : Cond.methodLink RX12 219 yX12_takesNumber ∈ fm_tb := fm_in 1147 (by decide +kernel) (by decide +kernel)
theorem q_1149 : Cond.instanceMethod yX12_takesNumber ∈ fm_tb := fm_in 1149 (by decide +kernel) (by decide +kernel)
theorem qs_56 : Cond.selects RX12 yX12_takesNumber yX12_takesNumber ∈ fm_tb := fm_inS 56 (by decide +kernel) (by decide +kernel)
theorem q_1150 : Cond.code yX12_takesNumber cX12_takesNumber 4 (some .int) ∈ fm_tb := fm_in 1150 (by decide +kernel) (by decide +kernel)
theorem mV_X12_takesNumber : fm_mV RX12 yX12_takesNumber cX12_takesNumber 4 (some .int) 2 := ⟨q_1149, qs_56, q_13, q_1150, by decide +kernel⟩
theorem q_811 : Cond.fieldLink RX12 32 "WrapGiftsModel" "others" "[C" ∈ fm_tb := fm_in 811 (by decide +kernel) (by decide +kernel)
theorem fd_X12_14 : fm_fd RX12 TX12 20 12 14 2 := ⟨rfl, in_X12, by decide, by decide, by decide⟩
theorem fc_104 : fm_ct 104 = 13 := by decide +kernel
theorem fl_104 : fm_ln 104 = 16 := by decide +kernel
theorem fr_96_14 : fm_rf 96 14 = 104 := by decide +kernel
theorem q_1139 : Cond.methodLink RX12 222 yX12_wordOf ∈ fm_tb := fm_in 1139 (by decide +kernel) (by decide +kernel)
theorem q_1141 : Cond.instanceMethod yX12_wordOf ∈ fm_tb := fm_in 1141 (by decide +kernel) (by decide +kernel)
theorem qs_54 : Cond.selects RX12 yX12_wordOf yX12_wordOf ∈ fm_tb := fm_inS 54 (by decide +kernel) (by decide +kernel)
theorem q_1142 : Cond.code yX12_wordOf cX12_wordOf 7 (some .int) ∈ fm_tb := fm_in 1142 (by decide +kernel) (by decide +kernel)
theorem mV_X12_wordOf : fm_mV RX12 yX12_wordOf cX12_wordOf 7 (some .int) 1 := ⟨q_1141, qs_54, q_13, q_1142, by decide +kernel⟩
theorem q_812 : Cond.fieldLink RX12 35 "WrapGiftsModel" "papers" "[C" ∈ fm_tb := fm_in 812 (by decide +kernel) (by decide +kernel)
theorem fd_X12_15 : fm_fd RX12 TX12 20 12 15 2 := ⟨rfl, in_X12, by decide, by decide, by decide⟩
theorem fc_105 : fm_ct 105 = 13 := by decide +kernel
theorem fl_105 : fm_ln 105 = 32 := by decide +kernel
theorem fr_96_15 : fm_rf 96 15 = 105 := by decide +kernel
theorem q_810 : Cond.fieldLink RX12 28 "WrapGiftsModel" "letters" "[C" ∈ fm_tb := fm_in 810 (by decide +kernel) (by decide +kernel)
theorem fd_X12_13 : fm_fd RX12 TX12 20 12 13 2 := ⟨rfl, in_X12, by decide, by decide, by decide⟩
theorem fc_103 : fm_ct 103 = 13 := by decide +kernel
theorem fl_103 : fm_ln 103 = 48 := by decide +kernel
theorem fr_96_13 : fm_rf 96 13 = 103 := by decide +kernel
theorem q_1143 : Cond.methodLink RX12 226 yX12_readsPresent ∈ fm_tb := fm_in 1143 (by decide +kernel) (by decide +kernel)
theorem q_1145 : Cond.instanceMethod yX12_readsPresent ∈ fm_tb := fm_in 1145 (by decide +kernel) (by decide +kernel)
theorem qs_55 : Cond.selects RX12 yX12_readsPresent yX12_readsPresent ∈ fm_tb := fm_inS 55 (by decide +kernel) (by decide +kernel)
theorem q_1146 : Cond.code yX12_readsPresent cX12_readsPresent 4 (some .boolean) ∈ fm_tb := fm_in 1146 (by decide +kernel) (by decide +kernel)
theorem mV_X12_readsPresent : fm_mV RX12 yX12_readsPresent cX12_readsPresent 4 (some .boolean) 0 := ⟨q_1145, qs_55, q_13, q_1146, by decide +kernel⟩
theorem q_1135 : Cond.methodLink RX12 230 yX12_readsItem ∈ fm_tb := fm_in 1135 (by decide +kernel) (by decide +kernel)
theorem q_1137 : Cond.instanceMethod yX12_readsItem ∈ fm_tb := fm_in 1137 (by decide +kernel) (by decide +kernel)
theorem qs_53 : Cond.selects RX12 yX12_readsItem yX12_readsItem ∈ fm_tb := fm_inS 53 (by decide +kernel) (by decide +kernel)
theorem q_1138 : Cond.code yX12_readsItem cX12_readsItem 2 (some .boolean) ∈ fm_tb := fm_in 1138 (by decide +kernel) (by decide +kernel)
theorem mV_X12_readsItem : fm_mV RX12 yX12_readsItem cX12_readsItem 2 (some .boolean) 0 := ⟨q_1137, qs_53, q_13, q_1138, by decide +kernel⟩
theorem q_1155 : Cond.methodLink RX12 233 yX12_isSheet ∈ fm_tb := fm_in 1155 (by decide +kernel) (by decide +kernel)
theorem q_1156 : Cond.static yX12_isSheet ∈ fm_tb := fm_in 1156 (by decide +kernel) (by decide +kernel)
theorem q_1157 : Cond.code yX12_isSheet cX12_isSheet 1 (some .boolean) ∈ fm_tb := fm_in 1157 (by decide +kernel) (by decide +kernel)
theorem mS_X12_isSheet : fm_mS yX12_isSheet cX12_isSheet 1 (some .boolean) 1 := ⟨q_1156, q_13, q_1157, by decide +kernel⟩
theorem q_813 : Cond.fieldLink RX12 38 "WrapGiftsModel" "widths" "[I" ∈ fm_tb := fm_in 813 (by decide +kernel) (by decide +kernel)
theorem fd_X12_16 : fm_fd RX12 TX12 20 12 16 2 := ⟨rfl, in_X12, by decide, by decide, by decide⟩
theorem fc_106 : fm_ct 106 = 14 := by decide +kernel
theorem fl_106 : fm_ln 106 = 4 := by decide +kernel
theorem fr_96_16 : fm_rf 96 16 = 106 := by decide +kernel
theorem q_815 : Cond.fieldLink RX12 44 "WrapGiftsModel" "cells" "[J" ∈ fm_tb := fm_in 815 (by decide +kernel) (by decide +kernel)
theorem fd_X12_18 : fm_fd RX12 TX12 20 12 18 2 := ⟨rfl, in_X12, by decide, by decide, by decide⟩
theorem fc_108 : fm_ct 108 = 15 := by decide +kernel
theorem fl_108 : fm_ln 108 = 160 := by decide +kernel
theorem fr_96_18 : fm_rf 96 18 = 108 := by decide +kernel
theorem q_814 : Cond.fieldLink RX12 41 "WrapGiftsModel" "sizes" "[I" ∈ fm_tb := fm_in 814 (by decide +kernel) (by decide +kernel)
theorem fd_X12_17 : fm_fd RX12 TX12 20 12 17 2 := ⟨rfl, in_X12, by decide, by decide, by decide⟩
theorem fc_107 : fm_ct 107 = 14 := by decide +kernel
theorem fl_107 : fm_ln 107 = 4 := by decide +kernel
theorem fr_96_17 : fm_rf 96 17 = 107 := by decide +kernel
theorem q_1162 : Cond.methodLink RX12 236 yX12_wrongSheet ∈ fm_tb := fm_in 1162 (by decide +kernel) (by decide +kernel)
theorem q_1164 : Cond.instanceMethod yX12_wrongSheet ∈ fm_tb := fm_in 1164 (by decide +kernel) (by decide +kernel)
theorem qs_57 : Cond.selects RX12 yX12_wrongSheet yX12_wrongSheet ∈ fm_tb := fm_inS 57 (by decide +kernel) (by decide +kernel)
theorem q_1165 : Cond.code yX12_wrongSheet cX12_wrongSheet 2 (some .int) ∈ fm_tb := fm_in 1165 (by decide +kernel) (by decide +kernel)
theorem mV_X12_wrongSheet : fm_mV RX12 yX12_wrongSheet cX12_wrongSheet 2 (some .int) 1 := ⟨q_1164, qs_57, q_13, q_1165, by decide +kernel⟩
theorem q_1166 : Cond.methodLink RX12 239 yX12_told ∈ fm_tb := fm_in 1166 (by decide +kernel) (by decide +kernel)
theorem q_1168 : Cond.instanceMethod yX12_told ∈ fm_tb := fm_in 1168 (by decide +kernel) (by decide +kernel)
theorem qs_58 : Cond.selects RX12 yX12_told yX12_told ∈ fm_tb := fm_inS 58 (by decide +kernel) (by decide +kernel)
theorem q_1169 : Cond.code yX12_told cX12_told 3 (some .long) ∈ fm_tb := fm_in 1169 (by decide +kernel) (by decide +kernel)
theorem mV_X12_told : fm_mV RX12 yX12_told cX12_told 3 (some .long) 2 := ⟨q_1168, qs_58, q_13, q_1169, by decide +kernel⟩
theorem q_1170 : Cond.methodLink RX12 243 yX12_tells ∈ fm_tb := fm_in 1170 (by decide +kernel) (by decide +kernel)
theorem q_1172 : Cond.instanceMethod yX12_tells ∈ fm_tb := fm_in 1172 (by decide +kernel) (by decide +kernel)
theorem qs_59 : Cond.selects RX12 yX12_tells yX12_tells ∈ fm_tb := fm_inS 59 (by decide +kernel) (by decide +kernel)
theorem q_1173 : Cond.code yX12_tells cX12_tells 5 none ∈ fm_tb := fm_in 1173 (by decide +kernel) (by decide +kernel)
theorem mV_X12_tells : fm_mV RX12 yX12_tells cX12_tells 5 none 3 := ⟨q_1172, qs_59, q_13, q_1173, by decide +kernel⟩
theorem q_816 : Cond.fieldLink RX12 48 "WrapGiftsModel" "carried" "[J" ∈ fm_tb := fm_in 816 (by decide +kernel) (by decide +kernel)
theorem fd_X12_19 : fm_fd RX12 TX12 20 12 19 2 := ⟨rfl, in_X12, by decide, by decide, by decide⟩
theorem fc_109 : fm_ct 109 = 15 := by decide +kernel
theorem fl_109 : fm_ln 109 = 40 := by decide +kernel
theorem fr_96_19 : fm_rf 96 19 = 109 := by decide +kernel
theorem q_1182 : Cond.constantLong RX12 247 (3 : Int64) ∈ fm_tb := fm_in 1182 (by decide +kernel) (by decide +kernel)
theorem q_1191 : Cond.methodLink RX12 249 yX12_isSo ∈ fm_tb := fm_in 1191 (by decide +kernel) (by decide +kernel)
theorem q_1193 : Cond.instanceMethod yX12_isSo ∈ fm_tb := fm_in 1193 (by decide +kernel) (by decide +kernel)
theorem qs_60 : Cond.selects RX12 yX12_isSo yX12_isSo ∈ fm_tb := fm_inS 60 (by decide +kernel) (by decide +kernel)
theorem q_1194 : Cond.code yX12_isSo cX12_isSo 5 (some .boolean) ∈ fm_tb := fm_in 1194 (by decide +kernel) (by decide +kernel)
theorem mV_X12_isSo : fm_mV RX12 yX12_isSo cX12_isSo 5 (some .boolean) 2 := ⟨q_1193, qs_60, q_13, q_1194, by decide +kernel⟩
theorem q_798 : Cond.fieldLink RX12 13 "WrapGiftsModel" "kept" "[I" ∈ fm_tb := fm_in 798 (by decide +kernel) (by decide +kernel)
theorem fd_X12_1 : fm_fd RX12 TX12 20 12 1 2 := ⟨rfl, in_X12, by decide, by decide, by decide⟩
theorem fc_98 : fm_ct 98 = 14 := by decide +kernel
theorem fl_98 : fm_ln 98 = 96 := by decide +kernel
theorem fr_96_1 : fm_rf 96 1 = 98 := by decide +kernel
theorem q_800 : Cond.fieldLink RX12 252 "WrapGiftsModel" "isKept" "Z" ∈ fm_tb := fm_in 800 (by decide +kernel) (by decide +kernel)
theorem fd_X12_3 : fm_fd RX12 TX12 20 12 3 0 := ⟨rfl, in_X12, by decide, by decide, by decide⟩
theorem fp_X12_3 : fm_fp RX12 TX12 20 12 3 0 tyX12 .boolean := ⟨fd_X12_3, tyX12_ok, nmX12, rfl, by decide +kernel⟩
theorem q_1211 : Cond.methodLink RX12 256 yX12_bits ∈ fm_tb := fm_in 1211 (by decide +kernel) (by decide +kernel)
theorem q_1212 : Cond.static yX12_bits ∈ fm_tb := fm_in 1212 (by decide +kernel) (by decide +kernel)
theorem q_1213 : Cond.code yX12_bits cX12_bits 3 (some .int) ∈ fm_tb := fm_in 1213 (by decide +kernel) (by decide +kernel)
theorem mS_X12_bits : fm_mS yX12_bits cX12_bits 3 (some .int) 1 := ⟨q_1212, q_13, q_1213, by decide +kernel⟩
