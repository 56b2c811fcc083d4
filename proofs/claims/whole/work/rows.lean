section
-- ===== PART A: goes FIRST, ahead of the names: the tables' words, and 'selects' of the private methods out of them =====
/-- a private method of a class that the tables say can be made, by its rows of tables_1 -/
def lw_okq (q : MethodName × Nat) : Prop := (q.1.cls ≠ "java/lang/invoke/MethodHandle" ∧ q.1.cls ≠ "java/lang/invoke/VarHandle") ∧ Cond.instantiable q.1.cls q.2 ∈ tables_1 ∧ Cond.privateMethod q.1 ∈ tables_1 ∧ Cond.instanceMethod q.1 ∈ tables_1
theorem lw_p0 : lw_okq (⟨"WrapGifts", "tell", "(I)I"⟩, 8) := ⟨⟨by decide +kernel, by decide +kernel⟩, List.mem_of_getElem? (i := 22) (by decide +kernel), List.mem_of_getElem? (i := 242) (by decide +kernel), List.mem_of_getElem? (i := 243) (by decide +kernel)⟩
theorem lw_p1 : lw_okq (⟨"WrapGifts", "isPerson", "(I)Z"⟩, 8) := ⟨⟨by decide +kernel, by decide +kernel⟩, List.mem_of_getElem? (i := 22) (by decide +kernel), List.mem_of_getElem? (i := 255) (by decide +kernel), List.mem_of_getElem? (i := 256) (by decide +kernel)⟩
theorem lw_p2 : lw_okq (⟨"WrapGifts", "isPresent", "(I)Z"⟩, 8) := ⟨⟨by decide +kernel, by decide +kernel⟩, List.mem_of_getElem? (i := 22) (by decide +kernel), List.mem_of_getElem? (i := 275) (by decide +kernel), List.mem_of_getElem? (i := 276) (by decide +kernel)⟩
theorem lw_p3 : lw_okq (⟨"WrapGifts$Town", "oneDay", "()V"⟩, 6) := ⟨⟨by decide +kernel, by decide +kernel⟩, List.mem_of_getElem? (i := 76) (by decide +kernel), List.mem_of_getElem? (i := 465) (by decide +kernel), List.mem_of_getElem? (i := 466) (by decide +kernel)⟩
theorem lw_p4 : lw_okq (⟨"WrapGifts$Town", "handsOn", "(ILWrapGifts$Present;)Z"⟩, 6) := ⟨⟨by decide +kernel, by decide +kernel⟩, List.mem_of_getElem? (i := 76) (by decide +kernel), List.mem_of_getElem? (i := 469) (by decide +kernel), List.mem_of_getElem? (i := 470) (by decide +kernel)⟩
theorem lw_p5 : lw_okq (⟨"WrapGifts$Town", "openBy", "(ILWrapGifts$Present;)V"⟩, 6) := ⟨⟨by decide +kernel, by decide +kernel⟩, List.mem_of_getElem? (i := 76) (by decide +kernel), List.mem_of_getElem? (i := 475) (by decide +kernel), List.mem_of_getElem? (i := 476) (by decide +kernel)⟩
theorem lw_p6 : lw_okq (⟨"WrapGifts", "startTrial", "()V"⟩, 8) := ⟨⟨by decide +kernel, by decide +kernel⟩, List.mem_of_getElem? (i := 22) (by decide +kernel), List.mem_of_getElem? (i := 509) (by decide +kernel), List.mem_of_getElem? (i := 510) (by decide +kernel)⟩
theorem lw_p7 : lw_okq (⟨"WrapGifts", "startRow", "(II)V"⟩, 8) := ⟨⟨by decide +kernel, by decide +kernel⟩, List.mem_of_getElem? (i := 22) (by decide +kernel), List.mem_of_getElem? (i := 558) (by decide +kernel), List.mem_of_getElem? (i := 559) (by decide +kernel)⟩
theorem lw_p8 : lw_okq (⟨"WrapGifts", "swapInRow", "(II)V"⟩, 8) := ⟨⟨by decide +kernel, by decide +kernel⟩, List.mem_of_getElem? (i := 22) (by decide +kernel), List.mem_of_getElem? (i := 562) (by decide +kernel), List.mem_of_getElem? (i := 563) (by decide +kernel)⟩
theorem lw_p9 : lw_okq (⟨"WrapGifts", "rowAsNumber", "(I)I"⟩, 8) := ⟨⟨by decide +kernel, by decide +kernel⟩, List.mem_of_getElem? (i := 22) (by decide +kernel), List.mem_of_getElem? (i := 574) (by decide +kernel), List.mem_of_getElem? (i := 575) (by decide +kernel)⟩
theorem lw_p10 : lw_okq (⟨"WrapGifts", "nextRow", "(I)Z"⟩, 8) := ⟨⟨by decide +kernel, by decide +kernel⟩, List.mem_of_getElem? (i := 22) (by decide +kernel), List.mem_of_getElem? (i := 578) (by decide +kernel), List.mem_of_getElem? (i := 579) (by decide +kernel)⟩
theorem lw_p11 : lw_okq (⟨"WrapGifts$Tape", "step", "()V"⟩, 6) := ⟨⟨by decide +kernel, by decide +kernel⟩, List.mem_of_getElem? (i := 180) (by decide +kernel), List.mem_of_getElem? (i := 610) (by decide +kernel), List.mem_of_getElem? (i := 611) (by decide +kernel)⟩
theorem lw_p12 : lw_okq (⟨"WrapGifts$Tape", "stepOverWord", "()V"⟩, 6) := ⟨⟨by decide +kernel, by decide +kernel⟩, List.mem_of_getElem? (i := 180) (by decide +kernel), List.mem_of_getElem? (i := 617) (by decide +kernel), List.mem_of_getElem? (i := 618) (by decide +kernel)⟩
theorem lw_p13 : lw_okq (⟨"WrapGifts$Tape", "reads", "(Ljava/lang/String;)Z"⟩, 6) := ⟨⟨by decide +kernel, by decide +kernel⟩, List.mem_of_getElem? (i := 180) (by decide +kernel), List.mem_of_getElem? (i := 636) (by decide +kernel), List.mem_of_getElem? (i := 637) (by decide +kernel)⟩
theorem lw_p14 : lw_okq (⟨"WrapGifts$Tape", "stepOverNumber", "()V"⟩, 6) := ⟨⟨by decide +kernel, by decide +kernel⟩, List.mem_of_getElem? (i := 180) (by decide +kernel), List.mem_of_getElem? (i := 691) (by decide +kernel), List.mem_of_getElem? (i := 692) (by decide +kernel)⟩
theorem lw_p15 : lw_okq (⟨"WrapGifts$Tape", "readItem", "(LWrapGifts$Town;)Z"⟩, 6) := ⟨⟨by decide +kernel, by decide +kernel⟩, List.mem_of_getElem? (i := 180) (by decide +kernel), List.mem_of_getElem? (i := 696) (by decide +kernel), List.mem_of_getElem? (i := 697) (by decide +kernel)⟩
def lw_privs_1 : List (MethodName × Nat) := [(⟨"WrapGifts", "tell", "(I)I"⟩, 8), (⟨"WrapGifts", "isPerson", "(I)Z"⟩, 8), (⟨"WrapGifts", "isPresent", "(I)Z"⟩, 8), (⟨"WrapGifts$Town", "oneDay", "()V"⟩, 6), (⟨"WrapGifts$Town", "handsOn", "(ILWrapGifts$Present;)Z"⟩, 6), (⟨"WrapGifts$Town", "openBy", "(ILWrapGifts$Present;)V"⟩, 6), (⟨"WrapGifts", "startTrial", "()V"⟩, 8), (⟨"WrapGifts", "startRow", "(II)V"⟩, 8), (⟨"WrapGifts", "swapInRow", "(II)V"⟩, 8), (⟨"WrapGifts", "rowAsNumber", "(I)I"⟩, 8), (⟨"WrapGifts", "nextRow", "(I)Z"⟩, 8), (⟨"WrapGifts$Tape", "step", "()V"⟩, 6), (⟨"WrapGifts$Tape", "stepOverWord", "()V"⟩, 6), (⟨"WrapGifts$Tape", "reads", "(Ljava/lang/String;)Z"⟩, 6), (⟨"WrapGifts$Tape", "stepOverNumber", "()V"⟩, 6), (⟨"WrapGifts$Tape", "readItem", "(LWrapGifts$Town;)Z"⟩, 6)]
theorem lw_r1 : ∀ q ∈ lw_privs_1, lw_okq q := List.forall_mem_cons.mpr ⟨lw_p0, List.forall_mem_cons.mpr ⟨lw_p1, List.forall_mem_cons.mpr ⟨lw_p2, List.forall_mem_cons.mpr ⟨lw_p3, List.forall_mem_cons.mpr ⟨lw_p4, List.forall_mem_cons.mpr ⟨lw_p5, List.forall_mem_cons.mpr ⟨lw_p6, List.forall_mem_cons.mpr ⟨lw_p7, List.forall_mem_cons.mpr ⟨lw_p8, List.forall_mem_cons.mpr ⟨lw_p9, List.forall_mem_cons.mpr ⟨lw_p10, List.forall_mem_cons.mpr ⟨lw_p11, List.forall_mem_cons.mpr ⟨lw_p12, List.forall_mem_cons.mpr ⟨lw_p13, List.forall_mem_cons.mpr ⟨lw_p14, List.forall_mem_cons.mpr ⟨lw_p15, fun _ h => absurd h List.not_mem_nil⟩⟩⟩⟩⟩⟩⟩⟩⟩⟩⟩⟩⟩⟩⟩⟩
theorem lw_p16 : lw_okq (⟨"WrapGifts$Tape", "readPresent", "(LWrapGifts$Town;)Z"⟩, 6) := ⟨⟨by decide +kernel, by decide +kernel⟩, List.mem_of_getElem? (i := 180) (by decide +kernel), List.mem_of_getElem? (i := 701) (by decide +kernel), List.mem_of_getElem? (i := 702) (by decide +kernel)⟩
theorem lw_p17 : lw_okq (⟨"WrapGifts$Tape", "isPaperName", "()Z"⟩, 6) := ⟨⟨by decide +kernel, by decide +kernel⟩, List.mem_of_getElem? (i := 180) (by decide +kernel), List.mem_of_getElem? (i := 706) (by decide +kernel), List.mem_of_getElem? (i := 707) (by decide +kernel)⟩
theorem lw_p18 : lw_okq (⟨"WrapGifts", "trialGoesAs", "(LWrapGifts$Sheet;I)Z"⟩, 8) := ⟨⟨by decide +kernel, by decide +kernel⟩, List.mem_of_getElem? (i := 22) (by decide +kernel), List.mem_of_getElem? (i := 762) (by decide +kernel), List.mem_of_getElem? (i := 763) (by decide +kernel)⟩
theorem lw_p19 : lw_okq (⟨"WrapGiftsModel", "no", "(I)I"⟩, 20) := ⟨⟨by decide +kernel, by decide +kernel⟩, List.mem_of_getElem? (i := 792) (by decide +kernel), List.mem_of_getElem? (i := 867) (by decide +kernel), List.mem_of_getElem? (i := 868) (by decide +kernel)⟩
theorem lw_p20 : lw_okq (⟨"WrapGiftsModel", "addsPerson", "(I)V"⟩, 20) := ⟨⟨by decide +kernel, by decide +kernel⟩, List.mem_of_getElem? (i := 792) (by decide +kernel), List.mem_of_getElem? (i := 872) (by decide +kernel), List.mem_of_getElem? (i := 873) (by decide +kernel)⟩
theorem lw_p21 : lw_okq (⟨"WrapGiftsModel", "puts", "(III)V"⟩, 20) := ⟨⟨by decide +kernel, by decide +kernel⟩, List.mem_of_getElem? (i := 792) (by decide +kernel), List.mem_of_getElem? (i := 876) (by decide +kernel), List.mem_of_getElem? (i := 877) (by decide +kernel)⟩
theorem lw_p22 : lw_okq (⟨"WrapGiftsModel", "isPerson", "(I)Z"⟩, 20) := ⟨⟨by decide +kernel, by decide +kernel⟩, List.mem_of_getElem? (i := 792) (by decide +kernel), List.mem_of_getElem? (i := 884) (by decide +kernel), List.mem_of_getElem? (i := 885) (by decide +kernel)⟩
theorem lw_p23 : lw_okq (⟨"WrapGiftsModel", "get", "(II)I"⟩, 20) := ⟨⟨by decide +kernel, by decide +kernel⟩, List.mem_of_getElem? (i := 792) (by decide +kernel), List.mem_of_getElem? (i := 888) (by decide +kernel), List.mem_of_getElem? (i := 889) (by decide +kernel)⟩
theorem lw_p24 : lw_okq (⟨"WrapGiftsModel", "presentsWith", "(IZ)I"⟩, 20) := ⟨⟨by decide +kernel, by decide +kernel⟩, List.mem_of_getElem? (i := 792) (by decide +kernel), List.mem_of_getElem? (i := 892) (by decide +kernel), List.mem_of_getElem? (i := 893) (by decide +kernel)⟩
theorem lw_p25 : lw_okq (⟨"WrapGiftsModel", "of1", "(II)I"⟩, 20) := ⟨⟨by decide +kernel, by decide +kernel⟩, List.mem_of_getElem? (i := 792) (by decide +kernel), List.mem_of_getElem? (i := 896) (by decide +kernel), List.mem_of_getElem? (i := 897) (by decide +kernel)⟩
theorem lw_p26 : lw_okq (⟨"WrapGiftsModel", "isPresent", "(I)Z"⟩, 20) := ⟨⟨by decide +kernel, by decide +kernel⟩, List.mem_of_getElem? (i := 792) (by decide +kernel), List.mem_of_getElem? (i := 904) (by decide +kernel), List.mem_of_getElem? (i := 905) (by decide +kernel)⟩
theorem lw_p27 : lw_okq (⟨"WrapGiftsModel", "opensOf", "(II)I"⟩, 20) := ⟨⟨by decide +kernel, by decide +kernel⟩, List.mem_of_getElem? (i := 792) (by decide +kernel), List.mem_of_getElem? (i := 908) (by decide +kernel), List.mem_of_getElem? (i := 909) (by decide +kernel)⟩
theorem lw_p28 : lw_okq (⟨"WrapGiftsModel", "enjoysOf", "(II)I"⟩, 20) := ⟨⟨by decide +kernel, by decide +kernel⟩, List.mem_of_getElem? (i := 792) (by decide +kernel), List.mem_of_getElem? (i := 915) (by decide +kernel), List.mem_of_getElem? (i := 916) (by decide +kernel)⟩
theorem lw_p29 : lw_okq (⟨"WrapGiftsModel", "struckOf", "(II)I"⟩, 20) := ⟨⟨by decide +kernel, by decide +kernel⟩, List.mem_of_getElem? (i := 792) (by decide +kernel), List.mem_of_getElem? (i := 919) (by decide +kernel), List.mem_of_getElem? (i := 920) (by decide +kernel)⟩
theorem lw_p30 : lw_okq (⟨"WrapGiftsModel", "passesOf", "(II)I"⟩, 20) := ⟨⟨by decide +kernel, by decide +kernel⟩, List.mem_of_getElem? (i := 792) (by decide +kernel), List.mem_of_getElem? (i := 923) (by decide +kernel), List.mem_of_getElem? (i := 924) (by decide +kernel)⟩
theorem lw_p31 : lw_okq (⟨"WrapGiftsModel", "addsPresent", "(II)V"⟩, 20) := ⟨⟨by decide +kernel, by decide +kernel⟩, List.mem_of_getElem? (i := 792) (by decide +kernel), List.mem_of_getElem? (i := 943) (by decide +kernel), List.mem_of_getElem? (i := 944) (by decide +kernel)⟩
def lw_privs_2 : List (MethodName × Nat) := [(⟨"WrapGifts$Tape", "readPresent", "(LWrapGifts$Town;)Z"⟩, 6), (⟨"WrapGifts$Tape", "isPaperName", "()Z"⟩, 6), (⟨"WrapGifts", "trialGoesAs", "(LWrapGifts$Sheet;I)Z"⟩, 8), (⟨"WrapGiftsModel", "no", "(I)I"⟩, 20), (⟨"WrapGiftsModel", "addsPerson", "(I)V"⟩, 20), (⟨"WrapGiftsModel", "puts", "(III)V"⟩, 20), (⟨"WrapGiftsModel", "isPerson", "(I)Z"⟩, 20), (⟨"WrapGiftsModel", "get", "(II)I"⟩, 20), (⟨"WrapGiftsModel", "presentsWith", "(IZ)I"⟩, 20), (⟨"WrapGiftsModel", "of1", "(II)I"⟩, 20), (⟨"WrapGiftsModel", "isPresent", "(I)Z"⟩, 20), (⟨"WrapGiftsModel", "opensOf", "(II)I"⟩, 20), (⟨"WrapGiftsModel", "enjoysOf", "(II)I"⟩, 20), (⟨"WrapGiftsModel", "struckOf", "(II)I"⟩, 20), (⟨"WrapGiftsModel", "passesOf", "(II)I"⟩, 20), (⟨"WrapGiftsModel", "addsPresent", "(II)V"⟩, 20)]
theorem lw_r2 : ∀ q ∈ lw_privs_2, lw_okq q := List.forall_mem_cons.mpr ⟨lw_p16, List.forall_mem_cons.mpr ⟨lw_p17, List.forall_mem_cons.mpr ⟨lw_p18, List.forall_mem_cons.mpr ⟨lw_p19, List.forall_mem_cons.mpr ⟨lw_p20, List.forall_mem_cons.mpr ⟨lw_p21, List.forall_mem_cons.mpr ⟨lw_p22, List.forall_mem_cons.mpr ⟨lw_p23, List.forall_mem_cons.mpr ⟨lw_p24, List.forall_mem_cons.mpr ⟨lw_p25, List.forall_mem_cons.mpr ⟨lw_p26, List.forall_mem_cons.mpr ⟨lw_p27, List.forall_mem_cons.mpr ⟨lw_p28, List.forall_mem_cons.mpr ⟨lw_p29, List.forall_mem_cons.mpr ⟨lw_p30, List.forall_mem_cons.mpr ⟨lw_p31, fun _ h => absurd h List.not_mem_nil⟩⟩⟩⟩⟩⟩⟩⟩⟩⟩⟩⟩⟩⟩⟩⟩
theorem lw_p32 : lw_okq (⟨"WrapGiftsModel", "lays1", "(III)V"⟩, 20) := ⟨⟨by decide +kernel, by decide +kernel⟩, List.mem_of_getElem? (i := 792) (by decide +kernel), List.mem_of_getElem? (i := 947) (by decide +kernel), List.mem_of_getElem? (i := 948) (by decide +kernel)⟩
theorem lw_p33 : lw_okq (⟨"WrapGiftsModel", "whyNoLayer", "(I)I"⟩, 20) := ⟨⟨by decide +kernel, by decide +kernel⟩, List.mem_of_getElem? (i := 792) (by decide +kernel), List.mem_of_getElem? (i := 966) (by decide +kernel), List.mem_of_getElem? (i := 967) (by decide +kernel)⟩
theorem lw_p34 : lw_okq (⟨"WrapGiftsModel", "addsLayer", "(II)V"⟩, 20) := ⟨⟨by decide +kernel, by decide +kernel⟩, List.mem_of_getElem? (i := 792) (by decide +kernel), List.mem_of_getElem? (i := 970) (by decide +kernel), List.mem_of_getElem? (i := 971) (by decide +kernel)⟩
theorem lw_p35 : lw_okq (⟨"WrapGiftsModel", "takesLayer", "(I)I"⟩, 20) := ⟨⟨by decide +kernel, by decide +kernel⟩, List.mem_of_getElem? (i := 792) (by decide +kernel), List.mem_of_getElem? (i := 978) (by decide +kernel), List.mem_of_getElem? (i := 979) (by decide +kernel)⟩
theorem lw_p36 : lw_okq (⟨"WrapGiftsModel", "goes", "(I)V"⟩, 20) := ⟨⟨by decide +kernel, by decide +kernel⟩, List.mem_of_getElem? (i := 792) (by decide +kernel), List.mem_of_getElem? (i := 990) (by decide +kernel), List.mem_of_getElem? (i := 991) (by decide +kernel)⟩
theorem lw_p37 : lw_okq (⟨"WrapGiftsModel", "day", "()V"⟩, 20) := ⟨⟨by decide +kernel, by decide +kernel⟩, List.mem_of_getElem? (i := 792) (by decide +kernel), List.mem_of_getElem? (i := 994) (by decide +kernel), List.mem_of_getElem? (i := 995) (by decide +kernel)⟩
theorem lw_p38 : lw_okq (⟨"WrapGiftsModel", "presentFor", "(I)I"⟩, 20) := ⟨⟨by decide +kernel, by decide +kernel⟩, List.mem_of_getElem? (i := 792) (by decide +kernel), List.mem_of_getElem? (i := 998) (by decide +kernel), List.mem_of_getElem? (i := 999) (by decide +kernel)⟩
theorem lw_p39 : lw_okq (⟨"WrapGiftsModel", "takesTurn", "(II)V"⟩, 20) := ⟨⟨by decide +kernel, by decide +kernel⟩, List.mem_of_getElem? (i := 792) (by decide +kernel), List.mem_of_getElem? (i := 1002) (by decide +kernel), List.mem_of_getElem? (i := 1003) (by decide +kernel)⟩
theorem lw_p40 : lw_okq (⟨"WrapGiftsModel", "opens", "(II)V"⟩, 20) := ⟨⟨by decide +kernel, by decide +kernel⟩, List.mem_of_getElem? (i := 792) (by decide +kernel), List.mem_of_getElem? (i := 1006) (by decide +kernel), List.mem_of_getElem? (i := 1007) (by decide +kernel)⟩
theorem lw_p41 : lw_okq (⟨"WrapGiftsModel", "enjoys", "(II)V"⟩, 20) := ⟨⟨by decide +kernel, by decide +kernel⟩, List.mem_of_getElem? (i := 792) (by decide +kernel), List.mem_of_getElem? (i := 1010) (by decide +kernel), List.mem_of_getElem? (i := 1011) (by decide +kernel)⟩
theorem lw_p42 : lw_okq (⟨"WrapGiftsModel", "foundOnes", "()I"⟩, 20) := ⟨⟨by decide +kernel, by decide +kernel⟩, List.mem_of_getElem? (i := 792) (by decide +kernel), List.mem_of_getElem? (i := 1014) (by decide +kernel), List.mem_of_getElem? (i := 1015) (by decide +kernel)⟩
theorem lw_p43 : lw_okq (⟨"WrapGiftsModel", "allJoy", "()I"⟩, 20) := ⟨⟨by decide +kernel, by decide +kernel⟩, List.mem_of_getElem? (i := 792) (by decide +kernel), List.mem_of_getElem? (i := 1022) (by decide +kernel), List.mem_of_getElem? (i := 1023) (by decide +kernel)⟩
theorem lw_p44 : lw_okq (⟨"WrapGiftsModel", "allOf", "(IZ)I"⟩, 20) := ⟨⟨by decide +kernel, by decide +kernel⟩, List.mem_of_getElem? (i := 792) (by decide +kernel), List.mem_of_getElem? (i := 1026) (by decide +kernel), List.mem_of_getElem? (i := 1027) (by decide +kernel)⟩
theorem lw_p45 : lw_okq (⟨"WrapGiftsModel", "setsAside", "()V"⟩, 20) := ⟨⟨by decide +kernel, by decide +kernel⟩, List.mem_of_getElem? (i := 792) (by decide +kernel), List.mem_of_getElem? (i := 1037) (by decide +kernel), List.mem_of_getElem? (i := 1038) (by decide +kernel)⟩
theorem lw_p46 : lw_okq (⟨"WrapGiftsModel", "laysBack", "()V"⟩, 20) := ⟨⟨by decide +kernel, by decide +kernel⟩, List.mem_of_getElem? (i := 792) (by decide +kernel), List.mem_of_getElem? (i := 1041) (by decide +kernel), List.mem_of_getElem? (i := 1042) (by decide +kernel)⟩
theorem lw_p47 : lw_okq (⟨"WrapGiftsModel", "firstBy", "(III)I"⟩, 20) := ⟨⟨by decide +kernel, by decide +kernel⟩, List.mem_of_getElem? (i := 792) (by decide +kernel), List.mem_of_getElem? (i := 1053) (by decide +kernel), List.mem_of_getElem? (i := 1054) (by decide +kernel)⟩
def lw_privs_3 : List (MethodName × Nat) := [(⟨"WrapGiftsModel", "lays1", "(III)V"⟩, 20), (⟨"WrapGiftsModel", "whyNoLayer", "(I)I"⟩, 20), (⟨"WrapGiftsModel", "addsLayer", "(II)V"⟩, 20), (⟨"WrapGiftsModel", "takesLayer", "(I)I"⟩, 20), (⟨"WrapGiftsModel", "goes", "(I)V"⟩, 20), (⟨"WrapGiftsModel", "day", "()V"⟩, 20), (⟨"WrapGiftsModel", "presentFor", "(I)I"⟩, 20), (⟨"WrapGiftsModel", "takesTurn", "(II)V"⟩, 20), (⟨"WrapGiftsModel", "opens", "(II)V"⟩, 20), (⟨"WrapGiftsModel", "enjoys", "(II)V"⟩, 20), (⟨"WrapGiftsModel", "foundOnes", "()I"⟩, 20), (⟨"WrapGiftsModel", "allJoy", "()I"⟩, 20), (⟨"WrapGiftsModel", "allOf", "(IZ)I"⟩, 20), (⟨"WrapGiftsModel", "setsAside", "()V"⟩, 20), (⟨"WrapGiftsModel", "laysBack", "()V"⟩, 20), (⟨"WrapGiftsModel", "firstBy", "(III)I"⟩, 20)]
theorem lw_r3 : ∀ q ∈ lw_privs_3, lw_okq q := List.forall_mem_cons.mpr ⟨lw_p32, List.forall_mem_cons.mpr ⟨lw_p33, List.forall_mem_cons.mpr ⟨lw_p34, List.forall_mem_cons.mpr ⟨lw_p35, List.forall_mem_cons.mpr ⟨lw_p36, List.forall_mem_cons.mpr ⟨lw_p37, List.forall_mem_cons.mpr ⟨lw_p38, List.forall_mem_cons.mpr ⟨lw_p39, List.forall_mem_cons.mpr ⟨lw_p40, List.forall_mem_cons.mpr ⟨lw_p41, List.forall_mem_cons.mpr ⟨lw_p42, List.forall_mem_cons.mpr ⟨lw_p43, List.forall_mem_cons.mpr ⟨lw_p44, List.forall_mem_cons.mpr ⟨lw_p45, List.forall_mem_cons.mpr ⟨lw_p46, List.forall_mem_cons.mpr ⟨lw_p47, fun _ h => absurd h List.not_mem_nil⟩⟩⟩⟩⟩⟩⟩⟩⟩⟩⟩⟩⟩⟩⟩⟩
theorem lw_p48 : lw_okq (⟨"WrapGiftsModel", "joyThen", "(II)I"⟩, 20) := ⟨⟨by decide +kernel, by decide +kernel⟩, List.mem_of_getElem? (i := 792) (by decide +kernel), List.mem_of_getElem? (i := 1068) (by decide +kernel), List.mem_of_getElem? (i := 1069) (by decide +kernel)⟩
theorem lw_p49 : lw_okq (⟨"WrapGiftsModel", "isOrder", "(II)Z"⟩, 20) := ⟨⟨by decide +kernel, by decide +kernel⟩, List.mem_of_getElem? (i := 792) (by decide +kernel), List.mem_of_getElem? (i := 1088) (by decide +kernel), List.mem_of_getElem? (i := 1089) (by decide +kernel)⟩
theorem lw_p50 : lw_okq (⟨"WrapGiftsModel", "joyBy", "(III)I"⟩, 20) := ⟨⟨by decide +kernel, by decide +kernel⟩, List.mem_of_getElem? (i := 792) (by decide +kernel), List.mem_of_getElem? (i := 1092) (by decide +kernel), List.mem_of_getElem? (i := 1093) (by decide +kernel)⟩
theorem lw_p51 : lw_okq (⟨"WrapGiftsModel", "isHiddenBy", "(IIII)Z"⟩, 20) := ⟨⟨by decide +kernel, by decide +kernel⟩, List.mem_of_getElem? (i := 792) (by decide +kernel), List.mem_of_getElem? (i := 1104) (by decide +kernel), List.mem_of_getElem? (i := 1105) (by decide +kernel)⟩
theorem lw_p52 : lw_okq (⟨"WrapGiftsModel", "nextToken", "()V"⟩, 20) := ⟨⟨by decide +kernel, by decide +kernel⟩, List.mem_of_getElem? (i := 792) (by decide +kernel), List.mem_of_getElem? (i := 1120) (by decide +kernel), List.mem_of_getElem? (i := 1121) (by decide +kernel)⟩
theorem lw_p53 : lw_okq (⟨"WrapGiftsModel", "readsItem", "()Z"⟩, 20) := ⟨⟨by decide +kernel, by decide +kernel⟩, List.mem_of_getElem? (i := 792) (by decide +kernel), List.mem_of_getElem? (i := 1136) (by decide +kernel), List.mem_of_getElem? (i := 1137) (by decide +kernel)⟩
theorem lw_p54 : lw_okq (⟨"WrapGiftsModel", "wordOf", "([C)I"⟩, 20) := ⟨⟨by decide +kernel, by decide +kernel⟩, List.mem_of_getElem? (i := 792) (by decide +kernel), List.mem_of_getElem? (i := 1140) (by decide +kernel), List.mem_of_getElem? (i := 1141) (by decide +kernel)⟩
theorem lw_p55 : lw_okq (⟨"WrapGiftsModel", "readsPresent", "()Z"⟩, 20) := ⟨⟨by decide +kernel, by decide +kernel⟩, List.mem_of_getElem? (i := 792) (by decide +kernel), List.mem_of_getElem? (i := 1144) (by decide +kernel), List.mem_of_getElem? (i := 1145) (by decide +kernel)⟩
theorem lw_p56 : lw_okq (⟨"WrapGiftsModel", "takesNumber", "(II)I"⟩, 20) := ⟨⟨by decide +kernel, by decide +kernel⟩, List.mem_of_getElem? (i := 792) (by decide +kernel), List.mem_of_getElem? (i := 1148) (by decide +kernel), List.mem_of_getElem? (i := 1149) (by decide +kernel)⟩
theorem lw_p57 : lw_okq (⟨"WrapGiftsModel", "wrongSheet", "(I)I"⟩, 20) := ⟨⟨by decide +kernel, by decide +kernel⟩, List.mem_of_getElem? (i := 792) (by decide +kernel), List.mem_of_getElem? (i := 1163) (by decide +kernel), List.mem_of_getElem? (i := 1164) (by decide +kernel)⟩
theorem lw_p58 : lw_okq (⟨"WrapGiftsModel", "told", "(II)J"⟩, 20) := ⟨⟨by decide +kernel, by decide +kernel⟩, List.mem_of_getElem? (i := 792) (by decide +kernel), List.mem_of_getElem? (i := 1167) (by decide +kernel), List.mem_of_getElem? (i := 1168) (by decide +kernel)⟩
theorem lw_p59 : lw_okq (⟨"WrapGiftsModel", "tells", "(IIJ)V"⟩, 20) := ⟨⟨by decide +kernel, by decide +kernel⟩, List.mem_of_getElem? (i := 792) (by decide +kernel), List.mem_of_getElem? (i := 1171) (by decide +kernel), List.mem_of_getElem? (i := 1172) (by decide +kernel)⟩
theorem lw_p60 : lw_okq (⟨"WrapGiftsModel", "isSo", "(II)Z"⟩, 20) := ⟨⟨by decide +kernel, by decide +kernel⟩, List.mem_of_getElem? (i := 792) (by decide +kernel), List.mem_of_getElem? (i := 1192) (by decide +kernel), List.mem_of_getElem? (i := 1193) (by decide +kernel)⟩
def lw_privs_4 : List (MethodName × Nat) := [(⟨"WrapGiftsModel", "joyThen", "(II)I"⟩, 20), (⟨"WrapGiftsModel", "isOrder", "(II)Z"⟩, 20), (⟨"WrapGiftsModel", "joyBy", "(III)I"⟩, 20), (⟨"WrapGiftsModel", "isHiddenBy", "(IIII)Z"⟩, 20), (⟨"WrapGiftsModel", "nextToken", "()V"⟩, 20), (⟨"WrapGiftsModel", "readsItem", "()Z"⟩, 20), (⟨"WrapGiftsModel", "wordOf", "([C)I"⟩, 20), (⟨"WrapGiftsModel", "readsPresent", "()Z"⟩, 20), (⟨"WrapGiftsModel", "takesNumber", "(II)I"⟩, 20), (⟨"WrapGiftsModel", "wrongSheet", "(I)I"⟩, 20), (⟨"WrapGiftsModel", "told", "(II)J"⟩, 20), (⟨"WrapGiftsModel", "tells", "(IIJ)V"⟩, 20), (⟨"WrapGiftsModel", "isSo", "(II)Z"⟩, 20)]
theorem lw_r4 : ∀ q ∈ lw_privs_4, lw_okq q := List.forall_mem_cons.mpr ⟨lw_p48, List.forall_mem_cons.mpr ⟨lw_p49, List.forall_mem_cons.mpr ⟨lw_p50, List.forall_mem_cons.mpr ⟨lw_p51, List.forall_mem_cons.mpr ⟨lw_p52, List.forall_mem_cons.mpr ⟨lw_p53, List.forall_mem_cons.mpr ⟨lw_p54, List.forall_mem_cons.mpr ⟨lw_p55, List.forall_mem_cons.mpr ⟨lw_p56, List.forall_mem_cons.mpr ⟨lw_p57, List.forall_mem_cons.mpr ⟨lw_p58, List.forall_mem_cons.mpr ⟨lw_p59, List.forall_mem_cons.mpr ⟨lw_p60, fun _ h => absurd h List.not_mem_nil⟩⟩⟩⟩⟩⟩⟩⟩⟩⟩⟩⟩⟩
def lw_privs : List (MethodName × Nat) := lw_privs_1 ++ (lw_privs_2 ++ (lw_privs_3 ++ (lw_privs_4)))
def lw_tbl : List Cond := k2_sels lw_privs ++ tables_1
theorem lw_privs_ok : ∀ q ∈ lw_privs, lw_okq q := by
  show ∀ q ∈ lw_privs_1 ++ (lw_privs_2 ++ (lw_privs_3 ++ (lw_privs_4))), lw_okq q
  exact List.forall_mem_append.mpr ⟨lw_r1, List.forall_mem_append.mpr ⟨lw_r2, List.forall_mem_append.mpr ⟨lw_r3, lw_r4⟩⟩⟩
end
section
def RX0 : String := "WrapGifts$Aunt"
def TX0 : u_T := fun k => match k with
  | _ => ("", "", "", false)
def tyX0 : Nat → FieldType := fun k => match k with
  | _ => .int
abbrev wsX00 : List Cond := u_ws RX0 TX0 0
theorem nmX0 : ∀ a, a < 0 → ∀ b, b < 0 → a ≠ b → (TX0 a).2.1 ≠ (TX0 b).2.1 := by decide +kernel
theorem tyX0_ok : ∀ k, k < 0 → parseFieldDescriptor (TX0 k).2.2.1 = some (tyX0 k) := by decide +kernel
abbrev cX0_init : ByteArray := prog_2_method_1_code
def yX0_init : MethodName := ⟨RX0, "<init>", "()V"⟩
abbrev cX0_opens : ByteArray := prog_2_method_2_code
def yX0_opens : MethodName := ⟨RX0, "opens", "(III)I"⟩
abbrev cX0_enjoys : ByteArray := prog_2_method_3_code
def yX0_enjoys : MethodName := ⟨RX0, "enjoys", "(I)I"⟩
abbrev cX0_isStruck : ByteArray := prog_2_method_4_code
def yX0_isStruck : MethodName := ⟨RX0, "isStruck", "(I)I"⟩
abbrev cX0_passesOn : ByteArray := prog_2_method_5_code
def yX0_passesOn : MethodName := ⟨RX0, "passesOn", "(II)I"⟩
def RX1 : String := "WrapGifts$Child"
def TX1 : u_T := fun k => match k with
  | _ => ("", "", "", false)
def tyX1 : Nat → FieldType := fun k => match k with
  | _ => .int
abbrev wsX10 : List Cond := u_ws RX1 TX1 0
theorem nmX1 : ∀ a, a < 0 → ∀ b, b < 0 → a ≠ b → (TX1 a).2.1 ≠ (TX1 b).2.1 := by decide +kernel
theorem tyX1_ok : ∀ k, k < 0 → parseFieldDescriptor (TX1 k).2.2.1 = some (tyX1 k) := by decide +kernel
abbrev cX1_init : ByteArray := prog_3_method_1_code
def yX1_init : MethodName := ⟨RX1, "<init>", "()V"⟩
abbrev cX1_opens : ByteArray := prog_3_method_2_code
def yX1_opens : MethodName := ⟨RX1, "opens", "(III)I"⟩
abbrev cX1_enjoys : ByteArray := prog_3_method_3_code
def yX1_enjoys : MethodName := ⟨RX1, "enjoys", "(I)I"⟩
abbrev cX1_isStruck : ByteArray := prog_3_method_4_code
def yX1_isStruck : MethodName := ⟨RX1, "isStruck", "(I)I"⟩
abbrev cX1_passesOn : ByteArray := prog_3_method_5_code
def yX1_passesOn : MethodName := ⟨RX1, "passesOn", "(II)I"⟩
def RX2 : String := "WrapGifts$Clerk"
def TX2 : u_T := fun k => match k with
  | _ => ("", "", "", false)
def tyX2 : Nat → FieldType := fun k => match k with
  | _ => .int
abbrev wsX20 : List Cond := u_ws RX2 TX2 0
theorem nmX2 : ∀ a, a < 0 → ∀ b, b < 0 → a ≠ b → (TX2 a).2.1 ≠ (TX2 b).2.1 := by decide +kernel
theorem tyX2_ok : ∀ k, k < 0 → parseFieldDescriptor (TX2 k).2.2.1 = some (tyX2 k) := by decide +kernel
abbrev cX2_init : ByteArray := prog_4_method_1_code
def yX2_init : MethodName := ⟨RX2, "<init>", "()V"⟩
abbrev cX2_opens : ByteArray := prog_4_method_2_code
def yX2_opens : MethodName := ⟨RX2, "opens", "(III)I"⟩
abbrev cX2_enjoys : ByteArray := prog_4_method_3_code
def yX2_enjoys : MethodName := ⟨RX2, "enjoys", "(I)I"⟩
abbrev cX2_isStruck : ByteArray := prog_4_method_4_code
def yX2_isStruck : MethodName := ⟨RX2, "isStruck", "(I)I"⟩
abbrev cX2_passesOn : ByteArray := prog_4_method_5_code
def yX2_passesOn : MethodName := ⟨RX2, "passesOn", "(II)I"⟩
def RX3 : String := "WrapGifts$Girl"
def TX3 : u_T := fun k => match k with
  | _ => ("", "", "", false)
def tyX3 : Nat → FieldType := fun k => match k with
  | _ => .int
abbrev wsX30 : List Cond := u_ws RX3 TX3 0
theorem nmX3 : ∀ a, a < 0 → ∀ b, b < 0 → a ≠ b → (TX3 a).2.1 ≠ (TX3 b).2.1 := by decide +kernel
theorem tyX3_ok : ∀ k, k < 0 → parseFieldDescriptor (TX3 k).2.2.1 = some (tyX3 k) := by decide +kernel
abbrev cX3_init : ByteArray := prog_5_method_1_code
def yX3_init : MethodName := ⟨RX3, "<init>", "()V"⟩
abbrev cX3_opens : ByteArray := prog_5_method_2_code
def yX3_opens : MethodName := ⟨RX3, "opens", "(III)I"⟩
abbrev cX3_enjoys : ByteArray := prog_5_method_3_code
def yX3_enjoys : MethodName := ⟨RX3, "enjoys", "(I)I"⟩
abbrev cX3_isStruck : ByteArray := prog_5_method_4_code
def yX3_isStruck : MethodName := ⟨RX3, "isStruck", "(I)I"⟩
def RX4 : String := "WrapGifts$Man"
def TX4 : u_T := fun k => match k with
  | _ => ("", "", "", false)
def tyX4 : Nat → FieldType := fun k => match k with
  | _ => .int
abbrev wsX40 : List Cond := u_ws RX4 TX4 0
theorem nmX4 : ∀ a, a < 0 → ∀ b, b < 0 → a ≠ b → (TX4 a).2.1 ≠ (TX4 b).2.1 := by decide +kernel
theorem tyX4_ok : ∀ k, k < 0 → parseFieldDescriptor (TX4 k).2.2.1 = some (tyX4 k) := by decide +kernel
abbrev cX4_init : ByteArray := prog_6_method_1_code
def yX4_init : MethodName := ⟨RX4, "<init>", "()V"⟩
abbrev cX4_opens : ByteArray := prog_6_method_2_code
def yX4_opens : MethodName := ⟨RX4, "opens", "(III)I"⟩
abbrev cX4_enjoys : ByteArray := prog_6_method_3_code
def yX4_enjoys : MethodName := ⟨RX4, "enjoys", "(I)I"⟩
abbrev cX4_isStruck : ByteArray := prog_6_method_4_code
def yX4_isStruck : MethodName := ⟨RX4, "isStruck", "(I)I"⟩
abbrev cX4_passesOn : ByteArray := prog_6_method_5_code
def yX4_passesOn : MethodName := ⟨RX4, "passesOn", "(II)I"⟩
def RX5 : String := "WrapGifts$Person"
def TX5 : u_T := fun k => match k with
  | 0 => ("WrapGifts$Person", "kind", "I", false)
  | _ => ("WrapGifts$Person", "joy", "I", false)
def tyX5 : Nat → FieldType := fun k => match k with
  | 0 => .int
  | _ => .int
abbrev wsX50 : List Cond := u_ws RX5 TX5 2
theorem nmX5 : ∀ a, a < 2 → ∀ b, b < 2 → a ≠ b → (TX5 a).2.1 ≠ (TX5 b).2.1 := by decide +kernel
theorem tyX5_ok : ∀ k, k < 2 → parseFieldDescriptor (TX5 k).2.2.1 = some (tyX5 k) := by decide +kernel
abbrev cX5_init : ByteArray := prog_7_method_1_code
def yX5_init : MethodName := ⟨RX5, "<init>", "()V"⟩
abbrev cX5_become : ByteArray := prog_7_method_2_code
def yX5_become : MethodName := ⟨RX5, "become", "(LWrapGifts$Person;)V"⟩
abbrev cX5_pleaseBy : ByteArray := prog_7_method_3_code
def yX5_pleaseBy : MethodName := ⟨RX5, "pleaseBy", "(I)V"⟩
def RX6 : String := "WrapGifts$Poor"
def TX6 : u_T := fun k => match k with
  | _ => ("", "", "", false)
def tyX6 : Nat → FieldType := fun k => match k with
  | _ => .int
abbrev wsX60 : List Cond := u_ws RX6 TX6 0
theorem nmX6 : ∀ a, a < 0 → ∀ b, b < 0 → a ≠ b → (TX6 a).2.1 ≠ (TX6 b).2.1 := by decide +kernel
theorem tyX6_ok : ∀ k, k < 0 → parseFieldDescriptor (TX6 k).2.2.1 = some (tyX6 k) := by decide +kernel
abbrev cX6_init : ByteArray := prog_8_method_1_code
def yX6_init : MethodName := ⟨RX6, "<init>", "()V"⟩
abbrev cX6_opens : ByteArray := prog_8_method_2_code
def yX6_opens : MethodName := ⟨RX6, "opens", "(III)I"⟩
abbrev cX6_enjoys : ByteArray := prog_8_method_3_code
def yX6_enjoys : MethodName := ⟨RX6, "enjoys", "(I)I"⟩
abbrev cX6_passesOn : ByteArray := prog_8_method_4_code
def yX6_passesOn : MethodName := ⟨RX6, "passesOn", "(II)I"⟩
def RX7 : String := "WrapGifts$Present"
def TX7 : u_T := fun k => match k with
  | 0 => ("WrapGifts$Present", "papers", "[I", true)
  | 1 => ("WrapGifts$Present", "layers", "I", false)
  | 2 => ("WrapGifts$Present", "thing", "I", false)
  | 3 => ("WrapGifts$Present", "with", "I", false)
  | _ => ("WrapGifts$Present", "isFound", "Z", false)
def tyX7 : Nat → FieldType := fun k => match k with
  | 0 => .array .int
  | 1 => .int
  | 2 => .int
  | 3 => .int
  | _ => .boolean
abbrev wsX70 : List Cond := u_ws RX7 TX7 5
theorem nmX7 : ∀ a, a < 5 → ∀ b, b < 5 → a ≠ b → (TX7 a).2.1 ≠ (TX7 b).2.1 := by decide +kernel
theorem tyX7_ok : ∀ k, k < 5 → parseFieldDescriptor (TX7 k).2.2.1 = some (tyX7 k) := by decide +kernel
abbrev cX7_init : ByteArray := prog_9_method_1_code
def yX7_init : MethodName := ⟨RX7, "<init>", "()V"⟩
abbrev cX7_begin : ByteArray := prog_9_method_2_code
def yX7_begin : MethodName := ⟨RX7, "begin", "(II)V"⟩
abbrev cX7_become : ByteArray := prog_9_method_3_code
def yX7_become : MethodName := ⟨RX7, "become", "(LWrapGifts$Present;)V"⟩
abbrev cX7_tells : ByteArray := prog_9_method_4_code
def yX7_tells : MethodName := ⟨RX7, "tells", "(I)I"⟩
abbrev cX7_paperAt : ByteArray := prog_9_method_5_code
def yX7_paperAt : MethodName := ⟨RX7, "paperAt", "(I)I"⟩
abbrev cX7_outermost : ByteArray := prog_9_method_6_code
def yX7_outermost : MethodName := ⟨RX7, "outermost", "()I"⟩
abbrev cX7_layAbout : ByteArray := prog_9_method_7_code
def yX7_layAbout : MethodName := ⟨RX7, "layAbout", "(I)V"⟩
abbrev cX7_layInnermost : ByteArray := prog_9_method_8_code
def yX7_layInnermost : MethodName := ⟨RX7, "layInnermost", "(I)V"⟩
abbrev cX7_layAnew : ByteArray := prog_9_method_9_code
def yX7_layAnew : MethodName := ⟨RX7, "layAnew", "([II)V"⟩
abbrev cX7_takeOff : ByteArray := prog_9_method_10_code
def yX7_takeOff : MethodName := ⟨RX7, "takeOff", "()I"⟩
def RX8 : String := "WrapGifts$Sheet"
def TX8 : u_T := fun k => match k with
  | 0 => ("WrapGifts$Sheet", "numbers", "[J", true)
  | 1 => ("WrapGifts$Sheet", "bits", "I", false)
  | _ => ("WrapGifts$Sheet", "size", "I", false)
def tyX8 : Nat → FieldType := fun k => match k with
  | 0 => .array .long
  | 1 => .int
  | _ => .int
abbrev wsX80 : List Cond := u_ws RX8 TX8 3
theorem nmX8 : ∀ a, a < 3 → ∀ b, b < 3 → a ≠ b → (TX8 a).2.1 ≠ (TX8 b).2.1 := by decide +kernel
theorem tyX8_ok : ∀ k, k < 3 → parseFieldDescriptor (TX8 k).2.2.1 = some (tyX8 k) := by decide +kernel
abbrev cX8_init : ByteArray := prog_10_method_1_code
def yX8_init : MethodName := ⟨RX8, "<init>", "()V"⟩
abbrev cX8_begin : ByteArray := prog_10_method_2_code
def yX8_begin : MethodName := ⟨RX8, "begin", "(II)V"⟩
abbrev cX8_isMissing : ByteArray := prog_10_method_3_code
def yX8_isMissing : MethodName := ⟨RX8, "isMissing", "()Z"⟩
abbrev cX8_holds : ByteArray := prog_10_method_4_code
def yX8_holds : MethodName := ⟨RX8, "holds", "(II)Z"⟩
abbrev cX8_put : ByteArray := prog_10_method_5_code
def yX8_put : MethodName := ⟨RX8, "put", "(IJ)V"⟩
def RX9 : String := "WrapGifts$Tape"
def TX9 : u_T := fun k => match k with
  | 0 => ("WrapGifts$Tape", "bytes", "[I", true)
  | 1 => ("WrapGifts$Tape", "length", "I", false)
  | 2 => ("WrapGifts$Tape", "start", "I", false)
  | 3 => ("WrapGifts$Tape", "end", "I", false)
  | 4 => ("WrapGifts$Tape", "token", "I", false)
  | _ => ("WrapGifts$Tape", "value", "I", false)
def tyX9 : Nat → FieldType := fun k => match k with
  | 0 => .array .int
  | 1 => .int
  | 2 => .int
  | 3 => .int
  | 4 => .int
  | _ => .int
abbrev wsX90 : List Cond := u_ws RX9 TX9 6
theorem nmX9 : ∀ a, a < 6 → ∀ b, b < 6 → a ≠ b → (TX9 a).2.1 ≠ (TX9 b).2.1 := by decide +kernel
theorem tyX9_ok : ∀ k, k < 6 → parseFieldDescriptor (TX9 k).2.2.1 = some (tyX9 k) := by decide +kernel
abbrev cX9_init : ByteArray := prog_11_method_1_code
def yX9_init : MethodName := ⟨RX9, "<init>", "()V"⟩
abbrev cX9_add : ByteArray := prog_11_method_2_code
def yX9_add : MethodName := ⟨RX9, "add", "(I)V"⟩
abbrev cX9_readTown : ByteArray := prog_11_method_3_code
def yX9_readTown : MethodName := ⟨RX9, "readTown", "(LWrapGifts$Town;)I"⟩
abbrev cX9_readItem : ByteArray := prog_11_method_4_code
def yX9_readItem : MethodName := ⟨RX9, "readItem", "(LWrapGifts$Town;)Z"⟩
abbrev cX9_readPresent : ByteArray := prog_11_method_5_code
def yX9_readPresent : MethodName := ⟨RX9, "readPresent", "(LWrapGifts$Town;)Z"⟩
abbrev cX9_isPaperName : ByteArray := prog_11_method_6_code
def yX9_isPaperName : MethodName := ⟨RX9, "isPaperName", "()Z"⟩
abbrev cX9_step : ByteArray := prog_11_method_7_code
def yX9_step : MethodName := ⟨RX9, "step", "()V"⟩
abbrev cX9_stepOverWord : ByteArray := prog_11_method_8_code
def yX9_stepOverWord : MethodName := ⟨RX9, "stepOverWord", "()V"⟩
abbrev cX9_stepOverNumber : ByteArray := prog_11_method_9_code
def yX9_stepOverNumber : MethodName := ⟨RX9, "stepOverNumber", "()V"⟩
abbrev cX9_isLetter : ByteArray := prog_11_method_10_code
def yX9_isLetter : MethodName := ⟨RX9, "isLetter", "(I)Z"⟩
abbrev cX9_isDigit : ByteArray := prog_11_method_11_code
def yX9_isDigit : MethodName := ⟨RX9, "isDigit", "(I)Z"⟩
abbrev cX9_reads : ByteArray := prog_11_method_12_code
def yX9_reads : MethodName := ⟨RX9, "reads", "(Ljava/lang/String;)Z"⟩
abbrev cX9_nameOf : ByteArray := prog_11_method_13_code
def yX9_nameOf : MethodName := ⟨RX9, "nameOf", "(I)Ljava/lang/String;"⟩
def RX10 : String := "WrapGifts$Town"
def TX10 : u_T := fun k => match k with
  | 0 => ("WrapGifts$Town", "manners", "[LWrapGifts$Man;", true)
  | 1 => ("WrapGifts$Town", "folk", "[LWrapGifts$Person;", true)
  | 2 => ("WrapGifts$Town", "gifts", "[LWrapGifts$Present;", true)
  | 3 => ("WrapGifts$Town", "day", "I", false)
  | 4 => ("WrapGifts$Town", "people", "I", false)
  | _ => ("WrapGifts$Town", "presents", "I", false)
def tyX10 : Nat → FieldType := fun k => match k with
  | 0 => .array (.object "WrapGifts$Man")
  | 1 => .array (.object "WrapGifts$Person")
  | 2 => .array (.object "WrapGifts$Present")
  | 3 => .int
  | 4 => .int
  | _ => .int
abbrev wsX100 : List Cond := u_ws RX10 TX10 6
theorem nmX10 : ∀ a, a < 6 → ∀ b, b < 6 → a ≠ b → (TX10 a).2.1 ≠ (TX10 b).2.1 := by decide +kernel
theorem tyX10_ok : ∀ k, k < 6 → parseFieldDescriptor (TX10 k).2.2.1 = some (tyX10 k) := by decide +kernel
abbrev cX10_init : ByteArray := prog_12_method_1_code
def yX10_init : MethodName := ⟨RX10, "<init>", "([LWrapGifts$Man;)V"⟩
abbrev cX10_become : ByteArray := prog_12_method_2_code
def yX10_become : MethodName := ⟨RX10, "become", "(LWrapGifts$Town;)V"⟩
abbrev cX10_addPerson : ByteArray := prog_12_method_3_code
def yX10_addPerson : MethodName := ⟨RX10, "addPerson", "(I)I"⟩
abbrev cX10_addPresent : ByteArray := prog_12_method_4_code
def yX10_addPresent : MethodName := ⟨RX10, "addPresent", "(II)I"⟩
abbrev cX10_mannerOf : ByteArray := prog_12_method_5_code
def yX10_mannerOf : MethodName := ⟨RX10, "mannerOf", "(I)LWrapGifts$Man;"⟩
abbrev cX10_giftsWith : ByteArray := prog_12_method_6_code
def yX10_giftsWith : MethodName := ⟨RX10, "giftsWith", "(I)I"⟩
abbrev cX10_opened : ByteArray := prog_12_method_7_code
def yX10_opened : MethodName := ⟨RX10, "opened", "()I"⟩
abbrev cX10_unopened : ByteArray := prog_12_method_8_code
def yX10_unopened : MethodName := ⟨RX10, "unopened", "()I"⟩
abbrev cX10_joyOfAll : ByteArray := prog_12_method_9_code
def yX10_joyOfAll : MethodName := ⟨RX10, "joyOfAll", "()I"⟩
abbrev cX10_layersOfAll : ByteArray := prog_12_method_10_code
def yX10_layersOfAll : MethodName := ⟨RX10, "layersOfAll", "()I"⟩
abbrev cX10_thingsFound : ByteArray := prog_12_method_11_code
def yX10_thingsFound : MethodName := ⟨RX10, "thingsFound", "()I"⟩
abbrev cX10_goOn : ByteArray := prog_12_method_12_code
def yX10_goOn : MethodName := ⟨RX10, "goOn", "(I)V"⟩
abbrev cX10_oneDay : ByteArray := prog_12_method_13_code
def yX10_oneDay : MethodName := ⟨RX10, "oneDay", "()V"⟩
abbrev cX10_handsOn : ByteArray := prog_12_method_14_code
def yX10_handsOn : MethodName := ⟨RX10, "handsOn", "(ILWrapGifts$Present;)Z"⟩
abbrev cX10_takesOff : ByteArray := prog_12_method_15_code
def yX10_takesOff : MethodName := ⟨RX10, "takesOff", "(ILWrapGifts$Present;)I"⟩
abbrev cX10_openBy : ByteArray := prog_12_method_16_code
def yX10_openBy : MethodName := ⟨RX10, "openBy", "(ILWrapGifts$Present;)V"⟩
def RX11 : String := "WrapGifts"
def TX11 : u_T := fun k => match k with
  | 0 => ("WrapGifts", "town", "LWrapGifts$Town;", true)
  | 1 => ("WrapGifts", "kept", "LWrapGifts$Town;", true)
  | 2 => ("WrapGifts", "trial", "LWrapGifts$Town;", true)
  | 3 => ("WrapGifts", "isKept", "Z", false)
  | 4 => ("WrapGifts", "sheets", "[LWrapGifts$Sheet;", true)
  | 5 => ("WrapGifts", "tape", "LWrapGifts$Tape;", true)
  | 6 => ("WrapGifts", "told", "[I", true)
  | _ => ("WrapGifts", "row", "[I", true)
def tyX11 : Nat → FieldType := fun k => match k with
  | 0 => .object "WrapGifts$Town"
  | 1 => .object "WrapGifts$Town"
  | 2 => .object "WrapGifts$Town"
  | 3 => .boolean
  | 4 => .array (.object "WrapGifts$Sheet")
  | 5 => .object "WrapGifts$Tape"
  | 6 => .array .int
  | _ => .array .int
abbrev wsX110 : List Cond := u_ws RX11 TX11 8
theorem nmX11 : ∀ a, a < 8 → ∀ b, b < 8 → a ≠ b → (TX11 a).2.1 ≠ (TX11 b).2.1 := by decide +kernel
theorem tyX11_ok : ∀ k, k < 8 → parseFieldDescriptor (TX11 k).2.2.1 = some (tyX11 k) := by decide +kernel
abbrev cX11_init : ByteArray := prog_1_method_1_code
def yX11_init : MethodName := ⟨RX11, "<init>", "()V"⟩
abbrev cX11_person : ByteArray := prog_1_method_2_code
def yX11_person : MethodName := ⟨RX11, "person", "(I)I"⟩
abbrev cX11_of : ByteArray := prog_1_method_3_code
def yX11_of : MethodName := ⟨RX11, "of", "(II)I"⟩
abbrev cX11_does : ByteArray := prog_1_method_4_code
def yX11_does : MethodName := ⟨RX11, "does", "(III)I"⟩
abbrev cX11_joy : ByteArray := prog_1_method_5_code
def yX11_joy : MethodName := ⟨RX11, "joy", "(II)I"⟩
abbrev cX11_turn : ByteArray := prog_1_method_6_code
def yX11_turn : MethodName := ⟨RX11, "turn", "(II)I"⟩
abbrev cX11_as : ByteArray := prog_1_method_7_code
def yX11_as : MethodName := ⟨RX11, "as", "(II)I"⟩
abbrev cX11_present : ByteArray := prog_1_method_8_code
def yX11_present : MethodName := ⟨RX11, "present", "(II)I"⟩
abbrev cX11_presentOf : ByteArray := prog_1_method_9_code
def yX11_presentOf : MethodName := ⟨RX11, "presentOf", "(II)I"⟩
abbrev cX11_paper : ByteArray := prog_1_method_10_code
def yX11_paper : MethodName := ⟨RX11, "paper", "(II)I"⟩
abbrev cX11_wrap : ByteArray := prog_1_method_11_code
def yX11_wrap : MethodName := ⟨RX11, "wrap", "(II)I"⟩
abbrev cX11_unwrap : ByteArray := prog_1_method_12_code
def yX11_unwrap : MethodName := ⟨RX11, "unwrap", "(I)I"⟩
abbrev cX11_set : ByteArray := prog_1_method_13_code
def yX11_set : MethodName := ⟨RX11, "set", "(III)I"⟩
abbrev cX11_days : ByteArray := prog_1_method_14_code
def yX11_days : MethodName := ⟨RX11, "days", "(I)I"⟩
abbrev cX11_now : ByteArray := prog_1_method_15_code
def yX11_now : MethodName := ⟨RX11, "now", "(I)I"⟩
abbrev cX11_on : ByteArray := prog_1_method_16_code
def yX11_on : MethodName := ⟨RX11, "on", "(III)I"⟩
abbrev cX11_joyOn : ByteArray := prog_1_method_17_code
def yX11_joyOn : MethodName := ⟨RX11, "joyOn", "(II)I"⟩
abbrev cX11_found : ByteArray := prog_1_method_18_code
def yX11_found : MethodName := ⟨RX11, "found", "(I)I"⟩
abbrev cX11_comes : ByteArray := prog_1_method_19_code
def yX11_comes : MethodName := ⟨RX11, "comes", "(II)I"⟩
abbrev cX11_best : ByteArray := prog_1_method_20_code
def yX11_best : MethodName := ⟨RX11, "best", "(II)I"⟩
abbrev cX11_give : ByteArray := prog_1_method_21_code
def yX11_give : MethodName := ⟨RX11, "give", "(II)I"⟩
abbrev cX11_kind : ByteArray := prog_1_method_22_code
def yX11_kind : MethodName := ⟨RX11, "kind", "(II)I"⟩
abbrev cX11_least : ByteArray := prog_1_method_23_code
def yX11_least : MethodName := ⟨RX11, "least", "(IIII)I"⟩
abbrev cX11_order : ByteArray := prog_1_method_24_code
def yX11_order : MethodName := ⟨RX11, "order", "(II)I"⟩
abbrev cX11_happiest : ByteArray := prog_1_method_25_code
def yX11_happiest : MethodName := ⟨RX11, "happiest", "(I)I"⟩
abbrev cX11_enough : ByteArray := prog_1_method_26_code
def yX11_enough : MethodName := ⟨RX11, "enough", "(III)I"⟩
abbrev cX11_feed : ByteArray := prog_1_method_27_code
def yX11_feed : MethodName := ⟨RX11, "feed", "(II)I"⟩
abbrev cX11_wipe : ByteArray := prog_1_method_28_code
def yX11_wipe : MethodName := ⟨RX11, "wipe", "()I"⟩
abbrev cX11_town : ByteArray := prog_1_method_29_code
def yX11_town : MethodName := ⟨RX11, "town", "()I"⟩
abbrev cX11_sheet : ByteArray := prog_1_method_30_code
def yX11_sheet : MethodName := ⟨RX11, "sheet", "(III)I"⟩
abbrev cX11_write : ByteArray := prog_1_method_31_code
def yX11_write : MethodName := ⟨RX11, "write", "(IIJ)J"⟩
abbrev cX11_copy : ByteArray := prog_1_method_32_code
def yX11_copy : MethodName := ⟨RX11, "copy", "(IIIII)I"⟩
abbrev cX11_lays : ByteArray := prog_1_method_33_code
def yX11_lays : MethodName := ⟨RX11, "lays", "(II)I"⟩
abbrev cX11_book : ByteArray := prog_1_method_34_code
def yX11_book : MethodName := ⟨RX11, "book", "(II)I"⟩
abbrev cX11_read : ByteArray := prog_1_method_35_code
def yX11_read : MethodName := ⟨RX11, "read", "(III)I"⟩
abbrev cX11_image : ByteArray := prog_1_method_36_code
def yX11_image : MethodName := ⟨RX11, "image", "()I"⟩
abbrev cX11_undo : ByteArray := prog_1_method_37_code
def yX11_undo : MethodName := ⟨RX11, "undo", "()I"⟩
abbrev cX11_tear : ByteArray := prog_1_method_38_code
def yX11_tear : MethodName := ⟨RX11, "tear", "()I"⟩
abbrev cX11_count : ByteArray := prog_1_method_39_code
def yX11_count : MethodName := ⟨RX11, "count", "(I)I"⟩
abbrev cX11_status : ByteArray := prog_1_method_40_code
def yX11_status : MethodName := ⟨RX11, "status", "(I)I"⟩
abbrev cX11_tell : ByteArray := prog_1_method_41_code
def yX11_tell : MethodName := ⟨RX11, "tell", "(I)I"⟩
abbrev cX11_within : ByteArray := prog_1_method_42_code
def yX11_within : MethodName := ⟨RX11, "within", "(III)Z"⟩
abbrev cX11_isKind : ByteArray := prog_1_method_43_code
def yX11_isKind : MethodName := ⟨RX11, "isKind", "(I)Z"⟩
abbrev cX11_isPaper : ByteArray := prog_1_method_44_code
def yX11_isPaper : MethodName := ⟨RX11, "isPaper", "(I)Z"⟩
abbrev cX11_isThing : ByteArray := prog_1_method_45_code
def yX11_isThing : MethodName := ⟨RX11, "isThing", "(I)Z"⟩
abbrev cX11_isSheet : ByteArray := prog_1_method_46_code
def yX11_isSheet : MethodName := ⟨RX11, "isSheet", "(I)Z"⟩
abbrev cX11_isPerson : ByteArray := prog_1_method_47_code
def yX11_isPerson : MethodName := ⟨RX11, "isPerson", "(I)Z"⟩
abbrev cX11_isPresent : ByteArray := prog_1_method_48_code
def yX11_isPresent : MethodName := ⟨RX11, "isPresent", "(I)Z"⟩
abbrev cX11_isOf : ByteArray := prog_1_method_49_code
def yX11_isOf : MethodName := ⟨RX11, "isOf", "(LWrapGifts$Man;I)Z"⟩
abbrev cX11_allManners : ByteArray := prog_1_method_50_code
def yX11_allManners : MethodName := ⟨RX11, "allManners", "()[LWrapGifts$Man;"⟩
abbrev cX11_startTrial : ByteArray := prog_1_method_51_code
def yX11_startTrial : MethodName := ⟨RX11, "startTrial", "()V"⟩
abbrev cX11_trialGoesAs : ByteArray := prog_1_method_52_code
def yX11_trialGoesAs : MethodName := ⟨RX11, "trialGoesAs", "(LWrapGifts$Sheet;I)Z"⟩
abbrev cX11_startRow : ByteArray := prog_1_method_53_code
def yX11_startRow : MethodName := ⟨RX11, "startRow", "(II)V"⟩
abbrev cX11_rowAsNumber : ByteArray := prog_1_method_54_code
def yX11_rowAsNumber : MethodName := ⟨RX11, "rowAsNumber", "(I)I"⟩
abbrev cX11_nextRow : ByteArray := prog_1_method_55_code
def yX11_nextRow : MethodName := ⟨RX11, "nextRow", "(I)Z"⟩
abbrev cX11_swapInRow : ByteArray := prog_1_method_56_code
def yX11_swapInRow : MethodName := ⟨RX11, "swapInRow", "(II)V"⟩
def RX12 : String := "WrapGiftsModel"
def TX12 : u_T := fun k => match k with
  | 0 => ("WrapGiftsModel", "s", "[I", true)
  | 1 => ("WrapGiftsModel", "kept", "[I", true)
  | 2 => ("WrapGiftsModel", "aside", "[I", true)
  | 3 => ("WrapGiftsModel", "isKept", "Z", false)
  | 4 => ("WrapGiftsModel", "found", "[I", true)
  | 5 => ("WrapGiftsModel", "passed", "I", false)
  | 6 => ("WrapGiftsModel", "left", "[I", true)
  | 7 => ("WrapGiftsModel", "tape", "[I", true)
  | 8 => ("WrapGiftsModel", "taped", "I", false)
  | 9 => ("WrapGiftsModel", "token", "I", false)
  | 10 => ("WrapGiftsModel", "begun", "I", false)
  | 11 => ("WrapGiftsModel", "ended", "I", false)
  | 12 => ("WrapGiftsModel", "value", "J", false)
  | 13 => ("WrapGiftsModel", "letters", "[C", true)
  | 14 => ("WrapGiftsModel", "others", "[C", true)
  | 15 => ("WrapGiftsModel", "papers", "[C", true)
  | 16 => ("WrapGiftsModel", "widths", "[I", true)
  | 17 => ("WrapGiftsModel", "sizes", "[I", true)
  | 18 => ("WrapGiftsModel", "cells", "[J", true)
  | _ => ("WrapGiftsModel", "carried", "[J", true)
def tyX12 : Nat → FieldType := fun k => match k with
  | 0 => .array .int
  | 1 => .array .int
  | 2 => .array .int
  | 3 => .boolean
  | 4 => .array .int
  | 5 => .int
  | 6 => .array .int
  | 7 => .array .int
  | 8 => .int
  | 9 => .int
  | 10 => .int
  | 11 => .int
  | 12 => .long
  | 13 => .array .char
  | 14 => .array .char
  | 15 => .array .char
  | 16 => .array .int
  | 17 => .array .int
  | 18 => .array .long
  | _ => .array .long
abbrev wsX120 : List Cond := u_ws RX12 TX12 20
theorem nmX12 : ∀ a, a < 20 → ∀ b, b < 20 → a ≠ b → (TX12 a).2.1 ≠ (TX12 b).2.1 := by decide +kernel
theorem tyX12_ok : ∀ k, k < 20 → parseFieldDescriptor (TX12 k).2.2.1 = some (tyX12 k) := by decide +kernel
abbrev cX12_init : ByteArray := prog_14_method_1_code
def yX12_init : MethodName := ⟨RX12, "<init>", "()V"⟩
abbrev cX12_no : ByteArray := prog_14_method_2_code
def yX12_no : MethodName := ⟨RX12, "no", "(I)I"⟩
abbrev cX12_in1 : ByteArray := prog_14_method_3_code
def yX12_in1 : MethodName := ⟨RX12, "in1", "(III)Z"⟩
abbrev cX12_less : ByteArray := prog_14_method_4_code
def yX12_less : MethodName := ⟨RX12, "less", "(II)I"⟩
abbrev cX12_bits : ByteArray := prog_14_method_5_code
def yX12_bits : MethodName := ⟨RX12, "bits", "(I)I"⟩
abbrev cX12_isPerson : ByteArray := prog_14_method_6_code
def yX12_isPerson : MethodName := ⟨RX12, "isPerson", "(I)Z"⟩
abbrev cX12_isPresent : ByteArray := prog_14_method_7_code
def yX12_isPresent : MethodName := ⟨RX12, "isPresent", "(I)Z"⟩
abbrev cX12_get : ByteArray := prog_14_method_8_code
def yX12_get : MethodName := ⟨RX12, "get", "(II)I"⟩
abbrev cX12_puts : ByteArray := prog_14_method_9_code
def yX12_puts : MethodName := ⟨RX12, "puts", "(III)V"⟩
abbrev cX12_of1 : ByteArray := prog_14_method_10_code
def yX12_of1 : MethodName := ⟨RX12, "of1", "(II)I"⟩
abbrev cX12_lays1 : ByteArray := prog_14_method_11_code
def yX12_lays1 : MethodName := ⟨RX12, "lays1", "(III)V"⟩
abbrev cX12_setsAside : ByteArray := prog_14_method_12_code
def yX12_setsAside : MethodName := ⟨RX12, "setsAside", "()V"⟩
abbrev cX12_laysBack : ByteArray := prog_14_method_13_code
def yX12_laysBack : MethodName := ⟨RX12, "laysBack", "()V"⟩
abbrev cX12_addsLayer : ByteArray := prog_14_method_14_code
def yX12_addsLayer : MethodName := ⟨RX12, "addsLayer", "(II)V"⟩
abbrev cX12_takesLayer : ByteArray := prog_14_method_15_code
def yX12_takesLayer : MethodName := ⟨RX12, "takesLayer", "(I)I"⟩
abbrev cX12_opensOf : ByteArray := prog_14_method_16_code
def yX12_opensOf : MethodName := ⟨RX12, "opensOf", "(II)I"⟩
abbrev cX12_enjoysOf : ByteArray := prog_14_method_17_code
def yX12_enjoysOf : MethodName := ⟨RX12, "enjoysOf", "(II)I"⟩
abbrev cX12_struckOf : ByteArray := prog_14_method_18_code
def yX12_struckOf : MethodName := ⟨RX12, "struckOf", "(II)I"⟩
abbrev cX12_passesOf : ByteArray := prog_14_method_19_code
def yX12_passesOf : MethodName := ⟨RX12, "passesOf", "(II)I"⟩
abbrev cX12_presentFor : ByteArray := prog_14_method_20_code
def yX12_presentFor : MethodName := ⟨RX12, "presentFor", "(I)I"⟩
abbrev cX12_enjoys : ByteArray := prog_14_method_21_code
def yX12_enjoys : MethodName := ⟨RX12, "enjoys", "(II)V"⟩
abbrev cX12_opens : ByteArray := prog_14_method_22_code
def yX12_opens : MethodName := ⟨RX12, "opens", "(II)V"⟩
abbrev cX12_takesTurn : ByteArray := prog_14_method_23_code
def yX12_takesTurn : MethodName := ⟨RX12, "takesTurn", "(II)V"⟩
abbrev cX12_day : ByteArray := prog_14_method_24_code
def yX12_day : MethodName := ⟨RX12, "day", "()V"⟩
abbrev cX12_goes : ByteArray := prog_14_method_25_code
def yX12_goes : MethodName := ⟨RX12, "goes", "(I)V"⟩
abbrev cX12_addsPerson : ByteArray := prog_14_method_26_code
def yX12_addsPerson : MethodName := ⟨RX12, "addsPerson", "(I)V"⟩
abbrev cX12_person : ByteArray := prog_14_method_27_code
def yX12_person : MethodName := ⟨RX12, "person", "(I)I"⟩
abbrev cX12_presentsWith : ByteArray := prog_14_method_28_code
def yX12_presentsWith : MethodName := ⟨RX12, "presentsWith", "(IZ)I"⟩
abbrev cX12_of : ByteArray := prog_14_method_29_code
def yX12_of : MethodName := ⟨RX12, "of", "(II)I"⟩
abbrev cX12_does : ByteArray := prog_14_method_30_code
def yX12_does : MethodName := ⟨RX12, "does", "(III)I"⟩
abbrev cX12_joy : ByteArray := prog_14_method_31_code
def yX12_joy : MethodName := ⟨RX12, "joy", "(II)I"⟩
abbrev cX12_turn : ByteArray := prog_14_method_32_code
def yX12_turn : MethodName := ⟨RX12, "turn", "(II)I"⟩
abbrev cX12_as : ByteArray := prog_14_method_33_code
def yX12_as : MethodName := ⟨RX12, "as", "(II)I"⟩
abbrev cX12_addsPresent : ByteArray := prog_14_method_34_code
def yX12_addsPresent : MethodName := ⟨RX12, "addsPresent", "(II)V"⟩
abbrev cX12_present : ByteArray := prog_14_method_35_code
def yX12_present : MethodName := ⟨RX12, "present", "(II)I"⟩
abbrev cX12_presentOf : ByteArray := prog_14_method_36_code
def yX12_presentOf : MethodName := ⟨RX12, "presentOf", "(II)I"⟩
abbrev cX12_paper : ByteArray := prog_14_method_37_code
def yX12_paper : MethodName := ⟨RX12, "paper", "(II)I"⟩
abbrev cX12_isPaper : ByteArray := prog_14_method_38_code
def yX12_isPaper : MethodName := ⟨RX12, "isPaper", "(I)Z"⟩
abbrev cX12_whyNoLayer : ByteArray := prog_14_method_39_code
def yX12_whyNoLayer : MethodName := ⟨RX12, "whyNoLayer", "(I)I"⟩
abbrev cX12_wrap : ByteArray := prog_14_method_40_code
def yX12_wrap : MethodName := ⟨RX12, "wrap", "(II)I"⟩
abbrev cX12_unwrap : ByteArray := prog_14_method_41_code
def yX12_unwrap : MethodName := ⟨RX12, "unwrap", "(I)I"⟩
abbrev cX12_set : ByteArray := prog_14_method_42_code
def yX12_set : MethodName := ⟨RX12, "set", "(III)I"⟩
abbrev cX12_foundOnes : ByteArray := prog_14_method_43_code
def yX12_foundOnes : MethodName := ⟨RX12, "foundOnes", "()I"⟩
abbrev cX12_days : ByteArray := prog_14_method_44_code
def yX12_days : MethodName := ⟨RX12, "days", "(I)I"⟩
abbrev cX12_allJoy : ByteArray := prog_14_method_45_code
def yX12_allJoy : MethodName := ⟨RX12, "allJoy", "()I"⟩
abbrev cX12_allOf : ByteArray := prog_14_method_46_code
def yX12_allOf : MethodName := ⟨RX12, "allOf", "(IZ)I"⟩
abbrev cX12_now : ByteArray := prog_14_method_47_code
def yX12_now : MethodName := ⟨RX12, "now", "(I)I"⟩
abbrev cX12_isAhead : ByteArray := prog_14_method_48_code
def yX12_isAhead : MethodName := ⟨RX12, "isAhead", "(I)Z"⟩
abbrev cX12_on : ByteArray := prog_14_method_49_code
def yX12_on : MethodName := ⟨RX12, "on", "(III)I"⟩
abbrev cX12_joyOn : ByteArray := prog_14_method_50_code
def yX12_joyOn : MethodName := ⟨RX12, "joyOn", "(II)I"⟩
abbrev cX12_firstBy : ByteArray := prog_14_method_51_code
def yX12_firstBy : MethodName := ⟨RX12, "firstBy", "(III)I"⟩
abbrev cX12_found : ByteArray := prog_14_method_52_code
def yX12_found : MethodName := ⟨RX12, "found", "(I)I"⟩
abbrev cX12_comes : ByteArray := prog_14_method_53_code
def yX12_comes : MethodName := ⟨RX12, "comes", "(II)I"⟩
abbrev cX12_isSoon : ByteArray := prog_14_method_54_code
def yX12_isSoon : MethodName := ⟨RX12, "isSoon", "(I)Z"⟩
abbrev cX12_joyThen : ByteArray := prog_14_method_55_code
def yX12_joyThen : MethodName := ⟨RX12, "joyThen", "(II)I"⟩
abbrev cX12_best : ByteArray := prog_14_method_56_code
def yX12_best : MethodName := ⟨RX12, "best", "(II)I"⟩
abbrev cX12_give : ByteArray := prog_14_method_57_code
def yX12_give : MethodName := ⟨RX12, "give", "(II)I"⟩
abbrev cX12_kind : ByteArray := prog_14_method_58_code
def yX12_kind : MethodName := ⟨RX12, "kind", "(II)I"⟩
abbrev cX12_least : ByteArray := prog_14_method_59_code
def yX12_least : MethodName := ⟨RX12, "least", "(IIII)I"⟩
abbrev cX12_isOrder : ByteArray := prog_14_method_60_code
def yX12_isOrder : MethodName := ⟨RX12, "isOrder", "(II)Z"⟩
abbrev cX12_joyBy : ByteArray := prog_14_method_61_code
def yX12_joyBy : MethodName := ⟨RX12, "joyBy", "(III)I"⟩
abbrev cX12_order : ByteArray := prog_14_method_62_code
def yX12_order : MethodName := ⟨RX12, "order", "(II)I"⟩
abbrev cX12_happiest : ByteArray := prog_14_method_63_code
def yX12_happiest : MethodName := ⟨RX12, "happiest", "(I)I"⟩
abbrev cX12_isHiddenBy : ByteArray := prog_14_method_64_code
def yX12_isHiddenBy : MethodName := ⟨RX12, "isHiddenBy", "(IIII)Z"⟩
abbrev cX12_enough : ByteArray := prog_14_method_65_code
def yX12_enough : MethodName := ⟨RX12, "enough", "(III)I"⟩
abbrev cX12_feed : ByteArray := prog_14_method_66_code
def yX12_feed : MethodName := ⟨RX12, "feed", "(II)I"⟩
abbrev cX12_wipe : ByteArray := prog_14_method_67_code
def yX12_wipe : MethodName := ⟨RX12, "wipe", "()I"⟩
abbrev cX12_isLetter : ByteArray := prog_14_method_68_code
def yX12_isLetter : MethodName := ⟨RX12, "isLetter", "(I)Z"⟩
abbrev cX12_isDigit : ByteArray := prog_14_method_69_code
def yX12_isDigit : MethodName := ⟨RX12, "isDigit", "(I)Z"⟩
abbrev cX12_nextToken : ByteArray := prog_14_method_70_code
def yX12_nextToken : MethodName := ⟨RX12, "nextToken", "()V"⟩
abbrev cX12_wordOf : ByteArray := prog_14_method_71_code
def yX12_wordOf : MethodName := ⟨RX12, "wordOf", "([C)I"⟩
abbrev cX12_takesNumber : ByteArray := prog_14_method_72_code
def yX12_takesNumber : MethodName := ⟨RX12, "takesNumber", "(II)I"⟩
abbrev cX12_readsPresent : ByteArray := prog_14_method_73_code
def yX12_readsPresent : MethodName := ⟨RX12, "readsPresent", "()Z"⟩
abbrev cX12_readsItem : ByteArray := prog_14_method_74_code
def yX12_readsItem : MethodName := ⟨RX12, "readsItem", "()Z"⟩
abbrev cX12_town : ByteArray := prog_14_method_75_code
def yX12_town : MethodName := ⟨RX12, "town", "()I"⟩
abbrev cX12_isSheet : ByteArray := prog_14_method_76_code
def yX12_isSheet : MethodName := ⟨RX12, "isSheet", "(I)Z"⟩
abbrev cX12_wrongSheet : ByteArray := prog_14_method_77_code
def yX12_wrongSheet : MethodName := ⟨RX12, "wrongSheet", "(I)I"⟩
abbrev cX12_told : ByteArray := prog_14_method_78_code
def yX12_told : MethodName := ⟨RX12, "told", "(II)J"⟩
abbrev cX12_tells : ByteArray := prog_14_method_79_code
def yX12_tells : MethodName := ⟨RX12, "tells", "(IIJ)V"⟩
abbrev cX12_sheet : ByteArray := prog_14_method_80_code
def yX12_sheet : MethodName := ⟨RX12, "sheet", "(III)I"⟩
abbrev cX12_write : ByteArray := prog_14_method_81_code
def yX12_write : MethodName := ⟨RX12, "write", "(IIJ)J"⟩
abbrev cX12_copy : ByteArray := prog_14_method_82_code
def yX12_copy : MethodName := ⟨RX12, "copy", "(IIIII)I"⟩
abbrev cX12_lays : ByteArray := prog_14_method_83_code
def yX12_lays : MethodName := ⟨RX12, "lays", "(II)I"⟩
abbrev cX12_book : ByteArray := prog_14_method_84_code
def yX12_book : MethodName := ⟨RX12, "book", "(II)I"⟩
abbrev cX12_isSo : ByteArray := prog_14_method_85_code
def yX12_isSo : MethodName := ⟨RX12, "isSo", "(II)Z"⟩
abbrev cX12_read : ByteArray := prog_14_method_86_code
def yX12_read : MethodName := ⟨RX12, "read", "(III)I"⟩
abbrev cX12_image : ByteArray := prog_14_method_87_code
def yX12_image : MethodName := ⟨RX12, "image", "()I"⟩
abbrev cX12_undo : ByteArray := prog_14_method_88_code
def yX12_undo : MethodName := ⟨RX12, "undo", "()I"⟩
abbrev cX12_tear : ByteArray := prog_14_method_89_code
def yX12_tear : MethodName := ⟨RX12, "tear", "()I"⟩
abbrev cX12_count : ByteArray := prog_14_method_90_code
def yX12_count : MethodName := ⟨RX12, "count", "(I)I"⟩
abbrev cX12_status : ByteArray := prog_14_method_91_code
def yX12_status : MethodName := ⟨RX12, "status", "(I)I"⟩
def RJ6 : String := "java/lang/Integer"
def TJ6 : u_T := fun k => match k with
  | _ => ("", "", "", false)
def tyJ6 : Nat → FieldType := fun k => match k with
  | _ => .int
abbrev wsJ60 : List Cond := u_ws RJ6 TJ6 0
theorem nmJ6 : ∀ a, a < 0 → ∀ b, b < 0 → a ≠ b → (TJ6 a).2.1 ≠ (TJ6 b).2.1 := by decide +kernel
theorem tyJ6_ok : ∀ k, k < 0 → parseFieldDescriptor (TJ6 k).2.2.1 = some (tyJ6 k) := by decide +kernel
abbrev cJ6_bitCount_0f7a4 : ByteArray := prog_15_method_49_code
def yJ6_bitCount_0f7a4 : MethodName := ⟨RJ6, "bitCount", "(I)I"⟩
def RJ9 : String := "java/lang/Math"
def TJ9 : u_T := fun k => match k with
  | _ => ("", "", "", false)
def tyJ9 : Nat → FieldType := fun k => match k with
  | _ => .int
abbrev wsJ90 : List Cond := u_ws RJ9 TJ9 0
theorem nmJ9 : ∀ a, a < 0 → ∀ b, b < 0 → a ≠ b → (TJ9 a).2.1 ≠ (TJ9 b).2.1 := by decide +kernel
theorem tyJ9_ok : ∀ k, k < 0 → parseFieldDescriptor (TJ9 k).2.2.1 = some (tyJ9 k) := by decide +kernel
abbrev cJ9_min_7cf53 : ByteArray := prog_16_method_69_code
def yJ9_min_7cf53 : MethodName := ⟨RJ9, "min", "(II)I"⟩
def RJ0 : String := "java/lang/String"
def TJ0 : u_T := fun k => match k with
  | _ => ("", "", "", false)
def tyJ0 : Nat → FieldType := fun k => match k with
  | _ => .int
abbrev wsJ00 : List Cond := u_ws RJ0 TJ0 0
theorem nmJ0 : ∀ a, a < 0 → ∀ b, b < 0 → a ≠ b → (TJ0 a).2.1 ≠ (TJ0 b).2.1 := by decide +kernel
theorem tyJ0_ok : ∀ k, k < 0 → parseFieldDescriptor (TJ0 k).2.2.1 = some (tyJ0 k) := by decide +kernel
abbrev cJ0_length_8abf5 : ByteArray := prog_17_method_54_code
def yJ0_length_8abf5 : MethodName := ⟨RJ0, "length", "()I"⟩
abbrev cJ0_charAt_5068e : ByteArray := prog_17_method_56_code
def yJ0_charAt_5068e : MethodName := ⟨RJ0, "charAt", "(I)C"⟩
abbrev cJ0_coder_7d493 : ByteArray := prog_17_method_152_code
def yJ0_coder_7d493 : MethodName := ⟨RJ0, "coder", "()B"⟩
abbrev cJ0_isLatin1_aae02 : ByteArray := prog_17_method_154_code
def yJ0_isLatin1_aae02 : MethodName := ⟨RJ0, "isLatin1", "()Z"⟩
abbrev cJ0_checkIndex_df160 : ByteArray := prog_17_method_155_code
def yJ0_checkIndex_df160 : MethodName := ⟨RJ0, "checkIndex", "(II)V"⟩
def RJ1 : String := "java/lang/StringLatin1"
def TJ1 : u_T := fun k => match k with
  | _ => ("", "", "", false)
def tyJ1 : Nat → FieldType := fun k => match k with
  | _ => .int
abbrev wsJ10 : List Cond := u_ws RJ1 TJ1 0
theorem nmJ1 : ∀ a, a < 0 → ∀ b, b < 0 → a ≠ b → (TJ1 a).2.1 ≠ (TJ1 b).2.1 := by decide +kernel
theorem tyJ1_ok : ∀ k, k < 0 → parseFieldDescriptor (TJ1 k).2.2.1 = some (tyJ1 k) := by decide +kernel
abbrev cJ1_charAt_3b067 : ByteArray := prog_18_method_2_code
def yJ1_charAt_3b067 : MethodName := ⟨RJ1, "charAt", "([BI)C"⟩
def RJ2 : String := "java/lang/StringUTF16"
def TJ2 : u_T := fun k => match k with
  | _ => ("", "", "", false)
def tyJ2 : Nat → FieldType := fun k => match k with
  | _ => .int
abbrev wsJ20 : List Cond := u_ws RJ2 TJ2 0
theorem nmJ2 : ∀ a, a < 0 → ∀ b, b < 0 → a ≠ b → (TJ2 a).2.1 ≠ (TJ2 b).2.1 := by decide +kernel
theorem tyJ2_ok : ∀ k, k < 0 → parseFieldDescriptor (TJ2 k).2.2.1 = some (tyJ2 k) := by decide +kernel
abbrev cJ2_getChar_3b067 : ByteArray := prog_19_method_5_code
def yJ2_getChar_3b067 : MethodName := ⟨RJ2, "getChar", "([BI)C"⟩
abbrev cJ2_length_9d52b : ByteArray := prog_19_method_6_code
def yJ2_length_9d52b : MethodName := ⟨RJ2, "length", "([B)I"⟩
abbrev cJ2_charAt_3b067 : ByteArray := prog_19_method_83_code
def yJ2_charAt_3b067 : MethodName := ⟨RJ2, "charAt", "([BI)C"⟩
abbrev cJ2_checkIndex_2214a : ByteArray := prog_19_method_91_code
def yJ2_checkIndex_2214a : MethodName := ⟨RJ2, "checkIndex", "(I[B)V"⟩
def RJ10 : String := "java/lang/System"
def TJ10 : u_T := fun k => match k with
  | _ => ("", "", "", false)
def tyJ10 : Nat → FieldType := fun k => match k with
  | _ => .int
abbrev wsJ100 : List Cond := u_ws RJ10 TJ10 0
theorem nmJ10 : ∀ a, a < 0 → ∀ b, b < 0 → a ≠ b → (TJ10 a).2.1 ≠ (TJ10 b).2.1 := by decide +kernel
theorem tyJ10_ok : ∀ k, k < 0 → parseFieldDescriptor (TJ10 k).2.2.1 = some (tyJ10 k) := by decide +kernel
def RJ3 : String := "jdk/internal/util/Preconditions"
def TJ3 : u_T := fun k => match k with
  | _ => ("", "", "", false)
def tyJ3 : Nat → FieldType := fun k => match k with
  | _ => .int
abbrev wsJ30 : List Cond := u_ws RJ3 TJ3 0
theorem nmJ3 : ∀ a, a < 0 → ∀ b, b < 0 → a ≠ b → (TJ3 a).2.1 ≠ (TJ3 b).2.1 := by decide +kernel
theorem tyJ3_ok : ∀ k, k < 0 → parseFieldDescriptor (TJ3 k).2.2.1 = some (tyJ3 k) := by decide +kernel
abbrev cJ3_checkIndex_8e157 : ByteArray := prog_21_method_11_code
def yJ3_checkIndex_8e157 : MethodName := ⟨RJ3, "checkIndex", "(IILjava/util/function/BiFunction;)I"⟩
def RL : String := "WrapGiftsLaw"
abbrev cL_law : ByteArray := code
def yL_law : MethodName := ⟨RL, "law", "([I)Z"⟩
abbrev vwCl : List vw_C := [(RX0, TX0, 0), (RX1, TX1, 0), (RX2, TX2, 0), (RX3, TX3, 0), (RX4, TX4, 0), (RX5, TX5, 2), (RX6, TX6, 0), (RX7, TX7, 5), (RX8, TX8, 3), (RX9, TX9, 6), (RX10, TX10, 6), (RX11, TX11, 8), (RX12, TX12, 20)]
end
section
theorem dX0_init_0 : decode cX0_init 0 = .ok (.aload_n 0, 1) := by decide +kernel
theorem dX0_init_1 : decode cX0_init 1 = .ok (.invokespecial 1, 3) := by decide +kernel
theorem dX0_init_4 : decode cX0_init 4 = .ok (.return_, 1) := by decide +kernel
theorem dX0_opens_0 : decode cX0_opens 0 = .ok (.iconst 0, 1) := by decide +kernel
theorem dX0_opens_1 : decode cX0_opens 1 = .ok (.ireturn, 1) := by decide +kernel
theorem dX0_enjoys_0 : decode cX0_enjoys 0 = .ok (.iconst 2, 1) := by decide +kernel
theorem dX0_enjoys_1 : decode cX0_enjoys 1 = .ok (.aload_n 0, 1) := by decide +kernel
theorem dX0_enjoys_2 : decode cX0_enjoys 2 = .ok (.iload_n 1, 1) := by decide +kernel
theorem dX0_enjoys_3 : decode cX0_enjoys 3 = .ok (.invokespecial 7, 3) := by decide +kernel
theorem dX0_enjoys_6 : decode cX0_enjoys 6 = .ok (.imul, 1) := by decide +kernel
theorem dX0_enjoys_7 : decode cX0_enjoys 7 = .ok (.ireturn, 1) := by decide +kernel
theorem dX0_isStruck_0 : decode cX0_isStruck 0 = .ok (.iload_n 1, 1) := by decide +kernel
theorem dX0_isStruck_1 : decode cX0_isStruck 1 = .ok (.ifCond .le 7, 3) := by decide +kernel
theorem dX0_isStruck_4 : decode cX0_isStruck 4 = .ok (.iconst 0, 1) := by decide +kernel
theorem dX0_isStruck_5 : decode cX0_isStruck 5 = .ok (.goto 4, 3) := by decide +kernel
theorem dX0_isStruck_8 : decode cX0_isStruck 8 = .ok (.iconst 5, 1) := by decide +kernel
theorem dX0_isStruck_9 : decode cX0_isStruck 9 = .ok (.ireturn, 1) := by decide +kernel
theorem dX0_passesOn_0 : decode cX0_passesOn 0 = .ok (.iload_n 1, 1) := by decide +kernel
theorem dX0_passesOn_1 : decode cX0_passesOn 1 = .ok (.bipush 6, 2) := by decide +kernel
theorem dX0_passesOn_3 : decode cX0_passesOn 3 = .ok (.if_icmp .ne 12, 3) := by decide +kernel
theorem dX0_passesOn_6 : decode cX0_passesOn 6 = .ok (.aload_n 0, 1) := by decide +kernel
theorem dX0_passesOn_7 : decode cX0_passesOn 7 = .ok (.iload_n 1, 1) := by decide +kernel
theorem dX0_passesOn_8 : decode cX0_passesOn 8 = .ok (.iload_n 2, 1) := by decide +kernel
theorem dX0_passesOn_9 : decode cX0_passesOn 9 = .ok (.invokespecial 11, 3) := by decide +kernel
theorem dX0_passesOn_12 : decode cX0_passesOn 12 = .ok (.goto 4, 3) := by decide +kernel
theorem dX0_passesOn_15 : decode cX0_passesOn 15 = .ok (.iconst (-1), 1) := by decide +kernel
theorem dX0_passesOn_16 : decode cX0_passesOn 16 = .ok (.ireturn, 1) := by decide +kernel
theorem dX1_init_0 : decode cX1_init 0 = .ok (.aload_n 0, 1) := by decide +kernel
theorem dX1_init_1 : decode cX1_init 1 = .ok (.invokespecial 1, 3) := by decide +kernel
theorem dX1_init_4 : decode cX1_init 4 = .ok (.return_, 1) := by decide +kernel
theorem dX1_opens_0 : decode cX1_opens 0 = .ok (.iconst 2, 1) := by decide +kernel
theorem dX1_opens_1 : decode cX1_opens 1 = .ok (.aload_n 0, 1) := by decide +kernel
theorem dX1_opens_2 : decode cX1_opens 2 = .ok (.iload_n 1, 1) := by decide +kernel
theorem dX1_opens_3 : decode cX1_opens 3 = .ok (.iload_n 2, 1) := by decide +kernel
theorem dX1_opens_4 : decode cX1_opens 4 = .ok (.iload_n 3, 1) := by decide +kernel
theorem dX1_opens_5 : decode cX1_opens 5 = .ok (.invokespecial 7, 3) := by decide +kernel
theorem dX1_opens_8 : decode cX1_opens 8 = .ok (.imul, 1) := by decide +kernel
theorem dX1_opens_9 : decode cX1_opens 9 = .ok (.ireturn, 1) := by decide +kernel
theorem dX1_enjoys_0 : decode cX1_enjoys 0 = .ok (.aload_n 0, 1) := by decide +kernel
theorem dX1_enjoys_1 : decode cX1_enjoys 1 = .ok (.iload_n 1, 1) := by decide +kernel
theorem dX1_enjoys_2 : decode cX1_enjoys 2 = .ok (.invokespecial 11, 3) := by decide +kernel
theorem dX1_enjoys_5 : decode cX1_enjoys 5 = .ok (.iconst 1, 1) := by decide +kernel
theorem dX1_enjoys_6 : decode cX1_enjoys 6 = .ok (.isub, 1) := by decide +kernel
theorem dX1_enjoys_7 : decode cX1_enjoys 7 = .ok (.ireturn, 1) := by decide +kernel
theorem dX1_isStruck_0 : decode cX1_isStruck 0 = .ok (.iload_n 1, 1) := by decide +kernel
theorem dX1_isStruck_1 : decode cX1_isStruck 1 = .ok (.ifCond .ne 7, 3) := by decide +kernel
theorem dX1_isStruck_4 : decode cX1_isStruck 4 = .ok (.iconst 0, 1) := by decide +kernel
theorem dX1_isStruck_5 : decode cX1_isStruck 5 = .ok (.goto 10, 3) := by decide +kernel
theorem dX1_isStruck_8 : decode cX1_isStruck 8 = .ok (.iconst 2, 1) := by decide +kernel
theorem dX1_isStruck_9 : decode cX1_isStruck 9 = .ok (.aload_n 0, 1) := by decide +kernel
theorem dX1_isStruck_10 : decode cX1_isStruck 10 = .ok (.iload_n 1, 1) := by decide +kernel
theorem dX1_isStruck_11 : decode cX1_isStruck 11 = .ok (.invokespecial 15, 3) := by decide +kernel
theorem dX1_isStruck_14 : decode cX1_isStruck 14 = .ok (.imul, 1) := by decide +kernel
theorem dX1_isStruck_15 : decode cX1_isStruck 15 = .ok (.ireturn, 1) := by decide +kernel
theorem dX1_passesOn_0 : decode cX1_passesOn 0 = .ok (.iconst (-1), 1) := by decide +kernel
theorem dX1_passesOn_1 : decode cX1_passesOn 1 = .ok (.ireturn, 1) := by decide +kernel
theorem dX2_init_0 : decode cX2_init 0 = .ok (.aload_n 0, 1) := by decide +kernel
theorem dX2_init_1 : decode cX2_init 1 = .ok (.invokespecial 1, 3) := by decide +kernel
theorem dX2_init_4 : decode cX2_init 4 = .ok (.return_, 1) := by decide +kernel
theorem dX2_opens_0 : decode cX2_opens 0 = .ok (.iload_n 1, 1) := by decide +kernel
theorem dX2_opens_1 : decode cX2_opens 1 = .ok (.iconst 5, 1) := by decide +kernel
theorem dX2_opens_2 : decode cX2_opens 2 = .ok (.irem, 1) := by decide +kernel
theorem dX2_opens_3 : decode cX2_opens 3 = .ok (.ifCond .ne 7, 3) := by decide +kernel
theorem dX2_opens_6 : decode cX2_opens 6 = .ok (.iconst 1, 1) := by decide +kernel
theorem dX2_opens_7 : decode cX2_opens 7 = .ok (.goto 10, 3) := by decide +kernel
theorem dX2_opens_10 : decode cX2_opens 10 = .ok (.aload_n 0, 1) := by decide +kernel
theorem dX2_opens_11 : decode cX2_opens 11 = .ok (.iload_n 1, 1) := by decide +kernel
theorem dX2_opens_12 : decode cX2_opens 12 = .ok (.iload_n 2, 1) := by decide +kernel
theorem dX2_opens_13 : decode cX2_opens 13 = .ok (.iload_n 3, 1) := by decide +kernel
theorem dX2_opens_14 : decode cX2_opens 14 = .ok (.invokespecial 7, 3) := by decide +kernel
theorem dX2_opens_17 : decode cX2_opens 17 = .ok (.ireturn, 1) := by decide +kernel
theorem dX2_enjoys_0 : decode cX2_enjoys 0 = .ok (.aload_n 0, 1) := by decide +kernel
theorem dX2_enjoys_1 : decode cX2_enjoys 1 = .ok (.iload_n 1, 1) := by decide +kernel
theorem dX2_enjoys_2 : decode cX2_enjoys 2 = .ok (.invokespecial 11, 3) := by decide +kernel
theorem dX2_enjoys_5 : decode cX2_enjoys 5 = .ok (.iconst 1, 1) := by decide +kernel
theorem dX2_enjoys_6 : decode cX2_enjoys 6 = .ok (.isub, 1) := by decide +kernel
theorem dX2_enjoys_7 : decode cX2_enjoys 7 = .ok (.ireturn, 1) := by decide +kernel
theorem dX2_isStruck_0 : decode cX2_isStruck 0 = .ok (.aload_n 0, 1) := by decide +kernel
theorem dX2_isStruck_1 : decode cX2_isStruck 1 = .ok (.iload_n 1, 1) := by decide +kernel
theorem dX2_isStruck_2 : decode cX2_isStruck 2 = .ok (.invokespecial 15, 3) := by decide +kernel
theorem dX2_isStruck_5 : decode cX2_isStruck 5 = .ok (.iload_n 1, 1) := by decide +kernel
theorem dX2_isStruck_6 : decode cX2_isStruck 6 = .ok (.iconst 2, 1) := by decide +kernel
theorem dX2_isStruck_7 : decode cX2_isStruck 7 = .ok (.idiv, 1) := by decide +kernel
theorem dX2_isStruck_8 : decode cX2_isStruck 8 = .ok (.iadd, 1) := by decide +kernel
theorem dX2_isStruck_9 : decode cX2_isStruck 9 = .ok (.ireturn, 1) := by decide +kernel
theorem dX2_passesOn_0 : decode cX2_passesOn 0 = .ok (.iload_n 1, 1) := by decide +kernel
theorem dX2_passesOn_1 : decode cX2_passesOn 1 = .ok (.iconst 2, 1) := by decide +kernel
theorem dX2_passesOn_2 : decode cX2_passesOn 2 = .ok (.if_icmp .lt 7, 3) := by decide +kernel
theorem dX2_passesOn_5 : decode cX2_passesOn 5 = .ok (.iload_n 2, 1) := by decide +kernel
theorem dX2_passesOn_6 : decode cX2_passesOn 6 = .ok (.goto 4, 3) := by decide +kernel
theorem dX2_passesOn_9 : decode cX2_passesOn 9 = .ok (.iconst (-1), 1) := by decide +kernel
theorem dX2_passesOn_10 : decode cX2_passesOn 10 = .ok (.ireturn, 1) := by decide +kernel
theorem dX3_init_0 : decode cX3_init 0 = .ok (.aload_n 0, 1) := by decide +kernel
theorem dX3_init_1 : decode cX3_init 1 = .ok (.invokespecial 1, 3) := by decide +kernel
theorem dX3_init_4 : decode cX3_init 4 = .ok (.return_, 1) := by decide +kernel
theorem dX3_opens_0 : decode cX3_opens 0 = .ok (.iload_n 2, 1) := by decide +kernel
theorem dX3_opens_1 : decode cX3_opens 1 = .ok (.ireturn, 1) := by decide +kernel
theorem dX3_enjoys_0 : decode cX3_enjoys 0 = .ok (.iconst 0, 1) := by decide +kernel
theorem dX3_enjoys_1 : decode cX3_enjoys 1 = .ok (.ireturn, 1) := by decide +kernel
theorem dX3_isStruck_0 : decode cX3_isStruck 0 = .ok (.aload_n 0, 1) := by decide +kernel
theorem dX3_isStruck_1 : decode cX3_isStruck 1 = .ok (.iload_n 1, 1) := by decide +kernel
theorem dX3_isStruck_2 : decode cX3_isStruck 2 = .ok (.invokespecial 7, 3) := by decide +kernel
theorem dX3_isStruck_5 : decode cX3_isStruck 5 = .ok (.bipush 10, 2) := by decide +kernel
theorem dX3_isStruck_7 : decode cX3_isStruck 7 = .ok (.iadd, 1) := by decide +kernel
theorem dX3_isStruck_8 : decode cX3_isStruck 8 = .ok (.ireturn, 1) := by decide +kernel
theorem dX4_init_0 : decode cX4_init 0 = .ok (.aload_n 0, 1) := by decide +kernel
theorem dX4_init_1 : decode cX4_init 1 = .ok (.invokespecial 1, 3) := by decide +kernel
theorem dX4_init_4 : decode cX4_init 4 = .ok (.return_, 1) := by decide +kernel
theorem dX4_opens_0 : decode cX4_opens 0 = .ok (.iconst 1, 1) := by decide +kernel
theorem dX4_opens_1 : decode cX4_opens 1 = .ok (.ireturn, 1) := by decide +kernel
theorem dX4_enjoys_0 : decode cX4_enjoys 0 = .ok (.iload_n 1, 1) := by decide +kernel
theorem dX4_enjoys_1 : decode cX4_enjoys 1 = .ok (.iconst 1, 1) := by decide +kernel
theorem dX4_enjoys_2 : decode cX4_enjoys 2 = .ok (.iadd, 1) := by decide +kernel
theorem dX4_enjoys_3 : decode cX4_enjoys 3 = .ok (.ireturn, 1) := by decide +kernel
theorem dX4_isStruck_0 : decode cX4_isStruck 0 = .ok (.iload_n 1, 1) := by decide +kernel
theorem dX4_isStruck_1 : decode cX4_isStruck 1 = .ok (.ireturn, 1) := by decide +kernel
theorem dX4_passesOn_0 : decode cX4_passesOn 0 = .ok (.iload_n 1, 1) := by decide +kernel
theorem dX4_passesOn_1 : decode cX4_passesOn 1 = .ok (.iconst 4, 1) := by decide +kernel
theorem dX4_passesOn_2 : decode cX4_passesOn 2 = .ok (.if_icmp .lt 7, 3) := by decide +kernel
theorem dX4_passesOn_5 : decode cX4_passesOn 5 = .ok (.iload_n 2, 1) := by decide +kernel
theorem dX4_passesOn_6 : decode cX4_passesOn 6 = .ok (.goto 4, 3) := by decide +kernel
theorem dX4_passesOn_9 : decode cX4_passesOn 9 = .ok (.iconst (-1), 1) := by decide +kernel
theorem dX4_passesOn_10 : decode cX4_passesOn 10 = .ok (.ireturn, 1) := by decide +kernel
theorem dX5_init_0 : decode cX5_init 0 = .ok (.aload_n 0, 1) := by decide +kernel
theorem dX5_init_1 : decode cX5_init 1 = .ok (.invokespecial 3, 3) := by decide +kernel
theorem dX5_init_4 : decode cX5_init 4 = .ok (.return_, 1) := by decide +kernel
theorem dX5_become_0 : decode cX5_become 0 = .ok (.aload_n 0, 1) := by decide +kernel
theorem dX5_become_1 : decode cX5_become 1 = .ok (.aload_n 1, 1) := by decide +kernel
theorem dX5_become_2 : decode cX5_become 2 = .ok (.getfield 9, 3) := by decide +kernel
theorem dX5_become_5 : decode cX5_become 5 = .ok (.putfield 9, 3) := by decide +kernel
theorem dX5_become_8 : decode cX5_become 8 = .ok (.aload_n 0, 1) := by decide +kernel
theorem dX5_become_9 : decode cX5_become 9 = .ok (.aload_n 1, 1) := by decide +kernel
theorem dX5_become_10 : decode cX5_become 10 = .ok (.getfield 15, 3) := by decide +kernel
theorem dX5_become_13 : decode cX5_become 13 = .ok (.putfield 15, 3) := by decide +kernel
theorem dX5_become_16 : decode cX5_become 16 = .ok (.return_, 1) := by decide +kernel
theorem dX5_pleaseBy_0 : decode cX5_pleaseBy 0 = .ok (.aload_n 0, 1) := by decide +kernel
theorem dX5_pleaseBy_1 : decode cX5_pleaseBy 1 = .ok (.sipush 9999, 3) := by decide +kernel
theorem dX5_pleaseBy_4 : decode cX5_pleaseBy 4 = .ok (.aload_n 0, 1) := by decide +kernel
theorem dX5_pleaseBy_5 : decode cX5_pleaseBy 5 = .ok (.getfield 15, 3) := by decide +kernel
theorem dX5_pleaseBy_8 : decode cX5_pleaseBy 8 = .ok (.iload_n 1, 1) := by decide +kernel
theorem dX5_pleaseBy_9 : decode cX5_pleaseBy 9 = .ok (.iadd, 1) := by decide +kernel
theorem dX5_pleaseBy_10 : decode cX5_pleaseBy 10 = .ok (.invokestatic 18, 3) := by decide +kernel
theorem dX5_pleaseBy_13 : decode cX5_pleaseBy 13 = .ok (.putfield 15, 3) := by decide +kernel
theorem dX5_pleaseBy_16 : decode cX5_pleaseBy 16 = .ok (.return_, 1) := by decide +kernel
theorem dX6_init_0 : decode cX6_init 0 = .ok (.aload_n 0, 1) := by decide +kernel
theorem dX6_init_1 : decode cX6_init 1 = .ok (.invokespecial 3, 3) := by decide +kernel
theorem dX6_init_4 : decode cX6_init 4 = .ok (.return_, 1) := by decide +kernel
theorem dX6_opens_0 : decode cX6_opens 0 = .ok (.iload_n 3, 1) := by decide +kernel
theorem dX6_opens_1 : decode cX6_opens 1 = .ok (.iconst 3, 1) := by decide +kernel
theorem dX6_opens_2 : decode cX6_opens 2 = .ok (.if_icmp .ne 7, 3) := by decide +kernel
theorem dX6_opens_5 : decode cX6_opens 5 = .ok (.iconst 0, 1) := by decide +kernel
theorem dX6_opens_6 : decode cX6_opens 6 = .ok (.goto 10, 3) := by decide +kernel
theorem dX6_opens_9 : decode cX6_opens 9 = .ok (.aload_n 0, 1) := by decide +kernel
theorem dX6_opens_10 : decode cX6_opens 10 = .ok (.iload_n 1, 1) := by decide +kernel
theorem dX6_opens_11 : decode cX6_opens 11 = .ok (.iload_n 2, 1) := by decide +kernel
theorem dX6_opens_12 : decode cX6_opens 12 = .ok (.iload_n 3, 1) := by decide +kernel
theorem dX6_opens_13 : decode cX6_opens 13 = .ok (.invokespecial 9, 3) := by decide +kernel
theorem dX6_opens_16 : decode cX6_opens 16 = .ok (.ireturn, 1) := by decide +kernel
theorem dX6_enjoys_0 : decode cX6_enjoys 0 = .ok (.iload_n 1, 1) := by decide +kernel
theorem dX6_enjoys_1 : decode cX6_enjoys 1 = .ok (.ifCond .ne 8, 3) := by decide +kernel
theorem dX6_enjoys_4 : decode cX6_enjoys 4 = .ok (.bipush 6, 2) := by decide +kernel
theorem dX6_enjoys_6 : decode cX6_enjoys 6 = .ok (.goto 8, 3) := by decide +kernel
theorem dX6_enjoys_9 : decode cX6_enjoys 9 = .ok (.aload_n 0, 1) := by decide +kernel
theorem dX6_enjoys_10 : decode cX6_enjoys 10 = .ok (.iload_n 1, 1) := by decide +kernel
theorem dX6_enjoys_11 : decode cX6_enjoys 11 = .ok (.invokespecial 13, 3) := by decide +kernel
theorem dX6_enjoys_14 : decode cX6_enjoys 14 = .ok (.ireturn, 1) := by decide +kernel
theorem dX6_passesOn_0 : decode cX6_passesOn 0 = .ok (.iload_n 1, 1) := by decide +kernel
theorem dX6_passesOn_1 : decode cX6_passesOn 1 = .ok (.iconst 1, 1) := by decide +kernel
theorem dX6_passesOn_2 : decode cX6_passesOn 2 = .ok (.if_icmp .lt 12, 3) := by decide +kernel
theorem dX6_passesOn_5 : decode cX6_passesOn 5 = .ok (.iload_n 1, 1) := by decide +kernel
theorem dX6_passesOn_6 : decode cX6_passesOn 6 = .ok (.iconst 3, 1) := by decide +kernel
theorem dX6_passesOn_7 : decode cX6_passesOn 7 = .ok (.if_icmp .gt 7, 3) := by decide +kernel
theorem dX6_passesOn_10 : decode cX6_passesOn 10 = .ok (.iconst 0, 1) := by decide +kernel
theorem dX6_passesOn_11 : decode cX6_passesOn 11 = .ok (.goto 4, 3) := by decide +kernel
theorem dX6_passesOn_14 : decode cX6_passesOn 14 = .ok (.iconst (-1), 1) := by decide +kernel
theorem dX6_passesOn_15 : decode cX6_passesOn 15 = .ok (.ireturn, 1) := by decide +kernel
theorem dX7_init_0 : decode cX7_init 0 = .ok (.aload_n 0, 1) := by decide +kernel
theorem dX7_init_1 : decode cX7_init 1 = .ok (.invokespecial 3, 3) := by decide +kernel
theorem dX7_init_4 : decode cX7_init 4 = .ok (.aload_n 0, 1) := by decide +kernel
theorem dX7_init_5 : decode cX7_init 5 = .ok (.bipush 6, 2) := by decide +kernel
theorem dX7_init_7 : decode cX7_init 7 = .ok (.newarray .int, 2) := by decide +kernel
theorem dX7_init_9 : decode cX7_init 9 = .ok (.putfield 9, 3) := by decide +kernel
theorem dX7_init_12 : decode cX7_init 12 = .ok (.return_, 1) := by decide +kernel
theorem dX7_begin_0 : decode cX7_begin 0 = .ok (.aload_n 0, 1) := by decide +kernel
theorem dX7_begin_1 : decode cX7_begin 1 = .ok (.iconst 0, 1) := by decide +kernel
theorem dX7_begin_2 : decode cX7_begin 2 = .ok (.putfield 15, 3) := by decide +kernel
theorem dX7_begin_5 : decode cX7_begin 5 = .ok (.aload_n 0, 1) := by decide +kernel
theorem dX7_begin_6 : decode cX7_begin 6 = .ok (.iload_n 2, 1) := by decide +kernel
theorem dX7_begin_7 : decode cX7_begin 7 = .ok (.putfield 19, 3) := by decide +kernel
theorem dX7_begin_10 : decode cX7_begin 10 = .ok (.aload_n 0, 1) := by decide +kernel
theorem dX7_begin_11 : decode cX7_begin 11 = .ok (.iload_n 1, 1) := by decide +kernel
theorem dX7_begin_12 : decode cX7_begin 12 = .ok (.putfield 22, 3) := by decide +kernel
theorem dX7_begin_15 : decode cX7_begin 15 = .ok (.aload_n 0, 1) := by decide +kernel
theorem dX7_begin_16 : decode cX7_begin 16 = .ok (.iconst 0, 1) := by decide +kernel
theorem dX7_begin_17 : decode cX7_begin 17 = .ok (.putfield 25, 3) := by decide +kernel
theorem dX7_begin_20 : decode cX7_begin 20 = .ok (.return_, 1) := by decide +kernel
theorem dX7_become_0 : decode cX7_become 0 = .ok (.iconst 0, 1) := by decide +kernel
theorem dX7_become_1 : decode cX7_become 1 = .ok (.istore_n 2, 1) := by decide +kernel
theorem dX7_become_2 : decode cX7_become 2 = .ok (.iload_n 2, 1) := by decide +kernel
theorem dX7_become_3 : decode cX7_become 3 = .ok (.aload_n 1, 1) := by decide +kernel
theorem dX7_become_4 : decode cX7_become 4 = .ok (.getfield 15, 3) := by decide +kernel
theorem dX7_become_7 : decode cX7_become 7 = .ok (.if_icmp .ge 21, 3) := by decide +kernel
theorem dX7_become_10 : decode cX7_become 10 = .ok (.aload_n 0, 1) := by decide +kernel
theorem dX7_become_11 : decode cX7_become 11 = .ok (.getfield 9, 3) := by decide +kernel
theorem dX7_become_14 : decode cX7_become 14 = .ok (.iload_n 2, 1) := by decide +kernel
theorem dX7_become_15 : decode cX7_become 15 = .ok (.aload_n 1, 1) := by decide +kernel
theorem dX7_become_16 : decode cX7_become 16 = .ok (.getfield 9, 3) := by decide +kernel
theorem dX7_become_19 : decode cX7_become 19 = .ok (.iload_n 2, 1) := by decide +kernel
theorem dX7_become_20 : decode cX7_become 20 = .ok (.iaload, 1) := by decide +kernel
theorem dX7_become_21 : decode cX7_become 21 = .ok (.iastore, 1) := by decide +kernel
theorem dX7_become_22 : decode cX7_become 22 = .ok (.iinc 2 1, 3) := by decide +kernel
theorem dX7_become_25 : decode cX7_become 25 = .ok (.goto (-23), 3) := by decide +kernel
theorem dX7_become_28 : decode cX7_become 28 = .ok (.aload_n 0, 1) := by decide +kernel
theorem dX7_become_29 : decode cX7_become 29 = .ok (.aload_n 1, 1) := by decide +kernel
theorem dX7_become_30 : decode cX7_become 30 = .ok (.getfield 15, 3) := by decide +kernel
theorem dX7_become_33 : decode cX7_become 33 = .ok (.putfield 15, 3) := by decide +kernel
theorem dX7_become_36 : decode cX7_become 36 = .ok (.aload_n 0, 1) := by decide +kernel
theorem dX7_become_37 : decode cX7_become 37 = .ok (.aload_n 1, 1) := by decide +kernel
theorem dX7_become_38 : decode cX7_become 38 = .ok (.getfield 19, 3) := by decide +kernel
theorem dX7_become_41 : decode cX7_become 41 = .ok (.putfield 19, 3) := by decide +kernel
theorem dX7_become_44 : decode cX7_become 44 = .ok (.aload_n 0, 1) := by decide +kernel
theorem dX7_become_45 : decode cX7_become 45 = .ok (.aload_n 1, 1) := by decide +kernel
theorem dX7_become_46 : decode cX7_become 46 = .ok (.getfield 22, 3) := by decide +kernel
theorem dX7_become_49 : decode cX7_become 49 = .ok (.putfield 22, 3) := by decide +kernel
theorem dX7_become_52 : decode cX7_become 52 = .ok (.aload_n 0, 1) := by decide +kernel
theorem dX7_become_53 : decode cX7_become 53 = .ok (.aload_n 1, 1) := by decide +kernel
theorem dX7_become_54 : decode cX7_become 54 = .ok (.getfield 25, 3) := by decide +kernel
theorem dX7_become_57 : decode cX7_become 57 = .ok (.putfield 25, 3) := by decide +kernel
theorem dX7_become_60 : decode cX7_become 60 = .ok (.return_, 1) := by decide +kernel
theorem dX7_tells_0 : decode cX7_tells 0 = .ok (.iload_n 1, 1) := by decide +kernel
theorem dX7_tells_1 : decode cX7_tells 1 = .ok (.tableswitch 42 0 2 #[27, 32, 37], 27) := by decide +kernel
theorem dX7_tells_28 : decode cX7_tells 28 = .ok (.aload_n 0, 1) := by decide +kernel
theorem dX7_tells_29 : decode cX7_tells 29 = .ok (.getfield 15, 3) := by decide +kernel
theorem dX7_tells_32 : decode cX7_tells 32 = .ok (.ireturn, 1) := by decide +kernel
theorem dX7_tells_33 : decode cX7_tells 33 = .ok (.aload_n 0, 1) := by decide +kernel
theorem dX7_tells_34 : decode cX7_tells 34 = .ok (.getfield 19, 3) := by decide +kernel
theorem dX7_tells_37 : decode cX7_tells 37 = .ok (.ireturn, 1) := by decide +kernel
theorem dX7_tells_38 : decode cX7_tells 38 = .ok (.aload_n 0, 1) := by decide +kernel
theorem dX7_tells_39 : decode cX7_tells 39 = .ok (.getfield 22, 3) := by decide +kernel
theorem dX7_tells_42 : decode cX7_tells 42 = .ok (.ireturn, 1) := by decide +kernel
theorem dX7_tells_43 : decode cX7_tells 43 = .ok (.aload_n 0, 1) := by decide +kernel
theorem dX7_tells_44 : decode cX7_tells 44 = .ok (.getfield 25, 3) := by decide +kernel
theorem dX7_tells_47 : decode cX7_tells 47 = .ok (.ifCond .eq 7, 3) := by decide +kernel
theorem dX7_tells_50 : decode cX7_tells 50 = .ok (.iconst 1, 1) := by decide +kernel
theorem dX7_tells_51 : decode cX7_tells 51 = .ok (.goto 4, 3) := by decide +kernel
theorem dX7_tells_54 : decode cX7_tells 54 = .ok (.iconst 0, 1) := by decide +kernel
theorem dX7_tells_55 : decode cX7_tells 55 = .ok (.ireturn, 1) := by decide +kernel
theorem dX7_paperAt_0 : decode cX7_paperAt 0 = .ok (.iload_n 1, 1) := by decide +kernel
theorem dX7_paperAt_1 : decode cX7_paperAt 1 = .ok (.ifCond .lt 27, 3) := by decide +kernel
theorem dX7_paperAt_4 : decode cX7_paperAt 4 = .ok (.iload_n 1, 1) := by decide +kernel
theorem dX7_paperAt_5 : decode cX7_paperAt 5 = .ok (.aload_n 0, 1) := by decide +kernel
theorem dX7_paperAt_6 : decode cX7_paperAt 6 = .ok (.getfield 15, 3) := by decide +kernel
theorem dX7_paperAt_9 : decode cX7_paperAt 9 = .ok (.if_icmp .ge 19, 3) := by decide +kernel
theorem dX7_paperAt_12 : decode cX7_paperAt 12 = .ok (.aload_n 0, 1) := by decide +kernel
theorem dX7_paperAt_13 : decode cX7_paperAt 13 = .ok (.getfield 9, 3) := by decide +kernel
theorem dX7_paperAt_16 : decode cX7_paperAt 16 = .ok (.aload_n 0, 1) := by decide +kernel
theorem dX7_paperAt_17 : decode cX7_paperAt 17 = .ok (.getfield 15, 3) := by decide +kernel
theorem dX7_paperAt_20 : decode cX7_paperAt 20 = .ok (.iconst 1, 1) := by decide +kernel
theorem dX7_paperAt_21 : decode cX7_paperAt 21 = .ok (.isub, 1) := by decide +kernel
theorem dX7_paperAt_22 : decode cX7_paperAt 22 = .ok (.iload_n 1, 1) := by decide +kernel
theorem dX7_paperAt_23 : decode cX7_paperAt 23 = .ok (.isub, 1) := by decide +kernel
theorem dX7_paperAt_24 : decode cX7_paperAt 24 = .ok (.iaload, 1) := by decide +kernel
theorem dX7_paperAt_25 : decode cX7_paperAt 25 = .ok (.goto 4, 3) := by decide +kernel
theorem dX7_paperAt_28 : decode cX7_paperAt 28 = .ok (.iconst (-1), 1) := by decide +kernel
theorem dX7_paperAt_29 : decode cX7_paperAt 29 = .ok (.ireturn, 1) := by decide +kernel
theorem dX7_outermost_0 : decode cX7_outermost 0 = .ok (.aload_n 0, 1) := by decide +kernel
theorem dX7_outermost_1 : decode cX7_outermost 1 = .ok (.iconst 0, 1) := by decide +kernel
theorem dX7_outermost_2 : decode cX7_outermost 2 = .ok (.invokevirtual 29, 3) := by decide +kernel
theorem dX7_outermost_5 : decode cX7_outermost 5 = .ok (.ireturn, 1) := by decide +kernel
theorem dX7_layAbout_0 : decode cX7_layAbout 0 = .ok (.aload_n 0, 1) := by decide +kernel
theorem dX7_layAbout_1 : decode cX7_layAbout 1 = .ok (.getfield 15, 3) := by decide +kernel
theorem dX7_layAbout_4 : decode cX7_layAbout 4 = .ok (.bipush 6, 2) := by decide +kernel
theorem dX7_layAbout_6 : decode cX7_layAbout 6 = .ok (.if_icmp .ge 23, 3) := by decide +kernel
theorem dX7_layAbout_9 : decode cX7_layAbout 9 = .ok (.aload_n 0, 1) := by decide +kernel
theorem dX7_layAbout_10 : decode cX7_layAbout 10 = .ok (.getfield 9, 3) := by decide +kernel
theorem dX7_layAbout_13 : decode cX7_layAbout 13 = .ok (.aload_n 0, 1) := by decide +kernel
theorem dX7_layAbout_14 : decode cX7_layAbout 14 = .ok (.getfield 15, 3) := by decide +kernel
theorem dX7_layAbout_17 : decode cX7_layAbout 17 = .ok (.iload_n 1, 1) := by decide +kernel
theorem dX7_layAbout_18 : decode cX7_layAbout 18 = .ok (.iastore, 1) := by decide +kernel
theorem dX7_layAbout_19 : decode cX7_layAbout 19 = .ok (.aload_n 0, 1) := by decide +kernel
theorem dX7_layAbout_20 : decode cX7_layAbout 20 = .ok (.dup, 1) := by decide +kernel
theorem dX7_layAbout_21 : decode cX7_layAbout 21 = .ok (.getfield 15, 3) := by decide +kernel
theorem dX7_layAbout_24 : decode cX7_layAbout 24 = .ok (.iconst 1, 1) := by decide +kernel
theorem dX7_layAbout_25 : decode cX7_layAbout 25 = .ok (.iadd, 1) := by decide +kernel
theorem dX7_layAbout_26 : decode cX7_layAbout 26 = .ok (.putfield 15, 3) := by decide +kernel
theorem dX7_layAbout_29 : decode cX7_layAbout 29 = .ok (.return_, 1) := by decide +kernel
theorem dX7_layInnermost_0 : decode cX7_layInnermost 0 = .ok (.aload_n 0, 1) := by decide +kernel
theorem dX7_layInnermost_1 : decode cX7_layInnermost 1 = .ok (.getfield 15, 3) := by decide +kernel
theorem dX7_layInnermost_4 : decode cX7_layInnermost 4 = .ok (.bipush 6, 2) := by decide +kernel
theorem dX7_layInnermost_6 : decode cX7_layInnermost 6 = .ok (.if_icmp .ge 49, 3) := by decide +kernel
theorem dX7_layInnermost_9 : decode cX7_layInnermost 9 = .ok (.aload_n 0, 1) := by decide +kernel
theorem dX7_layInnermost_10 : decode cX7_layInnermost 10 = .ok (.getfield 15, 3) := by decide +kernel
theorem dX7_layInnermost_13 : decode cX7_layInnermost 13 = .ok (.istore_n 2, 1) := by decide +kernel
theorem dX7_layInnermost_14 : decode cX7_layInnermost 14 = .ok (.iload_n 2, 1) := by decide +kernel
theorem dX7_layInnermost_15 : decode cX7_layInnermost 15 = .ok (.ifCond .le 23, 3) := by decide +kernel
theorem dX7_layInnermost_18 : decode cX7_layInnermost 18 = .ok (.aload_n 0, 1) := by decide +kernel
theorem dX7_layInnermost_19 : decode cX7_layInnermost 19 = .ok (.getfield 9, 3) := by decide +kernel
theorem dX7_layInnermost_22 : decode cX7_layInnermost 22 = .ok (.iload_n 2, 1) := by decide +kernel
theorem dX7_layInnermost_23 : decode cX7_layInnermost 23 = .ok (.aload_n 0, 1) := by decide +kernel
theorem dX7_layInnermost_24 : decode cX7_layInnermost 24 = .ok (.getfield 9, 3) := by decide +kernel
theorem dX7_layInnermost_27 : decode cX7_layInnermost 27 = .ok (.iload_n 2, 1) := by decide +kernel
theorem dX7_layInnermost_28 : decode cX7_layInnermost 28 = .ok (.iconst 1, 1) := by decide +kernel
theorem dX7_layInnermost_29 : decode cX7_layInnermost 29 = .ok (.isub, 1) := by decide +kernel
theorem dX7_layInnermost_30 : decode cX7_layInnermost 30 = .ok (.iaload, 1) := by decide +kernel
theorem dX7_layInnermost_31 : decode cX7_layInnermost 31 = .ok (.iastore, 1) := by decide +kernel
theorem dX7_layInnermost_32 : decode cX7_layInnermost 32 = .ok (.iinc 2 (-1), 3) := by decide +kernel
theorem dX7_layInnermost_35 : decode cX7_layInnermost 35 = .ok (.goto (-21), 3) := by decide +kernel
theorem dX7_layInnermost_38 : decode cX7_layInnermost 38 = .ok (.aload_n 0, 1) := by decide +kernel
theorem dX7_layInnermost_39 : decode cX7_layInnermost 39 = .ok (.getfield 9, 3) := by decide +kernel
theorem dX7_layInnermost_42 : decode cX7_layInnermost 42 = .ok (.iconst 0, 1) := by decide +kernel
theorem dX7_layInnermost_43 : decode cX7_layInnermost 43 = .ok (.iload_n 1, 1) := by decide +kernel
theorem dX7_layInnermost_44 : decode cX7_layInnermost 44 = .ok (.iastore, 1) := by decide +kernel
theorem dX7_layInnermost_45 : decode cX7_layInnermost 45 = .ok (.aload_n 0, 1) := by decide +kernel
theorem dX7_layInnermost_46 : decode cX7_layInnermost 46 = .ok (.dup, 1) := by decide +kernel
theorem dX7_layInnermost_47 : decode cX7_layInnermost 47 = .ok (.getfield 15, 3) := by decide +kernel
theorem dX7_layInnermost_50 : decode cX7_layInnermost 50 = .ok (.iconst 1, 1) := by decide +kernel
theorem dX7_layInnermost_51 : decode cX7_layInnermost 51 = .ok (.iadd, 1) := by decide +kernel
theorem dX7_layInnermost_52 : decode cX7_layInnermost 52 = .ok (.putfield 15, 3) := by decide +kernel
theorem dX7_layInnermost_55 : decode cX7_layInnermost 55 = .ok (.return_, 1) := by decide +kernel
theorem dX7_layAnew_0 : decode cX7_layAnew 0 = .ok (.aload_n 0, 1) := by decide +kernel
theorem dX7_layAnew_1 : decode cX7_layAnew 1 = .ok (.iconst 0, 1) := by decide +kernel
theorem dX7_layAnew_2 : decode cX7_layAnew 2 = .ok (.putfield 15, 3) := by decide +kernel
theorem dX7_layAnew_5 : decode cX7_layAnew 5 = .ok (.iconst 0, 1) := by decide +kernel
theorem dX7_layAnew_6 : decode cX7_layAnew 6 = .ok (.istore_n 3, 1) := by decide +kernel
theorem dX7_layAnew_7 : decode cX7_layAnew 7 = .ok (.iload_n 3, 1) := by decide +kernel
theorem dX7_layAnew_8 : decode cX7_layAnew 8 = .ok (.iload_n 2, 1) := by decide +kernel
theorem dX7_layAnew_9 : decode cX7_layAnew 9 = .ok (.if_icmp .ge 22, 3) := by decide +kernel
theorem dX7_layAnew_12 : decode cX7_layAnew 12 = .ok (.iload_n 3, 1) := by decide +kernel
theorem dX7_layAnew_13 : decode cX7_layAnew 13 = .ok (.aload_n 1, 1) := by decide +kernel
theorem dX7_layAnew_14 : decode cX7_layAnew 14 = .ok (.arraylength, 1) := by decide +kernel
theorem dX7_layAnew_15 : decode cX7_layAnew 15 = .ok (.if_icmp .ge 16, 3) := by decide +kernel
theorem dX7_layAnew_18 : decode cX7_layAnew 18 = .ok (.aload_n 0, 1) := by decide +kernel
theorem dX7_layAnew_19 : decode cX7_layAnew 19 = .ok (.aload_n 1, 1) := by decide +kernel
theorem dX7_layAnew_20 : decode cX7_layAnew 20 = .ok (.iload_n 3, 1) := by decide +kernel
theorem dX7_layAnew_21 : decode cX7_layAnew 21 = .ok (.iaload, 1) := by decide +kernel
theorem dX7_layAnew_22 : decode cX7_layAnew 22 = .ok (.invokevirtual 33, 3) := by decide +kernel
theorem dX7_layAnew_25 : decode cX7_layAnew 25 = .ok (.iinc 3 1, 3) := by decide +kernel
theorem dX7_layAnew_28 : decode cX7_layAnew 28 = .ok (.goto (-21), 3) := by decide +kernel
theorem dX7_layAnew_31 : decode cX7_layAnew 31 = .ok (.return_, 1) := by decide +kernel
theorem dX7_takeOff_0 : decode cX7_takeOff 0 = .ok (.aload_n 0, 1) := by decide +kernel
theorem dX7_takeOff_1 : decode cX7_takeOff 1 = .ok (.invokevirtual 37, 3) := by decide +kernel
theorem dX7_takeOff_4 : decode cX7_takeOff 4 = .ok (.istore_n 1, 1) := by decide +kernel
theorem dX7_takeOff_5 : decode cX7_takeOff 5 = .ok (.aload_n 0, 1) := by decide +kernel
theorem dX7_takeOff_6 : decode cX7_takeOff 6 = .ok (.getfield 15, 3) := by decide +kernel
theorem dX7_takeOff_9 : decode cX7_takeOff 9 = .ok (.ifCond .le 13, 3) := by decide +kernel
theorem dX7_takeOff_12 : decode cX7_takeOff 12 = .ok (.aload_n 0, 1) := by decide +kernel
theorem dX7_takeOff_13 : decode cX7_takeOff 13 = .ok (.dup, 1) := by decide +kernel
theorem dX7_takeOff_14 : decode cX7_takeOff 14 = .ok (.getfield 15, 3) := by decide +kernel
theorem dX7_takeOff_17 : decode cX7_takeOff 17 = .ok (.iconst 1, 1) := by decide +kernel
theorem dX7_takeOff_18 : decode cX7_takeOff 18 = .ok (.isub, 1) := by decide +kernel
theorem dX7_takeOff_19 : decode cX7_takeOff 19 = .ok (.putfield 15, 3) := by decide +kernel
theorem dX7_takeOff_22 : decode cX7_takeOff 22 = .ok (.iload_n 1, 1) := by decide +kernel
theorem dX7_takeOff_23 : decode cX7_takeOff 23 = .ok (.ireturn, 1) := by decide +kernel
theorem dX8_init_0 : decode cX8_init 0 = .ok (.aload_n 0, 1) := by decide +kernel
theorem dX8_init_1 : decode cX8_init 1 = .ok (.invokespecial 3, 3) := by decide +kernel
theorem dX8_init_4 : decode cX8_init 4 = .ok (.aload_n 0, 1) := by decide +kernel
theorem dX8_init_5 : decode cX8_init 5 = .ok (.bipush 40, 2) := by decide +kernel
theorem dX8_init_7 : decode cX8_init 7 = .ok (.newarray .long, 2) := by decide +kernel
theorem dX8_init_9 : decode cX8_init 9 = .ok (.putfield 9, 3) := by decide +kernel
theorem dX8_init_12 : decode cX8_init 12 = .ok (.return_, 1) := by decide +kernel
theorem dX8_begin_0 : decode cX8_begin 0 = .ok (.aload_n 0, 1) := by decide +kernel
theorem dX8_begin_1 : decode cX8_begin 1 = .ok (.iload_n 1, 1) := by decide +kernel
theorem dX8_begin_2 : decode cX8_begin 2 = .ok (.putfield 15, 3) := by decide +kernel
theorem dX8_begin_5 : decode cX8_begin 5 = .ok (.aload_n 0, 1) := by decide +kernel
theorem dX8_begin_6 : decode cX8_begin 6 = .ok (.iload_n 2, 1) := by decide +kernel
theorem dX8_begin_7 : decode cX8_begin 7 = .ok (.putfield 19, 3) := by decide +kernel
theorem dX8_begin_10 : decode cX8_begin 10 = .ok (.iconst 0, 1) := by decide +kernel
theorem dX8_begin_11 : decode cX8_begin 11 = .ok (.istore_n 3, 1) := by decide +kernel
theorem dX8_begin_12 : decode cX8_begin 12 = .ok (.iload_n 3, 1) := by decide +kernel
theorem dX8_begin_13 : decode cX8_begin 13 = .ok (.bipush 40, 2) := by decide +kernel
theorem dX8_begin_15 : decode cX8_begin 15 = .ok (.if_icmp .ge 16, 3) := by decide +kernel
theorem dX8_begin_18 : decode cX8_begin 18 = .ok (.aload_n 0, 1) := by decide +kernel
theorem dX8_begin_19 : decode cX8_begin 19 = .ok (.getfield 9, 3) := by decide +kernel
theorem dX8_begin_22 : decode cX8_begin 22 = .ok (.iload_n 3, 1) := by decide +kernel
theorem dX8_begin_23 : decode cX8_begin 23 = .ok (.lconst 0, 1) := by decide +kernel
theorem dX8_begin_24 : decode cX8_begin 24 = .ok (.lastore, 1) := by decide +kernel
theorem dX8_begin_25 : decode cX8_begin 25 = .ok (.iinc 3 1, 3) := by decide +kernel
theorem dX8_begin_28 : decode cX8_begin 28 = .ok (.goto (-16), 3) := by decide +kernel
theorem dX8_begin_31 : decode cX8_begin 31 = .ok (.return_, 1) := by decide +kernel
theorem dX8_isMissing_0 : decode cX8_isMissing 0 = .ok (.aload_n 0, 1) := by decide +kernel
theorem dX8_isMissing_1 : decode cX8_isMissing 1 = .ok (.getfield 15, 3) := by decide +kernel
theorem dX8_isMissing_4 : decode cX8_isMissing 4 = .ok (.ifCond .ne 7, 3) := by decide +kernel
theorem dX8_isMissing_7 : decode cX8_isMissing 7 = .ok (.iconst 1, 1) := by decide +kernel
theorem dX8_isMissing_8 : decode cX8_isMissing 8 = .ok (.goto 4, 3) := by decide +kernel
theorem dX8_isMissing_11 : decode cX8_isMissing 11 = .ok (.iconst 0, 1) := by decide +kernel
theorem dX8_isMissing_12 : decode cX8_isMissing 12 = .ok (.ireturn, 1) := by decide +kernel
theorem dX8_holds_0 : decode cX8_holds 0 = .ok (.iload_n 1, 1) := by decide +kernel
theorem dX8_holds_1 : decode cX8_holds 1 = .ok (.ifCond .lt 29, 3) := by decide +kernel
theorem dX8_holds_4 : decode cX8_holds 4 = .ok (.iload_n 2, 1) := by decide +kernel
theorem dX8_holds_5 : decode cX8_holds 5 = .ok (.ifCond .lt 25, 3) := by decide +kernel
theorem dX8_holds_8 : decode cX8_holds 8 = .ok (.iload_n 2, 1) := by decide +kernel
theorem dX8_holds_9 : decode cX8_holds 9 = .ok (.aload_n 0, 1) := by decide +kernel
theorem dX8_holds_10 : decode cX8_holds 10 = .ok (.getfield 19, 3) := by decide +kernel
theorem dX8_holds_13 : decode cX8_holds 13 = .ok (.if_icmp .gt 17, 3) := by decide +kernel
theorem dX8_holds_16 : decode cX8_holds 16 = .ok (.iload_n 1, 1) := by decide +kernel
theorem dX8_holds_17 : decode cX8_holds 17 = .ok (.aload_n 0, 1) := by decide +kernel
theorem dX8_holds_18 : decode cX8_holds 18 = .ok (.getfield 19, 3) := by decide +kernel
theorem dX8_holds_21 : decode cX8_holds 21 = .ok (.iload_n 2, 1) := by decide +kernel
theorem dX8_holds_22 : decode cX8_holds 22 = .ok (.isub, 1) := by decide +kernel
theorem dX8_holds_23 : decode cX8_holds 23 = .ok (.if_icmp .gt 7, 3) := by decide +kernel
theorem dX8_holds_26 : decode cX8_holds 26 = .ok (.iconst 1, 1) := by decide +kernel
theorem dX8_holds_27 : decode cX8_holds 27 = .ok (.goto 4, 3) := by decide +kernel
theorem dX8_holds_30 : decode cX8_holds 30 = .ok (.iconst 0, 1) := by decide +kernel
theorem dX8_holds_31 : decode cX8_holds 31 = .ok (.ireturn, 1) := by decide +kernel
theorem dX8_put_0 : decode cX8_put 0 = .ok (.iload_n 1, 1) := by decide +kernel
theorem dX8_put_1 : decode cX8_put 1 = .ok (.ifCond .lt 11, 3) := by decide +kernel
theorem dX8_put_4 : decode cX8_put 4 = .ok (.iload_n 1, 1) := by decide +kernel
theorem dX8_put_5 : decode cX8_put 5 = .ok (.aload_n 0, 1) := by decide +kernel
theorem dX8_put_6 : decode cX8_put 6 = .ok (.getfield 19, 3) := by decide +kernel
theorem dX8_put_9 : decode cX8_put 9 = .ok (.if_icmp .lt 4, 3) := by decide +kernel
theorem dX8_put_12 : decode cX8_put 12 = .ok (.return_, 1) := by decide +kernel
theorem dX8_put_13 : decode cX8_put 13 = .ok (.aload_n 0, 1) := by decide +kernel
theorem dX8_put_14 : decode cX8_put 14 = .ok (.getfield 15, 3) := by decide +kernel
theorem dX8_put_17 : decode cX8_put 17 = .ok (.bipush 8, 2) := by decide +kernel
theorem dX8_put_19 : decode cX8_put 19 = .ok (.if_icmp .ne 16, 3) := by decide +kernel
theorem dX8_put_22 : decode cX8_put 22 = .ok (.aload_n 0, 1) := by decide +kernel
theorem dX8_put_23 : decode cX8_put 23 = .ok (.getfield 9, 3) := by decide +kernel
theorem dX8_put_26 : decode cX8_put 26 = .ok (.iload_n 1, 1) := by decide +kernel
theorem dX8_put_27 : decode cX8_put 27 = .ok (.lload_n 2, 1) := by decide +kernel
theorem dX8_put_28 : decode cX8_put 28 = .ok (.l2i, 1) := by decide +kernel
theorem dX8_put_29 : decode cX8_put 29 = .ok (.i2b, 1) := by decide +kernel
theorem dX8_put_30 : decode cX8_put 30 = .ok (.i2l, 1) := by decide +kernel
theorem dX8_put_31 : decode cX8_put 31 = .ok (.lastore, 1) := by decide +kernel
theorem dX8_put_32 : decode cX8_put 32 = .ok (.goto 32, 3) := by decide +kernel
theorem dX8_put_35 : decode cX8_put 35 = .ok (.aload_n 0, 1) := by decide +kernel
theorem dX8_put_36 : decode cX8_put 36 = .ok (.getfield 15, 3) := by decide +kernel
theorem dX8_put_39 : decode cX8_put 39 = .ok (.bipush 16, 2) := by decide +kernel
theorem dX8_put_41 : decode cX8_put 41 = .ok (.if_icmp .ne 16, 3) := by decide +kernel
theorem dX8_put_44 : decode cX8_put 44 = .ok (.aload_n 0, 1) := by decide +kernel
theorem dX8_put_45 : decode cX8_put 45 = .ok (.getfield 9, 3) := by decide +kernel
theorem dX8_put_48 : decode cX8_put 48 = .ok (.iload_n 1, 1) := by decide +kernel
theorem dX8_put_49 : decode cX8_put 49 = .ok (.lload_n 2, 1) := by decide +kernel
theorem dX8_put_50 : decode cX8_put 50 = .ok (.l2i, 1) := by decide +kernel
theorem dX8_put_51 : decode cX8_put 51 = .ok (.i2s, 1) := by decide +kernel
theorem dX8_put_52 : decode cX8_put 52 = .ok (.i2l, 1) := by decide +kernel
theorem dX8_put_53 : decode cX8_put 53 = .ok (.lastore, 1) := by decide +kernel
theorem dX8_put_54 : decode cX8_put 54 = .ok (.goto 10, 3) := by decide +kernel
theorem dX8_put_57 : decode cX8_put 57 = .ok (.aload_n 0, 1) := by decide +kernel
theorem dX8_put_58 : decode cX8_put 58 = .ok (.getfield 9, 3) := by decide +kernel
theorem dX8_put_61 : decode cX8_put 61 = .ok (.iload_n 1, 1) := by decide +kernel
theorem dX8_put_62 : decode cX8_put 62 = .ok (.lload_n 2, 1) := by decide +kernel
theorem dX8_put_63 : decode cX8_put 63 = .ok (.lastore, 1) := by decide +kernel
theorem dX8_put_64 : decode cX8_put 64 = .ok (.return_, 1) := by decide +kernel
theorem dX9_init_0 : decode cX9_init 0 = .ok (.aload_n 0, 1) := by decide +kernel
theorem dX9_init_1 : decode cX9_init 1 = .ok (.invokespecial 3, 3) := by decide +kernel
theorem dX9_init_4 : decode cX9_init 4 = .ok (.aload_n 0, 1) := by decide +kernel
theorem dX9_init_5 : decode cX9_init 5 = .ok (.bipush 120, 2) := by decide +kernel
theorem dX9_init_7 : decode cX9_init 7 = .ok (.newarray .int, 2) := by decide +kernel
theorem dX9_init_9 : decode cX9_init 9 = .ok (.putfield 9, 3) := by decide +kernel
theorem dX9_init_12 : decode cX9_init 12 = .ok (.return_, 1) := by decide +kernel
theorem dX9_add_0 : decode cX9_add 0 = .ok (.aload_n 0, 1) := by decide +kernel
theorem dX9_add_1 : decode cX9_add 1 = .ok (.getfield 15, 3) := by decide +kernel
theorem dX9_add_4 : decode cX9_add 4 = .ok (.bipush 120, 2) := by decide +kernel
theorem dX9_add_6 : decode cX9_add 6 = .ok (.if_icmp .ge 23, 3) := by decide +kernel
theorem dX9_add_9 : decode cX9_add 9 = .ok (.aload_n 0, 1) := by decide +kernel
theorem dX9_add_10 : decode cX9_add 10 = .ok (.getfield 9, 3) := by decide +kernel
theorem dX9_add_13 : decode cX9_add 13 = .ok (.aload_n 0, 1) := by decide +kernel
theorem dX9_add_14 : decode cX9_add 14 = .ok (.getfield 15, 3) := by decide +kernel
theorem dX9_add_17 : decode cX9_add 17 = .ok (.iload_n 1, 1) := by decide +kernel
theorem dX9_add_18 : decode cX9_add 18 = .ok (.iastore, 1) := by decide +kernel
theorem dX9_add_19 : decode cX9_add 19 = .ok (.aload_n 0, 1) := by decide +kernel
theorem dX9_add_20 : decode cX9_add 20 = .ok (.dup, 1) := by decide +kernel
theorem dX9_add_21 : decode cX9_add 21 = .ok (.getfield 15, 3) := by decide +kernel
theorem dX9_add_24 : decode cX9_add 24 = .ok (.iconst 1, 1) := by decide +kernel
theorem dX9_add_25 : decode cX9_add 25 = .ok (.iadd, 1) := by decide +kernel
theorem dX9_add_26 : decode cX9_add 26 = .ok (.putfield 15, 3) := by decide +kernel
theorem dX9_add_29 : decode cX9_add 29 = .ok (.return_, 1) := by decide +kernel
theorem dX9_readTown_0 : decode cX9_readTown 0 = .ok (.aload_n 0, 1) := by decide +kernel
theorem dX9_readTown_1 : decode cX9_readTown 1 = .ok (.iconst 0, 1) := by decide +kernel
theorem dX9_readTown_2 : decode cX9_readTown 2 = .ok (.putfield 19, 3) := by decide +kernel
theorem dX9_readTown_5 : decode cX9_readTown 5 = .ok (.aload_n 0, 1) := by decide +kernel
theorem dX9_readTown_6 : decode cX9_readTown 6 = .ok (.invokevirtual 22, 3) := by decide +kernel
theorem dX9_readTown_9 : decode cX9_readTown 9 = .ok (.iconst 1, 1) := by decide +kernel
theorem dX9_readTown_10 : decode cX9_readTown 10 = .ok (.istore_n 2, 1) := by decide +kernel
theorem dX9_readTown_11 : decode cX9_readTown 11 = .ok (.iload_n 2, 1) := by decide +kernel
theorem dX9_readTown_12 : decode cX9_readTown 12 = .ok (.bipush 120, 2) := by decide +kernel
theorem dX9_readTown_14 : decode cX9_readTown 14 = .ok (.if_icmp .gt 47, 3) := by decide +kernel
theorem dX9_readTown_17 : decode cX9_readTown 17 = .ok (.aload_n 0, 1) := by decide +kernel
theorem dX9_readTown_18 : decode cX9_readTown 18 = .ok (.aload_n 1, 1) := by decide +kernel
theorem dX9_readTown_19 : decode cX9_readTown 19 = .ok (.invokevirtual 25, 3) := by decide +kernel
theorem dX9_readTown_22 : decode cX9_readTown 22 = .ok (.ifCond .ne 6, 3) := by decide +kernel
theorem dX9_readTown_25 : decode cX9_readTown 25 = .ok (.goto 36, 3) := by decide +kernel
theorem dX9_readTown_28 : decode cX9_readTown 28 = .ok (.aload_n 0, 1) := by decide +kernel
theorem dX9_readTown_29 : decode cX9_readTown 29 = .ok (.getfield 29, 3) := by decide +kernel
theorem dX9_readTown_32 : decode cX9_readTown 32 = .ok (.bipush 14, 2) := by decide +kernel
theorem dX9_readTown_34 : decode cX9_readTown 34 = .ok (.if_icmp .ne 5, 3) := by decide +kernel
theorem dX9_readTown_37 : decode cX9_readTown 37 = .ok (.iload_n 2, 1) := by decide +kernel
theorem dX9_readTown_38 : decode cX9_readTown 38 = .ok (.ireturn, 1) := by decide +kernel
theorem dX9_readTown_39 : decode cX9_readTown 39 = .ok (.aload_n 0, 1) := by decide +kernel
theorem dX9_readTown_40 : decode cX9_readTown 40 = .ok (.getfield 29, 3) := by decide +kernel
theorem dX9_readTown_43 : decode cX9_readTown 43 = .ok (.bipush 12, 2) := by decide +kernel
theorem dX9_readTown_45 : decode cX9_readTown 45 = .ok (.if_icmp .eq 6, 3) := by decide +kernel
theorem dX9_readTown_48 : decode cX9_readTown 48 = .ok (.goto 13, 3) := by decide +kernel
theorem dX9_readTown_51 : decode cX9_readTown 51 = .ok (.aload_n 0, 1) := by decide +kernel
theorem dX9_readTown_52 : decode cX9_readTown 52 = .ok (.invokevirtual 22, 3) := by decide +kernel
theorem dX9_readTown_55 : decode cX9_readTown 55 = .ok (.iinc 2 1, 3) := by decide +kernel
theorem dX9_readTown_58 : decode cX9_readTown 58 = .ok (.goto (-47), 3) := by decide +kernel
theorem dX9_readTown_61 : decode cX9_readTown 61 = .ok (.iconst (-1), 1) := by decide +kernel
theorem dX9_readTown_62 : decode cX9_readTown 62 = .ok (.aload_n 0, 1) := by decide +kernel
theorem dX9_readTown_63 : decode cX9_readTown 63 = .ok (.getfield 32, 3) := by decide +kernel
theorem dX9_readTown_66 : decode cX9_readTown 66 = .ok (.isub, 1) := by decide +kernel
theorem dX9_readTown_67 : decode cX9_readTown 67 = .ok (.ireturn, 1) := by decide +kernel
theorem dX9_readItem_0 : decode cX9_readItem 0 = .ok (.aload_n 0, 1) := by decide +kernel
theorem dX9_readItem_1 : decode cX9_readItem 1 = .ok (.getfield 29, 3) := by decide +kernel
theorem dX9_readItem_4 : decode cX9_readItem 4 = .ok (.bipush 6, 2) := by decide +kernel
theorem dX9_readItem_6 : decode cX9_readItem 6 = .ok (.if_icmp .ge 22, 3) := by decide +kernel
theorem dX9_readItem_9 : decode cX9_readItem 9 = .ok (.aload_n 1, 1) := by decide +kernel
theorem dX9_readItem_10 : decode cX9_readItem 10 = .ok (.aload_n 0, 1) := by decide +kernel
theorem dX9_readItem_11 : decode cX9_readItem 11 = .ok (.getfield 29, 3) := by decide +kernel
theorem dX9_readItem_14 : decode cX9_readItem 14 = .ok (.invokevirtual 35, 3) := by decide +kernel
theorem dX9_readItem_17 : decode cX9_readItem 17 = .ok (.ifCond .ge 5, 3) := by decide +kernel
theorem dX9_readItem_20 : decode cX9_readItem 20 = .ok (.iconst 0, 1) := by decide +kernel
theorem dX9_readItem_21 : decode cX9_readItem 21 = .ok (.ireturn, 1) := by decide +kernel
theorem dX9_readItem_22 : decode cX9_readItem 22 = .ok (.aload_n 0, 1) := by decide +kernel
theorem dX9_readItem_23 : decode cX9_readItem 23 = .ok (.invokevirtual 22, 3) := by decide +kernel
theorem dX9_readItem_26 : decode cX9_readItem 26 = .ok (.iconst 1, 1) := by decide +kernel
theorem dX9_readItem_27 : decode cX9_readItem 27 = .ok (.ireturn, 1) := by decide +kernel
theorem dX9_readItem_28 : decode cX9_readItem 28 = .ok (.aload_n 0, 1) := by decide +kernel
theorem dX9_readItem_29 : decode cX9_readItem 29 = .ok (.getfield 29, 3) := by decide +kernel
theorem dX9_readItem_32 : decode cX9_readItem 32 = .ok (.bipush 10, 2) := by decide +kernel
theorem dX9_readItem_34 : decode cX9_readItem 34 = .ok (.if_icmp .ne 12, 3) := by decide +kernel
theorem dX9_readItem_37 : decode cX9_readItem 37 = .ok (.aload_n 1, 1) := by decide +kernel
theorem dX9_readItem_38 : decode cX9_readItem 38 = .ok (.getfield 41, 3) := by decide +kernel
theorem dX9_readItem_41 : decode cX9_readItem 41 = .ok (.bipush 8, 2) := by decide +kernel
theorem dX9_readItem_43 : decode cX9_readItem 43 = .ok (.if_icmp .lt 5, 3) := by decide +kernel
theorem dX9_readItem_46 : decode cX9_readItem 46 = .ok (.iconst 0, 1) := by decide +kernel
theorem dX9_readItem_47 : decode cX9_readItem 47 = .ok (.ireturn, 1) := by decide +kernel
theorem dX9_readItem_48 : decode cX9_readItem 48 = .ok (.aload_n 0, 1) := by decide +kernel
theorem dX9_readItem_49 : decode cX9_readItem 49 = .ok (.invokevirtual 22, 3) := by decide +kernel
theorem dX9_readItem_52 : decode cX9_readItem 52 = .ok (.aload_n 0, 1) := by decide +kernel
theorem dX9_readItem_53 : decode cX9_readItem 53 = .ok (.aload_n 1, 1) := by decide +kernel
theorem dX9_readItem_54 : decode cX9_readItem 54 = .ok (.invokevirtual 44, 3) := by decide +kernel
theorem dX9_readItem_57 : decode cX9_readItem 57 = .ok (.ireturn, 1) := by decide +kernel
theorem dX9_readPresent_0 : decode cX9_readPresent 0 = .ok (.aload_n 0, 1) := by decide +kernel
theorem dX9_readPresent_1 : decode cX9_readPresent 1 = .ok (.getfield 29, 3) := by decide +kernel
theorem dX9_readPresent_4 : decode cX9_readPresent 4 = .ok (.bipush 13, 2) := by decide +kernel
theorem dX9_readPresent_6 : decode cX9_readPresent 6 = .ok (.if_icmp .ne 14, 3) := by decide +kernel
theorem dX9_readPresent_9 : decode cX9_readPresent 9 = .ok (.aload_n 0, 1) := by decide +kernel
theorem dX9_readPresent_10 : decode cX9_readPresent 10 = .ok (.getfield 47, 3) := by decide +kernel
theorem dX9_readPresent_13 : decode cX9_readPresent 13 = .ok (.aload_n 1, 1) := by decide +kernel
theorem dX9_readPresent_14 : decode cX9_readPresent 14 = .ok (.getfield 50, 3) := by decide +kernel
theorem dX9_readPresent_17 : decode cX9_readPresent 17 = .ok (.if_icmp .lt 5, 3) := by decide +kernel
theorem dX9_readPresent_20 : decode cX9_readPresent 20 = .ok (.iconst 0, 1) := by decide +kernel
theorem dX9_readPresent_21 : decode cX9_readPresent 21 = .ok (.ireturn, 1) := by decide +kernel
theorem dX9_readPresent_22 : decode cX9_readPresent 22 = .ok (.aload_n 0, 1) := by decide +kernel
theorem dX9_readPresent_23 : decode cX9_readPresent 23 = .ok (.getfield 47, 3) := by decide +kernel
theorem dX9_readPresent_26 : decode cX9_readPresent 26 = .ok (.istore_n 2, 1) := by decide +kernel
theorem dX9_readPresent_27 : decode cX9_readPresent 27 = .ok (.iconst 0, 1) := by decide +kernel
theorem dX9_readPresent_28 : decode cX9_readPresent 28 = .ok (.istore_n 3, 1) := by decide +kernel
theorem dX9_readPresent_29 : decode cX9_readPresent 29 = .ok (.aload_n 0, 1) := by decide +kernel
theorem dX9_readPresent_30 : decode cX9_readPresent 30 = .ok (.invokevirtual 22, 3) := by decide +kernel
theorem dX9_readPresent_33 : decode cX9_readPresent 33 = .ok (.aload_n 0, 1) := by decide +kernel
theorem dX9_readPresent_34 : decode cX9_readPresent 34 = .ok (.getfield 29, 3) := by decide +kernel
theorem dX9_readPresent_37 : decode cX9_readPresent 37 = .ok (.bipush 11, 2) := by decide +kernel
theorem dX9_readPresent_39 : decode cX9_readPresent 39 = .ok (.if_icmp .ne 36, 3) := by decide +kernel
theorem dX9_readPresent_42 : decode cX9_readPresent 42 = .ok (.aload_n 0, 1) := by decide +kernel
theorem dX9_readPresent_43 : decode cX9_readPresent 43 = .ok (.invokevirtual 22, 3) := by decide +kernel
theorem dX9_readPresent_46 : decode cX9_readPresent 46 = .ok (.aload_n 0, 1) := by decide +kernel
theorem dX9_readPresent_47 : decode cX9_readPresent 47 = .ok (.getfield 29, 3) := by decide +kernel
theorem dX9_readPresent_50 : decode cX9_readPresent 50 = .ok (.bipush 13, 2) := by decide +kernel
theorem dX9_readPresent_52 : decode cX9_readPresent 52 = .ok (.if_icmp .ne 12, 3) := by decide +kernel
theorem dX9_readPresent_55 : decode cX9_readPresent 55 = .ok (.aload_n 0, 1) := by decide +kernel
theorem dX9_readPresent_56 : decode cX9_readPresent 56 = .ok (.getfield 47, 3) := by decide +kernel
theorem dX9_readPresent_59 : decode cX9_readPresent 59 = .ok (.bipush 99, 2) := by decide +kernel
theorem dX9_readPresent_61 : decode cX9_readPresent 61 = .ok (.if_icmp .le 5, 3) := by decide +kernel
theorem dX9_readPresent_64 : decode cX9_readPresent 64 = .ok (.iconst 0, 1) := by decide +kernel
theorem dX9_readPresent_65 : decode cX9_readPresent 65 = .ok (.ireturn, 1) := by decide +kernel
theorem dX9_readPresent_66 : decode cX9_readPresent 66 = .ok (.aload_n 0, 1) := by decide +kernel
theorem dX9_readPresent_67 : decode cX9_readPresent 67 = .ok (.getfield 47, 3) := by decide +kernel
theorem dX9_readPresent_70 : decode cX9_readPresent 70 = .ok (.istore_n 3, 1) := by decide +kernel
theorem dX9_readPresent_71 : decode cX9_readPresent 71 = .ok (.aload_n 0, 1) := by decide +kernel
theorem dX9_readPresent_72 : decode cX9_readPresent 72 = .ok (.invokevirtual 22, 3) := by decide +kernel
theorem dX9_readPresent_75 : decode cX9_readPresent 75 = .ok (.aload_n 1, 1) := by decide +kernel
theorem dX9_readPresent_76 : decode cX9_readPresent 76 = .ok (.iload_n 2, 1) := by decide +kernel
theorem dX9_readPresent_77 : decode cX9_readPresent 77 = .ok (.iload_n 3, 1) := by decide +kernel
theorem dX9_readPresent_78 : decode cX9_readPresent 78 = .ok (.invokevirtual 53, 3) := by decide +kernel
theorem dX9_readPresent_81 : decode cX9_readPresent 81 = .ok (.istore 4, 2) := by decide +kernel
theorem dX9_readPresent_83 : decode cX9_readPresent 83 = .ok (.iconst 0, 1) := by decide +kernel
theorem dX9_readPresent_84 : decode cX9_readPresent 84 = .ok (.istore 5, 2) := by decide +kernel
theorem dX9_readPresent_86 : decode cX9_readPresent 86 = .ok (.iload 5, 2) := by decide +kernel
theorem dX9_readPresent_88 : decode cX9_readPresent 88 = .ok (.bipush 6, 2) := by decide +kernel
theorem dX9_readPresent_90 : decode cX9_readPresent 90 = .ok (.if_icmp .ge 42, 3) := by decide +kernel
theorem dX9_readPresent_93 : decode cX9_readPresent 93 = .ok (.iload 4, 2) := by decide +kernel
theorem dX9_readPresent_95 : decode cX9_readPresent 95 = .ok (.ifCond .lt 37, 3) := by decide +kernel
theorem dX9_readPresent_98 : decode cX9_readPresent 98 = .ok (.aload_n 0, 1) := by decide +kernel
theorem dX9_readPresent_99 : decode cX9_readPresent 99 = .ok (.invokevirtual 57, 3) := by decide +kernel
theorem dX9_readPresent_102 : decode cX9_readPresent 102 = .ok (.ifCond .eq 30, 3) := by decide +kernel
theorem dX9_readPresent_105 : decode cX9_readPresent 105 = .ok (.aload_n 1, 1) := by decide +kernel
theorem dX9_readPresent_106 : decode cX9_readPresent 106 = .ok (.getfield 61, 3) := by decide +kernel
theorem dX9_readPresent_109 : decode cX9_readPresent 109 = .ok (.iload 4, 2) := by decide +kernel
theorem dX9_readPresent_111 : decode cX9_readPresent 111 = .ok (.aaload, 1) := by decide +kernel
theorem dX9_readPresent_112 : decode cX9_readPresent 112 = .ok (.aload_n 0, 1) := by decide +kernel
theorem dX9_readPresent_113 : decode cX9_readPresent 113 = .ok (.getfield 29, 3) := by decide +kernel
theorem dX9_readPresent_116 : decode cX9_readPresent 116 = .ok (.bipush 6, 2) := by decide +kernel
theorem dX9_readPresent_118 : decode cX9_readPresent 118 = .ok (.isub, 1) := by decide +kernel
theorem dX9_readPresent_119 : decode cX9_readPresent 119 = .ok (.invokevirtual 65, 3) := by decide +kernel
theorem dX9_readPresent_122 : decode cX9_readPresent 122 = .ok (.aload_n 0, 1) := by decide +kernel
theorem dX9_readPresent_123 : decode cX9_readPresent 123 = .ok (.invokevirtual 22, 3) := by decide +kernel
theorem dX9_readPresent_126 : decode cX9_readPresent 126 = .ok (.iinc 5 1, 3) := by decide +kernel
theorem dX9_readPresent_129 : decode cX9_readPresent 129 = .ok (.goto (-43), 3) := by decide +kernel
theorem dX9_readPresent_132 : decode cX9_readPresent 132 = .ok (.iload 4, 2) := by decide +kernel
theorem dX9_readPresent_134 : decode cX9_readPresent 134 = .ok (.ifCond .lt 7, 3) := by decide +kernel
theorem dX9_readPresent_137 : decode cX9_readPresent 137 = .ok (.iconst 1, 1) := by decide +kernel
theorem dX9_readPresent_138 : decode cX9_readPresent 138 = .ok (.goto 4, 3) := by decide +kernel
theorem dX9_readPresent_141 : decode cX9_readPresent 141 = .ok (.iconst 0, 1) := by decide +kernel
theorem dX9_readPresent_142 : decode cX9_readPresent 142 = .ok (.ireturn, 1) := by decide +kernel
theorem dX9_isPaperName_0 : decode cX9_isPaperName 0 = .ok (.aload_n 0, 1) := by decide +kernel
theorem dX9_isPaperName_1 : decode cX9_isPaperName 1 = .ok (.getfield 29, 3) := by decide +kernel
theorem dX9_isPaperName_4 : decode cX9_isPaperName 4 = .ok (.bipush 6, 2) := by decide +kernel
theorem dX9_isPaperName_6 : decode cX9_isPaperName 6 = .ok (.if_icmp .lt 16, 3) := by decide +kernel
theorem dX9_isPaperName_9 : decode cX9_isPaperName 9 = .ok (.aload_n 0, 1) := by decide +kernel
theorem dX9_isPaperName_10 : decode cX9_isPaperName 10 = .ok (.getfield 29, 3) := by decide +kernel
theorem dX9_isPaperName_13 : decode cX9_isPaperName 13 = .ok (.bipush 10, 2) := by decide +kernel
theorem dX9_isPaperName_15 : decode cX9_isPaperName 15 = .ok (.if_icmp .ge 7, 3) := by decide +kernel
theorem dX9_isPaperName_18 : decode cX9_isPaperName 18 = .ok (.iconst 1, 1) := by decide +kernel
theorem dX9_isPaperName_19 : decode cX9_isPaperName 19 = .ok (.goto 4, 3) := by decide +kernel
theorem dX9_isPaperName_22 : decode cX9_isPaperName 22 = .ok (.iconst 0, 1) := by decide +kernel
theorem dX9_isPaperName_23 : decode cX9_isPaperName 23 = .ok (.ireturn, 1) := by decide +kernel
theorem dX9_step_0 : decode cX9_step 0 = .ok (.aload_n 0, 1) := by decide +kernel
theorem dX9_step_1 : decode cX9_step 1 = .ok (.aload_n 0, 1) := by decide +kernel
theorem dX9_step_2 : decode cX9_step 2 = .ok (.getfield 19, 3) := by decide +kernel
theorem dX9_step_5 : decode cX9_step 5 = .ok (.putfield 32, 3) := by decide +kernel
theorem dX9_step_8 : decode cX9_step 8 = .ok (.aload_n 0, 1) := by decide +kernel
theorem dX9_step_9 : decode cX9_step 9 = .ok (.getfield 32, 3) := by decide +kernel
theorem dX9_step_12 : decode cX9_step 12 = .ok (.aload_n 0, 1) := by decide +kernel
theorem dX9_step_13 : decode cX9_step 13 = .ok (.getfield 15, 3) := by decide +kernel
theorem dX9_step_16 : decode cX9_step 16 = .ok (.if_icmp .ge 30, 3) := by decide +kernel
theorem dX9_step_19 : decode cX9_step 19 = .ok (.aload_n 0, 1) := by decide +kernel
theorem dX9_step_20 : decode cX9_step 20 = .ok (.getfield 9, 3) := by decide +kernel
theorem dX9_step_23 : decode cX9_step 23 = .ok (.aload_n 0, 1) := by decide +kernel
theorem dX9_step_24 : decode cX9_step 24 = .ok (.getfield 32, 3) := by decide +kernel
theorem dX9_step_27 : decode cX9_step 27 = .ok (.iaload, 1) := by decide +kernel
theorem dX9_step_28 : decode cX9_step 28 = .ok (.bipush 32, 2) := by decide +kernel
theorem dX9_step_30 : decode cX9_step 30 = .ok (.if_icmp .ne 16, 3) := by decide +kernel
theorem dX9_step_33 : decode cX9_step 33 = .ok (.aload_n 0, 1) := by decide +kernel
theorem dX9_step_34 : decode cX9_step 34 = .ok (.dup, 1) := by decide +kernel
theorem dX9_step_35 : decode cX9_step 35 = .ok (.getfield 32, 3) := by decide +kernel
theorem dX9_step_38 : decode cX9_step 38 = .ok (.iconst 1, 1) := by decide +kernel
theorem dX9_step_39 : decode cX9_step 39 = .ok (.iadd, 1) := by decide +kernel
theorem dX9_step_40 : decode cX9_step 40 = .ok (.putfield 32, 3) := by decide +kernel
theorem dX9_step_43 : decode cX9_step 43 = .ok (.goto (-35), 3) := by decide +kernel
theorem dX9_step_46 : decode cX9_step 46 = .ok (.aload_n 0, 1) := by decide +kernel
theorem dX9_step_47 : decode cX9_step 47 = .ok (.aload_n 0, 1) := by decide +kernel
theorem dX9_step_48 : decode cX9_step 48 = .ok (.getfield 32, 3) := by decide +kernel
theorem dX9_step_51 : decode cX9_step 51 = .ok (.putfield 19, 3) := by decide +kernel
theorem dX9_step_54 : decode cX9_step 54 = .ok (.aload_n 0, 1) := by decide +kernel
theorem dX9_step_55 : decode cX9_step 55 = .ok (.getfield 32, 3) := by decide +kernel
theorem dX9_step_58 : decode cX9_step 58 = .ok (.aload_n 0, 1) := by decide +kernel
theorem dX9_step_59 : decode cX9_step 59 = .ok (.getfield 15, 3) := by decide +kernel
theorem dX9_step_62 : decode cX9_step 62 = .ok (.if_icmp .lt 12, 3) := by decide +kernel
theorem dX9_step_65 : decode cX9_step 65 = .ok (.aload_n 0, 1) := by decide +kernel
theorem dX9_step_66 : decode cX9_step 66 = .ok (.bipush 14, 2) := by decide +kernel
theorem dX9_step_68 : decode cX9_step 68 = .ok (.putfield 29, 3) := by decide +kernel
theorem dX9_step_71 : decode cX9_step 71 = .ok (.goto 82, 3) := by decide +kernel
theorem dX9_step_74 : decode cX9_step 74 = .ok (.aload_n 0, 1) := by decide +kernel
theorem dX9_step_75 : decode cX9_step 75 = .ok (.getfield 9, 3) := by decide +kernel
theorem dX9_step_78 : decode cX9_step 78 = .ok (.aload_n 0, 1) := by decide +kernel
theorem dX9_step_79 : decode cX9_step 79 = .ok (.getfield 19, 3) := by decide +kernel
theorem dX9_step_82 : decode cX9_step 82 = .ok (.iaload, 1) := by decide +kernel
theorem dX9_step_83 : decode cX9_step 83 = .ok (.invokestatic 71, 3) := by decide +kernel
theorem dX9_step_86 : decode cX9_step 86 = .ok (.ifCond .eq 10, 3) := by decide +kernel
theorem dX9_step_89 : decode cX9_step 89 = .ok (.aload_n 0, 1) := by decide +kernel
theorem dX9_step_90 : decode cX9_step 90 = .ok (.invokevirtual 75, 3) := by decide +kernel
theorem dX9_step_93 : decode cX9_step 93 = .ok (.goto 60, 3) := by decide +kernel
theorem dX9_step_96 : decode cX9_step 96 = .ok (.aload_n 0, 1) := by decide +kernel
theorem dX9_step_97 : decode cX9_step 97 = .ok (.getfield 9, 3) := by decide +kernel
theorem dX9_step_100 : decode cX9_step 100 = .ok (.aload_n 0, 1) := by decide +kernel
theorem dX9_step_101 : decode cX9_step 101 = .ok (.getfield 19, 3) := by decide +kernel
theorem dX9_step_104 : decode cX9_step 104 = .ok (.iaload, 1) := by decide +kernel
theorem dX9_step_105 : decode cX9_step 105 = .ok (.invokestatic 78, 3) := by decide +kernel
theorem dX9_step_108 : decode cX9_step 108 = .ok (.ifCond .eq 10, 3) := by decide +kernel
theorem dX9_step_111 : decode cX9_step 111 = .ok (.aload_n 0, 1) := by decide +kernel
theorem dX9_step_112 : decode cX9_step 112 = .ok (.invokevirtual 81, 3) := by decide +kernel
theorem dX9_step_115 : decode cX9_step 115 = .ok (.goto 38, 3) := by decide +kernel
theorem dX9_step_118 : decode cX9_step 118 = .ok (.aload_n 0, 1) := by decide +kernel
theorem dX9_step_119 : decode cX9_step 119 = .ok (.aload_n 0, 1) := by decide +kernel
theorem dX9_step_120 : decode cX9_step 120 = .ok (.getfield 9, 3) := by decide +kernel
theorem dX9_step_123 : decode cX9_step 123 = .ok (.aload_n 0, 1) := by decide +kernel
theorem dX9_step_124 : decode cX9_step 124 = .ok (.getfield 32, 3) := by decide +kernel
theorem dX9_step_127 : decode cX9_step 127 = .ok (.iaload, 1) := by decide +kernel
theorem dX9_step_128 : decode cX9_step 128 = .ok (.bipush 59, 2) := by decide +kernel
theorem dX9_step_130 : decode cX9_step 130 = .ok (.if_icmp .ne 8, 3) := by decide +kernel
theorem dX9_step_133 : decode cX9_step 133 = .ok (.bipush 12, 2) := by decide +kernel
theorem dX9_step_135 : decode cX9_step 135 = .ok (.goto 5, 3) := by decide +kernel
theorem dX9_step_138 : decode cX9_step 138 = .ok (.bipush 15, 2) := by decide +kernel
theorem dX9_step_140 : decode cX9_step 140 = .ok (.putfield 29, 3) := by decide +kernel
theorem dX9_step_143 : decode cX9_step 143 = .ok (.aload_n 0, 1) := by decide +kernel
theorem dX9_step_144 : decode cX9_step 144 = .ok (.dup, 1) := by decide +kernel
theorem dX9_step_145 : decode cX9_step 145 = .ok (.getfield 19, 3) := by decide +kernel
theorem dX9_step_148 : decode cX9_step 148 = .ok (.iconst 1, 1) := by decide +kernel
theorem dX9_step_149 : decode cX9_step 149 = .ok (.iadd, 1) := by decide +kernel
theorem dX9_step_150 : decode cX9_step 150 = .ok (.putfield 19, 3) := by decide +kernel
theorem dX9_step_153 : decode cX9_step 153 = .ok (.return_, 1) := by decide +kernel
theorem dX9_stepOverWord_0 : decode cX9_stepOverWord 0 = .ok (.aload_n 0, 1) := by decide +kernel
theorem dX9_stepOverWord_1 : decode cX9_stepOverWord 1 = .ok (.getfield 19, 3) := by decide +kernel
theorem dX9_stepOverWord_4 : decode cX9_stepOverWord 4 = .ok (.aload_n 0, 1) := by decide +kernel
theorem dX9_stepOverWord_5 : decode cX9_stepOverWord 5 = .ok (.getfield 15, 3) := by decide +kernel
theorem dX9_stepOverWord_8 : decode cX9_stepOverWord 8 = .ok (.if_icmp .ge 31, 3) := by decide +kernel
theorem dX9_stepOverWord_11 : decode cX9_stepOverWord 11 = .ok (.aload_n 0, 1) := by decide +kernel
theorem dX9_stepOverWord_12 : decode cX9_stepOverWord 12 = .ok (.getfield 9, 3) := by decide +kernel
theorem dX9_stepOverWord_15 : decode cX9_stepOverWord 15 = .ok (.aload_n 0, 1) := by decide +kernel
theorem dX9_stepOverWord_16 : decode cX9_stepOverWord 16 = .ok (.getfield 19, 3) := by decide +kernel
theorem dX9_stepOverWord_19 : decode cX9_stepOverWord 19 = .ok (.iaload, 1) := by decide +kernel
theorem dX9_stepOverWord_20 : decode cX9_stepOverWord 20 = .ok (.invokestatic 71, 3) := by decide +kernel
theorem dX9_stepOverWord_23 : decode cX9_stepOverWord 23 = .ok (.ifCond .eq 16, 3) := by decide +kernel
theorem dX9_stepOverWord_26 : decode cX9_stepOverWord 26 = .ok (.aload_n 0, 1) := by decide +kernel
theorem dX9_stepOverWord_27 : decode cX9_stepOverWord 27 = .ok (.dup, 1) := by decide +kernel
theorem dX9_stepOverWord_28 : decode cX9_stepOverWord 28 = .ok (.getfield 19, 3) := by decide +kernel
theorem dX9_stepOverWord_31 : decode cX9_stepOverWord 31 = .ok (.iconst 1, 1) := by decide +kernel
theorem dX9_stepOverWord_32 : decode cX9_stepOverWord 32 = .ok (.iadd, 1) := by decide +kernel
theorem dX9_stepOverWord_33 : decode cX9_stepOverWord 33 = .ok (.putfield 19, 3) := by decide +kernel
theorem dX9_stepOverWord_36 : decode cX9_stepOverWord 36 = .ok (.goto (-36), 3) := by decide +kernel
theorem dX9_stepOverWord_39 : decode cX9_stepOverWord 39 = .ok (.aload_n 0, 1) := by decide +kernel
theorem dX9_stepOverWord_40 : decode cX9_stepOverWord 40 = .ok (.bipush 15, 2) := by decide +kernel
theorem dX9_stepOverWord_42 : decode cX9_stepOverWord 42 = .ok (.putfield 29, 3) := by decide +kernel
theorem dX9_stepOverWord_45 : decode cX9_stepOverWord 45 = .ok (.iconst 0, 1) := by decide +kernel
theorem dX9_stepOverWord_46 : decode cX9_stepOverWord 46 = .ok (.istore_n 1, 1) := by decide +kernel
theorem dX9_stepOverWord_47 : decode cX9_stepOverWord 47 = .ok (.iload_n 1, 1) := by decide +kernel
theorem dX9_stepOverWord_48 : decode cX9_stepOverWord 48 = .ok (.bipush 12, 2) := by decide +kernel
theorem dX9_stepOverWord_50 : decode cX9_stepOverWord 50 = .ok (.if_icmp .ge 25, 3) := by decide +kernel
theorem dX9_stepOverWord_53 : decode cX9_stepOverWord 53 = .ok (.aload_n 0, 1) := by decide +kernel
theorem dX9_stepOverWord_54 : decode cX9_stepOverWord 54 = .ok (.iload_n 1, 1) := by decide +kernel
theorem dX9_stepOverWord_55 : decode cX9_stepOverWord 55 = .ok (.invokestatic 84, 3) := by decide +kernel
theorem dX9_stepOverWord_58 : decode cX9_stepOverWord 58 = .ok (.invokevirtual 88, 3) := by decide +kernel
theorem dX9_stepOverWord_61 : decode cX9_stepOverWord 61 = .ok (.ifCond .eq 8, 3) := by decide +kernel
theorem dX9_stepOverWord_64 : decode cX9_stepOverWord 64 = .ok (.aload_n 0, 1) := by decide +kernel
theorem dX9_stepOverWord_65 : decode cX9_stepOverWord 65 = .ok (.iload_n 1, 1) := by decide +kernel
theorem dX9_stepOverWord_66 : decode cX9_stepOverWord 66 = .ok (.putfield 29, 3) := by decide +kernel
theorem dX9_stepOverWord_69 : decode cX9_stepOverWord 69 = .ok (.iinc 1 1, 3) := by decide +kernel
theorem dX9_stepOverWord_72 : decode cX9_stepOverWord 72 = .ok (.goto (-25), 3) := by decide +kernel
theorem dX9_stepOverWord_75 : decode cX9_stepOverWord 75 = .ok (.return_, 1) := by decide +kernel
theorem dX9_stepOverNumber_0 : decode cX9_stepOverNumber 0 = .ok (.aload_n 0, 1) := by decide +kernel
theorem dX9_stepOverNumber_1 : decode cX9_stepOverNumber 1 = .ok (.bipush 13, 2) := by decide +kernel
theorem dX9_stepOverNumber_3 : decode cX9_stepOverNumber 3 = .ok (.putfield 29, 3) := by decide +kernel
theorem dX9_stepOverNumber_6 : decode cX9_stepOverNumber 6 = .ok (.aload_n 0, 1) := by decide +kernel
theorem dX9_stepOverNumber_7 : decode cX9_stepOverNumber 7 = .ok (.iconst 0, 1) := by decide +kernel
theorem dX9_stepOverNumber_8 : decode cX9_stepOverNumber 8 = .ok (.putfield 47, 3) := by decide +kernel
theorem dX9_stepOverNumber_11 : decode cX9_stepOverNumber 11 = .ok (.aload_n 0, 1) := by decide +kernel
theorem dX9_stepOverNumber_12 : decode cX9_stepOverNumber 12 = .ok (.getfield 19, 3) := by decide +kernel
theorem dX9_stepOverNumber_15 : decode cX9_stepOverNumber 15 = .ok (.aload_n 0, 1) := by decide +kernel
theorem dX9_stepOverNumber_16 : decode cX9_stepOverNumber 16 = .ok (.getfield 15, 3) := by decide +kernel
theorem dX9_stepOverNumber_19 : decode cX9_stepOverNumber 19 = .ok (.if_icmp .ge 61, 3) := by decide +kernel
theorem dX9_stepOverNumber_22 : decode cX9_stepOverNumber 22 = .ok (.aload_n 0, 1) := by decide +kernel
theorem dX9_stepOverNumber_23 : decode cX9_stepOverNumber 23 = .ok (.getfield 9, 3) := by decide +kernel
theorem dX9_stepOverNumber_26 : decode cX9_stepOverNumber 26 = .ok (.aload_n 0, 1) := by decide +kernel
theorem dX9_stepOverNumber_27 : decode cX9_stepOverNumber 27 = .ok (.getfield 19, 3) := by decide +kernel
theorem dX9_stepOverNumber_30 : decode cX9_stepOverNumber 30 = .ok (.iaload, 1) := by decide +kernel
theorem dX9_stepOverNumber_31 : decode cX9_stepOverNumber 31 = .ok (.invokestatic 78, 3) := by decide +kernel
theorem dX9_stepOverNumber_34 : decode cX9_stepOverNumber 34 = .ok (.ifCond .eq 46, 3) := by decide +kernel
theorem dX9_stepOverNumber_37 : decode cX9_stepOverNumber 37 = .ok (.aload_n 0, 1) := by decide +kernel
theorem dX9_stepOverNumber_38 : decode cX9_stepOverNumber 38 = .ok (.sipush 1000, 3) := by decide +kernel
theorem dX9_stepOverNumber_41 : decode cX9_stepOverNumber 41 = .ok (.aload_n 0, 1) := by decide +kernel
theorem dX9_stepOverNumber_42 : decode cX9_stepOverNumber 42 = .ok (.getfield 47, 3) := by decide +kernel
theorem dX9_stepOverNumber_45 : decode cX9_stepOverNumber 45 = .ok (.bipush 10, 2) := by decide +kernel
theorem dX9_stepOverNumber_47 : decode cX9_stepOverNumber 47 = .ok (.imul, 1) := by decide +kernel
theorem dX9_stepOverNumber_48 : decode cX9_stepOverNumber 48 = .ok (.aload_n 0, 1) := by decide +kernel
theorem dX9_stepOverNumber_49 : decode cX9_stepOverNumber 49 = .ok (.getfield 9, 3) := by decide +kernel
theorem dX9_stepOverNumber_52 : decode cX9_stepOverNumber 52 = .ok (.aload_n 0, 1) := by decide +kernel
theorem dX9_stepOverNumber_53 : decode cX9_stepOverNumber 53 = .ok (.getfield 19, 3) := by decide +kernel
theorem dX9_stepOverNumber_56 : decode cX9_stepOverNumber 56 = .ok (.iaload, 1) := by decide +kernel
theorem dX9_stepOverNumber_57 : decode cX9_stepOverNumber 57 = .ok (.iadd, 1) := by decide +kernel
theorem dX9_stepOverNumber_58 : decode cX9_stepOverNumber 58 = .ok (.bipush 48, 2) := by decide +kernel
theorem dX9_stepOverNumber_60 : decode cX9_stepOverNumber 60 = .ok (.isub, 1) := by decide +kernel
theorem dX9_stepOverNumber_61 : decode cX9_stepOverNumber 61 = .ok (.invokestatic 92, 3) := by decide +kernel
theorem dX9_stepOverNumber_64 : decode cX9_stepOverNumber 64 = .ok (.putfield 47, 3) := by decide +kernel
theorem dX9_stepOverNumber_67 : decode cX9_stepOverNumber 67 = .ok (.aload_n 0, 1) := by decide +kernel
theorem dX9_stepOverNumber_68 : decode cX9_stepOverNumber 68 = .ok (.dup, 1) := by decide +kernel
theorem dX9_stepOverNumber_69 : decode cX9_stepOverNumber 69 = .ok (.getfield 19, 3) := by decide +kernel
theorem dX9_stepOverNumber_72 : decode cX9_stepOverNumber 72 = .ok (.iconst 1, 1) := by decide +kernel
theorem dX9_stepOverNumber_73 : decode cX9_stepOverNumber 73 = .ok (.iadd, 1) := by decide +kernel
theorem dX9_stepOverNumber_74 : decode cX9_stepOverNumber 74 = .ok (.putfield 19, 3) := by decide +kernel
theorem dX9_stepOverNumber_77 : decode cX9_stepOverNumber 77 = .ok (.goto (-66), 3) := by decide +kernel
theorem dX9_stepOverNumber_80 : decode cX9_stepOverNumber 80 = .ok (.return_, 1) := by decide +kernel
theorem dX9_isLetter_0 : decode cX9_isLetter 0 = .ok (.iload_n 0, 1) := by decide +kernel
theorem dX9_isLetter_1 : decode cX9_isLetter 1 = .ok (.bipush 97, 2) := by decide +kernel
theorem dX9_isLetter_3 : decode cX9_isLetter 3 = .ok (.if_icmp .lt 13, 3) := by decide +kernel
theorem dX9_isLetter_6 : decode cX9_isLetter 6 = .ok (.iload_n 0, 1) := by decide +kernel
theorem dX9_isLetter_7 : decode cX9_isLetter 7 = .ok (.bipush 122, 2) := by decide +kernel
theorem dX9_isLetter_9 : decode cX9_isLetter 9 = .ok (.if_icmp .gt 7, 3) := by decide +kernel
theorem dX9_isLetter_12 : decode cX9_isLetter 12 = .ok (.iconst 1, 1) := by decide +kernel
theorem dX9_isLetter_13 : decode cX9_isLetter 13 = .ok (.goto 4, 3) := by decide +kernel
theorem dX9_isLetter_16 : decode cX9_isLetter 16 = .ok (.iconst 0, 1) := by decide +kernel
theorem dX9_isLetter_17 : decode cX9_isLetter 17 = .ok (.ireturn, 1) := by decide +kernel
theorem dX9_isDigit_0 : decode cX9_isDigit 0 = .ok (.iload_n 0, 1) := by decide +kernel
theorem dX9_isDigit_1 : decode cX9_isDigit 1 = .ok (.bipush 48, 2) := by decide +kernel
theorem dX9_isDigit_3 : decode cX9_isDigit 3 = .ok (.if_icmp .lt 13, 3) := by decide +kernel
theorem dX9_isDigit_6 : decode cX9_isDigit 6 = .ok (.iload_n 0, 1) := by decide +kernel
theorem dX9_isDigit_7 : decode cX9_isDigit 7 = .ok (.bipush 57, 2) := by decide +kernel
theorem dX9_isDigit_9 : decode cX9_isDigit 9 = .ok (.if_icmp .gt 7, 3) := by decide +kernel
theorem dX9_isDigit_12 : decode cX9_isDigit 12 = .ok (.iconst 1, 1) := by decide +kernel
theorem dX9_isDigit_13 : decode cX9_isDigit 13 = .ok (.goto 4, 3) := by decide +kernel
theorem dX9_isDigit_16 : decode cX9_isDigit 16 = .ok (.iconst 0, 1) := by decide +kernel
theorem dX9_isDigit_17 : decode cX9_isDigit 17 = .ok (.ireturn, 1) := by decide +kernel
theorem dX9_reads_0 : decode cX9_reads 0 = .ok (.aload_n 1, 1) := by decide +kernel
theorem dX9_reads_1 : decode cX9_reads 1 = .ok (.invokevirtual 97, 3) := by decide +kernel
theorem dX9_reads_4 : decode cX9_reads 4 = .ok (.aload_n 0, 1) := by decide +kernel
theorem dX9_reads_5 : decode cX9_reads 5 = .ok (.getfield 19, 3) := by decide +kernel
theorem dX9_reads_8 : decode cX9_reads 8 = .ok (.aload_n 0, 1) := by decide +kernel
theorem dX9_reads_9 : decode cX9_reads 9 = .ok (.getfield 32, 3) := by decide +kernel
theorem dX9_reads_12 : decode cX9_reads 12 = .ok (.isub, 1) := by decide +kernel
theorem dX9_reads_13 : decode cX9_reads 13 = .ok (.if_icmp .eq 5, 3) := by decide +kernel
theorem dX9_reads_16 : decode cX9_reads 16 = .ok (.iconst 0, 1) := by decide +kernel
theorem dX9_reads_17 : decode cX9_reads 17 = .ok (.ireturn, 1) := by decide +kernel
theorem dX9_reads_18 : decode cX9_reads 18 = .ok (.iconst 0, 1) := by decide +kernel
theorem dX9_reads_19 : decode cX9_reads 19 = .ok (.istore_n 2, 1) := by decide +kernel
theorem dX9_reads_20 : decode cX9_reads 20 = .ok (.iload_n 2, 1) := by decide +kernel
theorem dX9_reads_21 : decode cX9_reads 21 = .ok (.aload_n 1, 1) := by decide +kernel
theorem dX9_reads_22 : decode cX9_reads 22 = .ok (.invokevirtual 97, 3) := by decide +kernel
theorem dX9_reads_25 : decode cX9_reads 25 = .ok (.if_icmp .ge 30, 3) := by decide +kernel
theorem dX9_reads_28 : decode cX9_reads 28 = .ok (.aload_n 0, 1) := by decide +kernel
theorem dX9_reads_29 : decode cX9_reads 29 = .ok (.getfield 9, 3) := by decide +kernel
theorem dX9_reads_32 : decode cX9_reads 32 = .ok (.aload_n 0, 1) := by decide +kernel
theorem dX9_reads_33 : decode cX9_reads 33 = .ok (.getfield 32, 3) := by decide +kernel
theorem dX9_reads_36 : decode cX9_reads 36 = .ok (.iload_n 2, 1) := by decide +kernel
theorem dX9_reads_37 : decode cX9_reads 37 = .ok (.iadd, 1) := by decide +kernel
theorem dX9_reads_38 : decode cX9_reads 38 = .ok (.iaload, 1) := by decide +kernel
theorem dX9_reads_39 : decode cX9_reads 39 = .ok (.aload_n 1, 1) := by decide +kernel
theorem dX9_reads_40 : decode cX9_reads 40 = .ok (.iload_n 2, 1) := by decide +kernel
theorem dX9_reads_41 : decode cX9_reads 41 = .ok (.invokevirtual 102, 3) := by decide +kernel
theorem dX9_reads_44 : decode cX9_reads 44 = .ok (.if_icmp .eq 5, 3) := by decide +kernel
theorem dX9_reads_47 : decode cX9_reads 47 = .ok (.iconst 0, 1) := by decide +kernel
theorem dX9_reads_48 : decode cX9_reads 48 = .ok (.ireturn, 1) := by decide +kernel
theorem dX9_reads_49 : decode cX9_reads 49 = .ok (.iinc 2 1, 3) := by decide +kernel
theorem dX9_reads_52 : decode cX9_reads 52 = .ok (.goto (-32), 3) := by decide +kernel
theorem dX9_reads_55 : decode cX9_reads 55 = .ok (.iconst 1, 1) := by decide +kernel
theorem dX9_reads_56 : decode cX9_reads 56 = .ok (.ireturn, 1) := by decide +kernel
theorem dX9_nameOf_0 : decode cX9_nameOf 0 = .ok (.iload_n 0, 1) := by decide +kernel
theorem dX9_nameOf_1 : decode cX9_nameOf 1 = .ok (.tableswitch 92 0 10 #[59, 62, 65, 68, 71, 74, 77, 80, 83, 86, 89], 59) := by decide +kernel
theorem dX9_nameOf_60 : decode cX9_nameOf 60 = .ok (.ldc 106, 2) := by decide +kernel
theorem dX9_nameOf_62 : decode cX9_nameOf 62 = .ok (.areturn, 1) := by decide +kernel
theorem dX9_nameOf_63 : decode cX9_nameOf 63 = .ok (.ldc 108, 2) := by decide +kernel
theorem dX9_nameOf_65 : decode cX9_nameOf 65 = .ok (.areturn, 1) := by decide +kernel
theorem dX9_nameOf_66 : decode cX9_nameOf 66 = .ok (.ldc 110, 2) := by decide +kernel
theorem dX9_nameOf_68 : decode cX9_nameOf 68 = .ok (.areturn, 1) := by decide +kernel
theorem dX9_nameOf_69 : decode cX9_nameOf 69 = .ok (.ldc 112, 2) := by decide +kernel
theorem dX9_nameOf_71 : decode cX9_nameOf 71 = .ok (.areturn, 1) := by decide +kernel
theorem dX9_nameOf_72 : decode cX9_nameOf 72 = .ok (.ldc 114, 2) := by decide +kernel
theorem dX9_nameOf_74 : decode cX9_nameOf 74 = .ok (.areturn, 1) := by decide +kernel
theorem dX9_nameOf_75 : decode cX9_nameOf 75 = .ok (.ldc 116, 2) := by decide +kernel
theorem dX9_nameOf_77 : decode cX9_nameOf 77 = .ok (.areturn, 1) := by decide +kernel
theorem dX9_nameOf_78 : decode cX9_nameOf 78 = .ok (.ldc 118, 2) := by decide +kernel
theorem dX9_nameOf_80 : decode cX9_nameOf 80 = .ok (.areturn, 1) := by decide +kernel
theorem dX9_nameOf_81 : decode cX9_nameOf 81 = .ok (.ldc 120, 2) := by decide +kernel
theorem dX9_nameOf_83 : decode cX9_nameOf 83 = .ok (.areturn, 1) := by decide +kernel
theorem dX9_nameOf_84 : decode cX9_nameOf 84 = .ok (.ldc 122, 2) := by decide +kernel
theorem dX9_nameOf_86 : decode cX9_nameOf 86 = .ok (.areturn, 1) := by decide +kernel
theorem dX9_nameOf_87 : decode cX9_nameOf 87 = .ok (.ldc 124, 2) := by decide +kernel
theorem dX9_nameOf_89 : decode cX9_nameOf 89 = .ok (.areturn, 1) := by decide +kernel
theorem dX9_nameOf_90 : decode cX9_nameOf 90 = .ok (.ldc 126, 2) := by decide +kernel
theorem dX9_nameOf_92 : decode cX9_nameOf 92 = .ok (.areturn, 1) := by decide +kernel
theorem dX9_nameOf_93 : decode cX9_nameOf 93 = .ok (.ldc 128, 2) := by decide +kernel
theorem dX9_nameOf_95 : decode cX9_nameOf 95 = .ok (.areturn, 1) := by decide +kernel
theorem dX10_init_0 : decode cX10_init 0 = .ok (.aload_n 0, 1) := by decide +kernel
theorem dX10_init_1 : decode cX10_init 1 = .ok (.invokespecial 3, 3) := by decide +kernel
theorem dX10_init_4 : decode cX10_init 4 = .ok (.aload_n 0, 1) := by decide +kernel
theorem dX10_init_5 : decode cX10_init 5 = .ok (.aload_n 1, 1) := by decide +kernel
theorem dX10_init_6 : decode cX10_init 6 = .ok (.putfield 9, 3) := by decide +kernel
theorem dX10_init_9 : decode cX10_init 9 = .ok (.aload_n 0, 1) := by decide +kernel
theorem dX10_init_10 : decode cX10_init 10 = .ok (.bipush 6, 2) := by decide +kernel
theorem dX10_init_12 : decode cX10_init 12 = .ok (.anewarray 15, 3) := by decide +kernel
theorem dX10_init_15 : decode cX10_init 15 = .ok (.putfield 17, 3) := by decide +kernel
theorem dX10_init_18 : decode cX10_init 18 = .ok (.iconst 0, 1) := by decide +kernel
theorem dX10_init_19 : decode cX10_init 19 = .ok (.istore_n 2, 1) := by decide +kernel
theorem dX10_init_20 : decode cX10_init 20 = .ok (.iload_n 2, 1) := by decide +kernel
theorem dX10_init_21 : decode cX10_init 21 = .ok (.bipush 6, 2) := by decide +kernel
theorem dX10_init_23 : decode cX10_init 23 = .ok (.if_icmp .ge 22, 3) := by decide +kernel
theorem dX10_init_26 : decode cX10_init 26 = .ok (.aload_n 0, 1) := by decide +kernel
theorem dX10_init_27 : decode cX10_init 27 = .ok (.getfield 17, 3) := by decide +kernel
theorem dX10_init_30 : decode cX10_init 30 = .ok (.iload_n 2, 1) := by decide +kernel
theorem dX10_init_31 : decode cX10_init 31 = .ok (.new 15, 3) := by decide +kernel
theorem dX10_init_34 : decode cX10_init 34 = .ok (.dup, 1) := by decide +kernel
theorem dX10_init_35 : decode cX10_init 35 = .ok (.invokespecial 21, 3) := by decide +kernel
theorem dX10_init_38 : decode cX10_init 38 = .ok (.aastore, 1) := by decide +kernel
theorem dX10_init_39 : decode cX10_init 39 = .ok (.iinc 2 1, 3) := by decide +kernel
theorem dX10_init_42 : decode cX10_init 42 = .ok (.goto (-22), 3) := by decide +kernel
theorem dX10_init_45 : decode cX10_init 45 = .ok (.aload_n 0, 1) := by decide +kernel
theorem dX10_init_46 : decode cX10_init 46 = .ok (.bipush 8, 2) := by decide +kernel
theorem dX10_init_48 : decode cX10_init 48 = .ok (.anewarray 22, 3) := by decide +kernel
theorem dX10_init_51 : decode cX10_init 51 = .ok (.putfield 24, 3) := by decide +kernel
theorem dX10_init_54 : decode cX10_init 54 = .ok (.iconst 0, 1) := by decide +kernel
theorem dX10_init_55 : decode cX10_init 55 = .ok (.istore_n 2, 1) := by decide +kernel
theorem dX10_init_56 : decode cX10_init 56 = .ok (.iload_n 2, 1) := by decide +kernel
theorem dX10_init_57 : decode cX10_init 57 = .ok (.bipush 8, 2) := by decide +kernel
theorem dX10_init_59 : decode cX10_init 59 = .ok (.if_icmp .ge 22, 3) := by decide +kernel
theorem dX10_init_62 : decode cX10_init 62 = .ok (.aload_n 0, 1) := by decide +kernel
theorem dX10_init_63 : decode cX10_init 63 = .ok (.getfield 24, 3) := by decide +kernel
theorem dX10_init_66 : decode cX10_init 66 = .ok (.iload_n 2, 1) := by decide +kernel
theorem dX10_init_67 : decode cX10_init 67 = .ok (.new 22, 3) := by decide +kernel
theorem dX10_init_70 : decode cX10_init 70 = .ok (.dup, 1) := by decide +kernel
theorem dX10_init_71 : decode cX10_init 71 = .ok (.invokespecial 28, 3) := by decide +kernel
theorem dX10_init_74 : decode cX10_init 74 = .ok (.aastore, 1) := by decide +kernel
theorem dX10_init_75 : decode cX10_init 75 = .ok (.iinc 2 1, 3) := by decide +kernel
theorem dX10_init_78 : decode cX10_init 78 = .ok (.goto (-22), 3) := by decide +kernel
theorem dX10_init_81 : decode cX10_init 81 = .ok (.return_, 1) := by decide +kernel
theorem dX10_become_0 : decode cX10_become 0 = .ok (.aload_n 0, 1) := by decide +kernel
theorem dX10_become_1 : decode cX10_become 1 = .ok (.aload_n 1, 1) := by decide +kernel
theorem dX10_become_2 : decode cX10_become 2 = .ok (.getfield 29, 3) := by decide +kernel
theorem dX10_become_5 : decode cX10_become 5 = .ok (.putfield 29, 3) := by decide +kernel
theorem dX10_become_8 : decode cX10_become 8 = .ok (.aload_n 0, 1) := by decide +kernel
theorem dX10_become_9 : decode cX10_become 9 = .ok (.aload_n 1, 1) := by decide +kernel
theorem dX10_become_10 : decode cX10_become 10 = .ok (.getfield 33, 3) := by decide +kernel
theorem dX10_become_13 : decode cX10_become 13 = .ok (.putfield 33, 3) := by decide +kernel
theorem dX10_become_16 : decode cX10_become 16 = .ok (.aload_n 0, 1) := by decide +kernel
theorem dX10_become_17 : decode cX10_become 17 = .ok (.aload_n 1, 1) := by decide +kernel
theorem dX10_become_18 : decode cX10_become 18 = .ok (.getfield 36, 3) := by decide +kernel
theorem dX10_become_21 : decode cX10_become 21 = .ok (.putfield 36, 3) := by decide +kernel
theorem dX10_become_24 : decode cX10_become 24 = .ok (.iconst 0, 1) := by decide +kernel
theorem dX10_become_25 : decode cX10_become 25 = .ok (.istore_n 2, 1) := by decide +kernel
theorem dX10_become_26 : decode cX10_become 26 = .ok (.iload_n 2, 1) := by decide +kernel
theorem dX10_become_27 : decode cX10_become 27 = .ok (.aload_n 0, 1) := by decide +kernel
theorem dX10_become_28 : decode cX10_become 28 = .ok (.getfield 33, 3) := by decide +kernel
theorem dX10_become_31 : decode cX10_become 31 = .ok (.if_icmp .ge 24, 3) := by decide +kernel
theorem dX10_become_34 : decode cX10_become 34 = .ok (.aload_n 0, 1) := by decide +kernel
theorem dX10_become_35 : decode cX10_become 35 = .ok (.getfield 17, 3) := by decide +kernel
theorem dX10_become_38 : decode cX10_become 38 = .ok (.iload_n 2, 1) := by decide +kernel
theorem dX10_become_39 : decode cX10_become 39 = .ok (.aaload, 1) := by decide +kernel
theorem dX10_become_40 : decode cX10_become 40 = .ok (.aload_n 1, 1) := by decide +kernel
theorem dX10_become_41 : decode cX10_become 41 = .ok (.getfield 17, 3) := by decide +kernel
theorem dX10_become_44 : decode cX10_become 44 = .ok (.iload_n 2, 1) := by decide +kernel
theorem dX10_become_45 : decode cX10_become 45 = .ok (.aaload, 1) := by decide +kernel
theorem dX10_become_46 : decode cX10_become 46 = .ok (.invokevirtual 39, 3) := by decide +kernel
theorem dX10_become_49 : decode cX10_become 49 = .ok (.iinc 2 1, 3) := by decide +kernel
theorem dX10_become_52 : decode cX10_become 52 = .ok (.goto (-26), 3) := by decide +kernel
theorem dX10_become_55 : decode cX10_become 55 = .ok (.iconst 0, 1) := by decide +kernel
theorem dX10_become_56 : decode cX10_become 56 = .ok (.istore_n 2, 1) := by decide +kernel
theorem dX10_become_57 : decode cX10_become 57 = .ok (.iload_n 2, 1) := by decide +kernel
theorem dX10_become_58 : decode cX10_become 58 = .ok (.aload_n 0, 1) := by decide +kernel
theorem dX10_become_59 : decode cX10_become 59 = .ok (.getfield 36, 3) := by decide +kernel
theorem dX10_become_62 : decode cX10_become 62 = .ok (.if_icmp .ge 24, 3) := by decide +kernel
theorem dX10_become_65 : decode cX10_become 65 = .ok (.aload_n 0, 1) := by decide +kernel
theorem dX10_become_66 : decode cX10_become 66 = .ok (.getfield 24, 3) := by decide +kernel
theorem dX10_become_69 : decode cX10_become 69 = .ok (.iload_n 2, 1) := by decide +kernel
theorem dX10_become_70 : decode cX10_become 70 = .ok (.aaload, 1) := by decide +kernel
theorem dX10_become_71 : decode cX10_become 71 = .ok (.aload_n 1, 1) := by decide +kernel
theorem dX10_become_72 : decode cX10_become 72 = .ok (.getfield 24, 3) := by decide +kernel
theorem dX10_become_75 : decode cX10_become 75 = .ok (.iload_n 2, 1) := by decide +kernel
theorem dX10_become_76 : decode cX10_become 76 = .ok (.aaload, 1) := by decide +kernel
theorem dX10_become_77 : decode cX10_become 77 = .ok (.invokevirtual 43, 3) := by decide +kernel
theorem dX10_become_80 : decode cX10_become 80 = .ok (.iinc 2 1, 3) := by decide +kernel
theorem dX10_become_83 : decode cX10_become 83 = .ok (.goto (-26), 3) := by decide +kernel
theorem dX10_become_86 : decode cX10_become 86 = .ok (.return_, 1) := by decide +kernel
theorem dX10_addPerson_0 : decode cX10_addPerson 0 = .ok (.aload_n 0, 1) := by decide +kernel
theorem dX10_addPerson_1 : decode cX10_addPerson 1 = .ok (.getfield 33, 3) := by decide +kernel
theorem dX10_addPerson_4 : decode cX10_addPerson 4 = .ok (.bipush 6, 2) := by decide +kernel
theorem dX10_addPerson_6 : decode cX10_addPerson 6 = .ok (.if_icmp .lt 5, 3) := by decide +kernel
theorem dX10_addPerson_9 : decode cX10_addPerson 9 = .ok (.iconst (-1), 1) := by decide +kernel
theorem dX10_addPerson_10 : decode cX10_addPerson 10 = .ok (.ireturn, 1) := by decide +kernel
theorem dX10_addPerson_11 : decode cX10_addPerson 11 = .ok (.aload_n 0, 1) := by decide +kernel
theorem dX10_addPerson_12 : decode cX10_addPerson 12 = .ok (.getfield 17, 3) := by decide +kernel
theorem dX10_addPerson_15 : decode cX10_addPerson 15 = .ok (.aload_n 0, 1) := by decide +kernel
theorem dX10_addPerson_16 : decode cX10_addPerson 16 = .ok (.getfield 33, 3) := by decide +kernel
theorem dX10_addPerson_19 : decode cX10_addPerson 19 = .ok (.aaload, 1) := by decide +kernel
theorem dX10_addPerson_20 : decode cX10_addPerson 20 = .ok (.iload_n 1, 1) := by decide +kernel
theorem dX10_addPerson_21 : decode cX10_addPerson 21 = .ok (.putfield 46, 3) := by decide +kernel
theorem dX10_addPerson_24 : decode cX10_addPerson 24 = .ok (.aload_n 0, 1) := by decide +kernel
theorem dX10_addPerson_25 : decode cX10_addPerson 25 = .ok (.getfield 17, 3) := by decide +kernel
theorem dX10_addPerson_28 : decode cX10_addPerson 28 = .ok (.aload_n 0, 1) := by decide +kernel
theorem dX10_addPerson_29 : decode cX10_addPerson 29 = .ok (.getfield 33, 3) := by decide +kernel
theorem dX10_addPerson_32 : decode cX10_addPerson 32 = .ok (.aaload, 1) := by decide +kernel
theorem dX10_addPerson_33 : decode cX10_addPerson 33 = .ok (.iconst 0, 1) := by decide +kernel
theorem dX10_addPerson_34 : decode cX10_addPerson 34 = .ok (.putfield 49, 3) := by decide +kernel
theorem dX10_addPerson_37 : decode cX10_addPerson 37 = .ok (.aload_n 0, 1) := by decide +kernel
theorem dX10_addPerson_38 : decode cX10_addPerson 38 = .ok (.dup, 1) := by decide +kernel
theorem dX10_addPerson_39 : decode cX10_addPerson 39 = .ok (.getfield 33, 3) := by decide +kernel
theorem dX10_addPerson_42 : decode cX10_addPerson 42 = .ok (.iconst 1, 1) := by decide +kernel
theorem dX10_addPerson_43 : decode cX10_addPerson 43 = .ok (.iadd, 1) := by decide +kernel
theorem dX10_addPerson_44 : decode cX10_addPerson 44 = .ok (.putfield 33, 3) := by decide +kernel
theorem dX10_addPerson_47 : decode cX10_addPerson 47 = .ok (.aload_n 0, 1) := by decide +kernel
theorem dX10_addPerson_48 : decode cX10_addPerson 48 = .ok (.getfield 33, 3) := by decide +kernel
theorem dX10_addPerson_51 : decode cX10_addPerson 51 = .ok (.iconst 1, 1) := by decide +kernel
theorem dX10_addPerson_52 : decode cX10_addPerson 52 = .ok (.isub, 1) := by decide +kernel
theorem dX10_addPerson_53 : decode cX10_addPerson 53 = .ok (.ireturn, 1) := by decide +kernel
theorem dX10_addPresent_0 : decode cX10_addPresent 0 = .ok (.aload_n 0, 1) := by decide +kernel
theorem dX10_addPresent_1 : decode cX10_addPresent 1 = .ok (.getfield 36, 3) := by decide +kernel
theorem dX10_addPresent_4 : decode cX10_addPresent 4 = .ok (.bipush 8, 2) := by decide +kernel
theorem dX10_addPresent_6 : decode cX10_addPresent 6 = .ok (.if_icmp .lt 5, 3) := by decide +kernel
theorem dX10_addPresent_9 : decode cX10_addPresent 9 = .ok (.iconst (-1), 1) := by decide +kernel
theorem dX10_addPresent_10 : decode cX10_addPresent 10 = .ok (.ireturn, 1) := by decide +kernel
theorem dX10_addPresent_11 : decode cX10_addPresent 11 = .ok (.aload_n 0, 1) := by decide +kernel
theorem dX10_addPresent_12 : decode cX10_addPresent 12 = .ok (.getfield 24, 3) := by decide +kernel
theorem dX10_addPresent_15 : decode cX10_addPresent 15 = .ok (.aload_n 0, 1) := by decide +kernel
theorem dX10_addPresent_16 : decode cX10_addPresent 16 = .ok (.getfield 36, 3) := by decide +kernel
theorem dX10_addPresent_19 : decode cX10_addPresent 19 = .ok (.aaload, 1) := by decide +kernel
theorem dX10_addPresent_20 : decode cX10_addPresent 20 = .ok (.iload_n 1, 1) := by decide +kernel
theorem dX10_addPresent_21 : decode cX10_addPresent 21 = .ok (.iload_n 2, 1) := by decide +kernel
theorem dX10_addPresent_22 : decode cX10_addPresent 22 = .ok (.invokevirtual 52, 3) := by decide +kernel
theorem dX10_addPresent_25 : decode cX10_addPresent 25 = .ok (.aload_n 0, 1) := by decide +kernel
theorem dX10_addPresent_26 : decode cX10_addPresent 26 = .ok (.dup, 1) := by decide +kernel
theorem dX10_addPresent_27 : decode cX10_addPresent 27 = .ok (.getfield 36, 3) := by decide +kernel
theorem dX10_addPresent_30 : decode cX10_addPresent 30 = .ok (.iconst 1, 1) := by decide +kernel
theorem dX10_addPresent_31 : decode cX10_addPresent 31 = .ok (.iadd, 1) := by decide +kernel
theorem dX10_addPresent_32 : decode cX10_addPresent 32 = .ok (.putfield 36, 3) := by decide +kernel
theorem dX10_addPresent_35 : decode cX10_addPresent 35 = .ok (.aload_n 0, 1) := by decide +kernel
theorem dX10_addPresent_36 : decode cX10_addPresent 36 = .ok (.getfield 36, 3) := by decide +kernel
theorem dX10_addPresent_39 : decode cX10_addPresent 39 = .ok (.iconst 1, 1) := by decide +kernel
theorem dX10_addPresent_40 : decode cX10_addPresent 40 = .ok (.isub, 1) := by decide +kernel
theorem dX10_addPresent_41 : decode cX10_addPresent 41 = .ok (.ireturn, 1) := by decide +kernel
theorem dX10_mannerOf_0 : decode cX10_mannerOf 0 = .ok (.aload_n 0, 1) := by decide +kernel
theorem dX10_mannerOf_1 : decode cX10_mannerOf 1 = .ok (.getfield 9, 3) := by decide +kernel
theorem dX10_mannerOf_4 : decode cX10_mannerOf 4 = .ok (.aload_n 0, 1) := by decide +kernel
theorem dX10_mannerOf_5 : decode cX10_mannerOf 5 = .ok (.getfield 17, 3) := by decide +kernel
theorem dX10_mannerOf_8 : decode cX10_mannerOf 8 = .ok (.iload_n 1, 1) := by decide +kernel
theorem dX10_mannerOf_9 : decode cX10_mannerOf 9 = .ok (.aaload, 1) := by decide +kernel
theorem dX10_mannerOf_10 : decode cX10_mannerOf 10 = .ok (.getfield 46, 3) := by decide +kernel
theorem dX10_mannerOf_13 : decode cX10_mannerOf 13 = .ok (.aaload, 1) := by decide +kernel
theorem dX10_mannerOf_14 : decode cX10_mannerOf 14 = .ok (.areturn, 1) := by decide +kernel
theorem dX10_giftsWith_0 : decode cX10_giftsWith 0 = .ok (.iconst 0, 1) := by decide +kernel
theorem dX10_giftsWith_1 : decode cX10_giftsWith 1 = .ok (.istore_n 2, 1) := by decide +kernel
theorem dX10_giftsWith_2 : decode cX10_giftsWith 2 = .ok (.iconst 0, 1) := by decide +kernel
theorem dX10_giftsWith_3 : decode cX10_giftsWith 3 = .ok (.istore_n 3, 1) := by decide +kernel
theorem dX10_giftsWith_4 : decode cX10_giftsWith 4 = .ok (.iload_n 3, 1) := by decide +kernel
theorem dX10_giftsWith_5 : decode cX10_giftsWith 5 = .ok (.aload_n 0, 1) := by decide +kernel
theorem dX10_giftsWith_6 : decode cX10_giftsWith 6 = .ok (.getfield 36, 3) := by decide +kernel
theorem dX10_giftsWith_9 : decode cX10_giftsWith 9 = .ok (.if_icmp .ge 28, 3) := by decide +kernel
theorem dX10_giftsWith_12 : decode cX10_giftsWith 12 = .ok (.aload_n 0, 1) := by decide +kernel
theorem dX10_giftsWith_13 : decode cX10_giftsWith 13 = .ok (.getfield 24, 3) := by decide +kernel
theorem dX10_giftsWith_16 : decode cX10_giftsWith 16 = .ok (.iload_n 3, 1) := by decide +kernel
theorem dX10_giftsWith_17 : decode cX10_giftsWith 17 = .ok (.aaload, 1) := by decide +kernel
theorem dX10_giftsWith_18 : decode cX10_giftsWith 18 = .ok (.getfield 56, 3) := by decide +kernel
theorem dX10_giftsWith_21 : decode cX10_giftsWith 21 = .ok (.iload_n 1, 1) := by decide +kernel
theorem dX10_giftsWith_22 : decode cX10_giftsWith 22 = .ok (.if_icmp .ne 9, 3) := by decide +kernel
theorem dX10_giftsWith_25 : decode cX10_giftsWith 25 = .ok (.iload_n 2, 1) := by decide +kernel
theorem dX10_giftsWith_26 : decode cX10_giftsWith 26 = .ok (.iconst 1, 1) := by decide +kernel
theorem dX10_giftsWith_27 : decode cX10_giftsWith 27 = .ok (.iload_n 3, 1) := by decide +kernel
theorem dX10_giftsWith_28 : decode cX10_giftsWith 28 = .ok (.ishl, 1) := by decide +kernel
theorem dX10_giftsWith_29 : decode cX10_giftsWith 29 = .ok (.ior, 1) := by decide +kernel
theorem dX10_giftsWith_30 : decode cX10_giftsWith 30 = .ok (.istore_n 2, 1) := by decide +kernel
theorem dX10_giftsWith_31 : decode cX10_giftsWith 31 = .ok (.iinc 3 1, 3) := by decide +kernel
theorem dX10_giftsWith_34 : decode cX10_giftsWith 34 = .ok (.goto (-30), 3) := by decide +kernel
theorem dX10_giftsWith_37 : decode cX10_giftsWith 37 = .ok (.iload_n 2, 1) := by decide +kernel
theorem dX10_giftsWith_38 : decode cX10_giftsWith 38 = .ok (.ireturn, 1) := by decide +kernel
theorem dX10_opened_0 : decode cX10_opened 0 = .ok (.iconst 0, 1) := by decide +kernel
theorem dX10_opened_1 : decode cX10_opened 1 = .ok (.istore_n 1, 1) := by decide +kernel
theorem dX10_opened_2 : decode cX10_opened 2 = .ok (.iconst 0, 1) := by decide +kernel
theorem dX10_opened_3 : decode cX10_opened 3 = .ok (.istore_n 2, 1) := by decide +kernel
theorem dX10_opened_4 : decode cX10_opened 4 = .ok (.iload_n 2, 1) := by decide +kernel
theorem dX10_opened_5 : decode cX10_opened 5 = .ok (.aload_n 0, 1) := by decide +kernel
theorem dX10_opened_6 : decode cX10_opened 6 = .ok (.getfield 36, 3) := by decide +kernel
theorem dX10_opened_9 : decode cX10_opened 9 = .ok (.if_icmp .ge 27, 3) := by decide +kernel
theorem dX10_opened_12 : decode cX10_opened 12 = .ok (.aload_n 0, 1) := by decide +kernel
theorem dX10_opened_13 : decode cX10_opened 13 = .ok (.getfield 24, 3) := by decide +kernel
theorem dX10_opened_16 : decode cX10_opened 16 = .ok (.iload_n 2, 1) := by decide +kernel
theorem dX10_opened_17 : decode cX10_opened 17 = .ok (.aaload, 1) := by decide +kernel
theorem dX10_opened_18 : decode cX10_opened 18 = .ok (.getfield 59, 3) := by decide +kernel
theorem dX10_opened_21 : decode cX10_opened 21 = .ok (.ifCond .eq 9, 3) := by decide +kernel
theorem dX10_opened_24 : decode cX10_opened 24 = .ok (.iload_n 1, 1) := by decide +kernel
theorem dX10_opened_25 : decode cX10_opened 25 = .ok (.iconst 1, 1) := by decide +kernel
theorem dX10_opened_26 : decode cX10_opened 26 = .ok (.iload_n 2, 1) := by decide +kernel
theorem dX10_opened_27 : decode cX10_opened 27 = .ok (.ishl, 1) := by decide +kernel
theorem dX10_opened_28 : decode cX10_opened 28 = .ok (.ior, 1) := by decide +kernel
theorem dX10_opened_29 : decode cX10_opened 29 = .ok (.istore_n 1, 1) := by decide +kernel
theorem dX10_opened_30 : decode cX10_opened 30 = .ok (.iinc 2 1, 3) := by decide +kernel
theorem dX10_opened_33 : decode cX10_opened 33 = .ok (.goto (-29), 3) := by decide +kernel
theorem dX10_opened_36 : decode cX10_opened 36 = .ok (.iload_n 1, 1) := by decide +kernel
theorem dX10_opened_37 : decode cX10_opened 37 = .ok (.ireturn, 1) := by decide +kernel
theorem dX10_unopened_0 : decode cX10_unopened 0 = .ok (.iconst 1, 1) := by decide +kernel
theorem dX10_unopened_1 : decode cX10_unopened 1 = .ok (.aload_n 0, 1) := by decide +kernel
theorem dX10_unopened_2 : decode cX10_unopened 2 = .ok (.getfield 36, 3) := by decide +kernel
theorem dX10_unopened_5 : decode cX10_unopened 5 = .ok (.ishl, 1) := by decide +kernel
theorem dX10_unopened_6 : decode cX10_unopened 6 = .ok (.iconst 1, 1) := by decide +kernel
theorem dX10_unopened_7 : decode cX10_unopened 7 = .ok (.isub, 1) := by decide +kernel
theorem dX10_unopened_8 : decode cX10_unopened 8 = .ok (.aload_n 0, 1) := by decide +kernel
theorem dX10_unopened_9 : decode cX10_unopened 9 = .ok (.invokevirtual 63, 3) := by decide +kernel
theorem dX10_unopened_12 : decode cX10_unopened 12 = .ok (.iconst (-1), 1) := by decide +kernel
theorem dX10_unopened_13 : decode cX10_unopened 13 = .ok (.ixor, 1) := by decide +kernel
theorem dX10_unopened_14 : decode cX10_unopened 14 = .ok (.iand, 1) := by decide +kernel
theorem dX10_unopened_15 : decode cX10_unopened 15 = .ok (.ireturn, 1) := by decide +kernel
theorem dX10_joyOfAll_0 : decode cX10_joyOfAll 0 = .ok (.iconst 0, 1) := by decide +kernel
theorem dX10_joyOfAll_1 : decode cX10_joyOfAll 1 = .ok (.istore_n 1, 1) := by decide +kernel
theorem dX10_joyOfAll_2 : decode cX10_joyOfAll 2 = .ok (.iconst 0, 1) := by decide +kernel
theorem dX10_joyOfAll_3 : decode cX10_joyOfAll 3 = .ok (.istore_n 2, 1) := by decide +kernel
theorem dX10_joyOfAll_4 : decode cX10_joyOfAll 4 = .ok (.iload_n 2, 1) := by decide +kernel
theorem dX10_joyOfAll_5 : decode cX10_joyOfAll 5 = .ok (.aload_n 0, 1) := by decide +kernel
theorem dX10_joyOfAll_6 : decode cX10_joyOfAll 6 = .ok (.getfield 33, 3) := by decide +kernel
theorem dX10_joyOfAll_9 : decode cX10_joyOfAll 9 = .ok (.if_icmp .ge 21, 3) := by decide +kernel
theorem dX10_joyOfAll_12 : decode cX10_joyOfAll 12 = .ok (.iload_n 1, 1) := by decide +kernel
theorem dX10_joyOfAll_13 : decode cX10_joyOfAll 13 = .ok (.aload_n 0, 1) := by decide +kernel
theorem dX10_joyOfAll_14 : decode cX10_joyOfAll 14 = .ok (.getfield 17, 3) := by decide +kernel
theorem dX10_joyOfAll_17 : decode cX10_joyOfAll 17 = .ok (.iload_n 2, 1) := by decide +kernel
theorem dX10_joyOfAll_18 : decode cX10_joyOfAll 18 = .ok (.aaload, 1) := by decide +kernel
theorem dX10_joyOfAll_19 : decode cX10_joyOfAll 19 = .ok (.getfield 49, 3) := by decide +kernel
theorem dX10_joyOfAll_22 : decode cX10_joyOfAll 22 = .ok (.iadd, 1) := by decide +kernel
theorem dX10_joyOfAll_23 : decode cX10_joyOfAll 23 = .ok (.istore_n 1, 1) := by decide +kernel
theorem dX10_joyOfAll_24 : decode cX10_joyOfAll 24 = .ok (.iinc 2 1, 3) := by decide +kernel
theorem dX10_joyOfAll_27 : decode cX10_joyOfAll 27 = .ok (.goto (-23), 3) := by decide +kernel
theorem dX10_joyOfAll_30 : decode cX10_joyOfAll 30 = .ok (.iload_n 1, 1) := by decide +kernel
theorem dX10_joyOfAll_31 : decode cX10_joyOfAll 31 = .ok (.ireturn, 1) := by decide +kernel
theorem dX10_layersOfAll_0 : decode cX10_layersOfAll 0 = .ok (.iconst 0, 1) := by decide +kernel
theorem dX10_layersOfAll_1 : decode cX10_layersOfAll 1 = .ok (.istore_n 1, 1) := by decide +kernel
theorem dX10_layersOfAll_2 : decode cX10_layersOfAll 2 = .ok (.iconst 0, 1) := by decide +kernel
theorem dX10_layersOfAll_3 : decode cX10_layersOfAll 3 = .ok (.istore_n 2, 1) := by decide +kernel
theorem dX10_layersOfAll_4 : decode cX10_layersOfAll 4 = .ok (.iload_n 2, 1) := by decide +kernel
theorem dX10_layersOfAll_5 : decode cX10_layersOfAll 5 = .ok (.aload_n 0, 1) := by decide +kernel
theorem dX10_layersOfAll_6 : decode cX10_layersOfAll 6 = .ok (.getfield 36, 3) := by decide +kernel
theorem dX10_layersOfAll_9 : decode cX10_layersOfAll 9 = .ok (.if_icmp .ge 21, 3) := by decide +kernel
theorem dX10_layersOfAll_12 : decode cX10_layersOfAll 12 = .ok (.iload_n 1, 1) := by decide +kernel
theorem dX10_layersOfAll_13 : decode cX10_layersOfAll 13 = .ok (.aload_n 0, 1) := by decide +kernel
theorem dX10_layersOfAll_14 : decode cX10_layersOfAll 14 = .ok (.getfield 24, 3) := by decide +kernel
theorem dX10_layersOfAll_17 : decode cX10_layersOfAll 17 = .ok (.iload_n 2, 1) := by decide +kernel
theorem dX10_layersOfAll_18 : decode cX10_layersOfAll 18 = .ok (.aaload, 1) := by decide +kernel
theorem dX10_layersOfAll_19 : decode cX10_layersOfAll 19 = .ok (.getfield 67, 3) := by decide +kernel
theorem dX10_layersOfAll_22 : decode cX10_layersOfAll 22 = .ok (.iadd, 1) := by decide +kernel
theorem dX10_layersOfAll_23 : decode cX10_layersOfAll 23 = .ok (.istore_n 1, 1) := by decide +kernel
theorem dX10_layersOfAll_24 : decode cX10_layersOfAll 24 = .ok (.iinc 2 1, 3) := by decide +kernel
theorem dX10_layersOfAll_27 : decode cX10_layersOfAll 27 = .ok (.goto (-23), 3) := by decide +kernel
theorem dX10_layersOfAll_30 : decode cX10_layersOfAll 30 = .ok (.iload_n 1, 1) := by decide +kernel
theorem dX10_layersOfAll_31 : decode cX10_layersOfAll 31 = .ok (.ireturn, 1) := by decide +kernel
theorem dX10_thingsFound_0 : decode cX10_thingsFound 0 = .ok (.iconst 0, 1) := by decide +kernel
theorem dX10_thingsFound_1 : decode cX10_thingsFound 1 = .ok (.istore_n 1, 1) := by decide +kernel
theorem dX10_thingsFound_2 : decode cX10_thingsFound 2 = .ok (.iconst 0, 1) := by decide +kernel
theorem dX10_thingsFound_3 : decode cX10_thingsFound 3 = .ok (.istore_n 2, 1) := by decide +kernel
theorem dX10_thingsFound_4 : decode cX10_thingsFound 4 = .ok (.iload_n 2, 1) := by decide +kernel
theorem dX10_thingsFound_5 : decode cX10_thingsFound 5 = .ok (.aload_n 0, 1) := by decide +kernel
theorem dX10_thingsFound_6 : decode cX10_thingsFound 6 = .ok (.getfield 36, 3) := by decide +kernel
theorem dX10_thingsFound_9 : decode cX10_thingsFound 9 = .ok (.if_icmp .ge 33, 3) := by decide +kernel
theorem dX10_thingsFound_12 : decode cX10_thingsFound 12 = .ok (.aload_n 0, 1) := by decide +kernel
theorem dX10_thingsFound_13 : decode cX10_thingsFound 13 = .ok (.getfield 24, 3) := by decide +kernel
theorem dX10_thingsFound_16 : decode cX10_thingsFound 16 = .ok (.iload_n 2, 1) := by decide +kernel
theorem dX10_thingsFound_17 : decode cX10_thingsFound 17 = .ok (.aaload, 1) := by decide +kernel
theorem dX10_thingsFound_18 : decode cX10_thingsFound 18 = .ok (.getfield 59, 3) := by decide +kernel
theorem dX10_thingsFound_21 : decode cX10_thingsFound 21 = .ok (.ifCond .eq 15, 3) := by decide +kernel
theorem dX10_thingsFound_24 : decode cX10_thingsFound 24 = .ok (.iload_n 1, 1) := by decide +kernel
theorem dX10_thingsFound_25 : decode cX10_thingsFound 25 = .ok (.aload_n 0, 1) := by decide +kernel
theorem dX10_thingsFound_26 : decode cX10_thingsFound 26 = .ok (.getfield 24, 3) := by decide +kernel
theorem dX10_thingsFound_29 : decode cX10_thingsFound 29 = .ok (.iload_n 2, 1) := by decide +kernel
theorem dX10_thingsFound_30 : decode cX10_thingsFound 30 = .ok (.aaload, 1) := by decide +kernel
theorem dX10_thingsFound_31 : decode cX10_thingsFound 31 = .ok (.getfield 70, 3) := by decide +kernel
theorem dX10_thingsFound_34 : decode cX10_thingsFound 34 = .ok (.iadd, 1) := by decide +kernel
theorem dX10_thingsFound_35 : decode cX10_thingsFound 35 = .ok (.istore_n 1, 1) := by decide +kernel
theorem dX10_thingsFound_36 : decode cX10_thingsFound 36 = .ok (.iinc 2 1, 3) := by decide +kernel
theorem dX10_thingsFound_39 : decode cX10_thingsFound 39 = .ok (.goto (-35), 3) := by decide +kernel
theorem dX10_thingsFound_42 : decode cX10_thingsFound 42 = .ok (.iload_n 1, 1) := by decide +kernel
theorem dX10_thingsFound_43 : decode cX10_thingsFound 43 = .ok (.ireturn, 1) := by decide +kernel
theorem dX10_goOn_0 : decode cX10_goOn 0 = .ok (.iconst 0, 1) := by decide +kernel
theorem dX10_goOn_1 : decode cX10_goOn 1 = .ok (.istore_n 2, 1) := by decide +kernel
theorem dX10_goOn_2 : decode cX10_goOn 2 = .ok (.iload_n 2, 1) := by decide +kernel
theorem dX10_goOn_3 : decode cX10_goOn 3 = .ok (.iload_n 1, 1) := by decide +kernel
theorem dX10_goOn_4 : decode cX10_goOn 4 = .ok (.if_icmp .ge 13, 3) := by decide +kernel
theorem dX10_goOn_7 : decode cX10_goOn 7 = .ok (.aload_n 0, 1) := by decide +kernel
theorem dX10_goOn_8 : decode cX10_goOn 8 = .ok (.invokevirtual 73, 3) := by decide +kernel
theorem dX10_goOn_11 : decode cX10_goOn 11 = .ok (.iinc 2 1, 3) := by decide +kernel
theorem dX10_goOn_14 : decode cX10_goOn 14 = .ok (.goto (-12), 3) := by decide +kernel
theorem dX10_goOn_17 : decode cX10_goOn 17 = .ok (.return_, 1) := by decide +kernel
theorem dX10_oneDay_0 : decode cX10_oneDay 0 = .ok (.iconst 0, 1) := by decide +kernel
theorem dX10_oneDay_1 : decode cX10_oneDay 1 = .ok (.istore_n 1, 1) := by decide +kernel
theorem dX10_oneDay_2 : decode cX10_oneDay 2 = .ok (.iconst 0, 1) := by decide +kernel
theorem dX10_oneDay_3 : decode cX10_oneDay 3 = .ok (.istore_n 2, 1) := by decide +kernel
theorem dX10_oneDay_4 : decode cX10_oneDay 4 = .ok (.iload_n 2, 1) := by decide +kernel
theorem dX10_oneDay_5 : decode cX10_oneDay 5 = .ok (.aload_n 0, 1) := by decide +kernel
theorem dX10_oneDay_6 : decode cX10_oneDay 6 = .ok (.getfield 36, 3) := by decide +kernel
theorem dX10_oneDay_9 : decode cX10_oneDay 9 = .ok (.if_icmp .ge 65, 3) := by decide +kernel
theorem dX10_oneDay_12 : decode cX10_oneDay 12 = .ok (.aload_n 0, 1) := by decide +kernel
theorem dX10_oneDay_13 : decode cX10_oneDay 13 = .ok (.getfield 24, 3) := by decide +kernel
theorem dX10_oneDay_16 : decode cX10_oneDay 16 = .ok (.iload_n 2, 1) := by decide +kernel
theorem dX10_oneDay_17 : decode cX10_oneDay 17 = .ok (.aaload, 1) := by decide +kernel
theorem dX10_oneDay_18 : decode cX10_oneDay 18 = .ok (.astore_n 3, 1) := by decide +kernel
theorem dX10_oneDay_19 : decode cX10_oneDay 19 = .ok (.aload_n 3, 1) := by decide +kernel
theorem dX10_oneDay_20 : decode cX10_oneDay 20 = .ok (.getfield 56, 3) := by decide +kernel
theorem dX10_oneDay_23 : decode cX10_oneDay 23 = .ok (.istore 4, 2) := by decide +kernel
theorem dX10_oneDay_25 : decode cX10_oneDay 25 = .ok (.aload_n 3, 1) := by decide +kernel
theorem dX10_oneDay_26 : decode cX10_oneDay 26 = .ok (.getfield 59, 3) := by decide +kernel
theorem dX10_oneDay_29 : decode cX10_oneDay 29 = .ok (.ifCond .ne 39, 3) := by decide +kernel
theorem dX10_oneDay_32 : decode cX10_oneDay 32 = .ok (.iload_n 1, 1) := by decide +kernel
theorem dX10_oneDay_33 : decode cX10_oneDay 33 = .ok (.iload 4, 2) := by decide +kernel
theorem dX10_oneDay_35 : decode cX10_oneDay 35 = .ok (.ishr, 1) := by decide +kernel
theorem dX10_oneDay_36 : decode cX10_oneDay 36 = .ok (.iconst 1, 1) := by decide +kernel
theorem dX10_oneDay_37 : decode cX10_oneDay 37 = .ok (.iand, 1) := by decide +kernel
theorem dX10_oneDay_38 : decode cX10_oneDay 38 = .ok (.ifCond .eq 6, 3) := by decide +kernel
theorem dX10_oneDay_41 : decode cX10_oneDay 41 = .ok (.goto 27, 3) := by decide +kernel
theorem dX10_oneDay_44 : decode cX10_oneDay 44 = .ok (.iload_n 1, 1) := by decide +kernel
theorem dX10_oneDay_45 : decode cX10_oneDay 45 = .ok (.iconst 1, 1) := by decide +kernel
theorem dX10_oneDay_46 : decode cX10_oneDay 46 = .ok (.iload 4, 2) := by decide +kernel
theorem dX10_oneDay_48 : decode cX10_oneDay 48 = .ok (.ishl, 1) := by decide +kernel
theorem dX10_oneDay_49 : decode cX10_oneDay 49 = .ok (.ior, 1) := by decide +kernel
theorem dX10_oneDay_50 : decode cX10_oneDay 50 = .ok (.istore_n 1, 1) := by decide +kernel
theorem dX10_oneDay_51 : decode cX10_oneDay 51 = .ok (.aload_n 0, 1) := by decide +kernel
theorem dX10_oneDay_52 : decode cX10_oneDay 52 = .ok (.iload 4, 2) := by decide +kernel
theorem dX10_oneDay_54 : decode cX10_oneDay 54 = .ok (.aload_n 3, 1) := by decide +kernel
theorem dX10_oneDay_55 : decode cX10_oneDay 55 = .ok (.invokevirtual 76, 3) := by decide +kernel
theorem dX10_oneDay_58 : decode cX10_oneDay 58 = .ok (.ifCond .ne 10, 3) := by decide +kernel
theorem dX10_oneDay_61 : decode cX10_oneDay 61 = .ok (.aload_n 0, 1) := by decide +kernel
theorem dX10_oneDay_62 : decode cX10_oneDay 62 = .ok (.iload 4, 2) := by decide +kernel
theorem dX10_oneDay_64 : decode cX10_oneDay 64 = .ok (.aload_n 3, 1) := by decide +kernel
theorem dX10_oneDay_65 : decode cX10_oneDay 65 = .ok (.invokevirtual 80, 3) := by decide +kernel
theorem dX10_oneDay_68 : decode cX10_oneDay 68 = .ok (.iinc 2 1, 3) := by decide +kernel
theorem dX10_oneDay_71 : decode cX10_oneDay 71 = .ok (.goto (-67), 3) := by decide +kernel
theorem dX10_oneDay_74 : decode cX10_oneDay 74 = .ok (.aload_n 0, 1) := by decide +kernel
theorem dX10_oneDay_75 : decode cX10_oneDay 75 = .ok (.dup, 1) := by decide +kernel
theorem dX10_oneDay_76 : decode cX10_oneDay 76 = .ok (.getfield 29, 3) := by decide +kernel
theorem dX10_oneDay_79 : decode cX10_oneDay 79 = .ok (.iconst 1, 1) := by decide +kernel
theorem dX10_oneDay_80 : decode cX10_oneDay 80 = .ok (.iadd, 1) := by decide +kernel
theorem dX10_oneDay_81 : decode cX10_oneDay 81 = .ok (.putfield 29, 3) := by decide +kernel
theorem dX10_oneDay_84 : decode cX10_oneDay 84 = .ok (.return_, 1) := by decide +kernel
theorem dX10_handsOn_0 : decode cX10_handsOn 0 = .ok (.aload_n 0, 1) := by decide +kernel
theorem dX10_handsOn_1 : decode cX10_handsOn 1 = .ok (.iload_n 1, 1) := by decide +kernel
theorem dX10_handsOn_2 : decode cX10_handsOn 2 = .ok (.invokevirtual 84, 3) := by decide +kernel
theorem dX10_handsOn_5 : decode cX10_handsOn 5 = .ok (.aload_n 2, 1) := by decide +kernel
theorem dX10_handsOn_6 : decode cX10_handsOn 6 = .ok (.getfield 67, 3) := by decide +kernel
theorem dX10_handsOn_9 : decode cX10_handsOn 9 = .ok (.aload_n 0, 1) := by decide +kernel
theorem dX10_handsOn_10 : decode cX10_handsOn 10 = .ok (.getfield 29, 3) := by decide +kernel
theorem dX10_handsOn_13 : decode cX10_handsOn 13 = .ok (.iconst 4, 1) := by decide +kernel
theorem dX10_handsOn_14 : decode cX10_handsOn 14 = .ok (.irem, 1) := by decide +kernel
theorem dX10_handsOn_15 : decode cX10_handsOn 15 = .ok (.invokevirtual 88, 3) := by decide +kernel
theorem dX10_handsOn_18 : decode cX10_handsOn 18 = .ok (.istore_n 3, 1) := by decide +kernel
theorem dX10_handsOn_19 : decode cX10_handsOn 19 = .ok (.iload_n 3, 1) := by decide +kernel
theorem dX10_handsOn_20 : decode cX10_handsOn 20 = .ok (.ifCond .lt 11, 3) := by decide +kernel
theorem dX10_handsOn_23 : decode cX10_handsOn 23 = .ok (.aload_n 0, 1) := by decide +kernel
theorem dX10_handsOn_24 : decode cX10_handsOn 24 = .ok (.getfield 33, 3) := by decide +kernel
theorem dX10_handsOn_27 : decode cX10_handsOn 27 = .ok (.iconst 2, 1) := by decide +kernel
theorem dX10_handsOn_28 : decode cX10_handsOn 28 = .ok (.if_icmp .ge 5, 3) := by decide +kernel
theorem dX10_handsOn_31 : decode cX10_handsOn 31 = .ok (.iconst 0, 1) := by decide +kernel
theorem dX10_handsOn_32 : decode cX10_handsOn 32 = .ok (.ireturn, 1) := by decide +kernel
theorem dX10_handsOn_33 : decode cX10_handsOn 33 = .ok (.aload_n 2, 1) := by decide +kernel
theorem dX10_handsOn_34 : decode cX10_handsOn 34 = .ok (.iload_n 3, 1) := by decide +kernel
theorem dX10_handsOn_35 : decode cX10_handsOn 35 = .ok (.invokevirtual 94, 3) := by decide +kernel
theorem dX10_handsOn_38 : decode cX10_handsOn 38 = .ok (.aload_n 2, 1) := by decide +kernel
theorem dX10_handsOn_39 : decode cX10_handsOn 39 = .ok (.iload_n 1, 1) := by decide +kernel
theorem dX10_handsOn_40 : decode cX10_handsOn 40 = .ok (.iconst 1, 1) := by decide +kernel
theorem dX10_handsOn_41 : decode cX10_handsOn 41 = .ok (.iadd, 1) := by decide +kernel
theorem dX10_handsOn_42 : decode cX10_handsOn 42 = .ok (.aload_n 0, 1) := by decide +kernel
theorem dX10_handsOn_43 : decode cX10_handsOn 43 = .ok (.getfield 33, 3) := by decide +kernel
theorem dX10_handsOn_46 : decode cX10_handsOn 46 = .ok (.if_icmp .ge 9, 3) := by decide +kernel
theorem dX10_handsOn_49 : decode cX10_handsOn 49 = .ok (.iload_n 1, 1) := by decide +kernel
theorem dX10_handsOn_50 : decode cX10_handsOn 50 = .ok (.iconst 1, 1) := by decide +kernel
theorem dX10_handsOn_51 : decode cX10_handsOn 51 = .ok (.iadd, 1) := by decide +kernel
theorem dX10_handsOn_52 : decode cX10_handsOn 52 = .ok (.goto 4, 3) := by decide +kernel
theorem dX10_handsOn_55 : decode cX10_handsOn 55 = .ok (.iconst 0, 1) := by decide +kernel
theorem dX10_handsOn_56 : decode cX10_handsOn 56 = .ok (.putfield 56, 3) := by decide +kernel
theorem dX10_handsOn_59 : decode cX10_handsOn 59 = .ok (.iconst 1, 1) := by decide +kernel
theorem dX10_handsOn_60 : decode cX10_handsOn 60 = .ok (.ireturn, 1) := by decide +kernel
theorem dX10_takesOff_0 : decode cX10_takesOff 0 = .ok (.aload_n 2, 1) := by decide +kernel
theorem dX10_takesOff_1 : decode cX10_takesOff 1 = .ok (.getfield 67, 3) := by decide +kernel
theorem dX10_takesOff_4 : decode cX10_takesOff 4 = .ok (.ifCond .ne 5, 3) := by decide +kernel
theorem dX10_takesOff_7 : decode cX10_takesOff 7 = .ok (.iconst 0, 1) := by decide +kernel
theorem dX10_takesOff_8 : decode cX10_takesOff 8 = .ok (.ireturn, 1) := by decide +kernel
theorem dX10_takesOff_9 : decode cX10_takesOff 9 = .ok (.aload_n 0, 1) := by decide +kernel
theorem dX10_takesOff_10 : decode cX10_takesOff 10 = .ok (.iload_n 1, 1) := by decide +kernel
theorem dX10_takesOff_11 : decode cX10_takesOff 11 = .ok (.invokevirtual 84, 3) := by decide +kernel
theorem dX10_takesOff_14 : decode cX10_takesOff 14 = .ok (.aload_n 0, 1) := by decide +kernel
theorem dX10_takesOff_15 : decode cX10_takesOff 15 = .ok (.getfield 29, 3) := by decide +kernel
theorem dX10_takesOff_18 : decode cX10_takesOff 18 = .ok (.aload_n 2, 1) := by decide +kernel
theorem dX10_takesOff_19 : decode cX10_takesOff 19 = .ok (.getfield 67, 3) := by decide +kernel
theorem dX10_takesOff_22 : decode cX10_takesOff 22 = .ok (.aload_n 2, 1) := by decide +kernel
theorem dX10_takesOff_23 : decode cX10_takesOff 23 = .ok (.invokevirtual 98, 3) := by decide +kernel
theorem dX10_takesOff_26 : decode cX10_takesOff 26 = .ok (.invokevirtual 101, 3) := by decide +kernel
theorem dX10_takesOff_29 : decode cX10_takesOff 29 = .ok (.istore_n 3, 1) := by decide +kernel
theorem dX10_takesOff_30 : decode cX10_takesOff 30 = .ok (.iload_n 3, 1) := by decide +kernel
theorem dX10_takesOff_31 : decode cX10_takesOff 31 = .ok (.aload_n 2, 1) := by decide +kernel
theorem dX10_takesOff_32 : decode cX10_takesOff 32 = .ok (.getfield 67, 3) := by decide +kernel
theorem dX10_takesOff_35 : decode cX10_takesOff 35 = .ok (.invokestatic 105, 3) := by decide +kernel
theorem dX10_takesOff_38 : decode cX10_takesOff 38 = .ok (.ireturn, 1) := by decide +kernel
theorem dX10_openBy_0 : decode cX10_openBy 0 = .ok (.aload_n 0, 1) := by decide +kernel
theorem dX10_openBy_1 : decode cX10_openBy 1 = .ok (.iload_n 1, 1) := by decide +kernel
theorem dX10_openBy_2 : decode cX10_openBy 2 = .ok (.invokevirtual 84, 3) := by decide +kernel
theorem dX10_openBy_5 : decode cX10_openBy 5 = .ok (.astore_n 3, 1) := by decide +kernel
theorem dX10_openBy_6 : decode cX10_openBy 6 = .ok (.aload_n 0, 1) := by decide +kernel
theorem dX10_openBy_7 : decode cX10_openBy 7 = .ok (.iload_n 1, 1) := by decide +kernel
theorem dX10_openBy_8 : decode cX10_openBy 8 = .ok (.aload_n 2, 1) := by decide +kernel
theorem dX10_openBy_9 : decode cX10_openBy 9 = .ok (.invokevirtual 110, 3) := by decide +kernel
theorem dX10_openBy_12 : decode cX10_openBy 12 = .ok (.istore 4, 2) := by decide +kernel
theorem dX10_openBy_14 : decode cX10_openBy 14 = .ok (.iconst 0, 1) := by decide +kernel
theorem dX10_openBy_15 : decode cX10_openBy 15 = .ok (.istore 5, 2) := by decide +kernel
theorem dX10_openBy_17 : decode cX10_openBy 17 = .ok (.iload 5, 2) := by decide +kernel
theorem dX10_openBy_19 : decode cX10_openBy 19 = .ok (.iload 4, 2) := by decide +kernel
theorem dX10_openBy_21 : decode cX10_openBy 21 = .ok (.if_icmp .ge 26, 3) := by decide +kernel
theorem dX10_openBy_24 : decode cX10_openBy 24 = .ok (.aload_n 0, 1) := by decide +kernel
theorem dX10_openBy_25 : decode cX10_openBy 25 = .ok (.getfield 17, 3) := by decide +kernel
theorem dX10_openBy_28 : decode cX10_openBy 28 = .ok (.iload_n 1, 1) := by decide +kernel
theorem dX10_openBy_29 : decode cX10_openBy 29 = .ok (.aaload, 1) := by decide +kernel
theorem dX10_openBy_30 : decode cX10_openBy 30 = .ok (.aload_n 3, 1) := by decide +kernel
theorem dX10_openBy_31 : decode cX10_openBy 31 = .ok (.aload_n 2, 1) := by decide +kernel
theorem dX10_openBy_32 : decode cX10_openBy 32 = .ok (.invokevirtual 114, 3) := by decide +kernel
theorem dX10_openBy_35 : decode cX10_openBy 35 = .ok (.invokevirtual 117, 3) := by decide +kernel
theorem dX10_openBy_38 : decode cX10_openBy 38 = .ok (.invokevirtual 121, 3) := by decide +kernel
theorem dX10_openBy_41 : decode cX10_openBy 41 = .ok (.iinc 5 1, 3) := by decide +kernel
theorem dX10_openBy_44 : decode cX10_openBy 44 = .ok (.goto (-27), 3) := by decide +kernel
theorem dX10_openBy_47 : decode cX10_openBy 47 = .ok (.aload_n 2, 1) := by decide +kernel
theorem dX10_openBy_48 : decode cX10_openBy 48 = .ok (.getfield 67, 3) := by decide +kernel
theorem dX10_openBy_51 : decode cX10_openBy 51 = .ok (.ifCond .ne 25, 3) := by decide +kernel
theorem dX10_openBy_54 : decode cX10_openBy 54 = .ok (.aload_n 2, 1) := by decide +kernel
theorem dX10_openBy_55 : decode cX10_openBy 55 = .ok (.iconst 1, 1) := by decide +kernel
theorem dX10_openBy_56 : decode cX10_openBy 56 = .ok (.putfield 59, 3) := by decide +kernel
theorem dX10_openBy_59 : decode cX10_openBy 59 = .ok (.aload_n 0, 1) := by decide +kernel
theorem dX10_openBy_60 : decode cX10_openBy 60 = .ok (.getfield 17, 3) := by decide +kernel
theorem dX10_openBy_63 : decode cX10_openBy 63 = .ok (.iload_n 1, 1) := by decide +kernel
theorem dX10_openBy_64 : decode cX10_openBy 64 = .ok (.aaload, 1) := by decide +kernel
theorem dX10_openBy_65 : decode cX10_openBy 65 = .ok (.aload_n 3, 1) := by decide +kernel
theorem dX10_openBy_66 : decode cX10_openBy 66 = .ok (.aload_n 2, 1) := by decide +kernel
theorem dX10_openBy_67 : decode cX10_openBy 67 = .ok (.getfield 70, 3) := by decide +kernel
theorem dX10_openBy_70 : decode cX10_openBy 70 = .ok (.invokevirtual 124, 3) := by decide +kernel
theorem dX10_openBy_73 : decode cX10_openBy 73 = .ok (.invokevirtual 121, 3) := by decide +kernel
theorem dX10_openBy_76 : decode cX10_openBy 76 = .ok (.return_, 1) := by decide +kernel
theorem dX11_init_0 : decode cX11_init 0 = .ok (.aload_n 0, 1) := by decide +kernel
theorem dX11_init_1 : decode cX11_init 1 = .ok (.invokespecial 1, 3) := by decide +kernel
theorem dX11_init_4 : decode cX11_init 4 = .ok (.invokestatic 7, 3) := by decide +kernel
theorem dX11_init_7 : decode cX11_init 7 = .ok (.astore_n 1, 1) := by decide +kernel
theorem dX11_init_8 : decode cX11_init 8 = .ok (.aload_n 0, 1) := by decide +kernel
theorem dX11_init_9 : decode cX11_init 9 = .ok (.new 13, 3) := by decide +kernel
theorem dX11_init_12 : decode cX11_init 12 = .ok (.dup, 1) := by decide +kernel
theorem dX11_init_13 : decode cX11_init 13 = .ok (.aload_n 1, 1) := by decide +kernel
theorem dX11_init_14 : decode cX11_init 14 = .ok (.invokespecial 15, 3) := by decide +kernel
theorem dX11_init_17 : decode cX11_init 17 = .ok (.putfield 18, 3) := by decide +kernel
theorem dX11_init_20 : decode cX11_init 20 = .ok (.aload_n 0, 1) := by decide +kernel
theorem dX11_init_21 : decode cX11_init 21 = .ok (.new 13, 3) := by decide +kernel
theorem dX11_init_24 : decode cX11_init 24 = .ok (.dup, 1) := by decide +kernel
theorem dX11_init_25 : decode cX11_init 25 = .ok (.aload_n 1, 1) := by decide +kernel
theorem dX11_init_26 : decode cX11_init 26 = .ok (.invokespecial 15, 3) := by decide +kernel
theorem dX11_init_29 : decode cX11_init 29 = .ok (.putfield 22, 3) := by decide +kernel
theorem dX11_init_32 : decode cX11_init 32 = .ok (.aload_n 0, 1) := by decide +kernel
theorem dX11_init_33 : decode cX11_init 33 = .ok (.new 13, 3) := by decide +kernel
theorem dX11_init_36 : decode cX11_init 36 = .ok (.dup, 1) := by decide +kernel
theorem dX11_init_37 : decode cX11_init 37 = .ok (.aload_n 1, 1) := by decide +kernel
theorem dX11_init_38 : decode cX11_init 38 = .ok (.invokespecial 15, 3) := by decide +kernel
theorem dX11_init_41 : decode cX11_init 41 = .ok (.putfield 25, 3) := by decide +kernel
theorem dX11_init_44 : decode cX11_init 44 = .ok (.aload_n 0, 1) := by decide +kernel
theorem dX11_init_45 : decode cX11_init 45 = .ok (.iconst 0, 1) := by decide +kernel
theorem dX11_init_46 : decode cX11_init 46 = .ok (.putfield 28, 3) := by decide +kernel
theorem dX11_init_49 : decode cX11_init 49 = .ok (.aload_n 0, 1) := by decide +kernel
theorem dX11_init_50 : decode cX11_init 50 = .ok (.iconst 4, 1) := by decide +kernel
theorem dX11_init_51 : decode cX11_init 51 = .ok (.anewarray 32, 3) := by decide +kernel
theorem dX11_init_54 : decode cX11_init 54 = .ok (.putfield 34, 3) := by decide +kernel
theorem dX11_init_57 : decode cX11_init 57 = .ok (.iconst 0, 1) := by decide +kernel
theorem dX11_init_58 : decode cX11_init 58 = .ok (.istore_n 2, 1) := by decide +kernel
theorem dX11_init_59 : decode cX11_init 59 = .ok (.iload_n 2, 1) := by decide +kernel
theorem dX11_init_60 : decode cX11_init 60 = .ok (.iconst 4, 1) := by decide +kernel
theorem dX11_init_61 : decode cX11_init 61 = .ok (.if_icmp .ge 22, 3) := by decide +kernel
theorem dX11_init_64 : decode cX11_init 64 = .ok (.aload_n 0, 1) := by decide +kernel
theorem dX11_init_65 : decode cX11_init 65 = .ok (.getfield 34, 3) := by decide +kernel
theorem dX11_init_68 : decode cX11_init 68 = .ok (.iload_n 2, 1) := by decide +kernel
theorem dX11_init_69 : decode cX11_init 69 = .ok (.new 32, 3) := by decide +kernel
theorem dX11_init_72 : decode cX11_init 72 = .ok (.dup, 1) := by decide +kernel
theorem dX11_init_73 : decode cX11_init 73 = .ok (.invokespecial 38, 3) := by decide +kernel
theorem dX11_init_76 : decode cX11_init 76 = .ok (.aastore, 1) := by decide +kernel
theorem dX11_init_77 : decode cX11_init 77 = .ok (.iinc 2 1, 3) := by decide +kernel
theorem dX11_init_80 : decode cX11_init 80 = .ok (.goto (-21), 3) := by decide +kernel
theorem dX11_init_83 : decode cX11_init 83 = .ok (.aload_n 0, 1) := by decide +kernel
theorem dX11_init_84 : decode cX11_init 84 = .ok (.new 39, 3) := by decide +kernel
theorem dX11_init_87 : decode cX11_init 87 = .ok (.dup, 1) := by decide +kernel
theorem dX11_init_88 : decode cX11_init 88 = .ok (.invokespecial 41, 3) := by decide +kernel
theorem dX11_init_91 : decode cX11_init 91 = .ok (.putfield 42, 3) := by decide +kernel
theorem dX11_init_94 : decode cX11_init 94 = .ok (.aload_n 0, 1) := by decide +kernel
theorem dX11_init_95 : decode cX11_init 95 = .ok (.bipush 7, 2) := by decide +kernel
theorem dX11_init_97 : decode cX11_init 97 = .ok (.newarray .int, 2) := by decide +kernel
theorem dX11_init_99 : decode cX11_init 99 = .ok (.putfield 46, 3) := by decide +kernel
theorem dX11_init_102 : decode cX11_init 102 = .ok (.aload_n 0, 1) := by decide +kernel
theorem dX11_init_103 : decode cX11_init 103 = .ok (.bipush 6, 2) := by decide +kernel
theorem dX11_init_105 : decode cX11_init 105 = .ok (.newarray .int, 2) := by decide +kernel
theorem dX11_init_107 : decode cX11_init 107 = .ok (.putfield 50, 3) := by decide +kernel
theorem dX11_init_110 : decode cX11_init 110 = .ok (.return_, 1) := by decide +kernel
theorem dX11_person_0 : decode cX11_person 0 = .ok (.iload_n 1, 1) := by decide +kernel
theorem dX11_person_1 : decode cX11_person 1 = .ok (.invokestatic 53, 3) := by decide +kernel
theorem dX11_person_4 : decode cX11_person 4 = .ok (.ifCond .ne 10, 3) := by decide +kernel
theorem dX11_person_7 : decode cX11_person 7 = .ok (.aload_n 0, 1) := by decide +kernel
theorem dX11_person_8 : decode cX11_person 8 = .ok (.ldc 57, 2) := by decide +kernel
theorem dX11_person_10 : decode cX11_person 10 = .ok (.invokevirtual 58, 3) := by decide +kernel
theorem dX11_person_13 : decode cX11_person 13 = .ok (.ireturn, 1) := by decide +kernel
theorem dX11_person_14 : decode cX11_person 14 = .ok (.aload_n 0, 1) := by decide +kernel
theorem dX11_person_15 : decode cX11_person 15 = .ok (.getfield 18, 3) := by decide +kernel
theorem dX11_person_18 : decode cX11_person 18 = .ok (.getfield 62, 3) := by decide +kernel
theorem dX11_person_21 : decode cX11_person 21 = .ok (.bipush 6, 2) := by decide +kernel
theorem dX11_person_23 : decode cX11_person 23 = .ok (.if_icmp .lt 10, 3) := by decide +kernel
theorem dX11_person_26 : decode cX11_person 26 = .ok (.aload_n 0, 1) := by decide +kernel
theorem dX11_person_27 : decode cX11_person 27 = .ok (.ldc 66, 2) := by decide +kernel
theorem dX11_person_29 : decode cX11_person 29 = .ok (.invokevirtual 58, 3) := by decide +kernel
theorem dX11_person_32 : decode cX11_person 32 = .ok (.ireturn, 1) := by decide +kernel
theorem dX11_person_33 : decode cX11_person 33 = .ok (.aload_n 0, 1) := by decide +kernel
theorem dX11_person_34 : decode cX11_person 34 = .ok (.getfield 18, 3) := by decide +kernel
theorem dX11_person_37 : decode cX11_person 37 = .ok (.iload_n 1, 1) := by decide +kernel
theorem dX11_person_38 : decode cX11_person 38 = .ok (.invokevirtual 67, 3) := by decide +kernel
theorem dX11_person_41 : decode cX11_person 41 = .ok (.ireturn, 1) := by decide +kernel
theorem dX11_of_0 : decode cX11_of 0 = .ok (.aload_n 0, 1) := by decide +kernel
theorem dX11_of_1 : decode cX11_of 1 = .ok (.iload_n 1, 1) := by decide +kernel
theorem dX11_of_2 : decode cX11_of 2 = .ok (.invokevirtual 70, 3) := by decide +kernel
theorem dX11_of_5 : decode cX11_of 5 = .ok (.ifCond .ne 10, 3) := by decide +kernel
theorem dX11_of_8 : decode cX11_of 8 = .ok (.aload_n 0, 1) := by decide +kernel
theorem dX11_of_9 : decode cX11_of 9 = .ok (.ldc 57, 2) := by decide +kernel
theorem dX11_of_11 : decode cX11_of 11 = .ok (.invokevirtual 58, 3) := by decide +kernel
theorem dX11_of_14 : decode cX11_of 14 = .ok (.ireturn, 1) := by decide +kernel
theorem dX11_of_15 : decode cX11_of 15 = .ok (.iload_n 2, 1) := by decide +kernel
theorem dX11_of_16 : decode cX11_of 16 = .ok (.tableswitch 84 0 3 #[32, 45, 58, 67], 32) := by decide +kernel
theorem dX11_of_48 : decode cX11_of 48 = .ok (.aload_n 0, 1) := by decide +kernel
theorem dX11_of_49 : decode cX11_of 49 = .ok (.getfield 18, 3) := by decide +kernel
theorem dX11_of_52 : decode cX11_of 52 = .ok (.getfield 73, 3) := by decide +kernel
theorem dX11_of_55 : decode cX11_of 55 = .ok (.iload_n 1, 1) := by decide +kernel
theorem dX11_of_56 : decode cX11_of 56 = .ok (.aaload, 1) := by decide +kernel
theorem dX11_of_57 : decode cX11_of 57 = .ok (.getfield 77, 3) := by decide +kernel
theorem dX11_of_60 : decode cX11_of 60 = .ok (.ireturn, 1) := by decide +kernel
theorem dX11_of_61 : decode cX11_of 61 = .ok (.aload_n 0, 1) := by decide +kernel
theorem dX11_of_62 : decode cX11_of 62 = .ok (.getfield 18, 3) := by decide +kernel
theorem dX11_of_65 : decode cX11_of 65 = .ok (.getfield 73, 3) := by decide +kernel
theorem dX11_of_68 : decode cX11_of 68 = .ok (.iload_n 1, 1) := by decide +kernel
theorem dX11_of_69 : decode cX11_of 69 = .ok (.aaload, 1) := by decide +kernel
theorem dX11_of_70 : decode cX11_of 70 = .ok (.getfield 82, 3) := by decide +kernel
theorem dX11_of_73 : decode cX11_of 73 = .ok (.ireturn, 1) := by decide +kernel
theorem dX11_of_74 : decode cX11_of 74 = .ok (.aload_n 0, 1) := by decide +kernel
theorem dX11_of_75 : decode cX11_of 75 = .ok (.getfield 18, 3) := by decide +kernel
theorem dX11_of_78 : decode cX11_of 78 = .ok (.iload_n 1, 1) := by decide +kernel
theorem dX11_of_79 : decode cX11_of 79 = .ok (.invokevirtual 85, 3) := by decide +kernel
theorem dX11_of_82 : decode cX11_of 82 = .ok (.ireturn, 1) := by decide +kernel
theorem dX11_of_83 : decode cX11_of 83 = .ok (.aload_n 0, 1) := by decide +kernel
theorem dX11_of_84 : decode cX11_of 84 = .ok (.getfield 18, 3) := by decide +kernel
theorem dX11_of_87 : decode cX11_of 87 = .ok (.iload_n 1, 1) := by decide +kernel
theorem dX11_of_88 : decode cX11_of 88 = .ok (.invokevirtual 85, 3) := by decide +kernel
theorem dX11_of_91 : decode cX11_of 91 = .ok (.aload_n 0, 1) := by decide +kernel
theorem dX11_of_92 : decode cX11_of 92 = .ok (.getfield 18, 3) := by decide +kernel
theorem dX11_of_95 : decode cX11_of 95 = .ok (.invokevirtual 88, 3) := by decide +kernel
theorem dX11_of_98 : decode cX11_of 98 = .ok (.iand, 1) := by decide +kernel
theorem dX11_of_99 : decode cX11_of 99 = .ok (.ireturn, 1) := by decide +kernel
theorem dX11_of_100 : decode cX11_of 100 = .ok (.aload_n 0, 1) := by decide +kernel
theorem dX11_of_101 : decode cX11_of 101 = .ok (.ldc 57, 2) := by decide +kernel
theorem dX11_of_103 : decode cX11_of 103 = .ok (.invokevirtual 58, 3) := by decide +kernel
theorem dX11_of_106 : decode cX11_of 106 = .ok (.ireturn, 1) := by decide +kernel
theorem dX11_does_0 : decode cX11_does 0 = .ok (.aload_n 0, 1) := by decide +kernel
theorem dX11_does_1 : decode cX11_does 1 = .ok (.iload_n 1, 1) := by decide +kernel
theorem dX11_does_2 : decode cX11_does 2 = .ok (.invokevirtual 70, 3) := by decide +kernel
theorem dX11_does_5 : decode cX11_does 5 = .ok (.ifCond .eq 20, 3) := by decide +kernel
theorem dX11_does_8 : decode cX11_does 8 = .ok (.iload_n 2, 1) := by decide +kernel
theorem dX11_does_9 : decode cX11_does 9 = .ok (.iconst 0, 1) := by decide +kernel
theorem dX11_does_10 : decode cX11_does 10 = .ok (.iconst 3, 1) := by decide +kernel
theorem dX11_does_11 : decode cX11_does 11 = .ok (.invokestatic 92, 3) := by decide +kernel
theorem dX11_does_14 : decode cX11_does 14 = .ok (.ifCond .eq 11, 3) := by decide +kernel
theorem dX11_does_17 : decode cX11_does 17 = .ok (.aload_n 0, 1) := by decide +kernel
theorem dX11_does_18 : decode cX11_does 18 = .ok (.iload_n 3, 1) := by decide +kernel
theorem dX11_does_19 : decode cX11_does 19 = .ok (.invokevirtual 96, 3) := by decide +kernel
theorem dX11_does_22 : decode cX11_does 22 = .ok (.ifCond .ne 10, 3) := by decide +kernel
theorem dX11_does_25 : decode cX11_does 25 = .ok (.aload_n 0, 1) := by decide +kernel
theorem dX11_does_26 : decode cX11_does 26 = .ok (.ldc 57, 2) := by decide +kernel
theorem dX11_does_28 : decode cX11_does 28 = .ok (.invokevirtual 58, 3) := by decide +kernel
theorem dX11_does_31 : decode cX11_does 31 = .ok (.ireturn, 1) := by decide +kernel
theorem dX11_does_32 : decode cX11_does 32 = .ok (.aload_n 0, 1) := by decide +kernel
theorem dX11_does_33 : decode cX11_does 33 = .ok (.getfield 18, 3) := by decide +kernel
theorem dX11_does_36 : decode cX11_does 36 = .ok (.iload_n 1, 1) := by decide +kernel
theorem dX11_does_37 : decode cX11_does 37 = .ok (.invokevirtual 99, 3) := by decide +kernel
theorem dX11_does_40 : decode cX11_does 40 = .ok (.astore 4, 2) := by decide +kernel
theorem dX11_does_42 : decode cX11_does 42 = .ok (.aload_n 0, 1) := by decide +kernel
theorem dX11_does_43 : decode cX11_does 43 = .ok (.getfield 18, 3) := by decide +kernel
theorem dX11_does_46 : decode cX11_does 46 = .ok (.getfield 103, 3) := by decide +kernel
theorem dX11_does_49 : decode cX11_does 49 = .ok (.iload_n 3, 1) := by decide +kernel
theorem dX11_does_50 : decode cX11_does 50 = .ok (.aaload, 1) := by decide +kernel
theorem dX11_does_51 : decode cX11_does 51 = .ok (.astore 5, 2) := by decide +kernel
theorem dX11_does_53 : decode cX11_does 53 = .ok (.iload_n 2, 1) := by decide +kernel
theorem dX11_does_54 : decode cX11_does 54 = .ok (.iconst 1, 1) := by decide +kernel
theorem dX11_does_55 : decode cX11_does 55 = .ok (.if_icmp .gt 18, 3) := by decide +kernel
theorem dX11_does_58 : decode cX11_does 58 = .ok (.aload 5, 2) := by decide +kernel
theorem dX11_does_60 : decode cX11_does 60 = .ok (.getfield 107, 3) := by decide +kernel
theorem dX11_does_63 : decode cX11_does 63 = .ok (.ifCond .ne 10, 3) := by decide +kernel
theorem dX11_does_66 : decode cX11_does 66 = .ok (.aload_n 0, 1) := by decide +kernel
theorem dX11_does_67 : decode cX11_does 67 = .ok (.ldc 112, 2) := by decide +kernel
theorem dX11_does_69 : decode cX11_does 69 = .ok (.invokevirtual 58, 3) := by decide +kernel
theorem dX11_does_72 : decode cX11_does 72 = .ok (.ireturn, 1) := by decide +kernel
theorem dX11_does_73 : decode cX11_does 73 = .ok (.iload_n 2, 1) := by decide +kernel
theorem dX11_does_74 : decode cX11_does 74 = .ok (.tableswitch 59 0 2 #[26, 37, 48], 26) := by decide +kernel
theorem dX11_does_100 : decode cX11_does 100 = .ok (.aload_n 0, 1) := by decide +kernel
theorem dX11_does_101 : decode cX11_does 101 = .ok (.getfield 18, 3) := by decide +kernel
theorem dX11_does_104 : decode cX11_does 104 = .ok (.iload_n 1, 1) := by decide +kernel
theorem dX11_does_105 : decode cX11_does 105 = .ok (.aload 5, 2) := by decide +kernel
theorem dX11_does_107 : decode cX11_does 107 = .ok (.invokevirtual 113, 3) := by decide +kernel
theorem dX11_does_110 : decode cX11_does 110 = .ok (.ireturn, 1) := by decide +kernel
theorem dX11_does_111 : decode cX11_does 111 = .ok (.aload 4, 2) := by decide +kernel
theorem dX11_does_113 : decode cX11_does 113 = .ok (.aload 5, 2) := by decide +kernel
theorem dX11_does_115 : decode cX11_does 115 = .ok (.invokevirtual 117, 3) := by decide +kernel
theorem dX11_does_118 : decode cX11_does 118 = .ok (.invokevirtual 120, 3) := by decide +kernel
theorem dX11_does_121 : decode cX11_does 121 = .ok (.ireturn, 1) := by decide +kernel
theorem dX11_does_122 : decode cX11_does 122 = .ok (.aload 4, 2) := by decide +kernel
theorem dX11_does_124 : decode cX11_does 124 = .ok (.aload 5, 2) := by decide +kernel
theorem dX11_does_126 : decode cX11_does 126 = .ok (.getfield 125, 3) := by decide +kernel
theorem dX11_does_129 : decode cX11_does 129 = .ok (.invokevirtual 128, 3) := by decide +kernel
theorem dX11_does_132 : decode cX11_does 132 = .ok (.ireturn, 1) := by decide +kernel
theorem dX11_does_133 : decode cX11_does 133 = .ok (.iconst 1, 1) := by decide +kernel
theorem dX11_does_134 : decode cX11_does 134 = .ok (.aload 4, 2) := by decide +kernel
theorem dX11_does_136 : decode cX11_does 136 = .ok (.aload 5, 2) := by decide +kernel
theorem dX11_does_138 : decode cX11_does 138 = .ok (.getfield 107, 3) := by decide +kernel
theorem dX11_does_141 : decode cX11_does 141 = .ok (.aload_n 0, 1) := by decide +kernel
theorem dX11_does_142 : decode cX11_does 142 = .ok (.getfield 18, 3) := by decide +kernel
theorem dX11_does_145 : decode cX11_does 145 = .ok (.getfield 131, 3) := by decide +kernel
theorem dX11_does_148 : decode cX11_does 148 = .ok (.iconst 4, 1) := by decide +kernel
theorem dX11_does_149 : decode cX11_does 149 = .ok (.irem, 1) := by decide +kernel
theorem dX11_does_150 : decode cX11_does 150 = .ok (.invokevirtual 134, 3) := by decide +kernel
theorem dX11_does_153 : decode cX11_does 153 = .ok (.iadd, 1) := by decide +kernel
theorem dX11_does_154 : decode cX11_does 154 = .ok (.ireturn, 1) := by decide +kernel
theorem dX11_joy_0 : decode cX11_joy 0 = .ok (.aload_n 0, 1) := by decide +kernel
theorem dX11_joy_1 : decode cX11_joy 1 = .ok (.iload_n 1, 1) := by decide +kernel
theorem dX11_joy_2 : decode cX11_joy 2 = .ok (.invokevirtual 70, 3) := by decide +kernel
theorem dX11_joy_5 : decode cX11_joy 5 = .ok (.ifCond .eq 14, 3) := by decide +kernel
theorem dX11_joy_8 : decode cX11_joy 8 = .ok (.iload_n 2, 1) := by decide +kernel
theorem dX11_joy_9 : decode cX11_joy 9 = .ok (.iconst 0, 1) := by decide +kernel
theorem dX11_joy_10 : decode cX11_joy 10 = .ok (.sipush 9999, 3) := by decide +kernel
theorem dX11_joy_13 : decode cX11_joy 13 = .ok (.invokestatic 92, 3) := by decide +kernel
theorem dX11_joy_16 : decode cX11_joy 16 = .ok (.ifCond .ne 10, 3) := by decide +kernel
theorem dX11_joy_19 : decode cX11_joy 19 = .ok (.aload_n 0, 1) := by decide +kernel
theorem dX11_joy_20 : decode cX11_joy 20 = .ok (.ldc 57, 2) := by decide +kernel
theorem dX11_joy_22 : decode cX11_joy 22 = .ok (.invokevirtual 58, 3) := by decide +kernel
theorem dX11_joy_25 : decode cX11_joy 25 = .ok (.ireturn, 1) := by decide +kernel
theorem dX11_joy_26 : decode cX11_joy 26 = .ok (.aload_n 0, 1) := by decide +kernel
theorem dX11_joy_27 : decode cX11_joy 27 = .ok (.getfield 18, 3) := by decide +kernel
theorem dX11_joy_30 : decode cX11_joy 30 = .ok (.getfield 73, 3) := by decide +kernel
theorem dX11_joy_33 : decode cX11_joy 33 = .ok (.iload_n 1, 1) := by decide +kernel
theorem dX11_joy_34 : decode cX11_joy 34 = .ok (.aaload, 1) := by decide +kernel
theorem dX11_joy_35 : decode cX11_joy 35 = .ok (.getfield 82, 3) := by decide +kernel
theorem dX11_joy_38 : decode cX11_joy 38 = .ok (.istore_n 3, 1) := by decide +kernel
theorem dX11_joy_39 : decode cX11_joy 39 = .ok (.aload_n 0, 1) := by decide +kernel
theorem dX11_joy_40 : decode cX11_joy 40 = .ok (.getfield 18, 3) := by decide +kernel
theorem dX11_joy_43 : decode cX11_joy 43 = .ok (.getfield 73, 3) := by decide +kernel
theorem dX11_joy_46 : decode cX11_joy 46 = .ok (.iload_n 1, 1) := by decide +kernel
theorem dX11_joy_47 : decode cX11_joy 47 = .ok (.aaload, 1) := by decide +kernel
theorem dX11_joy_48 : decode cX11_joy 48 = .ok (.iload_n 2, 1) := by decide +kernel
theorem dX11_joy_49 : decode cX11_joy 49 = .ok (.putfield 82, 3) := by decide +kernel
theorem dX11_joy_52 : decode cX11_joy 52 = .ok (.iload_n 3, 1) := by decide +kernel
theorem dX11_joy_53 : decode cX11_joy 53 = .ok (.ireturn, 1) := by decide +kernel
theorem dX11_turn_0 : decode cX11_turn 0 = .ok (.aload_n 0, 1) := by decide +kernel
theorem dX11_turn_1 : decode cX11_turn 1 = .ok (.iload_n 1, 1) := by decide +kernel
theorem dX11_turn_2 : decode cX11_turn 2 = .ok (.invokevirtual 70, 3) := by decide +kernel
theorem dX11_turn_5 : decode cX11_turn 5 = .ok (.ifCond .eq 10, 3) := by decide +kernel
theorem dX11_turn_8 : decode cX11_turn 8 = .ok (.iload_n 2, 1) := by decide +kernel
theorem dX11_turn_9 : decode cX11_turn 9 = .ok (.invokestatic 53, 3) := by decide +kernel
theorem dX11_turn_12 : decode cX11_turn 12 = .ok (.ifCond .ne 10, 3) := by decide +kernel
theorem dX11_turn_15 : decode cX11_turn 15 = .ok (.aload_n 0, 1) := by decide +kernel
theorem dX11_turn_16 : decode cX11_turn 16 = .ok (.ldc 57, 2) := by decide +kernel
theorem dX11_turn_18 : decode cX11_turn 18 = .ok (.invokevirtual 58, 3) := by decide +kernel
theorem dX11_turn_21 : decode cX11_turn 21 = .ok (.ireturn, 1) := by decide +kernel
theorem dX11_turn_22 : decode cX11_turn 22 = .ok (.aload_n 0, 1) := by decide +kernel
theorem dX11_turn_23 : decode cX11_turn 23 = .ok (.getfield 18, 3) := by decide +kernel
theorem dX11_turn_26 : decode cX11_turn 26 = .ok (.getfield 73, 3) := by decide +kernel
theorem dX11_turn_29 : decode cX11_turn 29 = .ok (.iload_n 1, 1) := by decide +kernel
theorem dX11_turn_30 : decode cX11_turn 30 = .ok (.aaload, 1) := by decide +kernel
theorem dX11_turn_31 : decode cX11_turn 31 = .ok (.getfield 77, 3) := by decide +kernel
theorem dX11_turn_34 : decode cX11_turn 34 = .ok (.istore_n 3, 1) := by decide +kernel
theorem dX11_turn_35 : decode cX11_turn 35 = .ok (.aload_n 0, 1) := by decide +kernel
theorem dX11_turn_36 : decode cX11_turn 36 = .ok (.getfield 18, 3) := by decide +kernel
theorem dX11_turn_39 : decode cX11_turn 39 = .ok (.getfield 73, 3) := by decide +kernel
theorem dX11_turn_42 : decode cX11_turn 42 = .ok (.iload_n 1, 1) := by decide +kernel
theorem dX11_turn_43 : decode cX11_turn 43 = .ok (.aaload, 1) := by decide +kernel
theorem dX11_turn_44 : decode cX11_turn 44 = .ok (.iload_n 2, 1) := by decide +kernel
theorem dX11_turn_45 : decode cX11_turn 45 = .ok (.putfield 77, 3) := by decide +kernel
theorem dX11_turn_48 : decode cX11_turn 48 = .ok (.iload_n 3, 1) := by decide +kernel
theorem dX11_turn_49 : decode cX11_turn 49 = .ok (.ireturn, 1) := by decide +kernel
theorem dX11_as_0 : decode cX11_as 0 = .ok (.aload_n 0, 1) := by decide +kernel
theorem dX11_as_1 : decode cX11_as 1 = .ok (.iload_n 1, 1) := by decide +kernel
theorem dX11_as_2 : decode cX11_as 2 = .ok (.invokevirtual 70, 3) := by decide +kernel
theorem dX11_as_5 : decode cX11_as 5 = .ok (.ifCond .eq 10, 3) := by decide +kernel
theorem dX11_as_8 : decode cX11_as 8 = .ok (.iload_n 2, 1) := by decide +kernel
theorem dX11_as_9 : decode cX11_as 9 = .ok (.invokestatic 53, 3) := by decide +kernel
theorem dX11_as_12 : decode cX11_as 12 = .ok (.ifCond .ne 10, 3) := by decide +kernel
theorem dX11_as_15 : decode cX11_as 15 = .ok (.aload_n 0, 1) := by decide +kernel
theorem dX11_as_16 : decode cX11_as 16 = .ok (.ldc 57, 2) := by decide +kernel
theorem dX11_as_18 : decode cX11_as 18 = .ok (.invokevirtual 58, 3) := by decide +kernel
theorem dX11_as_21 : decode cX11_as 21 = .ok (.ireturn, 1) := by decide +kernel
theorem dX11_as_22 : decode cX11_as 22 = .ok (.aload_n 0, 1) := by decide +kernel
theorem dX11_as_23 : decode cX11_as 23 = .ok (.getfield 18, 3) := by decide +kernel
theorem dX11_as_26 : decode cX11_as 26 = .ok (.iload_n 1, 1) := by decide +kernel
theorem dX11_as_27 : decode cX11_as 27 = .ok (.invokevirtual 99, 3) := by decide +kernel
theorem dX11_as_30 : decode cX11_as 30 = .ok (.iload_n 2, 1) := by decide +kernel
theorem dX11_as_31 : decode cX11_as 31 = .ok (.invokestatic 138, 3) := by decide +kernel
theorem dX11_as_34 : decode cX11_as 34 = .ok (.ifCond .ne 10, 3) := by decide +kernel
theorem dX11_as_37 : decode cX11_as 37 = .ok (.aload_n 0, 1) := by decide +kernel
theorem dX11_as_38 : decode cX11_as 38 = .ok (.ldc 142, 2) := by decide +kernel
theorem dX11_as_40 : decode cX11_as 40 = .ok (.invokevirtual 58, 3) := by decide +kernel
theorem dX11_as_43 : decode cX11_as 43 = .ok (.ireturn, 1) := by decide +kernel
theorem dX11_as_44 : decode cX11_as 44 = .ok (.aload_n 0, 1) := by decide +kernel
theorem dX11_as_45 : decode cX11_as 45 = .ok (.getfield 18, 3) := by decide +kernel
theorem dX11_as_48 : decode cX11_as 48 = .ok (.getfield 73, 3) := by decide +kernel
theorem dX11_as_51 : decode cX11_as 51 = .ok (.iload_n 1, 1) := by decide +kernel
theorem dX11_as_52 : decode cX11_as 52 = .ok (.aaload, 1) := by decide +kernel
theorem dX11_as_53 : decode cX11_as 53 = .ok (.getfield 82, 3) := by decide +kernel
theorem dX11_as_56 : decode cX11_as 56 = .ok (.ireturn, 1) := by decide +kernel
theorem dX11_present_0 : decode cX11_present 0 = .ok (.aload_n 0, 1) := by decide +kernel
theorem dX11_present_1 : decode cX11_present 1 = .ok (.iload_n 1, 1) := by decide +kernel
theorem dX11_present_2 : decode cX11_present 2 = .ok (.invokevirtual 70, 3) := by decide +kernel
theorem dX11_present_5 : decode cX11_present 5 = .ok (.ifCond .eq 10, 3) := by decide +kernel
theorem dX11_present_8 : decode cX11_present 8 = .ok (.iload_n 2, 1) := by decide +kernel
theorem dX11_present_9 : decode cX11_present 9 = .ok (.invokestatic 143, 3) := by decide +kernel
theorem dX11_present_12 : decode cX11_present 12 = .ok (.ifCond .ne 10, 3) := by decide +kernel
theorem dX11_present_15 : decode cX11_present 15 = .ok (.aload_n 0, 1) := by decide +kernel
theorem dX11_present_16 : decode cX11_present 16 = .ok (.ldc 57, 2) := by decide +kernel
theorem dX11_present_18 : decode cX11_present 18 = .ok (.invokevirtual 58, 3) := by decide +kernel
theorem dX11_present_21 : decode cX11_present 21 = .ok (.ireturn, 1) := by decide +kernel
theorem dX11_present_22 : decode cX11_present 22 = .ok (.aload_n 0, 1) := by decide +kernel
theorem dX11_present_23 : decode cX11_present 23 = .ok (.getfield 18, 3) := by decide +kernel
theorem dX11_present_26 : decode cX11_present 26 = .ok (.getfield 146, 3) := by decide +kernel
theorem dX11_present_29 : decode cX11_present 29 = .ok (.bipush 8, 2) := by decide +kernel
theorem dX11_present_31 : decode cX11_present 31 = .ok (.if_icmp .lt 10, 3) := by decide +kernel
theorem dX11_present_34 : decode cX11_present 34 = .ok (.aload_n 0, 1) := by decide +kernel
theorem dX11_present_35 : decode cX11_present 35 = .ok (.ldc 66, 2) := by decide +kernel
theorem dX11_present_37 : decode cX11_present 37 = .ok (.invokevirtual 58, 3) := by decide +kernel
theorem dX11_present_40 : decode cX11_present 40 = .ok (.ireturn, 1) := by decide +kernel
theorem dX11_present_41 : decode cX11_present 41 = .ok (.aload_n 0, 1) := by decide +kernel
theorem dX11_present_42 : decode cX11_present 42 = .ok (.getfield 18, 3) := by decide +kernel
theorem dX11_present_45 : decode cX11_present 45 = .ok (.iload_n 1, 1) := by decide +kernel
theorem dX11_present_46 : decode cX11_present 46 = .ok (.iload_n 2, 1) := by decide +kernel
theorem dX11_present_47 : decode cX11_present 47 = .ok (.invokevirtual 149, 3) := by decide +kernel
theorem dX11_present_50 : decode cX11_present 50 = .ok (.ireturn, 1) := by decide +kernel
theorem dX11_presentOf_0 : decode cX11_presentOf 0 = .ok (.aload_n 0, 1) := by decide +kernel
theorem dX11_presentOf_1 : decode cX11_presentOf 1 = .ok (.iload_n 1, 1) := by decide +kernel
theorem dX11_presentOf_2 : decode cX11_presentOf 2 = .ok (.invokevirtual 96, 3) := by decide +kernel
theorem dX11_presentOf_5 : decode cX11_presentOf 5 = .ok (.ifCond .eq 12, 3) := by decide +kernel
theorem dX11_presentOf_8 : decode cX11_presentOf 8 = .ok (.iload_n 2, 1) := by decide +kernel
theorem dX11_presentOf_9 : decode cX11_presentOf 9 = .ok (.iconst 0, 1) := by decide +kernel
theorem dX11_presentOf_10 : decode cX11_presentOf 10 = .ok (.iconst 3, 1) := by decide +kernel
theorem dX11_presentOf_11 : decode cX11_presentOf 11 = .ok (.invokestatic 92, 3) := by decide +kernel
theorem dX11_presentOf_14 : decode cX11_presentOf 14 = .ok (.ifCond .ne 10, 3) := by decide +kernel
theorem dX11_presentOf_17 : decode cX11_presentOf 17 = .ok (.aload_n 0, 1) := by decide +kernel
theorem dX11_presentOf_18 : decode cX11_presentOf 18 = .ok (.ldc 57, 2) := by decide +kernel
theorem dX11_presentOf_20 : decode cX11_presentOf 20 = .ok (.invokevirtual 58, 3) := by decide +kernel
theorem dX11_presentOf_23 : decode cX11_presentOf 23 = .ok (.ireturn, 1) := by decide +kernel
theorem dX11_presentOf_24 : decode cX11_presentOf 24 = .ok (.aload_n 0, 1) := by decide +kernel
theorem dX11_presentOf_25 : decode cX11_presentOf 25 = .ok (.getfield 18, 3) := by decide +kernel
theorem dX11_presentOf_28 : decode cX11_presentOf 28 = .ok (.getfield 103, 3) := by decide +kernel
theorem dX11_presentOf_31 : decode cX11_presentOf 31 = .ok (.iload_n 1, 1) := by decide +kernel
theorem dX11_presentOf_32 : decode cX11_presentOf 32 = .ok (.aaload, 1) := by decide +kernel
theorem dX11_presentOf_33 : decode cX11_presentOf 33 = .ok (.iload_n 2, 1) := by decide +kernel
theorem dX11_presentOf_34 : decode cX11_presentOf 34 = .ok (.invokevirtual 152, 3) := by decide +kernel
theorem dX11_presentOf_37 : decode cX11_presentOf 37 = .ok (.ireturn, 1) := by decide +kernel
theorem dX11_paper_0 : decode cX11_paper 0 = .ok (.aload_n 0, 1) := by decide +kernel
theorem dX11_paper_1 : decode cX11_paper 1 = .ok (.iload_n 1, 1) := by decide +kernel
theorem dX11_paper_2 : decode cX11_paper 2 = .ok (.invokevirtual 96, 3) := by decide +kernel
theorem dX11_paper_5 : decode cX11_paper 5 = .ok (.ifCond .eq 7, 3) := by decide +kernel
theorem dX11_paper_8 : decode cX11_paper 8 = .ok (.iload_n 2, 1) := by decide +kernel
theorem dX11_paper_9 : decode cX11_paper 9 = .ok (.ifCond .ge 10, 3) := by decide +kernel
theorem dX11_paper_12 : decode cX11_paper 12 = .ok (.aload_n 0, 1) := by decide +kernel
theorem dX11_paper_13 : decode cX11_paper 13 = .ok (.ldc 57, 2) := by decide +kernel
theorem dX11_paper_15 : decode cX11_paper 15 = .ok (.invokevirtual 58, 3) := by decide +kernel
theorem dX11_paper_18 : decode cX11_paper 18 = .ok (.ireturn, 1) := by decide +kernel
theorem dX11_paper_19 : decode cX11_paper 19 = .ok (.aload_n 0, 1) := by decide +kernel
theorem dX11_paper_20 : decode cX11_paper 20 = .ok (.getfield 18, 3) := by decide +kernel
theorem dX11_paper_23 : decode cX11_paper 23 = .ok (.getfield 103, 3) := by decide +kernel
theorem dX11_paper_26 : decode cX11_paper 26 = .ok (.iload_n 1, 1) := by decide +kernel
theorem dX11_paper_27 : decode cX11_paper 27 = .ok (.aaload, 1) := by decide +kernel
theorem dX11_paper_28 : decode cX11_paper 28 = .ok (.astore_n 3, 1) := by decide +kernel
theorem dX11_paper_29 : decode cX11_paper 29 = .ok (.iload_n 2, 1) := by decide +kernel
theorem dX11_paper_30 : decode cX11_paper 30 = .ok (.aload_n 3, 1) := by decide +kernel
theorem dX11_paper_31 : decode cX11_paper 31 = .ok (.getfield 107, 3) := by decide +kernel
theorem dX11_paper_34 : decode cX11_paper 34 = .ok (.if_icmp .lt 10, 3) := by decide +kernel
theorem dX11_paper_37 : decode cX11_paper 37 = .ok (.aload_n 0, 1) := by decide +kernel
theorem dX11_paper_38 : decode cX11_paper 38 = .ok (.ldc 112, 2) := by decide +kernel
theorem dX11_paper_40 : decode cX11_paper 40 = .ok (.invokevirtual 58, 3) := by decide +kernel
theorem dX11_paper_43 : decode cX11_paper 43 = .ok (.ireturn, 1) := by decide +kernel
theorem dX11_paper_44 : decode cX11_paper 44 = .ok (.aload_n 3, 1) := by decide +kernel
theorem dX11_paper_45 : decode cX11_paper 45 = .ok (.iload_n 2, 1) := by decide +kernel
theorem dX11_paper_46 : decode cX11_paper 46 = .ok (.invokevirtual 155, 3) := by decide +kernel
theorem dX11_paper_49 : decode cX11_paper 49 = .ok (.ireturn, 1) := by decide +kernel
theorem dX11_wrap_0 : decode cX11_wrap 0 = .ok (.aload_n 0, 1) := by decide +kernel
theorem dX11_wrap_1 : decode cX11_wrap 1 = .ok (.iload_n 1, 1) := by decide +kernel
theorem dX11_wrap_2 : decode cX11_wrap 2 = .ok (.invokevirtual 96, 3) := by decide +kernel
theorem dX11_wrap_5 : decode cX11_wrap 5 = .ok (.ifCond .eq 10, 3) := by decide +kernel
theorem dX11_wrap_8 : decode cX11_wrap 8 = .ok (.iload_n 2, 1) := by decide +kernel
theorem dX11_wrap_9 : decode cX11_wrap 9 = .ok (.invokestatic 158, 3) := by decide +kernel
theorem dX11_wrap_12 : decode cX11_wrap 12 = .ok (.ifCond .ne 10, 3) := by decide +kernel
theorem dX11_wrap_15 : decode cX11_wrap 15 = .ok (.aload_n 0, 1) := by decide +kernel
theorem dX11_wrap_16 : decode cX11_wrap 16 = .ok (.ldc 57, 2) := by decide +kernel
theorem dX11_wrap_18 : decode cX11_wrap 18 = .ok (.invokevirtual 58, 3) := by decide +kernel
theorem dX11_wrap_21 : decode cX11_wrap 21 = .ok (.ireturn, 1) := by decide +kernel
theorem dX11_wrap_22 : decode cX11_wrap 22 = .ok (.aload_n 0, 1) := by decide +kernel
theorem dX11_wrap_23 : decode cX11_wrap 23 = .ok (.getfield 18, 3) := by decide +kernel
theorem dX11_wrap_26 : decode cX11_wrap 26 = .ok (.getfield 103, 3) := by decide +kernel
theorem dX11_wrap_29 : decode cX11_wrap 29 = .ok (.iload_n 1, 1) := by decide +kernel
theorem dX11_wrap_30 : decode cX11_wrap 30 = .ok (.aaload, 1) := by decide +kernel
theorem dX11_wrap_31 : decode cX11_wrap 31 = .ok (.astore_n 3, 1) := by decide +kernel
theorem dX11_wrap_32 : decode cX11_wrap 32 = .ok (.aload_n 3, 1) := by decide +kernel
theorem dX11_wrap_33 : decode cX11_wrap 33 = .ok (.getfield 107, 3) := by decide +kernel
theorem dX11_wrap_36 : decode cX11_wrap 36 = .ok (.bipush 6, 2) := by decide +kernel
theorem dX11_wrap_38 : decode cX11_wrap 38 = .ok (.if_icmp .lt 10, 3) := by decide +kernel
theorem dX11_wrap_41 : decode cX11_wrap 41 = .ok (.aload_n 0, 1) := by decide +kernel
theorem dX11_wrap_42 : decode cX11_wrap 42 = .ok (.ldc 66, 2) := by decide +kernel
theorem dX11_wrap_44 : decode cX11_wrap 44 = .ok (.invokevirtual 58, 3) := by decide +kernel
theorem dX11_wrap_47 : decode cX11_wrap 47 = .ok (.ireturn, 1) := by decide +kernel
theorem dX11_wrap_48 : decode cX11_wrap 48 = .ok (.aload_n 3, 1) := by decide +kernel
theorem dX11_wrap_49 : decode cX11_wrap 49 = .ok (.getfield 161, 3) := by decide +kernel
theorem dX11_wrap_52 : decode cX11_wrap 52 = .ok (.ifCond .eq 10, 3) := by decide +kernel
theorem dX11_wrap_55 : decode cX11_wrap 55 = .ok (.aload_n 0, 1) := by decide +kernel
theorem dX11_wrap_56 : decode cX11_wrap 56 = .ok (.ldc 164, 2) := by decide +kernel
theorem dX11_wrap_58 : decode cX11_wrap 58 = .ok (.invokevirtual 58, 3) := by decide +kernel
theorem dX11_wrap_61 : decode cX11_wrap 61 = .ok (.ireturn, 1) := by decide +kernel
theorem dX11_wrap_62 : decode cX11_wrap 62 = .ok (.aload_n 3, 1) := by decide +kernel
theorem dX11_wrap_63 : decode cX11_wrap 63 = .ok (.iload_n 2, 1) := by decide +kernel
theorem dX11_wrap_64 : decode cX11_wrap 64 = .ok (.invokevirtual 165, 3) := by decide +kernel
theorem dX11_wrap_67 : decode cX11_wrap 67 = .ok (.aload_n 3, 1) := by decide +kernel
theorem dX11_wrap_68 : decode cX11_wrap 68 = .ok (.getfield 107, 3) := by decide +kernel
theorem dX11_wrap_71 : decode cX11_wrap 71 = .ok (.ireturn, 1) := by decide +kernel
theorem dX11_unwrap_0 : decode cX11_unwrap 0 = .ok (.aload_n 0, 1) := by decide +kernel
theorem dX11_unwrap_1 : decode cX11_unwrap 1 = .ok (.iload_n 1, 1) := by decide +kernel
theorem dX11_unwrap_2 : decode cX11_unwrap 2 = .ok (.invokevirtual 96, 3) := by decide +kernel
theorem dX11_unwrap_5 : decode cX11_unwrap 5 = .ok (.ifCond .ne 10, 3) := by decide +kernel
theorem dX11_unwrap_8 : decode cX11_unwrap 8 = .ok (.aload_n 0, 1) := by decide +kernel
theorem dX11_unwrap_9 : decode cX11_unwrap 9 = .ok (.ldc 57, 2) := by decide +kernel
theorem dX11_unwrap_11 : decode cX11_unwrap 11 = .ok (.invokevirtual 58, 3) := by decide +kernel
theorem dX11_unwrap_14 : decode cX11_unwrap 14 = .ok (.ireturn, 1) := by decide +kernel
theorem dX11_unwrap_15 : decode cX11_unwrap 15 = .ok (.aload_n 0, 1) := by decide +kernel
theorem dX11_unwrap_16 : decode cX11_unwrap 16 = .ok (.getfield 18, 3) := by decide +kernel
theorem dX11_unwrap_19 : decode cX11_unwrap 19 = .ok (.getfield 103, 3) := by decide +kernel
theorem dX11_unwrap_22 : decode cX11_unwrap 22 = .ok (.iload_n 1, 1) := by decide +kernel
theorem dX11_unwrap_23 : decode cX11_unwrap 23 = .ok (.aaload, 1) := by decide +kernel
theorem dX11_unwrap_24 : decode cX11_unwrap 24 = .ok (.getfield 107, 3) := by decide +kernel
theorem dX11_unwrap_27 : decode cX11_unwrap 27 = .ok (.ifCond .ne 10, 3) := by decide +kernel
theorem dX11_unwrap_30 : decode cX11_unwrap 30 = .ok (.aload_n 0, 1) := by decide +kernel
theorem dX11_unwrap_31 : decode cX11_unwrap 31 = .ok (.ldc 112, 2) := by decide +kernel
theorem dX11_unwrap_33 : decode cX11_unwrap 33 = .ok (.invokevirtual 58, 3) := by decide +kernel
theorem dX11_unwrap_36 : decode cX11_unwrap 36 = .ok (.ireturn, 1) := by decide +kernel
theorem dX11_unwrap_37 : decode cX11_unwrap 37 = .ok (.aload_n 0, 1) := by decide +kernel
theorem dX11_unwrap_38 : decode cX11_unwrap 38 = .ok (.getfield 18, 3) := by decide +kernel
theorem dX11_unwrap_41 : decode cX11_unwrap 41 = .ok (.getfield 103, 3) := by decide +kernel
theorem dX11_unwrap_44 : decode cX11_unwrap 44 = .ok (.iload_n 1, 1) := by decide +kernel
theorem dX11_unwrap_45 : decode cX11_unwrap 45 = .ok (.aaload, 1) := by decide +kernel
theorem dX11_unwrap_46 : decode cX11_unwrap 46 = .ok (.invokevirtual 169, 3) := by decide +kernel
theorem dX11_unwrap_49 : decode cX11_unwrap 49 = .ok (.ireturn, 1) := by decide +kernel
theorem dX11_set_0 : decode cX11_set 0 = .ok (.aload_n 0, 1) := by decide +kernel
theorem dX11_set_1 : decode cX11_set 1 = .ok (.iload_n 1, 1) := by decide +kernel
theorem dX11_set_2 : decode cX11_set 2 = .ok (.invokevirtual 96, 3) := by decide +kernel
theorem dX11_set_5 : decode cX11_set 5 = .ok (.ifCond .ne 10, 3) := by decide +kernel
theorem dX11_set_8 : decode cX11_set 8 = .ok (.aload_n 0, 1) := by decide +kernel
theorem dX11_set_9 : decode cX11_set 9 = .ok (.ldc 57, 2) := by decide +kernel
theorem dX11_set_11 : decode cX11_set 11 = .ok (.invokevirtual 58, 3) := by decide +kernel
theorem dX11_set_14 : decode cX11_set 14 = .ok (.ireturn, 1) := by decide +kernel
theorem dX11_set_15 : decode cX11_set 15 = .ok (.aload_n 0, 1) := by decide +kernel
theorem dX11_set_16 : decode cX11_set 16 = .ok (.getfield 18, 3) := by decide +kernel
theorem dX11_set_19 : decode cX11_set 19 = .ok (.getfield 103, 3) := by decide +kernel
theorem dX11_set_22 : decode cX11_set 22 = .ok (.iload_n 1, 1) := by decide +kernel
theorem dX11_set_23 : decode cX11_set 23 = .ok (.aaload, 1) := by decide +kernel
theorem dX11_set_24 : decode cX11_set 24 = .ok (.astore 4, 2) := by decide +kernel
theorem dX11_set_26 : decode cX11_set 26 = .ok (.iload_n 2, 1) := by decide +kernel
theorem dX11_set_27 : decode cX11_set 27 = .ok (.iconst 1, 1) := by decide +kernel
theorem dX11_set_28 : decode cX11_set 28 = .ok (.if_icmp .ne 26, 3) := by decide +kernel
theorem dX11_set_31 : decode cX11_set 31 = .ok (.iload_n 3, 1) := by decide +kernel
theorem dX11_set_32 : decode cX11_set 32 = .ok (.invokestatic 143, 3) := by decide +kernel
theorem dX11_set_35 : decode cX11_set 35 = .ok (.ifCond .eq 19, 3) := by decide +kernel
theorem dX11_set_38 : decode cX11_set 38 = .ok (.aload 4, 2) := by decide +kernel
theorem dX11_set_40 : decode cX11_set 40 = .ok (.getfield 125, 3) := by decide +kernel
theorem dX11_set_43 : decode cX11_set 43 = .ok (.istore 5, 2) := by decide +kernel
theorem dX11_set_45 : decode cX11_set 45 = .ok (.aload 4, 2) := by decide +kernel
theorem dX11_set_47 : decode cX11_set 47 = .ok (.iload_n 3, 1) := by decide +kernel
theorem dX11_set_48 : decode cX11_set 48 = .ok (.putfield 125, 3) := by decide +kernel
theorem dX11_set_51 : decode cX11_set 51 = .ok (.iload 5, 2) := by decide +kernel
theorem dX11_set_53 : decode cX11_set 53 = .ok (.ireturn, 1) := by decide +kernel
theorem dX11_set_54 : decode cX11_set 54 = .ok (.iload_n 2, 1) := by decide +kernel
theorem dX11_set_55 : decode cX11_set 55 = .ok (.iconst 2, 1) := by decide +kernel
theorem dX11_set_56 : decode cX11_set 56 = .ok (.if_icmp .ne 27, 3) := by decide +kernel
theorem dX11_set_59 : decode cX11_set 59 = .ok (.aload_n 0, 1) := by decide +kernel
theorem dX11_set_60 : decode cX11_set 60 = .ok (.iload_n 3, 1) := by decide +kernel
theorem dX11_set_61 : decode cX11_set 61 = .ok (.invokevirtual 70, 3) := by decide +kernel
theorem dX11_set_64 : decode cX11_set 64 = .ok (.ifCond .eq 19, 3) := by decide +kernel
theorem dX11_set_67 : decode cX11_set 67 = .ok (.aload 4, 2) := by decide +kernel
theorem dX11_set_69 : decode cX11_set 69 = .ok (.getfield 172, 3) := by decide +kernel
theorem dX11_set_72 : decode cX11_set 72 = .ok (.istore 5, 2) := by decide +kernel
theorem dX11_set_74 : decode cX11_set 74 = .ok (.aload 4, 2) := by decide +kernel
theorem dX11_set_76 : decode cX11_set 76 = .ok (.iload_n 3, 1) := by decide +kernel
theorem dX11_set_77 : decode cX11_set 77 = .ok (.putfield 172, 3) := by decide +kernel
theorem dX11_set_80 : decode cX11_set 80 = .ok (.iload 5, 2) := by decide +kernel
theorem dX11_set_82 : decode cX11_set 82 = .ok (.ireturn, 1) := by decide +kernel
theorem dX11_set_83 : decode cX11_set 83 = .ok (.aload_n 0, 1) := by decide +kernel
theorem dX11_set_84 : decode cX11_set 84 = .ok (.ldc 57, 2) := by decide +kernel
theorem dX11_set_86 : decode cX11_set 86 = .ok (.invokevirtual 58, 3) := by decide +kernel
theorem dX11_set_89 : decode cX11_set 89 = .ok (.ireturn, 1) := by decide +kernel
theorem dX11_days_0 : decode cX11_days 0 = .ok (.iload_n 1, 1) := by decide +kernel
theorem dX11_days_1 : decode cX11_days 1 = .ok (.iconst 1, 1) := by decide +kernel
theorem dX11_days_2 : decode cX11_days 2 = .ok (.bipush 60, 2) := by decide +kernel
theorem dX11_days_4 : decode cX11_days 4 = .ok (.invokestatic 92, 3) := by decide +kernel
theorem dX11_days_7 : decode cX11_days 7 = .ok (.ifCond .ne 10, 3) := by decide +kernel
theorem dX11_days_10 : decode cX11_days 10 = .ok (.aload_n 0, 1) := by decide +kernel
theorem dX11_days_11 : decode cX11_days 11 = .ok (.ldc 57, 2) := by decide +kernel
theorem dX11_days_13 : decode cX11_days 13 = .ok (.invokevirtual 58, 3) := by decide +kernel
theorem dX11_days_16 : decode cX11_days 16 = .ok (.ireturn, 1) := by decide +kernel
theorem dX11_days_17 : decode cX11_days 17 = .ok (.aload_n 0, 1) := by decide +kernel
theorem dX11_days_18 : decode cX11_days 18 = .ok (.getfield 18, 3) := by decide +kernel
theorem dX11_days_21 : decode cX11_days 21 = .ok (.getfield 131, 3) := by decide +kernel
theorem dX11_days_24 : decode cX11_days 24 = .ok (.iload_n 1, 1) := by decide +kernel
theorem dX11_days_25 : decode cX11_days 25 = .ok (.iadd, 1) := by decide +kernel
theorem dX11_days_26 : decode cX11_days 26 = .ok (.sipush 9999, 3) := by decide +kernel
theorem dX11_days_29 : decode cX11_days 29 = .ok (.if_icmp .le 10, 3) := by decide +kernel
theorem dX11_days_32 : decode cX11_days 32 = .ok (.aload_n 0, 1) := by decide +kernel
theorem dX11_days_33 : decode cX11_days 33 = .ok (.ldc 164, 2) := by decide +kernel
theorem dX11_days_35 : decode cX11_days 35 = .ok (.invokevirtual 58, 3) := by decide +kernel
theorem dX11_days_38 : decode cX11_days 38 = .ok (.ireturn, 1) := by decide +kernel
theorem dX11_days_39 : decode cX11_days 39 = .ok (.aload_n 0, 1) := by decide +kernel
theorem dX11_days_40 : decode cX11_days 40 = .ok (.getfield 18, 3) := by decide +kernel
theorem dX11_days_43 : decode cX11_days 43 = .ok (.iload_n 1, 1) := by decide +kernel
theorem dX11_days_44 : decode cX11_days 44 = .ok (.invokevirtual 175, 3) := by decide +kernel
theorem dX11_days_47 : decode cX11_days 47 = .ok (.aload_n 0, 1) := by decide +kernel
theorem dX11_days_48 : decode cX11_days 48 = .ok (.getfield 18, 3) := by decide +kernel
theorem dX11_days_51 : decode cX11_days 51 = .ok (.invokevirtual 88, 3) := by decide +kernel
theorem dX11_days_54 : decode cX11_days 54 = .ok (.ireturn, 1) := by decide +kernel
theorem dX11_now_0 : decode cX11_now 0 = .ok (.iload_n 1, 1) := by decide +kernel
theorem dX11_now_1 : decode cX11_now 1 = .ok (.tableswitch 75 0 4 #[35, 43, 51, 59, 67], 35) := by decide +kernel
theorem dX11_now_36 : decode cX11_now 36 = .ok (.aload_n 0, 1) := by decide +kernel
theorem dX11_now_37 : decode cX11_now 37 = .ok (.getfield 18, 3) := by decide +kernel
theorem dX11_now_40 : decode cX11_now 40 = .ok (.getfield 131, 3) := by decide +kernel
theorem dX11_now_43 : decode cX11_now 43 = .ok (.ireturn, 1) := by decide +kernel
theorem dX11_now_44 : decode cX11_now 44 = .ok (.aload_n 0, 1) := by decide +kernel
theorem dX11_now_45 : decode cX11_now 45 = .ok (.getfield 18, 3) := by decide +kernel
theorem dX11_now_48 : decode cX11_now 48 = .ok (.invokevirtual 178, 3) := by decide +kernel
theorem dX11_now_51 : decode cX11_now 51 = .ok (.ireturn, 1) := by decide +kernel
theorem dX11_now_52 : decode cX11_now 52 = .ok (.aload_n 0, 1) := by decide +kernel
theorem dX11_now_53 : decode cX11_now 53 = .ok (.getfield 18, 3) := by decide +kernel
theorem dX11_now_56 : decode cX11_now 56 = .ok (.invokevirtual 181, 3) := by decide +kernel
theorem dX11_now_59 : decode cX11_now 59 = .ok (.ireturn, 1) := by decide +kernel
theorem dX11_now_60 : decode cX11_now 60 = .ok (.aload_n 0, 1) := by decide +kernel
theorem dX11_now_61 : decode cX11_now 61 = .ok (.getfield 18, 3) := by decide +kernel
theorem dX11_now_64 : decode cX11_now 64 = .ok (.invokevirtual 184, 3) := by decide +kernel
theorem dX11_now_67 : decode cX11_now 67 = .ok (.ireturn, 1) := by decide +kernel
theorem dX11_now_68 : decode cX11_now 68 = .ok (.aload_n 0, 1) := by decide +kernel
theorem dX11_now_69 : decode cX11_now 69 = .ok (.getfield 18, 3) := by decide +kernel
theorem dX11_now_72 : decode cX11_now 72 = .ok (.invokevirtual 187, 3) := by decide +kernel
theorem dX11_now_75 : decode cX11_now 75 = .ok (.ireturn, 1) := by decide +kernel
theorem dX11_now_76 : decode cX11_now 76 = .ok (.aload_n 0, 1) := by decide +kernel
theorem dX11_now_77 : decode cX11_now 77 = .ok (.ldc 57, 2) := by decide +kernel
theorem dX11_now_79 : decode cX11_now 79 = .ok (.invokevirtual 58, 3) := by decide +kernel
theorem dX11_now_82 : decode cX11_now 82 = .ok (.ireturn, 1) := by decide +kernel
theorem dX11_on_0 : decode cX11_on 0 = .ok (.aload_n 0, 1) := by decide +kernel
theorem dX11_on_1 : decode cX11_on 1 = .ok (.iload_n 1, 1) := by decide +kernel
theorem dX11_on_2 : decode cX11_on 2 = .ok (.invokevirtual 96, 3) := by decide +kernel
theorem dX11_on_5 : decode cX11_on 5 = .ok (.ifCond .eq 27, 3) := by decide +kernel
theorem dX11_on_8 : decode cX11_on 8 = .ok (.iload_n 2, 1) := by decide +kernel
theorem dX11_on_9 : decode cX11_on 9 = .ok (.iconst 0, 1) := by decide +kernel
theorem dX11_on_10 : decode cX11_on 10 = .ok (.bipush 60, 2) := by decide +kernel
theorem dX11_on_12 : decode cX11_on 12 = .ok (.invokestatic 92, 3) := by decide +kernel
theorem dX11_on_15 : decode cX11_on 15 = .ok (.ifCond .eq 17, 3) := by decide +kernel
theorem dX11_on_18 : decode cX11_on 18 = .ok (.iload_n 3, 1) := by decide +kernel
theorem dX11_on_19 : decode cX11_on 19 = .ok (.iconst 0, 1) := by decide +kernel
theorem dX11_on_20 : decode cX11_on 20 = .ok (.iconst 3, 1) := by decide +kernel
theorem dX11_on_21 : decode cX11_on 21 = .ok (.invokestatic 92, 3) := by decide +kernel
theorem dX11_on_24 : decode cX11_on 24 = .ok (.ifCond .eq 8, 3) := by decide +kernel
theorem dX11_on_27 : decode cX11_on 27 = .ok (.iload_n 3, 1) := by decide +kernel
theorem dX11_on_28 : decode cX11_on 28 = .ok (.iconst 1, 1) := by decide +kernel
theorem dX11_on_29 : decode cX11_on 29 = .ok (.if_icmp .ne 10, 3) := by decide +kernel
theorem dX11_on_32 : decode cX11_on 32 = .ok (.aload_n 0, 1) := by decide +kernel
theorem dX11_on_33 : decode cX11_on 33 = .ok (.ldc 57, 2) := by decide +kernel
theorem dX11_on_35 : decode cX11_on 35 = .ok (.invokevirtual 58, 3) := by decide +kernel
theorem dX11_on_38 : decode cX11_on 38 = .ok (.ireturn, 1) := by decide +kernel
theorem dX11_on_39 : decode cX11_on 39 = .ok (.aload_n 0, 1) := by decide +kernel
theorem dX11_on_40 : decode cX11_on 40 = .ok (.invokevirtual 190, 3) := by decide +kernel
theorem dX11_on_43 : decode cX11_on 43 = .ok (.aload_n 0, 1) := by decide +kernel
theorem dX11_on_44 : decode cX11_on 44 = .ok (.getfield 25, 3) := by decide +kernel
theorem dX11_on_47 : decode cX11_on 47 = .ok (.iload_n 2, 1) := by decide +kernel
theorem dX11_on_48 : decode cX11_on 48 = .ok (.invokevirtual 175, 3) := by decide +kernel
theorem dX11_on_51 : decode cX11_on 51 = .ok (.aload_n 0, 1) := by decide +kernel
theorem dX11_on_52 : decode cX11_on 52 = .ok (.getfield 25, 3) := by decide +kernel
theorem dX11_on_55 : decode cX11_on 55 = .ok (.getfield 103, 3) := by decide +kernel
theorem dX11_on_58 : decode cX11_on 58 = .ok (.iload_n 1, 1) := by decide +kernel
theorem dX11_on_59 : decode cX11_on 59 = .ok (.aaload, 1) := by decide +kernel
theorem dX11_on_60 : decode cX11_on 60 = .ok (.iload_n 3, 1) := by decide +kernel
theorem dX11_on_61 : decode cX11_on 61 = .ok (.invokevirtual 152, 3) := by decide +kernel
theorem dX11_on_64 : decode cX11_on 64 = .ok (.ireturn, 1) := by decide +kernel
theorem dX11_joyOn_0 : decode cX11_joyOn 0 = .ok (.aload_n 0, 1) := by decide +kernel
theorem dX11_joyOn_1 : decode cX11_joyOn 1 = .ok (.iload_n 1, 1) := by decide +kernel
theorem dX11_joyOn_2 : decode cX11_joyOn 2 = .ok (.invokevirtual 70, 3) := by decide +kernel
theorem dX11_joyOn_5 : decode cX11_joyOn 5 = .ok (.ifCond .eq 13, 3) := by decide +kernel
theorem dX11_joyOn_8 : decode cX11_joyOn 8 = .ok (.iload_n 2, 1) := by decide +kernel
theorem dX11_joyOn_9 : decode cX11_joyOn 9 = .ok (.iconst 0, 1) := by decide +kernel
theorem dX11_joyOn_10 : decode cX11_joyOn 10 = .ok (.bipush 60, 2) := by decide +kernel
theorem dX11_joyOn_12 : decode cX11_joyOn 12 = .ok (.invokestatic 92, 3) := by decide +kernel
theorem dX11_joyOn_15 : decode cX11_joyOn 15 = .ok (.ifCond .ne 10, 3) := by decide +kernel
theorem dX11_joyOn_18 : decode cX11_joyOn 18 = .ok (.aload_n 0, 1) := by decide +kernel
theorem dX11_joyOn_19 : decode cX11_joyOn 19 = .ok (.ldc 57, 2) := by decide +kernel
theorem dX11_joyOn_21 : decode cX11_joyOn 21 = .ok (.invokevirtual 58, 3) := by decide +kernel
theorem dX11_joyOn_24 : decode cX11_joyOn 24 = .ok (.ireturn, 1) := by decide +kernel
theorem dX11_joyOn_25 : decode cX11_joyOn 25 = .ok (.aload_n 0, 1) := by decide +kernel
theorem dX11_joyOn_26 : decode cX11_joyOn 26 = .ok (.invokevirtual 190, 3) := by decide +kernel
theorem dX11_joyOn_29 : decode cX11_joyOn 29 = .ok (.aload_n 0, 1) := by decide +kernel
theorem dX11_joyOn_30 : decode cX11_joyOn 30 = .ok (.getfield 25, 3) := by decide +kernel
theorem dX11_joyOn_33 : decode cX11_joyOn 33 = .ok (.iload_n 2, 1) := by decide +kernel
theorem dX11_joyOn_34 : decode cX11_joyOn 34 = .ok (.invokevirtual 175, 3) := by decide +kernel
theorem dX11_joyOn_37 : decode cX11_joyOn 37 = .ok (.aload_n 0, 1) := by decide +kernel
theorem dX11_joyOn_38 : decode cX11_joyOn 38 = .ok (.getfield 25, 3) := by decide +kernel
theorem dX11_joyOn_41 : decode cX11_joyOn 41 = .ok (.getfield 73, 3) := by decide +kernel
theorem dX11_joyOn_44 : decode cX11_joyOn 44 = .ok (.iload_n 1, 1) := by decide +kernel
theorem dX11_joyOn_45 : decode cX11_joyOn 45 = .ok (.aaload, 1) := by decide +kernel
theorem dX11_joyOn_46 : decode cX11_joyOn 46 = .ok (.getfield 82, 3) := by decide +kernel
theorem dX11_joyOn_49 : decode cX11_joyOn 49 = .ok (.ireturn, 1) := by decide +kernel
theorem dX11_found_0 : decode cX11_found 0 = .ok (.aload_n 0, 1) := by decide +kernel
theorem dX11_found_1 : decode cX11_found 1 = .ok (.iload_n 1, 1) := by decide +kernel
theorem dX11_found_2 : decode cX11_found 2 = .ok (.invokevirtual 96, 3) := by decide +kernel
theorem dX11_found_5 : decode cX11_found 5 = .ok (.ifCond .ne 10, 3) := by decide +kernel
theorem dX11_found_8 : decode cX11_found 8 = .ok (.aload_n 0, 1) := by decide +kernel
theorem dX11_found_9 : decode cX11_found 9 = .ok (.ldc 57, 2) := by decide +kernel
theorem dX11_found_11 : decode cX11_found 11 = .ok (.invokevirtual 58, 3) := by decide +kernel
theorem dX11_found_14 : decode cX11_found 14 = .ok (.ireturn, 1) := by decide +kernel
theorem dX11_found_15 : decode cX11_found 15 = .ok (.aload_n 0, 1) := by decide +kernel
theorem dX11_found_16 : decode cX11_found 16 = .ok (.invokevirtual 190, 3) := by decide +kernel
theorem dX11_found_19 : decode cX11_found 19 = .ok (.iconst 0, 1) := by decide +kernel
theorem dX11_found_20 : decode cX11_found 20 = .ok (.istore_n 2, 1) := by decide +kernel
theorem dX11_found_21 : decode cX11_found 21 = .ok (.iload_n 2, 1) := by decide +kernel
theorem dX11_found_22 : decode cX11_found 22 = .ok (.bipush 60, 2) := by decide +kernel
theorem dX11_found_24 : decode cX11_found 24 = .ok (.if_icmp .gt 34, 3) := by decide +kernel
theorem dX11_found_27 : decode cX11_found 27 = .ok (.aload_n 0, 1) := by decide +kernel
theorem dX11_found_28 : decode cX11_found 28 = .ok (.getfield 25, 3) := by decide +kernel
theorem dX11_found_31 : decode cX11_found 31 = .ok (.getfield 103, 3) := by decide +kernel
theorem dX11_found_34 : decode cX11_found 34 = .ok (.iload_n 1, 1) := by decide +kernel
theorem dX11_found_35 : decode cX11_found 35 = .ok (.aaload, 1) := by decide +kernel
theorem dX11_found_36 : decode cX11_found 36 = .ok (.getfield 161, 3) := by decide +kernel
theorem dX11_found_39 : decode cX11_found 39 = .ok (.ifCond .eq 5, 3) := by decide +kernel
theorem dX11_found_42 : decode cX11_found 42 = .ok (.iload_n 2, 1) := by decide +kernel
theorem dX11_found_43 : decode cX11_found 43 = .ok (.ireturn, 1) := by decide +kernel
theorem dX11_found_44 : decode cX11_found 44 = .ok (.aload_n 0, 1) := by decide +kernel
theorem dX11_found_45 : decode cX11_found 45 = .ok (.getfield 25, 3) := by decide +kernel
theorem dX11_found_48 : decode cX11_found 48 = .ok (.iconst 1, 1) := by decide +kernel
theorem dX11_found_49 : decode cX11_found 49 = .ok (.invokevirtual 175, 3) := by decide +kernel
theorem dX11_found_52 : decode cX11_found 52 = .ok (.iinc 2 1, 3) := by decide +kernel
theorem dX11_found_55 : decode cX11_found 55 = .ok (.goto (-34), 3) := by decide +kernel
theorem dX11_found_58 : decode cX11_found 58 = .ok (.aload_n 0, 1) := by decide +kernel
theorem dX11_found_59 : decode cX11_found 59 = .ok (.ldc 112, 2) := by decide +kernel
theorem dX11_found_61 : decode cX11_found 61 = .ok (.invokevirtual 58, 3) := by decide +kernel
theorem dX11_found_64 : decode cX11_found 64 = .ok (.ireturn, 1) := by decide +kernel
theorem dX11_comes_0 : decode cX11_comes 0 = .ok (.aload_n 0, 1) := by decide +kernel
theorem dX11_comes_1 : decode cX11_comes 1 = .ok (.iload_n 1, 1) := by decide +kernel
theorem dX11_comes_2 : decode cX11_comes 2 = .ok (.invokevirtual 96, 3) := by decide +kernel
theorem dX11_comes_5 : decode cX11_comes 5 = .ok (.ifCond .eq 11, 3) := by decide +kernel
theorem dX11_comes_8 : decode cX11_comes 8 = .ok (.aload_n 0, 1) := by decide +kernel
theorem dX11_comes_9 : decode cX11_comes 9 = .ok (.iload_n 2, 1) := by decide +kernel
theorem dX11_comes_10 : decode cX11_comes 10 = .ok (.invokevirtual 70, 3) := by decide +kernel
theorem dX11_comes_13 : decode cX11_comes 13 = .ok (.ifCond .ne 10, 3) := by decide +kernel
theorem dX11_comes_16 : decode cX11_comes 16 = .ok (.aload_n 0, 1) := by decide +kernel
theorem dX11_comes_17 : decode cX11_comes 17 = .ok (.ldc 57, 2) := by decide +kernel
theorem dX11_comes_19 : decode cX11_comes 19 = .ok (.invokevirtual 58, 3) := by decide +kernel
theorem dX11_comes_22 : decode cX11_comes 22 = .ok (.ireturn, 1) := by decide +kernel
theorem dX11_comes_23 : decode cX11_comes 23 = .ok (.aload_n 0, 1) := by decide +kernel
theorem dX11_comes_24 : decode cX11_comes 24 = .ok (.invokevirtual 190, 3) := by decide +kernel
theorem dX11_comes_27 : decode cX11_comes 27 = .ok (.iconst 0, 1) := by decide +kernel
theorem dX11_comes_28 : decode cX11_comes 28 = .ok (.istore_n 3, 1) := by decide +kernel
theorem dX11_comes_29 : decode cX11_comes 29 = .ok (.iload_n 3, 1) := by decide +kernel
theorem dX11_comes_30 : decode cX11_comes 30 = .ok (.bipush 60, 2) := by decide +kernel
theorem dX11_comes_32 : decode cX11_comes 32 = .ok (.if_icmp .gt 35, 3) := by decide +kernel
theorem dX11_comes_35 : decode cX11_comes 35 = .ok (.aload_n 0, 1) := by decide +kernel
theorem dX11_comes_36 : decode cX11_comes 36 = .ok (.getfield 25, 3) := by decide +kernel
theorem dX11_comes_39 : decode cX11_comes 39 = .ok (.getfield 103, 3) := by decide +kernel
theorem dX11_comes_42 : decode cX11_comes 42 = .ok (.iload_n 1, 1) := by decide +kernel
theorem dX11_comes_43 : decode cX11_comes 43 = .ok (.aaload, 1) := by decide +kernel
theorem dX11_comes_44 : decode cX11_comes 44 = .ok (.getfield 172, 3) := by decide +kernel
theorem dX11_comes_47 : decode cX11_comes 47 = .ok (.iload_n 2, 1) := by decide +kernel
theorem dX11_comes_48 : decode cX11_comes 48 = .ok (.if_icmp .ne 5, 3) := by decide +kernel
theorem dX11_comes_51 : decode cX11_comes 51 = .ok (.iload_n 3, 1) := by decide +kernel
theorem dX11_comes_52 : decode cX11_comes 52 = .ok (.ireturn, 1) := by decide +kernel
theorem dX11_comes_53 : decode cX11_comes 53 = .ok (.aload_n 0, 1) := by decide +kernel
theorem dX11_comes_54 : decode cX11_comes 54 = .ok (.getfield 25, 3) := by decide +kernel
theorem dX11_comes_57 : decode cX11_comes 57 = .ok (.iconst 1, 1) := by decide +kernel
theorem dX11_comes_58 : decode cX11_comes 58 = .ok (.invokevirtual 175, 3) := by decide +kernel
theorem dX11_comes_61 : decode cX11_comes 61 = .ok (.iinc 3 1, 3) := by decide +kernel
theorem dX11_comes_64 : decode cX11_comes 64 = .ok (.goto (-35), 3) := by decide +kernel
theorem dX11_comes_67 : decode cX11_comes 67 = .ok (.aload_n 0, 1) := by decide +kernel
theorem dX11_comes_68 : decode cX11_comes 68 = .ok (.ldc 112, 2) := by decide +kernel
theorem dX11_comes_70 : decode cX11_comes 70 = .ok (.invokevirtual 58, 3) := by decide +kernel
theorem dX11_comes_73 : decode cX11_comes 73 = .ok (.ireturn, 1) := by decide +kernel
theorem dX11_best_0 : decode cX11_best 0 = .ok (.aload_n 0, 1) := by decide +kernel
theorem dX11_best_1 : decode cX11_best 1 = .ok (.iload_n 1, 1) := by decide +kernel
theorem dX11_best_2 : decode cX11_best 2 = .ok (.invokevirtual 96, 3) := by decide +kernel
theorem dX11_best_5 : decode cX11_best 5 = .ok (.ifCond .eq 13, 3) := by decide +kernel
theorem dX11_best_8 : decode cX11_best 8 = .ok (.iload_n 2, 1) := by decide +kernel
theorem dX11_best_9 : decode cX11_best 9 = .ok (.iconst 1, 1) := by decide +kernel
theorem dX11_best_10 : decode cX11_best 10 = .ok (.bipush 30, 2) := by decide +kernel
theorem dX11_best_12 : decode cX11_best 12 = .ok (.invokestatic 92, 3) := by decide +kernel
theorem dX11_best_15 : decode cX11_best 15 = .ok (.ifCond .ne 10, 3) := by decide +kernel
theorem dX11_best_18 : decode cX11_best 18 = .ok (.aload_n 0, 1) := by decide +kernel
theorem dX11_best_19 : decode cX11_best 19 = .ok (.ldc 57, 2) := by decide +kernel
theorem dX11_best_21 : decode cX11_best 21 = .ok (.invokevirtual 58, 3) := by decide +kernel
theorem dX11_best_24 : decode cX11_best 24 = .ok (.ireturn, 1) := by decide +kernel
theorem dX11_best_25 : decode cX11_best 25 = .ok (.aload_n 0, 1) := by decide +kernel
theorem dX11_best_26 : decode cX11_best 26 = .ok (.getfield 18, 3) := by decide +kernel
theorem dX11_best_29 : decode cX11_best 29 = .ok (.getfield 103, 3) := by decide +kernel
theorem dX11_best_32 : decode cX11_best 32 = .ok (.iload_n 1, 1) := by decide +kernel
theorem dX11_best_33 : decode cX11_best 33 = .ok (.aaload, 1) := by decide +kernel
theorem dX11_best_34 : decode cX11_best 34 = .ok (.getfield 107, 3) := by decide +kernel
theorem dX11_best_37 : decode cX11_best 37 = .ok (.bipush 6, 2) := by decide +kernel
theorem dX11_best_39 : decode cX11_best 39 = .ok (.if_icmp .lt 10, 3) := by decide +kernel
theorem dX11_best_42 : decode cX11_best 42 = .ok (.aload_n 0, 1) := by decide +kernel
theorem dX11_best_43 : decode cX11_best 43 = .ok (.ldc 66, 2) := by decide +kernel
theorem dX11_best_45 : decode cX11_best 45 = .ok (.invokevirtual 58, 3) := by decide +kernel
theorem dX11_best_48 : decode cX11_best 48 = .ok (.ireturn, 1) := by decide +kernel
theorem dX11_best_49 : decode cX11_best 49 = .ok (.aload_n 0, 1) := by decide +kernel
theorem dX11_best_50 : decode cX11_best 50 = .ok (.getfield 18, 3) := by decide +kernel
theorem dX11_best_53 : decode cX11_best 53 = .ok (.getfield 103, 3) := by decide +kernel
theorem dX11_best_56 : decode cX11_best 56 = .ok (.iload_n 1, 1) := by decide +kernel
theorem dX11_best_57 : decode cX11_best 57 = .ok (.aaload, 1) := by decide +kernel
theorem dX11_best_58 : decode cX11_best 58 = .ok (.getfield 161, 3) := by decide +kernel
theorem dX11_best_61 : decode cX11_best 61 = .ok (.ifCond .eq 10, 3) := by decide +kernel
theorem dX11_best_64 : decode cX11_best 64 = .ok (.aload_n 0, 1) := by decide +kernel
theorem dX11_best_65 : decode cX11_best 65 = .ok (.ldc 164, 2) := by decide +kernel
theorem dX11_best_67 : decode cX11_best 67 = .ok (.invokevirtual 58, 3) := by decide +kernel
theorem dX11_best_70 : decode cX11_best 70 = .ok (.ireturn, 1) := by decide +kernel
theorem dX11_best_71 : decode cX11_best 71 = .ok (.iconst 0, 1) := by decide +kernel
theorem dX11_best_72 : decode cX11_best 72 = .ok (.istore_n 3, 1) := by decide +kernel
theorem dX11_best_73 : decode cX11_best 73 = .ok (.iconst (-1), 1) := by decide +kernel
theorem dX11_best_74 : decode cX11_best 74 = .ok (.istore 4, 2) := by decide +kernel
theorem dX11_best_76 : decode cX11_best 76 = .ok (.iconst 0, 1) := by decide +kernel
theorem dX11_best_77 : decode cX11_best 77 = .ok (.istore 5, 2) := by decide +kernel
theorem dX11_best_79 : decode cX11_best 79 = .ok (.iload 5, 2) := by decide +kernel
theorem dX11_best_81 : decode cX11_best 81 = .ok (.iconst 4, 1) := by decide +kernel
theorem dX11_best_82 : decode cX11_best 82 = .ok (.if_icmp .ge 58, 3) := by decide +kernel
theorem dX11_best_85 : decode cX11_best 85 = .ok (.aload_n 0, 1) := by decide +kernel
theorem dX11_best_86 : decode cX11_best 86 = .ok (.invokevirtual 190, 3) := by decide +kernel
theorem dX11_best_89 : decode cX11_best 89 = .ok (.aload_n 0, 1) := by decide +kernel
theorem dX11_best_90 : decode cX11_best 90 = .ok (.getfield 25, 3) := by decide +kernel
theorem dX11_best_93 : decode cX11_best 93 = .ok (.getfield 103, 3) := by decide +kernel
theorem dX11_best_96 : decode cX11_best 96 = .ok (.iload_n 1, 1) := by decide +kernel
theorem dX11_best_97 : decode cX11_best 97 = .ok (.aaload, 1) := by decide +kernel
theorem dX11_best_98 : decode cX11_best 98 = .ok (.iload 5, 2) := by decide +kernel
theorem dX11_best_100 : decode cX11_best 100 = .ok (.invokevirtual 165, 3) := by decide +kernel
theorem dX11_best_103 : decode cX11_best 103 = .ok (.aload_n 0, 1) := by decide +kernel
theorem dX11_best_104 : decode cX11_best 104 = .ok (.getfield 25, 3) := by decide +kernel
theorem dX11_best_107 : decode cX11_best 107 = .ok (.iload_n 2, 1) := by decide +kernel
theorem dX11_best_108 : decode cX11_best 108 = .ok (.invokevirtual 175, 3) := by decide +kernel
theorem dX11_best_111 : decode cX11_best 111 = .ok (.aload_n 0, 1) := by decide +kernel
theorem dX11_best_112 : decode cX11_best 112 = .ok (.getfield 25, 3) := by decide +kernel
theorem dX11_best_115 : decode cX11_best 115 = .ok (.invokevirtual 178, 3) := by decide +kernel
end
section
theorem dX11_best_118 : decode cX11_best 118 = .ok (.istore 6, 2) := by decide +kernel
theorem dX11_best_120 : decode cX11_best 120 = .ok (.iload 6, 2) := by decide +kernel
theorem dX11_best_122 : decode cX11_best 122 = .ok (.iload 4, 2) := by decide +kernel
theorem dX11_best_124 : decode cX11_best 124 = .ok (.if_icmp .le 10, 3) := by decide +kernel
theorem dX11_best_127 : decode cX11_best 127 = .ok (.iload 6, 2) := by decide +kernel
theorem dX11_best_129 : decode cX11_best 129 = .ok (.istore 4, 2) := by decide +kernel
theorem dX11_best_131 : decode cX11_best 131 = .ok (.iload 5, 2) := by decide +kernel
theorem dX11_best_133 : decode cX11_best 133 = .ok (.istore_n 3, 1) := by decide +kernel
theorem dX11_best_134 : decode cX11_best 134 = .ok (.iinc 5 1, 3) := by decide +kernel
theorem dX11_best_137 : decode cX11_best 137 = .ok (.goto (-58), 3) := by decide +kernel
theorem dX11_best_140 : decode cX11_best 140 = .ok (.iload_n 3, 1) := by decide +kernel
theorem dX11_best_141 : decode cX11_best 141 = .ok (.ireturn, 1) := by decide +kernel
theorem dX11_give_0 : decode cX11_give 0 = .ok (.aload_n 0, 1) := by decide +kernel
theorem dX11_give_1 : decode cX11_give 1 = .ok (.iload_n 1, 1) := by decide +kernel
theorem dX11_give_2 : decode cX11_give 2 = .ok (.invokevirtual 96, 3) := by decide +kernel
theorem dX11_give_5 : decode cX11_give 5 = .ok (.ifCond .eq 13, 3) := by decide +kernel
theorem dX11_give_8 : decode cX11_give 8 = .ok (.iload_n 2, 1) := by decide +kernel
theorem dX11_give_9 : decode cX11_give 9 = .ok (.iconst 1, 1) := by decide +kernel
theorem dX11_give_10 : decode cX11_give 10 = .ok (.bipush 30, 2) := by decide +kernel
theorem dX11_give_12 : decode cX11_give 12 = .ok (.invokestatic 92, 3) := by decide +kernel
theorem dX11_give_15 : decode cX11_give 15 = .ok (.ifCond .ne 10, 3) := by decide +kernel
theorem dX11_give_18 : decode cX11_give 18 = .ok (.aload_n 0, 1) := by decide +kernel
theorem dX11_give_19 : decode cX11_give 19 = .ok (.ldc 57, 2) := by decide +kernel
theorem dX11_give_21 : decode cX11_give 21 = .ok (.invokevirtual 58, 3) := by decide +kernel
theorem dX11_give_24 : decode cX11_give 24 = .ok (.ireturn, 1) := by decide +kernel
theorem dX11_give_25 : decode cX11_give 25 = .ok (.iconst 0, 1) := by decide +kernel
theorem dX11_give_26 : decode cX11_give 26 = .ok (.istore_n 3, 1) := by decide +kernel
theorem dX11_give_27 : decode cX11_give 27 = .ok (.iconst (-1), 1) := by decide +kernel
theorem dX11_give_28 : decode cX11_give 28 = .ok (.istore 4, 2) := by decide +kernel
theorem dX11_give_30 : decode cX11_give 30 = .ok (.iconst 0, 1) := by decide +kernel
theorem dX11_give_31 : decode cX11_give 31 = .ok (.istore 5, 2) := by decide +kernel
theorem dX11_give_33 : decode cX11_give 33 = .ok (.iload 5, 2) := by decide +kernel
theorem dX11_give_35 : decode cX11_give 35 = .ok (.aload_n 0, 1) := by decide +kernel
theorem dX11_give_36 : decode cX11_give 36 = .ok (.getfield 18, 3) := by decide +kernel
theorem dX11_give_39 : decode cX11_give 39 = .ok (.getfield 62, 3) := by decide +kernel
theorem dX11_give_42 : decode cX11_give 42 = .ok (.if_icmp .ge 58, 3) := by decide +kernel
theorem dX11_give_45 : decode cX11_give 45 = .ok (.aload_n 0, 1) := by decide +kernel
theorem dX11_give_46 : decode cX11_give 46 = .ok (.invokevirtual 190, 3) := by decide +kernel
theorem dX11_give_49 : decode cX11_give 49 = .ok (.aload_n 0, 1) := by decide +kernel
theorem dX11_give_50 : decode cX11_give 50 = .ok (.getfield 25, 3) := by decide +kernel
theorem dX11_give_53 : decode cX11_give 53 = .ok (.getfield 103, 3) := by decide +kernel
theorem dX11_give_56 : decode cX11_give 56 = .ok (.iload_n 1, 1) := by decide +kernel
theorem dX11_give_57 : decode cX11_give 57 = .ok (.aaload, 1) := by decide +kernel
theorem dX11_give_58 : decode cX11_give 58 = .ok (.iload 5, 2) := by decide +kernel
theorem dX11_give_60 : decode cX11_give 60 = .ok (.putfield 172, 3) := by decide +kernel
theorem dX11_give_63 : decode cX11_give 63 = .ok (.aload_n 0, 1) := by decide +kernel
theorem dX11_give_64 : decode cX11_give 64 = .ok (.getfield 25, 3) := by decide +kernel
theorem dX11_give_67 : decode cX11_give 67 = .ok (.iload_n 2, 1) := by decide +kernel
theorem dX11_give_68 : decode cX11_give 68 = .ok (.invokevirtual 175, 3) := by decide +kernel
theorem dX11_give_71 : decode cX11_give 71 = .ok (.aload_n 0, 1) := by decide +kernel
theorem dX11_give_72 : decode cX11_give 72 = .ok (.getfield 25, 3) := by decide +kernel
theorem dX11_give_75 : decode cX11_give 75 = .ok (.invokevirtual 178, 3) := by decide +kernel
theorem dX11_give_78 : decode cX11_give 78 = .ok (.istore 6, 2) := by decide +kernel
theorem dX11_give_80 : decode cX11_give 80 = .ok (.iload 6, 2) := by decide +kernel
theorem dX11_give_82 : decode cX11_give 82 = .ok (.iload 4, 2) := by decide +kernel
theorem dX11_give_84 : decode cX11_give 84 = .ok (.if_icmp .le 10, 3) := by decide +kernel
theorem dX11_give_87 : decode cX11_give 87 = .ok (.iload 6, 2) := by decide +kernel
theorem dX11_give_89 : decode cX11_give 89 = .ok (.istore 4, 2) := by decide +kernel
theorem dX11_give_91 : decode cX11_give 91 = .ok (.iload 5, 2) := by decide +kernel
theorem dX11_give_93 : decode cX11_give 93 = .ok (.istore_n 3, 1) := by decide +kernel
theorem dX11_give_94 : decode cX11_give 94 = .ok (.iinc 5 1, 3) := by decide +kernel
theorem dX11_give_97 : decode cX11_give 97 = .ok (.goto (-64), 3) := by decide +kernel
theorem dX11_give_100 : decode cX11_give 100 = .ok (.iload_n 3, 1) := by decide +kernel
theorem dX11_give_101 : decode cX11_give 101 = .ok (.ireturn, 1) := by decide +kernel
theorem dX11_kind_0 : decode cX11_kind 0 = .ok (.aload_n 0, 1) := by decide +kernel
theorem dX11_kind_1 : decode cX11_kind 1 = .ok (.iload_n 1, 1) := by decide +kernel
theorem dX11_kind_2 : decode cX11_kind 2 = .ok (.invokevirtual 70, 3) := by decide +kernel
theorem dX11_kind_5 : decode cX11_kind 5 = .ok (.ifCond .eq 13, 3) := by decide +kernel
theorem dX11_kind_8 : decode cX11_kind 8 = .ok (.iload_n 2, 1) := by decide +kernel
theorem dX11_kind_9 : decode cX11_kind 9 = .ok (.iconst 1, 1) := by decide +kernel
theorem dX11_kind_10 : decode cX11_kind 10 = .ok (.bipush 30, 2) := by decide +kernel
theorem dX11_kind_12 : decode cX11_kind 12 = .ok (.invokestatic 92, 3) := by decide +kernel
theorem dX11_kind_15 : decode cX11_kind 15 = .ok (.ifCond .ne 10, 3) := by decide +kernel
theorem dX11_kind_18 : decode cX11_kind 18 = .ok (.aload_n 0, 1) := by decide +kernel
theorem dX11_kind_19 : decode cX11_kind 19 = .ok (.ldc 57, 2) := by decide +kernel
theorem dX11_kind_21 : decode cX11_kind 21 = .ok (.invokevirtual 58, 3) := by decide +kernel
theorem dX11_kind_24 : decode cX11_kind 24 = .ok (.ireturn, 1) := by decide +kernel
theorem dX11_kind_25 : decode cX11_kind 25 = .ok (.iconst 0, 1) := by decide +kernel
theorem dX11_kind_26 : decode cX11_kind 26 = .ok (.istore_n 3, 1) := by decide +kernel
theorem dX11_kind_27 : decode cX11_kind 27 = .ok (.iconst (-1), 1) := by decide +kernel
theorem dX11_kind_28 : decode cX11_kind 28 = .ok (.istore 4, 2) := by decide +kernel
theorem dX11_kind_30 : decode cX11_kind 30 = .ok (.iconst 0, 1) := by decide +kernel
theorem dX11_kind_31 : decode cX11_kind 31 = .ok (.istore 5, 2) := by decide +kernel
theorem dX11_kind_33 : decode cX11_kind 33 = .ok (.iload 5, 2) := by decide +kernel
theorem dX11_kind_35 : decode cX11_kind 35 = .ok (.bipush 6, 2) := by decide +kernel
theorem dX11_kind_37 : decode cX11_kind 37 = .ok (.if_icmp .ge 63, 3) := by decide +kernel
theorem dX11_kind_40 : decode cX11_kind 40 = .ok (.aload_n 0, 1) := by decide +kernel
theorem dX11_kind_41 : decode cX11_kind 41 = .ok (.invokevirtual 190, 3) := by decide +kernel
theorem dX11_kind_44 : decode cX11_kind 44 = .ok (.aload_n 0, 1) := by decide +kernel
theorem dX11_kind_45 : decode cX11_kind 45 = .ok (.getfield 25, 3) := by decide +kernel
theorem dX11_kind_48 : decode cX11_kind 48 = .ok (.getfield 73, 3) := by decide +kernel
theorem dX11_kind_51 : decode cX11_kind 51 = .ok (.iload_n 1, 1) := by decide +kernel
theorem dX11_kind_52 : decode cX11_kind 52 = .ok (.aaload, 1) := by decide +kernel
theorem dX11_kind_53 : decode cX11_kind 53 = .ok (.iload 5, 2) := by decide +kernel
theorem dX11_kind_55 : decode cX11_kind 55 = .ok (.putfield 77, 3) := by decide +kernel
theorem dX11_kind_58 : decode cX11_kind 58 = .ok (.aload_n 0, 1) := by decide +kernel
theorem dX11_kind_59 : decode cX11_kind 59 = .ok (.getfield 25, 3) := by decide +kernel
theorem dX11_kind_62 : decode cX11_kind 62 = .ok (.iload_n 2, 1) := by decide +kernel
theorem dX11_kind_63 : decode cX11_kind 63 = .ok (.invokevirtual 175, 3) := by decide +kernel
theorem dX11_kind_66 : decode cX11_kind 66 = .ok (.aload_n 0, 1) := by decide +kernel
theorem dX11_kind_67 : decode cX11_kind 67 = .ok (.getfield 25, 3) := by decide +kernel
theorem dX11_kind_70 : decode cX11_kind 70 = .ok (.getfield 73, 3) := by decide +kernel
theorem dX11_kind_73 : decode cX11_kind 73 = .ok (.iload_n 1, 1) := by decide +kernel
theorem dX11_kind_74 : decode cX11_kind 74 = .ok (.aaload, 1) := by decide +kernel
theorem dX11_kind_75 : decode cX11_kind 75 = .ok (.getfield 82, 3) := by decide +kernel
theorem dX11_kind_78 : decode cX11_kind 78 = .ok (.istore 6, 2) := by decide +kernel
theorem dX11_kind_80 : decode cX11_kind 80 = .ok (.iload 6, 2) := by decide +kernel
theorem dX11_kind_82 : decode cX11_kind 82 = .ok (.iload 4, 2) := by decide +kernel
theorem dX11_kind_84 : decode cX11_kind 84 = .ok (.if_icmp .le 10, 3) := by decide +kernel
theorem dX11_kind_87 : decode cX11_kind 87 = .ok (.iload 6, 2) := by decide +kernel
theorem dX11_kind_89 : decode cX11_kind 89 = .ok (.istore 4, 2) := by decide +kernel
theorem dX11_kind_91 : decode cX11_kind 91 = .ok (.iload 5, 2) := by decide +kernel
theorem dX11_kind_93 : decode cX11_kind 93 = .ok (.istore_n 3, 1) := by decide +kernel
theorem dX11_kind_94 : decode cX11_kind 94 = .ok (.iinc 5 1, 3) := by decide +kernel
theorem dX11_kind_97 : decode cX11_kind 97 = .ok (.goto (-64), 3) := by decide +kernel
theorem dX11_kind_100 : decode cX11_kind 100 = .ok (.iload_n 3, 1) := by decide +kernel
theorem dX11_kind_101 : decode cX11_kind 101 = .ok (.ireturn, 1) := by decide +kernel
theorem dX11_least_0 : decode cX11_least 0 = .ok (.aload_n 0, 1) := by decide +kernel
theorem dX11_least_1 : decode cX11_least 1 = .ok (.iload_n 1, 1) := by decide +kernel
theorem dX11_least_2 : decode cX11_least 2 = .ok (.invokevirtual 96, 3) := by decide +kernel
theorem dX11_least_5 : decode cX11_least 5 = .ok (.ifCond .eq 33, 3) := by decide +kernel
theorem dX11_least_8 : decode cX11_least 8 = .ok (.aload_n 0, 1) := by decide +kernel
theorem dX11_least_9 : decode cX11_least 9 = .ok (.iload_n 2, 1) := by decide +kernel
theorem dX11_least_10 : decode cX11_least 10 = .ok (.invokevirtual 70, 3) := by decide +kernel
theorem dX11_least_13 : decode cX11_least 13 = .ok (.ifCond .eq 25, 3) := by decide +kernel
theorem dX11_least_16 : decode cX11_least 16 = .ok (.iload_n 3, 1) := by decide +kernel
theorem dX11_least_17 : decode cX11_least 17 = .ok (.iconst 1, 1) := by decide +kernel
theorem dX11_least_18 : decode cX11_least 18 = .ok (.bipush 30, 2) := by decide +kernel
theorem dX11_least_20 : decode cX11_least 20 = .ok (.invokestatic 92, 3) := by decide +kernel
theorem dX11_least_23 : decode cX11_least 23 = .ok (.ifCond .eq 15, 3) := by decide +kernel
theorem dX11_least_26 : decode cX11_least 26 = .ok (.iload 4, 2) := by decide +kernel
theorem dX11_least_28 : decode cX11_least 28 = .ok (.iconst 0, 1) := by decide +kernel
theorem dX11_least_29 : decode cX11_least 29 = .ok (.sipush 9999, 3) := by decide +kernel
theorem dX11_least_32 : decode cX11_least 32 = .ok (.invokestatic 92, 3) := by decide +kernel
theorem dX11_least_35 : decode cX11_least 35 = .ok (.ifCond .ne 10, 3) := by decide +kernel
theorem dX11_least_38 : decode cX11_least 38 = .ok (.aload_n 0, 1) := by decide +kernel
theorem dX11_least_39 : decode cX11_least 39 = .ok (.ldc 57, 2) := by decide +kernel
theorem dX11_least_41 : decode cX11_least 41 = .ok (.invokevirtual 58, 3) := by decide +kernel
theorem dX11_least_44 : decode cX11_least 44 = .ok (.ireturn, 1) := by decide +kernel
theorem dX11_least_45 : decode cX11_least 45 = .ok (.iconst 0, 1) := by decide +kernel
theorem dX11_least_46 : decode cX11_least 46 = .ok (.istore 5, 2) := by decide +kernel
theorem dX11_least_48 : decode cX11_least 48 = .ok (.iload 5, 2) := by decide +kernel
theorem dX11_least_50 : decode cX11_least 50 = .ok (.bipush 99, 2) := by decide +kernel
theorem dX11_least_52 : decode cX11_least 52 = .ok (.if_icmp .gt 55, 3) := by decide +kernel
theorem dX11_least_55 : decode cX11_least 55 = .ok (.aload_n 0, 1) := by decide +kernel
theorem dX11_least_56 : decode cX11_least 56 = .ok (.invokevirtual 190, 3) := by decide +kernel
theorem dX11_least_59 : decode cX11_least 59 = .ok (.aload_n 0, 1) := by decide +kernel
theorem dX11_least_60 : decode cX11_least 60 = .ok (.getfield 25, 3) := by decide +kernel
theorem dX11_least_63 : decode cX11_least 63 = .ok (.getfield 103, 3) := by decide +kernel
theorem dX11_least_66 : decode cX11_least 66 = .ok (.iload_n 1, 1) := by decide +kernel
theorem dX11_least_67 : decode cX11_least 67 = .ok (.aaload, 1) := by decide +kernel
theorem dX11_least_68 : decode cX11_least 68 = .ok (.iload 5, 2) := by decide +kernel
theorem dX11_least_70 : decode cX11_least 70 = .ok (.putfield 125, 3) := by decide +kernel
theorem dX11_least_73 : decode cX11_least 73 = .ok (.aload_n 0, 1) := by decide +kernel
theorem dX11_least_74 : decode cX11_least 74 = .ok (.getfield 25, 3) := by decide +kernel
theorem dX11_least_77 : decode cX11_least 77 = .ok (.iload_n 3, 1) := by decide +kernel
theorem dX11_least_78 : decode cX11_least 78 = .ok (.invokevirtual 175, 3) := by decide +kernel
theorem dX11_least_81 : decode cX11_least 81 = .ok (.aload_n 0, 1) := by decide +kernel
theorem dX11_least_82 : decode cX11_least 82 = .ok (.getfield 25, 3) := by decide +kernel
theorem dX11_least_85 : decode cX11_least 85 = .ok (.getfield 73, 3) := by decide +kernel
theorem dX11_least_88 : decode cX11_least 88 = .ok (.iload_n 2, 1) := by decide +kernel
theorem dX11_least_89 : decode cX11_least 89 = .ok (.aaload, 1) := by decide +kernel
theorem dX11_least_90 : decode cX11_least 90 = .ok (.getfield 82, 3) := by decide +kernel
theorem dX11_least_93 : decode cX11_least 93 = .ok (.iload 4, 2) := by decide +kernel
theorem dX11_least_95 : decode cX11_least 95 = .ok (.if_icmp .lt 6, 3) := by decide +kernel
theorem dX11_least_98 : decode cX11_least 98 = .ok (.iload 5, 2) := by decide +kernel
theorem dX11_least_100 : decode cX11_least 100 = .ok (.ireturn, 1) := by decide +kernel
theorem dX11_least_101 : decode cX11_least 101 = .ok (.iinc 5 1, 3) := by decide +kernel
theorem dX11_least_104 : decode cX11_least 104 = .ok (.goto (-56), 3) := by decide +kernel
theorem dX11_least_107 : decode cX11_least 107 = .ok (.aload_n 0, 1) := by decide +kernel
theorem dX11_least_108 : decode cX11_least 108 = .ok (.ldc 112, 2) := by decide +kernel
theorem dX11_least_110 : decode cX11_least 110 = .ok (.invokevirtual 58, 3) := by decide +kernel
theorem dX11_least_113 : decode cX11_least 113 = .ok (.ireturn, 1) := by decide +kernel
theorem dX11_order_0 : decode cX11_order 0 = .ok (.aload_n 0, 1) := by decide +kernel
theorem dX11_order_1 : decode cX11_order 1 = .ok (.iload_n 1, 1) := by decide +kernel
theorem dX11_order_2 : decode cX11_order 2 = .ok (.invokevirtual 96, 3) := by decide +kernel
theorem dX11_order_5 : decode cX11_order 5 = .ok (.ifCond .eq 13, 3) := by decide +kernel
theorem dX11_order_8 : decode cX11_order 8 = .ok (.iload_n 2, 1) := by decide +kernel
theorem dX11_order_9 : decode cX11_order 9 = .ok (.iconst 1, 1) := by decide +kernel
theorem dX11_order_10 : decode cX11_order 10 = .ok (.bipush 10, 2) := by decide +kernel
theorem dX11_order_12 : decode cX11_order 12 = .ok (.invokestatic 92, 3) := by decide +kernel
theorem dX11_order_15 : decode cX11_order 15 = .ok (.ifCond .ne 10, 3) := by decide +kernel
theorem dX11_order_18 : decode cX11_order 18 = .ok (.aload_n 0, 1) := by decide +kernel
theorem dX11_order_19 : decode cX11_order 19 = .ok (.ldc 57, 2) := by decide +kernel
theorem dX11_order_21 : decode cX11_order 21 = .ok (.invokevirtual 58, 3) := by decide +kernel
theorem dX11_order_24 : decode cX11_order 24 = .ok (.ireturn, 1) := by decide +kernel
theorem dX11_order_25 : decode cX11_order 25 = .ok (.aload_n 0, 1) := by decide +kernel
theorem dX11_order_26 : decode cX11_order 26 = .ok (.getfield 18, 3) := by decide +kernel
theorem dX11_order_29 : decode cX11_order 29 = .ok (.getfield 103, 3) := by decide +kernel
theorem dX11_order_32 : decode cX11_order 32 = .ok (.iload_n 1, 1) := by decide +kernel
theorem dX11_order_33 : decode cX11_order 33 = .ok (.aaload, 1) := by decide +kernel
theorem dX11_order_34 : decode cX11_order 34 = .ok (.getfield 107, 3) := by decide +kernel
theorem dX11_order_37 : decode cX11_order 37 = .ok (.istore_n 3, 1) := by decide +kernel
theorem dX11_order_38 : decode cX11_order 38 = .ok (.iload_n 3, 1) := by decide +kernel
theorem dX11_order_39 : decode cX11_order 39 = .ok (.ifCond .ne 10, 3) := by decide +kernel
theorem dX11_order_42 : decode cX11_order 42 = .ok (.aload_n 0, 1) := by decide +kernel
theorem dX11_order_43 : decode cX11_order 43 = .ok (.ldc 112, 2) := by decide +kernel
theorem dX11_order_45 : decode cX11_order 45 = .ok (.invokevirtual 58, 3) := by decide +kernel
theorem dX11_order_48 : decode cX11_order 48 = .ok (.ireturn, 1) := by decide +kernel
theorem dX11_order_49 : decode cX11_order 49 = .ok (.iload_n 3, 1) := by decide +kernel
theorem dX11_order_50 : decode cX11_order 50 = .ok (.iconst 5, 1) := by decide +kernel
theorem dX11_order_51 : decode cX11_order 51 = .ok (.if_icmp .le 10, 3) := by decide +kernel
theorem dX11_order_54 : decode cX11_order 54 = .ok (.aload_n 0, 1) := by decide +kernel
theorem dX11_order_55 : decode cX11_order 55 = .ok (.ldc 193, 2) := by decide +kernel
theorem dX11_order_57 : decode cX11_order 57 = .ok (.invokevirtual 58, 3) := by decide +kernel
theorem dX11_order_60 : decode cX11_order 60 = .ok (.ireturn, 1) := by decide +kernel
theorem dX11_order_61 : decode cX11_order 61 = .ok (.aload_n 0, 1) := by decide +kernel
theorem dX11_order_62 : decode cX11_order 62 = .ok (.iload_n 1, 1) := by decide +kernel
theorem dX11_order_63 : decode cX11_order 63 = .ok (.iload_n 3, 1) := by decide +kernel
theorem dX11_order_64 : decode cX11_order 64 = .ok (.invokevirtual 194, 3) := by decide +kernel
theorem dX11_order_67 : decode cX11_order 67 = .ok (.iconst 0, 1) := by decide +kernel
theorem dX11_order_68 : decode cX11_order 68 = .ok (.istore 4, 2) := by decide +kernel
theorem dX11_order_70 : decode cX11_order 70 = .ok (.iconst (-1), 1) := by decide +kernel
theorem dX11_order_71 : decode cX11_order 71 = .ok (.istore 5, 2) := by decide +kernel
theorem dX11_order_73 : decode cX11_order 73 = .ok (.iconst 1, 1) := by decide +kernel
theorem dX11_order_74 : decode cX11_order 74 = .ok (.istore 6, 2) := by decide +kernel
theorem dX11_order_76 : decode cX11_order 76 = .ok (.iconst 0, 1) := by decide +kernel
theorem dX11_order_77 : decode cX11_order 77 = .ok (.istore 7, 2) := by decide +kernel
theorem dX11_order_79 : decode cX11_order 79 = .ok (.iload 7, 2) := by decide +kernel
theorem dX11_order_81 : decode cX11_order 81 = .ok (.bipush 120, 2) := by decide +kernel
theorem dX11_order_83 : decode cX11_order 83 = .ok (.if_icmp .ge 77, 3) := by decide +kernel
theorem dX11_order_86 : decode cX11_order 86 = .ok (.iload 6, 2) := by decide +kernel
theorem dX11_order_88 : decode cX11_order 88 = .ok (.ifCond .eq 72, 3) := by decide +kernel
theorem dX11_order_91 : decode cX11_order 91 = .ok (.aload_n 0, 1) := by decide +kernel
theorem dX11_order_92 : decode cX11_order 92 = .ok (.invokevirtual 190, 3) := by decide +kernel
theorem dX11_order_95 : decode cX11_order 95 = .ok (.aload_n 0, 1) := by decide +kernel
theorem dX11_order_96 : decode cX11_order 96 = .ok (.getfield 25, 3) := by decide +kernel
theorem dX11_order_99 : decode cX11_order 99 = .ok (.getfield 103, 3) := by decide +kernel
theorem dX11_order_102 : decode cX11_order 102 = .ok (.iload_n 1, 1) := by decide +kernel
theorem dX11_order_103 : decode cX11_order 103 = .ok (.aaload, 1) := by decide +kernel
theorem dX11_order_104 : decode cX11_order 104 = .ok (.aload_n 0, 1) := by decide +kernel
theorem dX11_order_105 : decode cX11_order 105 = .ok (.getfield 50, 3) := by decide +kernel
theorem dX11_order_108 : decode cX11_order 108 = .ok (.iload_n 3, 1) := by decide +kernel
theorem dX11_order_109 : decode cX11_order 109 = .ok (.invokevirtual 198, 3) := by decide +kernel
theorem dX11_order_112 : decode cX11_order 112 = .ok (.aload_n 0, 1) := by decide +kernel
theorem dX11_order_113 : decode cX11_order 113 = .ok (.getfield 25, 3) := by decide +kernel
theorem dX11_order_116 : decode cX11_order 116 = .ok (.iload_n 2, 1) := by decide +kernel
theorem dX11_order_117 : decode cX11_order 117 = .ok (.invokevirtual 175, 3) := by decide +kernel
theorem dX11_order_120 : decode cX11_order 120 = .ok (.aload_n 0, 1) := by decide +kernel
theorem dX11_order_121 : decode cX11_order 121 = .ok (.getfield 25, 3) := by decide +kernel
theorem dX11_order_124 : decode cX11_order 124 = .ok (.invokevirtual 178, 3) := by decide +kernel
theorem dX11_order_127 : decode cX11_order 127 = .ok (.istore 8, 2) := by decide +kernel
theorem dX11_order_129 : decode cX11_order 129 = .ok (.iload 8, 2) := by decide +kernel
theorem dX11_order_131 : decode cX11_order 131 = .ok (.iload 5, 2) := by decide +kernel
theorem dX11_order_133 : decode cX11_order 133 = .ok (.if_icmp .le 14, 3) := by decide +kernel
theorem dX11_order_136 : decode cX11_order 136 = .ok (.iload 8, 2) := by decide +kernel
theorem dX11_order_138 : decode cX11_order 138 = .ok (.istore 5, 2) := by decide +kernel
theorem dX11_order_140 : decode cX11_order 140 = .ok (.aload_n 0, 1) := by decide +kernel
theorem dX11_order_141 : decode cX11_order 141 = .ok (.iload_n 3, 1) := by decide +kernel
theorem dX11_order_142 : decode cX11_order 142 = .ok (.invokevirtual 202, 3) := by decide +kernel
theorem dX11_order_145 : decode cX11_order 145 = .ok (.istore 4, 2) := by decide +kernel
theorem dX11_order_147 : decode cX11_order 147 = .ok (.aload_n 0, 1) := by decide +kernel
theorem dX11_order_148 : decode cX11_order 148 = .ok (.iload_n 3, 1) := by decide +kernel
theorem dX11_order_149 : decode cX11_order 149 = .ok (.invokevirtual 205, 3) := by decide +kernel
theorem dX11_order_152 : decode cX11_order 152 = .ok (.istore 6, 2) := by decide +kernel
theorem dX11_order_154 : decode cX11_order 154 = .ok (.iinc 7 1, 3) := by decide +kernel
theorem dX11_order_157 : decode cX11_order 157 = .ok (.goto (-78), 3) := by decide +kernel
theorem dX11_order_160 : decode cX11_order 160 = .ok (.iload 4, 2) := by decide +kernel
theorem dX11_order_162 : decode cX11_order 162 = .ok (.ireturn, 1) := by decide +kernel
theorem dX11_happiest_0 : decode cX11_happiest 0 = .ok (.iload_n 1, 1) := by decide +kernel
theorem dX11_happiest_1 : decode cX11_happiest 1 = .ok (.iconst 0, 1) := by decide +kernel
theorem dX11_happiest_2 : decode cX11_happiest 2 = .ok (.bipush 60, 2) := by decide +kernel
theorem dX11_happiest_4 : decode cX11_happiest 4 = .ok (.invokestatic 92, 3) := by decide +kernel
theorem dX11_happiest_7 : decode cX11_happiest 7 = .ok (.ifCond .ne 10, 3) := by decide +kernel
theorem dX11_happiest_10 : decode cX11_happiest 10 = .ok (.aload_n 0, 1) := by decide +kernel
theorem dX11_happiest_11 : decode cX11_happiest 11 = .ok (.ldc 57, 2) := by decide +kernel
theorem dX11_happiest_13 : decode cX11_happiest 13 = .ok (.invokevirtual 58, 3) := by decide +kernel
theorem dX11_happiest_16 : decode cX11_happiest 16 = .ok (.ireturn, 1) := by decide +kernel
theorem dX11_happiest_17 : decode cX11_happiest 17 = .ok (.aload_n 0, 1) := by decide +kernel
theorem dX11_happiest_18 : decode cX11_happiest 18 = .ok (.getfield 18, 3) := by decide +kernel
theorem dX11_happiest_21 : decode cX11_happiest 21 = .ok (.getfield 62, 3) := by decide +kernel
theorem dX11_happiest_24 : decode cX11_happiest 24 = .ok (.ifCond .ne 10, 3) := by decide +kernel
theorem dX11_happiest_27 : decode cX11_happiest 27 = .ok (.aload_n 0, 1) := by decide +kernel
theorem dX11_happiest_28 : decode cX11_happiest 28 = .ok (.ldc 112, 2) := by decide +kernel
theorem dX11_happiest_30 : decode cX11_happiest 30 = .ok (.invokevirtual 58, 3) := by decide +kernel
theorem dX11_happiest_33 : decode cX11_happiest 33 = .ok (.ireturn, 1) := by decide +kernel
theorem dX11_happiest_34 : decode cX11_happiest 34 = .ok (.aload_n 0, 1) := by decide +kernel
theorem dX11_happiest_35 : decode cX11_happiest 35 = .ok (.invokevirtual 190, 3) := by decide +kernel
theorem dX11_happiest_38 : decode cX11_happiest 38 = .ok (.aload_n 0, 1) := by decide +kernel
theorem dX11_happiest_39 : decode cX11_happiest 39 = .ok (.getfield 25, 3) := by decide +kernel
theorem dX11_happiest_42 : decode cX11_happiest 42 = .ok (.iload_n 1, 1) := by decide +kernel
theorem dX11_happiest_43 : decode cX11_happiest 43 = .ok (.invokevirtual 175, 3) := by decide +kernel
theorem dX11_happiest_46 : decode cX11_happiest 46 = .ok (.iconst 0, 1) := by decide +kernel
theorem dX11_happiest_47 : decode cX11_happiest 47 = .ok (.istore_n 2, 1) := by decide +kernel
theorem dX11_happiest_48 : decode cX11_happiest 48 = .ok (.iconst 1, 1) := by decide +kernel
theorem dX11_happiest_49 : decode cX11_happiest 49 = .ok (.istore_n 3, 1) := by decide +kernel
theorem dX11_happiest_50 : decode cX11_happiest 50 = .ok (.iload_n 3, 1) := by decide +kernel
theorem dX11_happiest_51 : decode cX11_happiest 51 = .ok (.aload_n 0, 1) := by decide +kernel
theorem dX11_happiest_52 : decode cX11_happiest 52 = .ok (.getfield 25, 3) := by decide +kernel
theorem dX11_happiest_55 : decode cX11_happiest 55 = .ok (.getfield 62, 3) := by decide +kernel
theorem dX11_happiest_58 : decode cX11_happiest 58 = .ok (.if_icmp .ge 38, 3) := by decide +kernel
theorem dX11_happiest_61 : decode cX11_happiest 61 = .ok (.aload_n 0, 1) := by decide +kernel
theorem dX11_happiest_62 : decode cX11_happiest 62 = .ok (.getfield 25, 3) := by decide +kernel
theorem dX11_happiest_65 : decode cX11_happiest 65 = .ok (.getfield 73, 3) := by decide +kernel
theorem dX11_happiest_68 : decode cX11_happiest 68 = .ok (.iload_n 3, 1) := by decide +kernel
theorem dX11_happiest_69 : decode cX11_happiest 69 = .ok (.aaload, 1) := by decide +kernel
theorem dX11_happiest_70 : decode cX11_happiest 70 = .ok (.getfield 82, 3) := by decide +kernel
theorem dX11_happiest_73 : decode cX11_happiest 73 = .ok (.aload_n 0, 1) := by decide +kernel
theorem dX11_happiest_74 : decode cX11_happiest 74 = .ok (.getfield 25, 3) := by decide +kernel
theorem dX11_happiest_77 : decode cX11_happiest 77 = .ok (.getfield 73, 3) := by decide +kernel
theorem dX11_happiest_80 : decode cX11_happiest 80 = .ok (.iload_n 2, 1) := by decide +kernel
theorem dX11_happiest_81 : decode cX11_happiest 81 = .ok (.aaload, 1) := by decide +kernel
theorem dX11_happiest_82 : decode cX11_happiest 82 = .ok (.getfield 82, 3) := by decide +kernel
theorem dX11_happiest_85 : decode cX11_happiest 85 = .ok (.if_icmp .le 5, 3) := by decide +kernel
theorem dX11_happiest_88 : decode cX11_happiest 88 = .ok (.iload_n 3, 1) := by decide +kernel
theorem dX11_happiest_89 : decode cX11_happiest 89 = .ok (.istore_n 2, 1) := by decide +kernel
theorem dX11_happiest_90 : decode cX11_happiest 90 = .ok (.iinc 3 1, 3) := by decide +kernel
theorem dX11_happiest_93 : decode cX11_happiest 93 = .ok (.goto (-43), 3) := by decide +kernel
theorem dX11_happiest_96 : decode cX11_happiest 96 = .ok (.iload_n 2, 1) := by decide +kernel
theorem dX11_happiest_97 : decode cX11_happiest 97 = .ok (.ireturn, 1) := by decide +kernel
theorem dX11_enough_0 : decode cX11_enough 0 = .ok (.aload_n 0, 1) := by decide +kernel
theorem dX11_enough_1 : decode cX11_enough 1 = .ok (.iload_n 1, 1) := by decide +kernel
theorem dX11_enough_2 : decode cX11_enough 2 = .ok (.invokevirtual 96, 3) := by decide +kernel
theorem dX11_enough_5 : decode cX11_enough 5 = .ok (.ifCond .eq 20, 3) := by decide +kernel
theorem dX11_enough_8 : decode cX11_enough 8 = .ok (.iload_n 2, 1) := by decide +kernel
theorem dX11_enough_9 : decode cX11_enough 9 = .ok (.invokestatic 158, 3) := by decide +kernel
theorem dX11_enough_12 : decode cX11_enough 12 = .ok (.ifCond .eq 13, 3) := by decide +kernel
theorem dX11_enough_15 : decode cX11_enough 15 = .ok (.iload_n 3, 1) := by decide +kernel
theorem dX11_enough_16 : decode cX11_enough 16 = .ok (.iconst 1, 1) := by decide +kernel
theorem dX11_enough_17 : decode cX11_enough 17 = .ok (.bipush 30, 2) := by decide +kernel
theorem dX11_enough_19 : decode cX11_enough 19 = .ok (.invokestatic 92, 3) := by decide +kernel
theorem dX11_enough_22 : decode cX11_enough 22 = .ok (.ifCond .ne 10, 3) := by decide +kernel
theorem dX11_enough_25 : decode cX11_enough 25 = .ok (.aload_n 0, 1) := by decide +kernel
theorem dX11_enough_26 : decode cX11_enough 26 = .ok (.ldc 57, 2) := by decide +kernel
theorem dX11_enough_28 : decode cX11_enough 28 = .ok (.invokevirtual 58, 3) := by decide +kernel
theorem dX11_enough_31 : decode cX11_enough 31 = .ok (.ireturn, 1) := by decide +kernel
theorem dX11_enough_32 : decode cX11_enough 32 = .ok (.aload_n 0, 1) := by decide +kernel
theorem dX11_enough_33 : decode cX11_enough 33 = .ok (.getfield 18, 3) := by decide +kernel
theorem dX11_enough_36 : decode cX11_enough 36 = .ok (.getfield 103, 3) := by decide +kernel
theorem dX11_enough_39 : decode cX11_enough 39 = .ok (.iload_n 1, 1) := by decide +kernel
theorem dX11_enough_40 : decode cX11_enough 40 = .ok (.aaload, 1) := by decide +kernel
theorem dX11_enough_41 : decode cX11_enough 41 = .ok (.getfield 161, 3) := by decide +kernel
theorem dX11_enough_44 : decode cX11_enough 44 = .ok (.ifCond .eq 10, 3) := by decide +kernel
theorem dX11_enough_47 : decode cX11_enough 47 = .ok (.aload_n 0, 1) := by decide +kernel
theorem dX11_enough_48 : decode cX11_enough 48 = .ok (.ldc 164, 2) := by decide +kernel
theorem dX11_enough_50 : decode cX11_enough 50 = .ok (.invokevirtual 58, 3) := by decide +kernel
theorem dX11_enough_53 : decode cX11_enough 53 = .ok (.ireturn, 1) := by decide +kernel
theorem dX11_enough_54 : decode cX11_enough 54 = .ok (.bipush 6, 2) := by decide +kernel
theorem dX11_enough_56 : decode cX11_enough 56 = .ok (.aload_n 0, 1) := by decide +kernel
theorem dX11_enough_57 : decode cX11_enough 57 = .ok (.getfield 18, 3) := by decide +kernel
theorem dX11_enough_60 : decode cX11_enough 60 = .ok (.getfield 103, 3) := by decide +kernel
theorem dX11_enough_63 : decode cX11_enough 63 = .ok (.iload_n 1, 1) := by decide +kernel
theorem dX11_enough_64 : decode cX11_enough 64 = .ok (.aaload, 1) := by decide +kernel
theorem dX11_enough_65 : decode cX11_enough 65 = .ok (.getfield 107, 3) := by decide +kernel
theorem dX11_enough_68 : decode cX11_enough 68 = .ok (.isub, 1) := by decide +kernel
theorem dX11_enough_69 : decode cX11_enough 69 = .ok (.istore 4, 2) := by decide +kernel
theorem dX11_enough_71 : decode cX11_enough 71 = .ok (.iconst 0, 1) := by decide +kernel
theorem dX11_enough_72 : decode cX11_enough 72 = .ok (.istore 5, 2) := by decide +kernel
theorem dX11_enough_74 : decode cX11_enough 74 = .ok (.iload 5, 2) := by decide +kernel
theorem dX11_enough_76 : decode cX11_enough 76 = .ok (.iload 4, 2) := by decide +kernel
theorem dX11_enough_78 : decode cX11_enough 78 = .ok (.if_icmp .gt 68, 3) := by decide +kernel
theorem dX11_enough_81 : decode cX11_enough 81 = .ok (.aload_n 0, 1) := by decide +kernel
theorem dX11_enough_82 : decode cX11_enough 82 = .ok (.invokevirtual 190, 3) := by decide +kernel
theorem dX11_enough_85 : decode cX11_enough 85 = .ok (.iconst 0, 1) := by decide +kernel
theorem dX11_enough_86 : decode cX11_enough 86 = .ok (.istore 6, 2) := by decide +kernel
theorem dX11_enough_88 : decode cX11_enough 88 = .ok (.iload 6, 2) := by decide +kernel
theorem dX11_enough_90 : decode cX11_enough 90 = .ok (.iload 5, 2) := by decide +kernel
theorem dX11_enough_92 : decode cX11_enough 92 = .ok (.if_icmp .ge 22, 3) := by decide +kernel
theorem dX11_enough_95 : decode cX11_enough 95 = .ok (.aload_n 0, 1) := by decide +kernel
theorem dX11_enough_96 : decode cX11_enough 96 = .ok (.getfield 25, 3) := by decide +kernel
theorem dX11_enough_99 : decode cX11_enough 99 = .ok (.getfield 103, 3) := by decide +kernel
theorem dX11_enough_102 : decode cX11_enough 102 = .ok (.iload_n 1, 1) := by decide +kernel
theorem dX11_enough_103 : decode cX11_enough 103 = .ok (.aaload, 1) := by decide +kernel
theorem dX11_enough_104 : decode cX11_enough 104 = .ok (.iload_n 2, 1) := by decide +kernel
theorem dX11_enough_105 : decode cX11_enough 105 = .ok (.invokevirtual 165, 3) := by decide +kernel
theorem dX11_enough_108 : decode cX11_enough 108 = .ok (.iinc 6 1, 3) := by decide +kernel
theorem dX11_enough_111 : decode cX11_enough 111 = .ok (.goto (-23), 3) := by decide +kernel
theorem dX11_enough_114 : decode cX11_enough 114 = .ok (.aload_n 0, 1) := by decide +kernel
theorem dX11_enough_115 : decode cX11_enough 115 = .ok (.getfield 25, 3) := by decide +kernel
theorem dX11_enough_118 : decode cX11_enough 118 = .ok (.iload_n 3, 1) := by decide +kernel
theorem dX11_enough_119 : decode cX11_enough 119 = .ok (.invokevirtual 175, 3) := by decide +kernel
theorem dX11_enough_122 : decode cX11_enough 122 = .ok (.aload_n 0, 1) := by decide +kernel
theorem dX11_enough_123 : decode cX11_enough 123 = .ok (.getfield 25, 3) := by decide +kernel
theorem dX11_enough_126 : decode cX11_enough 126 = .ok (.getfield 103, 3) := by decide +kernel
theorem dX11_enough_129 : decode cX11_enough 129 = .ok (.iload_n 1, 1) := by decide +kernel
theorem dX11_enough_130 : decode cX11_enough 130 = .ok (.aaload, 1) := by decide +kernel
theorem dX11_enough_131 : decode cX11_enough 131 = .ok (.getfield 161, 3) := by decide +kernel
theorem dX11_enough_134 : decode cX11_enough 134 = .ok (.ifCond .ne 6, 3) := by decide +kernel
theorem dX11_enough_137 : decode cX11_enough 137 = .ok (.iload 5, 2) := by decide +kernel
theorem dX11_enough_139 : decode cX11_enough 139 = .ok (.ireturn, 1) := by decide +kernel
theorem dX11_enough_140 : decode cX11_enough 140 = .ok (.iinc 5 1, 3) := by decide +kernel
theorem dX11_enough_143 : decode cX11_enough 143 = .ok (.goto (-69), 3) := by decide +kernel
theorem dX11_enough_146 : decode cX11_enough 146 = .ok (.aload_n 0, 1) := by decide +kernel
theorem dX11_enough_147 : decode cX11_enough 147 = .ok (.ldc 112, 2) := by decide +kernel
theorem dX11_enough_149 : decode cX11_enough 149 = .ok (.invokevirtual 58, 3) := by decide +kernel
theorem dX11_enough_152 : decode cX11_enough 152 = .ok (.ireturn, 1) := by decide +kernel
theorem dX11_feed_0 : decode cX11_feed 0 = .ok (.iload_n 2, 1) := by decide +kernel
theorem dX11_feed_1 : decode cX11_feed 1 = .ok (.iconst 1, 1) := by decide +kernel
theorem dX11_feed_2 : decode cX11_feed 2 = .ok (.iconst 4, 1) := by decide +kernel
theorem dX11_feed_3 : decode cX11_feed 3 = .ok (.invokestatic 92, 3) := by decide +kernel
theorem dX11_feed_6 : decode cX11_feed 6 = .ok (.ifCond .ne 10, 3) := by decide +kernel
theorem dX11_feed_9 : decode cX11_feed 9 = .ok (.aload_n 0, 1) := by decide +kernel
theorem dX11_feed_10 : decode cX11_feed 10 = .ok (.ldc 57, 2) := by decide +kernel
theorem dX11_feed_12 : decode cX11_feed 12 = .ok (.invokevirtual 58, 3) := by decide +kernel
theorem dX11_feed_15 : decode cX11_feed 15 = .ok (.ireturn, 1) := by decide +kernel
theorem dX11_feed_16 : decode cX11_feed 16 = .ok (.aload_n 0, 1) := by decide +kernel
theorem dX11_feed_17 : decode cX11_feed 17 = .ok (.getfield 42, 3) := by decide +kernel
theorem dX11_feed_20 : decode cX11_feed 20 = .ok (.getfield 208, 3) := by decide +kernel
theorem dX11_feed_23 : decode cX11_feed 23 = .ok (.iload_n 2, 1) := by decide +kernel
theorem dX11_feed_24 : decode cX11_feed 24 = .ok (.iadd, 1) := by decide +kernel
theorem dX11_feed_25 : decode cX11_feed 25 = .ok (.bipush 120, 2) := by decide +kernel
theorem dX11_feed_27 : decode cX11_feed 27 = .ok (.if_icmp .le 10, 3) := by decide +kernel
theorem dX11_feed_30 : decode cX11_feed 30 = .ok (.aload_n 0, 1) := by decide +kernel
theorem dX11_feed_31 : decode cX11_feed 31 = .ok (.ldc 66, 2) := by decide +kernel
theorem dX11_feed_33 : decode cX11_feed 33 = .ok (.invokevirtual 58, 3) := by decide +kernel
theorem dX11_feed_36 : decode cX11_feed 36 = .ok (.ireturn, 1) := by decide +kernel
theorem dX11_feed_37 : decode cX11_feed 37 = .ok (.iload_n 2, 1) := by decide +kernel
theorem dX11_feed_38 : decode cX11_feed 38 = .ok (.iconst 1, 1) := by decide +kernel
theorem dX11_feed_39 : decode cX11_feed 39 = .ok (.isub, 1) := by decide +kernel
theorem dX11_feed_40 : decode cX11_feed 40 = .ok (.istore_n 3, 1) := by decide +kernel
theorem dX11_feed_41 : decode cX11_feed 41 = .ok (.iload_n 3, 1) := by decide +kernel
theorem dX11_feed_42 : decode cX11_feed 42 = .ok (.ifCond .lt 26, 3) := by decide +kernel
theorem dX11_feed_45 : decode cX11_feed 45 = .ok (.aload_n 0, 1) := by decide +kernel
theorem dX11_feed_46 : decode cX11_feed 46 = .ok (.getfield 42, 3) := by decide +kernel
theorem dX11_feed_49 : decode cX11_feed 49 = .ok (.iload_n 1, 1) := by decide +kernel
theorem dX11_feed_50 : decode cX11_feed 50 = .ok (.bipush 8, 2) := by decide +kernel
theorem dX11_feed_52 : decode cX11_feed 52 = .ok (.iload_n 3, 1) := by decide +kernel
theorem dX11_feed_53 : decode cX11_feed 53 = .ok (.imul, 1) := by decide +kernel
theorem dX11_feed_54 : decode cX11_feed 54 = .ok (.iushr, 1) := by decide +kernel
theorem dX11_feed_55 : decode cX11_feed 55 = .ok (.sipush 255, 3) := by decide +kernel
theorem dX11_feed_58 : decode cX11_feed 58 = .ok (.iand, 1) := by decide +kernel
theorem dX11_feed_59 : decode cX11_feed 59 = .ok (.invokevirtual 211, 3) := by decide +kernel
theorem dX11_feed_62 : decode cX11_feed 62 = .ok (.iinc 3 (-1), 3) := by decide +kernel
theorem dX11_feed_65 : decode cX11_feed 65 = .ok (.goto (-24), 3) := by decide +kernel
theorem dX11_feed_68 : decode cX11_feed 68 = .ok (.aload_n 0, 1) := by decide +kernel
theorem dX11_feed_69 : decode cX11_feed 69 = .ok (.getfield 42, 3) := by decide +kernel
theorem dX11_feed_72 : decode cX11_feed 72 = .ok (.getfield 208, 3) := by decide +kernel
theorem dX11_feed_75 : decode cX11_feed 75 = .ok (.ireturn, 1) := by decide +kernel
theorem dX11_wipe_0 : decode cX11_wipe 0 = .ok (.aload_n 0, 1) := by decide +kernel
theorem dX11_wipe_1 : decode cX11_wipe 1 = .ok (.getfield 42, 3) := by decide +kernel
theorem dX11_wipe_4 : decode cX11_wipe 4 = .ok (.getfield 208, 3) := by decide +kernel
theorem dX11_wipe_7 : decode cX11_wipe 7 = .ok (.istore_n 1, 1) := by decide +kernel
theorem dX11_wipe_8 : decode cX11_wipe 8 = .ok (.aload_n 0, 1) := by decide +kernel
theorem dX11_wipe_9 : decode cX11_wipe 9 = .ok (.getfield 42, 3) := by decide +kernel
theorem dX11_wipe_12 : decode cX11_wipe 12 = .ok (.iconst 0, 1) := by decide +kernel
theorem dX11_wipe_13 : decode cX11_wipe 13 = .ok (.putfield 208, 3) := by decide +kernel
theorem dX11_wipe_16 : decode cX11_wipe 16 = .ok (.iload_n 1, 1) := by decide +kernel
theorem dX11_wipe_17 : decode cX11_wipe 17 = .ok (.ireturn, 1) := by decide +kernel
theorem dX11_town_0 : decode cX11_town 0 = .ok (.aload_n 0, 1) := by decide +kernel
theorem dX11_town_1 : decode cX11_town 1 = .ok (.invokevirtual 190, 3) := by decide +kernel
theorem dX11_town_4 : decode cX11_town 4 = .ok (.aload_n 0, 1) := by decide +kernel
theorem dX11_town_5 : decode cX11_town 5 = .ok (.getfield 42, 3) := by decide +kernel
theorem dX11_town_8 : decode cX11_town 8 = .ok (.aload_n 0, 1) := by decide +kernel
theorem dX11_town_9 : decode cX11_town 9 = .ok (.getfield 25, 3) := by decide +kernel
theorem dX11_town_12 : decode cX11_town 12 = .ok (.invokevirtual 214, 3) := by decide +kernel
theorem dX11_town_15 : decode cX11_town 15 = .ok (.istore_n 1, 1) := by decide +kernel
theorem dX11_town_16 : decode cX11_town 16 = .ok (.aload_n 0, 1) := by decide +kernel
theorem dX11_town_17 : decode cX11_town 17 = .ok (.getfield 42, 3) := by decide +kernel
theorem dX11_town_20 : decode cX11_town 20 = .ok (.iconst 0, 1) := by decide +kernel
theorem dX11_town_21 : decode cX11_town 21 = .ok (.putfield 208, 3) := by decide +kernel
theorem dX11_town_24 : decode cX11_town 24 = .ok (.iload_n 1, 1) := by decide +kernel
theorem dX11_town_25 : decode cX11_town 25 = .ok (.ifCond .lt 14, 3) := by decide +kernel
theorem dX11_town_28 : decode cX11_town 28 = .ok (.aload_n 0, 1) := by decide +kernel
theorem dX11_town_29 : decode cX11_town 29 = .ok (.getfield 18, 3) := by decide +kernel
theorem dX11_town_32 : decode cX11_town 32 = .ok (.aload_n 0, 1) := by decide +kernel
theorem dX11_town_33 : decode cX11_town 33 = .ok (.getfield 25, 3) := by decide +kernel
theorem dX11_town_36 : decode cX11_town 36 = .ok (.invokevirtual 218, 3) := by decide +kernel
theorem dX11_town_39 : decode cX11_town 39 = .ok (.iload_n 1, 1) := by decide +kernel
theorem dX11_town_40 : decode cX11_town 40 = .ok (.ireturn, 1) := by decide +kernel
theorem dX11_sheet_0 : decode cX11_sheet 0 = .ok (.iload_n 1, 1) := by decide +kernel
theorem dX11_sheet_1 : decode cX11_sheet 1 = .ok (.invokestatic 222, 3) := by decide +kernel
theorem dX11_sheet_4 : decode cX11_sheet 4 = .ok (.ifCond .eq 25, 3) := by decide +kernel
theorem dX11_sheet_7 : decode cX11_sheet 7 = .ok (.iload_n 2, 1) := by decide +kernel
theorem dX11_sheet_8 : decode cX11_sheet 8 = .ok (.ifCond .eq 28, 3) := by decide +kernel
theorem dX11_sheet_11 : decode cX11_sheet 11 = .ok (.iload_n 2, 1) := by decide +kernel
theorem dX11_sheet_12 : decode cX11_sheet 12 = .ok (.bipush 8, 2) := by decide +kernel
theorem dX11_sheet_14 : decode cX11_sheet 14 = .ok (.if_icmp .eq 22, 3) := by decide +kernel
theorem dX11_sheet_17 : decode cX11_sheet 17 = .ok (.iload_n 2, 1) := by decide +kernel
theorem dX11_sheet_18 : decode cX11_sheet 18 = .ok (.bipush 16, 2) := by decide +kernel
theorem dX11_sheet_20 : decode cX11_sheet 20 = .ok (.if_icmp .eq 16, 3) := by decide +kernel
theorem dX11_sheet_23 : decode cX11_sheet 23 = .ok (.iload_n 2, 1) := by decide +kernel
theorem dX11_sheet_24 : decode cX11_sheet 24 = .ok (.bipush 64, 2) := by decide +kernel
theorem dX11_sheet_26 : decode cX11_sheet 26 = .ok (.if_icmp .eq 10, 3) := by decide +kernel
theorem dX11_sheet_29 : decode cX11_sheet 29 = .ok (.aload_n 0, 1) := by decide +kernel
theorem dX11_sheet_30 : decode cX11_sheet 30 = .ok (.ldc 57, 2) := by decide +kernel
theorem dX11_sheet_32 : decode cX11_sheet 32 = .ok (.invokevirtual 58, 3) := by decide +kernel
theorem dX11_sheet_35 : decode cX11_sheet 35 = .ok (.ireturn, 1) := by decide +kernel
theorem dX11_sheet_36 : decode cX11_sheet 36 = .ok (.iload_n 3, 1) := by decide +kernel
theorem dX11_sheet_37 : decode cX11_sheet 37 = .ok (.ifCond .ge 10, 3) := by decide +kernel
theorem dX11_sheet_40 : decode cX11_sheet 40 = .ok (.aload_n 0, 1) := by decide +kernel
theorem dX11_sheet_41 : decode cX11_sheet 41 = .ok (.ldc 193, 2) := by decide +kernel
theorem dX11_sheet_43 : decode cX11_sheet 43 = .ok (.invokevirtual 58, 3) := by decide +kernel
theorem dX11_sheet_46 : decode cX11_sheet 46 = .ok (.ireturn, 1) := by decide +kernel
theorem dX11_sheet_47 : decode cX11_sheet 47 = .ok (.iload_n 3, 1) := by decide +kernel
theorem dX11_sheet_48 : decode cX11_sheet 48 = .ok (.bipush 40, 2) := by decide +kernel
theorem dX11_sheet_50 : decode cX11_sheet 50 = .ok (.if_icmp .le 10, 3) := by decide +kernel
theorem dX11_sheet_53 : decode cX11_sheet 53 = .ok (.aload_n 0, 1) := by decide +kernel
theorem dX11_sheet_54 : decode cX11_sheet 54 = .ok (.ldc 57, 2) := by decide +kernel
theorem dX11_sheet_56 : decode cX11_sheet 56 = .ok (.invokevirtual 58, 3) := by decide +kernel
theorem dX11_sheet_59 : decode cX11_sheet 59 = .ok (.ireturn, 1) := by decide +kernel
theorem dX11_sheet_60 : decode cX11_sheet 60 = .ok (.aload_n 0, 1) := by decide +kernel
theorem dX11_sheet_61 : decode cX11_sheet 61 = .ok (.getfield 34, 3) := by decide +kernel
theorem dX11_sheet_64 : decode cX11_sheet 64 = .ok (.iload_n 1, 1) := by decide +kernel
theorem dX11_sheet_65 : decode cX11_sheet 65 = .ok (.aaload, 1) := by decide +kernel
theorem dX11_sheet_66 : decode cX11_sheet 66 = .ok (.iload_n 2, 1) := by decide +kernel
theorem dX11_sheet_67 : decode cX11_sheet 67 = .ok (.iload_n 2, 1) := by decide +kernel
theorem dX11_sheet_68 : decode cX11_sheet 68 = .ok (.ifCond .ne 7, 3) := by decide +kernel
theorem dX11_sheet_71 : decode cX11_sheet 71 = .ok (.iconst 0, 1) := by decide +kernel
theorem dX11_sheet_72 : decode cX11_sheet 72 = .ok (.goto 4, 3) := by decide +kernel
theorem dX11_sheet_75 : decode cX11_sheet 75 = .ok (.iload_n 3, 1) := by decide +kernel
theorem dX11_sheet_76 : decode cX11_sheet 76 = .ok (.invokevirtual 225, 3) := by decide +kernel
theorem dX11_sheet_79 : decode cX11_sheet 79 = .ok (.aload_n 0, 1) := by decide +kernel
theorem dX11_sheet_80 : decode cX11_sheet 80 = .ok (.getfield 34, 3) := by decide +kernel
theorem dX11_sheet_83 : decode cX11_sheet 83 = .ok (.iload_n 1, 1) := by decide +kernel
theorem dX11_sheet_84 : decode cX11_sheet 84 = .ok (.aaload, 1) := by decide +kernel
theorem dX11_sheet_85 : decode cX11_sheet 85 = .ok (.getfield 228, 3) := by decide +kernel
theorem dX11_sheet_88 : decode cX11_sheet 88 = .ok (.ireturn, 1) := by decide +kernel
theorem dX11_write_0 : decode cX11_write 0 = .ok (.iload_n 1, 1) := by decide +kernel
theorem dX11_write_1 : decode cX11_write 1 = .ok (.invokestatic 222, 3) := by decide +kernel
theorem dX11_write_4 : decode cX11_write 4 = .ok (.ifCond .ne 11, 3) := by decide +kernel
theorem dX11_write_7 : decode cX11_write 7 = .ok (.aload_n 0, 1) := by decide +kernel
theorem dX11_write_8 : decode cX11_write 8 = .ok (.ldc 57, 2) := by decide +kernel
theorem dX11_write_10 : decode cX11_write 10 = .ok (.invokevirtual 58, 3) := by decide +kernel
theorem dX11_write_13 : decode cX11_write 13 = .ok (.i2l, 1) := by decide +kernel
theorem dX11_write_14 : decode cX11_write 14 = .ok (.lreturn, 1) := by decide +kernel
theorem dX11_write_15 : decode cX11_write 15 = .ok (.aload_n 0, 1) := by decide +kernel
theorem dX11_write_16 : decode cX11_write 16 = .ok (.getfield 34, 3) := by decide +kernel
theorem dX11_write_19 : decode cX11_write 19 = .ok (.iload_n 1, 1) := by decide +kernel
theorem dX11_write_20 : decode cX11_write 20 = .ok (.aaload, 1) := by decide +kernel
theorem dX11_write_21 : decode cX11_write 21 = .ok (.invokevirtual 231, 3) := by decide +kernel
theorem dX11_write_24 : decode cX11_write 24 = .ok (.ifCond .eq 11, 3) := by decide +kernel
theorem dX11_write_27 : decode cX11_write 27 = .ok (.aload_n 0, 1) := by decide +kernel
theorem dX11_write_28 : decode cX11_write 28 = .ok (.ldc 235, 2) := by decide +kernel
theorem dX11_write_30 : decode cX11_write 30 = .ok (.invokevirtual 58, 3) := by decide +kernel
theorem dX11_write_33 : decode cX11_write 33 = .ok (.i2l, 1) := by decide +kernel
theorem dX11_write_34 : decode cX11_write 34 = .ok (.lreturn, 1) := by decide +kernel
theorem dX11_write_35 : decode cX11_write 35 = .ok (.iload_n 2, 1) := by decide +kernel
theorem dX11_write_36 : decode cX11_write 36 = .ok (.iconst 0, 1) := by decide +kernel
theorem dX11_write_37 : decode cX11_write 37 = .ok (.aload_n 0, 1) := by decide +kernel
theorem dX11_write_38 : decode cX11_write 38 = .ok (.getfield 34, 3) := by decide +kernel
theorem dX11_write_41 : decode cX11_write 41 = .ok (.iload_n 1, 1) := by decide +kernel
theorem dX11_write_42 : decode cX11_write 42 = .ok (.aaload, 1) := by decide +kernel
theorem dX11_write_43 : decode cX11_write 43 = .ok (.getfield 228, 3) := by decide +kernel
theorem dX11_write_46 : decode cX11_write 46 = .ok (.iconst 1, 1) := by decide +kernel
theorem dX11_write_47 : decode cX11_write 47 = .ok (.isub, 1) := by decide +kernel
theorem dX11_write_48 : decode cX11_write 48 = .ok (.invokestatic 92, 3) := by decide +kernel
theorem dX11_write_51 : decode cX11_write 51 = .ok (.ifCond .ne 11, 3) := by decide +kernel
theorem dX11_write_54 : decode cX11_write 54 = .ok (.aload_n 0, 1) := by decide +kernel
theorem dX11_write_55 : decode cX11_write 55 = .ok (.ldc 57, 2) := by decide +kernel
theorem dX11_write_57 : decode cX11_write 57 = .ok (.invokevirtual 58, 3) := by decide +kernel
theorem dX11_write_60 : decode cX11_write 60 = .ok (.i2l, 1) := by decide +kernel
theorem dX11_write_61 : decode cX11_write 61 = .ok (.lreturn, 1) := by decide +kernel
theorem dX11_write_62 : decode cX11_write 62 = .ok (.aload_n 0, 1) := by decide +kernel
theorem dX11_write_63 : decode cX11_write 63 = .ok (.getfield 34, 3) := by decide +kernel
theorem dX11_write_66 : decode cX11_write 66 = .ok (.iload_n 1, 1) := by decide +kernel
theorem dX11_write_67 : decode cX11_write 67 = .ok (.aaload, 1) := by decide +kernel
theorem dX11_write_68 : decode cX11_write 68 = .ok (.getfield 236, 3) := by decide +kernel
theorem dX11_write_71 : decode cX11_write 71 = .ok (.iload_n 2, 1) := by decide +kernel
theorem dX11_write_72 : decode cX11_write 72 = .ok (.laload, 1) := by decide +kernel
theorem dX11_write_73 : decode cX11_write 73 = .ok (.lstore 5, 2) := by decide +kernel
theorem dX11_write_75 : decode cX11_write 75 = .ok (.aload_n 0, 1) := by decide +kernel
theorem dX11_write_76 : decode cX11_write 76 = .ok (.getfield 34, 3) := by decide +kernel
theorem dX11_write_79 : decode cX11_write 79 = .ok (.iload_n 1, 1) := by decide +kernel
theorem dX11_write_80 : decode cX11_write 80 = .ok (.aaload, 1) := by decide +kernel
theorem dX11_write_81 : decode cX11_write 81 = .ok (.iload_n 2, 1) := by decide +kernel
theorem dX11_write_82 : decode cX11_write 82 = .ok (.lload_n 3, 1) := by decide +kernel
theorem dX11_write_83 : decode cX11_write 83 = .ok (.invokevirtual 240, 3) := by decide +kernel
theorem dX11_write_86 : decode cX11_write 86 = .ok (.lload 5, 2) := by decide +kernel
theorem dX11_write_88 : decode cX11_write 88 = .ok (.lreturn, 1) := by decide +kernel
theorem dX11_copy_0 : decode cX11_copy 0 = .ok (.iload_n 1, 1) := by decide +kernel
theorem dX11_copy_1 : decode cX11_copy 1 = .ok (.invokestatic 222, 3) := by decide +kernel
theorem dX11_copy_4 : decode cX11_copy 4 = .ok (.ifCond .eq 10, 3) := by decide +kernel
theorem dX11_copy_7 : decode cX11_copy 7 = .ok (.iload_n 3, 1) := by decide +kernel
theorem dX11_copy_8 : decode cX11_copy 8 = .ok (.invokestatic 222, 3) := by decide +kernel
theorem dX11_copy_11 : decode cX11_copy 11 = .ok (.ifCond .ne 10, 3) := by decide +kernel
theorem dX11_copy_14 : decode cX11_copy 14 = .ok (.aload_n 0, 1) := by decide +kernel
theorem dX11_copy_15 : decode cX11_copy 15 = .ok (.ldc 57, 2) := by decide +kernel
theorem dX11_copy_17 : decode cX11_copy 17 = .ok (.invokevirtual 58, 3) := by decide +kernel
theorem dX11_copy_20 : decode cX11_copy 20 = .ok (.ireturn, 1) := by decide +kernel
theorem dX11_copy_21 : decode cX11_copy 21 = .ok (.aload_n 0, 1) := by decide +kernel
theorem dX11_copy_22 : decode cX11_copy 22 = .ok (.getfield 34, 3) := by decide +kernel
theorem dX11_copy_25 : decode cX11_copy 25 = .ok (.iload_n 1, 1) := by decide +kernel
theorem dX11_copy_26 : decode cX11_copy 26 = .ok (.aaload, 1) := by decide +kernel
theorem dX11_copy_27 : decode cX11_copy 27 = .ok (.invokevirtual 231, 3) := by decide +kernel
theorem dX11_copy_30 : decode cX11_copy 30 = .ok (.ifCond .ne 15, 3) := by decide +kernel
theorem dX11_copy_33 : decode cX11_copy 33 = .ok (.aload_n 0, 1) := by decide +kernel
theorem dX11_copy_34 : decode cX11_copy 34 = .ok (.getfield 34, 3) := by decide +kernel
theorem dX11_copy_37 : decode cX11_copy 37 = .ok (.iload_n 3, 1) := by decide +kernel
theorem dX11_copy_38 : decode cX11_copy 38 = .ok (.aaload, 1) := by decide +kernel
theorem dX11_copy_39 : decode cX11_copy 39 = .ok (.invokevirtual 231, 3) := by decide +kernel
theorem dX11_copy_42 : decode cX11_copy 42 = .ok (.ifCond .eq 10, 3) := by decide +kernel
theorem dX11_copy_45 : decode cX11_copy 45 = .ok (.aload_n 0, 1) := by decide +kernel
theorem dX11_copy_46 : decode cX11_copy 46 = .ok (.ldc 235, 2) := by decide +kernel
theorem dX11_copy_48 : decode cX11_copy 48 = .ok (.invokevirtual 58, 3) := by decide +kernel
theorem dX11_copy_51 : decode cX11_copy 51 = .ok (.ireturn, 1) := by decide +kernel
theorem dX11_copy_52 : decode cX11_copy 52 = .ok (.aload_n 0, 1) := by decide +kernel
theorem dX11_copy_53 : decode cX11_copy 53 = .ok (.getfield 34, 3) := by decide +kernel
theorem dX11_copy_56 : decode cX11_copy 56 = .ok (.iload_n 1, 1) := by decide +kernel
theorem dX11_copy_57 : decode cX11_copy 57 = .ok (.aaload, 1) := by decide +kernel
theorem dX11_copy_58 : decode cX11_copy 58 = .ok (.getfield 244, 3) := by decide +kernel
theorem dX11_copy_61 : decode cX11_copy 61 = .ok (.aload_n 0, 1) := by decide +kernel
theorem dX11_copy_62 : decode cX11_copy 62 = .ok (.getfield 34, 3) := by decide +kernel
theorem dX11_copy_65 : decode cX11_copy 65 = .ok (.iload_n 3, 1) := by decide +kernel
theorem dX11_copy_66 : decode cX11_copy 66 = .ok (.aaload, 1) := by decide +kernel
theorem dX11_copy_67 : decode cX11_copy 67 = .ok (.getfield 244, 3) := by decide +kernel
theorem dX11_copy_70 : decode cX11_copy 70 = .ok (.if_icmp .eq 10, 3) := by decide +kernel
theorem dX11_copy_73 : decode cX11_copy 73 = .ok (.aload_n 0, 1) := by decide +kernel
theorem dX11_copy_74 : decode cX11_copy 74 = .ok (.ldc 142, 2) := by decide +kernel
theorem dX11_copy_76 : decode cX11_copy 76 = .ok (.invokevirtual 58, 3) := by decide +kernel
theorem dX11_copy_79 : decode cX11_copy 79 = .ok (.ireturn, 1) := by decide +kernel
theorem dX11_copy_80 : decode cX11_copy 80 = .ok (.aload_n 0, 1) := by decide +kernel
theorem dX11_copy_81 : decode cX11_copy 81 = .ok (.getfield 34, 3) := by decide +kernel
theorem dX11_copy_84 : decode cX11_copy 84 = .ok (.iload_n 1, 1) := by decide +kernel
theorem dX11_copy_85 : decode cX11_copy 85 = .ok (.aaload, 1) := by decide +kernel
theorem dX11_copy_86 : decode cX11_copy 86 = .ok (.iload_n 2, 1) := by decide +kernel
theorem dX11_copy_87 : decode cX11_copy 87 = .ok (.iload 5, 2) := by decide +kernel
theorem dX11_copy_89 : decode cX11_copy 89 = .ok (.invokevirtual 247, 3) := by decide +kernel
theorem dX11_copy_92 : decode cX11_copy 92 = .ok (.ifCond .eq 19, 3) := by decide +kernel
theorem dX11_copy_95 : decode cX11_copy 95 = .ok (.aload_n 0, 1) := by decide +kernel
theorem dX11_copy_96 : decode cX11_copy 96 = .ok (.getfield 34, 3) := by decide +kernel
theorem dX11_copy_99 : decode cX11_copy 99 = .ok (.iload_n 3, 1) := by decide +kernel
theorem dX11_copy_100 : decode cX11_copy 100 = .ok (.aaload, 1) := by decide +kernel
theorem dX11_copy_101 : decode cX11_copy 101 = .ok (.iload 4, 2) := by decide +kernel
theorem dX11_copy_103 : decode cX11_copy 103 = .ok (.iload 5, 2) := by decide +kernel
theorem dX11_copy_105 : decode cX11_copy 105 = .ok (.invokevirtual 247, 3) := by decide +kernel
theorem dX11_copy_108 : decode cX11_copy 108 = .ok (.ifCond .ne 10, 3) := by decide +kernel
theorem dX11_copy_111 : decode cX11_copy 111 = .ok (.aload_n 0, 1) := by decide +kernel
theorem dX11_copy_112 : decode cX11_copy 112 = .ok (.ldc 57, 2) := by decide +kernel
theorem dX11_copy_114 : decode cX11_copy 114 = .ok (.invokevirtual 58, 3) := by decide +kernel
theorem dX11_copy_117 : decode cX11_copy 117 = .ok (.ireturn, 1) := by decide +kernel
theorem dX11_copy_118 : decode cX11_copy 118 = .ok (.aload_n 0, 1) := by decide +kernel
theorem dX11_copy_119 : decode cX11_copy 119 = .ok (.getfield 34, 3) := by decide +kernel
theorem dX11_copy_122 : decode cX11_copy 122 = .ok (.iload_n 1, 1) := by decide +kernel
theorem dX11_copy_123 : decode cX11_copy 123 = .ok (.aaload, 1) := by decide +kernel
theorem dX11_copy_124 : decode cX11_copy 124 = .ok (.getfield 236, 3) := by decide +kernel
theorem dX11_copy_127 : decode cX11_copy 127 = .ok (.iload_n 2, 1) := by decide +kernel
theorem dX11_copy_128 : decode cX11_copy 128 = .ok (.aload_n 0, 1) := by decide +kernel
theorem dX11_copy_129 : decode cX11_copy 129 = .ok (.getfield 34, 3) := by decide +kernel
theorem dX11_copy_132 : decode cX11_copy 132 = .ok (.iload_n 3, 1) := by decide +kernel
theorem dX11_copy_133 : decode cX11_copy 133 = .ok (.aaload, 1) := by decide +kernel
theorem dX11_copy_134 : decode cX11_copy 134 = .ok (.getfield 236, 3) := by decide +kernel
theorem dX11_copy_137 : decode cX11_copy 137 = .ok (.iload 4, 2) := by decide +kernel
theorem dX11_copy_139 : decode cX11_copy 139 = .ok (.iload 5, 2) := by decide +kernel
theorem dX11_copy_141 : decode cX11_copy 141 = .ok (.invokestatic 251, 3) := by decide +kernel
theorem dX11_copy_144 : decode cX11_copy 144 = .ok (.iload 5, 2) := by decide +kernel
theorem dX11_copy_146 : decode cX11_copy 146 = .ok (.ireturn, 1) := by decide +kernel
theorem dX11_lays_0 : decode cX11_lays 0 = .ok (.iload_n 1, 1) := by decide +kernel
theorem dX11_lays_1 : decode cX11_lays 1 = .ok (.invokestatic 222, 3) := by decide +kernel
theorem dX11_lays_4 : decode cX11_lays 4 = .ok (.ifCond .ne 10, 3) := by decide +kernel
theorem dX11_lays_7 : decode cX11_lays 7 = .ok (.aload_n 0, 1) := by decide +kernel
theorem dX11_lays_8 : decode cX11_lays 8 = .ok (.ldc 57, 2) := by decide +kernel
theorem dX11_lays_10 : decode cX11_lays 10 = .ok (.invokevirtual 58, 3) := by decide +kernel
theorem dX11_lays_13 : decode cX11_lays 13 = .ok (.ireturn, 1) := by decide +kernel
theorem dX11_lays_14 : decode cX11_lays 14 = .ok (.aload_n 0, 1) := by decide +kernel
theorem dX11_lays_15 : decode cX11_lays 15 = .ok (.getfield 34, 3) := by decide +kernel
theorem dX11_lays_18 : decode cX11_lays 18 = .ok (.iload_n 1, 1) := by decide +kernel
theorem dX11_lays_19 : decode cX11_lays 19 = .ok (.aaload, 1) := by decide +kernel
theorem dX11_lays_20 : decode cX11_lays 20 = .ok (.invokevirtual 231, 3) := by decide +kernel
theorem dX11_lays_23 : decode cX11_lays 23 = .ok (.ifCond .eq 10, 3) := by decide +kernel
theorem dX11_lays_26 : decode cX11_lays 26 = .ok (.aload_n 0, 1) := by decide +kernel
theorem dX11_lays_27 : decode cX11_lays 27 = .ok (.ldc 235, 2) := by decide +kernel
theorem dX11_lays_29 : decode cX11_lays 29 = .ok (.invokevirtual 58, 3) := by decide +kernel
theorem dX11_lays_32 : decode cX11_lays 32 = .ok (.ireturn, 1) := by decide +kernel
theorem dX11_lays_33 : decode cX11_lays 33 = .ok (.aload_n 0, 1) := by decide +kernel
theorem dX11_lays_34 : decode cX11_lays 34 = .ok (.iload_n 2, 1) := by decide +kernel
theorem dX11_lays_35 : decode cX11_lays 35 = .ok (.invokevirtual 96, 3) := by decide +kernel
theorem dX11_lays_38 : decode cX11_lays 38 = .ok (.ifCond .ne 10, 3) := by decide +kernel
theorem dX11_lays_41 : decode cX11_lays 41 = .ok (.aload_n 0, 1) := by decide +kernel
theorem dX11_lays_42 : decode cX11_lays 42 = .ok (.ldc 57, 2) := by decide +kernel
theorem dX11_lays_44 : decode cX11_lays 44 = .ok (.invokevirtual 58, 3) := by decide +kernel
theorem dX11_lays_47 : decode cX11_lays 47 = .ok (.ireturn, 1) := by decide +kernel
theorem dX11_lays_48 : decode cX11_lays 48 = .ok (.aload_n 0, 1) := by decide +kernel
theorem dX11_lays_49 : decode cX11_lays 49 = .ok (.getfield 18, 3) := by decide +kernel
theorem dX11_lays_52 : decode cX11_lays 52 = .ok (.getfield 103, 3) := by decide +kernel
theorem dX11_lays_55 : decode cX11_lays 55 = .ok (.iload_n 2, 1) := by decide +kernel
theorem dX11_lays_56 : decode cX11_lays 56 = .ok (.aaload, 1) := by decide +kernel
theorem dX11_lays_57 : decode cX11_lays 57 = .ok (.astore_n 3, 1) := by decide +kernel
theorem dX11_lays_58 : decode cX11_lays 58 = .ok (.aload_n 3, 1) := by decide +kernel
theorem dX11_lays_59 : decode cX11_lays 59 = .ok (.getfield 161, 3) := by decide +kernel
theorem dX11_lays_62 : decode cX11_lays 62 = .ok (.ifCond .eq 10, 3) := by decide +kernel
theorem dX11_lays_65 : decode cX11_lays 65 = .ok (.aload_n 0, 1) := by decide +kernel
theorem dX11_lays_66 : decode cX11_lays 66 = .ok (.ldc 164, 2) := by decide +kernel
theorem dX11_lays_68 : decode cX11_lays 68 = .ok (.invokevirtual 58, 3) := by decide +kernel
theorem dX11_lays_71 : decode cX11_lays 71 = .ok (.ireturn, 1) := by decide +kernel
theorem dX11_lays_72 : decode cX11_lays 72 = .ok (.aload_n 3, 1) := by decide +kernel
theorem dX11_lays_73 : decode cX11_lays 73 = .ok (.iconst 0, 1) := by decide +kernel
theorem dX11_lays_74 : decode cX11_lays 74 = .ok (.putfield 107, 3) := by decide +kernel
theorem dX11_lays_77 : decode cX11_lays 77 = .ok (.aload_n 0, 1) := by decide +kernel
theorem dX11_lays_78 : decode cX11_lays 78 = .ok (.getfield 34, 3) := by decide +kernel
theorem dX11_lays_81 : decode cX11_lays 81 = .ok (.iload_n 1, 1) := by decide +kernel
theorem dX11_lays_82 : decode cX11_lays 82 = .ok (.aaload, 1) := by decide +kernel
theorem dX11_lays_83 : decode cX11_lays 83 = .ok (.getfield 228, 3) := by decide +kernel
theorem dX11_lays_86 : decode cX11_lays 86 = .ok (.bipush 6, 2) := by decide +kernel
theorem dX11_lays_88 : decode cX11_lays 88 = .ok (.invokestatic 257, 3) := by decide +kernel
theorem dX11_lays_91 : decode cX11_lays 91 = .ok (.istore 4, 2) := by decide +kernel
theorem dX11_lays_93 : decode cX11_lays 93 = .ok (.iconst 0, 1) := by decide +kernel
theorem dX11_lays_94 : decode cX11_lays 94 = .ok (.istore 5, 2) := by decide +kernel
theorem dX11_lays_96 : decode cX11_lays 96 = .ok (.iload 5, 2) := by decide +kernel
theorem dX11_lays_98 : decode cX11_lays 98 = .ok (.iload 4, 2) := by decide +kernel
theorem dX11_lays_100 : decode cX11_lays 100 = .ok (.if_icmp .ge 49, 3) := by decide +kernel
theorem dX11_lays_103 : decode cX11_lays 103 = .ok (.aload_n 0, 1) := by decide +kernel
theorem dX11_lays_104 : decode cX11_lays 104 = .ok (.getfield 34, 3) := by decide +kernel
theorem dX11_lays_107 : decode cX11_lays 107 = .ok (.iload_n 1, 1) := by decide +kernel
theorem dX11_lays_108 : decode cX11_lays 108 = .ok (.aaload, 1) := by decide +kernel
theorem dX11_lays_109 : decode cX11_lays 109 = .ok (.getfield 236, 3) := by decide +kernel
theorem dX11_lays_112 : decode cX11_lays 112 = .ok (.iload 5, 2) := by decide +kernel
theorem dX11_lays_114 : decode cX11_lays 114 = .ok (.laload, 1) := by decide +kernel
theorem dX11_lays_115 : decode cX11_lays 115 = .ok (.lstore 6, 2) := by decide +kernel
theorem dX11_lays_117 : decode cX11_lays 117 = .ok (.lload 6, 2) := by decide +kernel
theorem dX11_lays_119 : decode cX11_lays 119 = .ok (.lconst 0, 1) := by decide +kernel
theorem dX11_lays_120 : decode cX11_lays 120 = .ok (.lcmp, 1) := by decide +kernel
theorem dX11_lays_121 : decode cX11_lays 121 = .ok (.ifCond .lt 28, 3) := by decide +kernel
theorem dX11_lays_124 : decode cX11_lays 124 = .ok (.lload 6, 2) := by decide +kernel
theorem dX11_lays_126 : decode cX11_lays 126 = .ok (.ldc2_w 262, 3) := by decide +kernel
theorem dX11_lays_129 : decode cX11_lays 129 = .ok (.lcmp, 1) := by decide +kernel
theorem dX11_lays_130 : decode cX11_lays 130 = .ok (.ifCond .lt 6, 3) := by decide +kernel
theorem dX11_lays_133 : decode cX11_lays 133 = .ok (.goto 16, 3) := by decide +kernel
theorem dX11_lays_136 : decode cX11_lays 136 = .ok (.aload_n 3, 1) := by decide +kernel
theorem dX11_lays_137 : decode cX11_lays 137 = .ok (.lload 6, 2) := by decide +kernel
theorem dX11_lays_139 : decode cX11_lays 139 = .ok (.l2i, 1) := by decide +kernel
theorem dX11_lays_140 : decode cX11_lays 140 = .ok (.invokevirtual 264, 3) := by decide +kernel
theorem dX11_lays_143 : decode cX11_lays 143 = .ok (.iinc 5 1, 3) := by decide +kernel
theorem dX11_lays_146 : decode cX11_lays 146 = .ok (.goto (-50), 3) := by decide +kernel
theorem dX11_lays_149 : decode cX11_lays 149 = .ok (.aload_n 3, 1) := by decide +kernel
theorem dX11_lays_150 : decode cX11_lays 150 = .ok (.getfield 107, 3) := by decide +kernel
theorem dX11_lays_153 : decode cX11_lays 153 = .ok (.ireturn, 1) := by decide +kernel
theorem dX11_book_0 : decode cX11_book 0 = .ok (.iload_n 1, 1) := by decide +kernel
theorem dX11_book_1 : decode cX11_book 1 = .ok (.invokestatic 222, 3) := by decide +kernel
theorem dX11_book_4 : decode cX11_book 4 = .ok (.ifCond .ne 10, 3) := by decide +kernel
theorem dX11_book_7 : decode cX11_book 7 = .ok (.aload_n 0, 1) := by decide +kernel
theorem dX11_book_8 : decode cX11_book 8 = .ok (.ldc 57, 2) := by decide +kernel
theorem dX11_book_10 : decode cX11_book 10 = .ok (.invokevirtual 58, 3) := by decide +kernel
theorem dX11_book_13 : decode cX11_book 13 = .ok (.ireturn, 1) := by decide +kernel
theorem dX11_book_14 : decode cX11_book 14 = .ok (.aload_n 0, 1) := by decide +kernel
theorem dX11_book_15 : decode cX11_book 15 = .ok (.getfield 34, 3) := by decide +kernel
theorem dX11_book_18 : decode cX11_book 18 = .ok (.iload_n 1, 1) := by decide +kernel
theorem dX11_book_19 : decode cX11_book 19 = .ok (.aaload, 1) := by decide +kernel
theorem dX11_book_20 : decode cX11_book 20 = .ok (.invokevirtual 231, 3) := by decide +kernel
theorem dX11_book_23 : decode cX11_book 23 = .ok (.ifCond .eq 10, 3) := by decide +kernel
theorem dX11_book_26 : decode cX11_book 26 = .ok (.aload_n 0, 1) := by decide +kernel
theorem dX11_book_27 : decode cX11_book 27 = .ok (.ldc 235, 2) := by decide +kernel
theorem dX11_book_29 : decode cX11_book 29 = .ok (.invokevirtual 58, 3) := by decide +kernel
theorem dX11_book_32 : decode cX11_book 32 = .ok (.ireturn, 1) := by decide +kernel
theorem dX11_book_33 : decode cX11_book 33 = .ok (.aload_n 0, 1) := by decide +kernel
theorem dX11_book_34 : decode cX11_book 34 = .ok (.iload_n 2, 1) := by decide +kernel
theorem dX11_book_35 : decode cX11_book 35 = .ok (.invokevirtual 70, 3) := by decide +kernel
theorem dX11_book_38 : decode cX11_book 38 = .ok (.ifCond .ne 10, 3) := by decide +kernel
theorem dX11_book_41 : decode cX11_book 41 = .ok (.aload_n 0, 1) := by decide +kernel
theorem dX11_book_42 : decode cX11_book 42 = .ok (.ldc 57, 2) := by decide +kernel
theorem dX11_book_44 : decode cX11_book 44 = .ok (.invokevirtual 58, 3) := by decide +kernel
theorem dX11_book_47 : decode cX11_book 47 = .ok (.ireturn, 1) := by decide +kernel
theorem dX11_book_48 : decode cX11_book 48 = .ok (.aload_n 0, 1) := by decide +kernel
theorem dX11_book_49 : decode cX11_book 49 = .ok (.invokevirtual 190, 3) := by decide +kernel
theorem dX11_book_52 : decode cX11_book 52 = .ok (.iconst 0, 1) := by decide +kernel
theorem dX11_book_53 : decode cX11_book 53 = .ok (.istore_n 3, 1) := by decide +kernel
theorem dX11_book_54 : decode cX11_book 54 = .ok (.iload_n 3, 1) := by decide +kernel
theorem dX11_book_55 : decode cX11_book 55 = .ok (.aload_n 0, 1) := by decide +kernel
theorem dX11_book_56 : decode cX11_book 56 = .ok (.getfield 34, 3) := by decide +kernel
theorem dX11_book_59 : decode cX11_book 59 = .ok (.iload_n 1, 1) := by decide +kernel
theorem dX11_book_60 : decode cX11_book 60 = .ok (.aaload, 1) := by decide +kernel
theorem dX11_book_61 : decode cX11_book 61 = .ok (.getfield 228, 3) := by decide +kernel
theorem dX11_book_64 : decode cX11_book 64 = .ok (.if_icmp .ge 40, 3) := by decide +kernel
theorem dX11_book_67 : decode cX11_book 67 = .ok (.aload_n 0, 1) := by decide +kernel
theorem dX11_book_68 : decode cX11_book 68 = .ok (.getfield 34, 3) := by decide +kernel
theorem dX11_book_71 : decode cX11_book 71 = .ok (.iload_n 1, 1) := by decide +kernel
theorem dX11_book_72 : decode cX11_book 72 = .ok (.aaload, 1) := by decide +kernel
theorem dX11_book_73 : decode cX11_book 73 = .ok (.iload_n 3, 1) := by decide +kernel
theorem dX11_book_74 : decode cX11_book 74 = .ok (.aload_n 0, 1) := by decide +kernel
theorem dX11_book_75 : decode cX11_book 75 = .ok (.getfield 25, 3) := by decide +kernel
theorem dX11_book_78 : decode cX11_book 78 = .ok (.getfield 73, 3) := by decide +kernel
theorem dX11_book_81 : decode cX11_book 81 = .ok (.iload_n 2, 1) := by decide +kernel
theorem dX11_book_82 : decode cX11_book 82 = .ok (.aaload, 1) := by decide +kernel
theorem dX11_book_83 : decode cX11_book 83 = .ok (.getfield 82, 3) := by decide +kernel
theorem dX11_book_86 : decode cX11_book 86 = .ok (.i2l, 1) := by decide +kernel
theorem dX11_book_87 : decode cX11_book 87 = .ok (.invokevirtual 240, 3) := by decide +kernel
theorem dX11_book_90 : decode cX11_book 90 = .ok (.aload_n 0, 1) := by decide +kernel
theorem dX11_book_91 : decode cX11_book 91 = .ok (.getfield 25, 3) := by decide +kernel
theorem dX11_book_94 : decode cX11_book 94 = .ok (.iconst 1, 1) := by decide +kernel
theorem dX11_book_95 : decode cX11_book 95 = .ok (.invokevirtual 175, 3) := by decide +kernel
theorem dX11_book_98 : decode cX11_book 98 = .ok (.iinc 3 1, 3) := by decide +kernel
theorem dX11_book_101 : decode cX11_book 101 = .ok (.goto (-47), 3) := by decide +kernel
theorem dX11_book_104 : decode cX11_book 104 = .ok (.aload_n 0, 1) := by decide +kernel
theorem dX11_book_105 : decode cX11_book 105 = .ok (.getfield 34, 3) := by decide +kernel
theorem dX11_book_108 : decode cX11_book 108 = .ok (.iload_n 1, 1) := by decide +kernel
theorem dX11_book_109 : decode cX11_book 109 = .ok (.aaload, 1) := by decide +kernel
theorem dX11_book_110 : decode cX11_book 110 = .ok (.getfield 228, 3) := by decide +kernel
theorem dX11_book_113 : decode cX11_book 113 = .ok (.ireturn, 1) := by decide +kernel
theorem dX11_read_0 : decode cX11_read 0 = .ok (.iload_n 1, 1) := by decide +kernel
theorem dX11_read_1 : decode cX11_read 1 = .ok (.invokestatic 222, 3) := by decide +kernel
theorem dX11_read_4 : decode cX11_read 4 = .ok (.ifCond .ne 10, 3) := by decide +kernel
theorem dX11_read_7 : decode cX11_read 7 = .ok (.aload_n 0, 1) := by decide +kernel
theorem dX11_read_8 : decode cX11_read 8 = .ok (.ldc 57, 2) := by decide +kernel
theorem dX11_read_10 : decode cX11_read 10 = .ok (.invokevirtual 58, 3) := by decide +kernel
theorem dX11_read_13 : decode cX11_read 13 = .ok (.ireturn, 1) := by decide +kernel
theorem dX11_read_14 : decode cX11_read 14 = .ok (.aload_n 0, 1) := by decide +kernel
theorem dX11_read_15 : decode cX11_read 15 = .ok (.getfield 34, 3) := by decide +kernel
theorem dX11_read_18 : decode cX11_read 18 = .ok (.iload_n 1, 1) := by decide +kernel
theorem dX11_read_19 : decode cX11_read 19 = .ok (.aaload, 1) := by decide +kernel
theorem dX11_read_20 : decode cX11_read 20 = .ok (.invokevirtual 231, 3) := by decide +kernel
theorem dX11_read_23 : decode cX11_read 23 = .ok (.ifCond .eq 10, 3) := by decide +kernel
theorem dX11_read_26 : decode cX11_read 26 = .ok (.aload_n 0, 1) := by decide +kernel
theorem dX11_read_27 : decode cX11_read 27 = .ok (.ldc 235, 2) := by decide +kernel
theorem dX11_read_29 : decode cX11_read 29 = .ok (.invokevirtual 58, 3) := by decide +kernel
theorem dX11_read_32 : decode cX11_read 32 = .ok (.ireturn, 1) := by decide +kernel
theorem dX11_read_33 : decode cX11_read 33 = .ok (.aload_n 0, 1) := by decide +kernel
theorem dX11_read_34 : decode cX11_read 34 = .ok (.iload_n 2, 1) := by decide +kernel
theorem dX11_read_35 : decode cX11_read 35 = .ok (.invokevirtual 70, 3) := by decide +kernel
theorem dX11_read_38 : decode cX11_read 38 = .ok (.ifCond .eq 11, 3) := by decide +kernel
theorem dX11_read_41 : decode cX11_read 41 = .ok (.aload_n 0, 1) := by decide +kernel
theorem dX11_read_42 : decode cX11_read 42 = .ok (.iload_n 3, 1) := by decide +kernel
theorem dX11_read_43 : decode cX11_read 43 = .ok (.invokevirtual 96, 3) := by decide +kernel
theorem dX11_read_46 : decode cX11_read 46 = .ok (.ifCond .ne 10, 3) := by decide +kernel
theorem dX11_read_49 : decode cX11_read 49 = .ok (.aload_n 0, 1) := by decide +kernel
theorem dX11_read_50 : decode cX11_read 50 = .ok (.ldc 57, 2) := by decide +kernel
theorem dX11_read_52 : decode cX11_read 52 = .ok (.invokevirtual 58, 3) := by decide +kernel
theorem dX11_read_55 : decode cX11_read 55 = .ok (.ireturn, 1) := by decide +kernel
theorem dX11_read_56 : decode cX11_read 56 = .ok (.aload_n 0, 1) := by decide +kernel
theorem dX11_read_57 : decode cX11_read 57 = .ok (.getfield 34, 3) := by decide +kernel
theorem dX11_read_60 : decode cX11_read 60 = .ok (.iload_n 1, 1) := by decide +kernel
theorem dX11_read_61 : decode cX11_read 61 = .ok (.aaload, 1) := by decide +kernel
theorem dX11_read_62 : decode cX11_read 62 = .ok (.getfield 228, 3) := by decide +kernel
theorem dX11_read_65 : decode cX11_read 65 = .ok (.ifCond .le 33, 3) := by decide +kernel
theorem dX11_read_68 : decode cX11_read 68 = .ok (.aload_n 0, 1) := by decide +kernel
theorem dX11_read_69 : decode cX11_read 69 = .ok (.getfield 34, 3) := by decide +kernel
theorem dX11_read_72 : decode cX11_read 72 = .ok (.iload_n 1, 1) := by decide +kernel
theorem dX11_read_73 : decode cX11_read 73 = .ok (.aaload, 1) := by decide +kernel
theorem dX11_read_74 : decode cX11_read 74 = .ok (.getfield 236, 3) := by decide +kernel
theorem dX11_read_77 : decode cX11_read 77 = .ok (.iconst 0, 1) := by decide +kernel
theorem dX11_read_78 : decode cX11_read 78 = .ok (.laload, 1) := by decide +kernel
theorem dX11_read_79 : decode cX11_read 79 = .ok (.aload_n 0, 1) := by decide +kernel
theorem dX11_read_80 : decode cX11_read 80 = .ok (.getfield 18, 3) := by decide +kernel
theorem dX11_read_83 : decode cX11_read 83 = .ok (.getfield 73, 3) := by decide +kernel
theorem dX11_read_86 : decode cX11_read 86 = .ok (.iload_n 2, 1) := by decide +kernel
theorem dX11_read_87 : decode cX11_read 87 = .ok (.aaload, 1) := by decide +kernel
theorem dX11_read_88 : decode cX11_read 88 = .ok (.getfield 82, 3) := by decide +kernel
theorem dX11_read_91 : decode cX11_read 91 = .ok (.i2l, 1) := by decide +kernel
theorem dX11_read_92 : decode cX11_read 92 = .ok (.lcmp, 1) := by decide +kernel
theorem dX11_read_93 : decode cX11_read 93 = .ok (.ifCond .eq 5, 3) := by decide +kernel
theorem dX11_read_96 : decode cX11_read 96 = .ok (.iconst 0, 1) := by decide +kernel
theorem dX11_read_97 : decode cX11_read 97 = .ok (.ireturn, 1) := by decide +kernel
theorem dX11_read_98 : decode cX11_read 98 = .ok (.iconst 0, 1) := by decide +kernel
theorem dX11_read_99 : decode cX11_read 99 = .ok (.istore 4, 2) := by decide +kernel
theorem dX11_read_101 : decode cX11_read 101 = .ok (.iconst 0, 1) := by decide +kernel
theorem dX11_read_102 : decode cX11_read 102 = .ok (.istore 5, 2) := by decide +kernel
theorem dX11_read_104 : decode cX11_read 104 = .ok (.iload 5, 2) := by decide +kernel
theorem dX11_read_106 : decode cX11_read 106 = .ok (.bipush 6, 2) := by decide +kernel
theorem dX11_read_108 : decode cX11_read 108 = .ok (.if_icmp .ge 74, 3) := by decide +kernel
theorem dX11_read_111 : decode cX11_read 111 = .ok (.iconst 0, 1) := by decide +kernel
theorem dX11_read_112 : decode cX11_read 112 = .ok (.istore 6, 2) := by decide +kernel
theorem dX11_read_114 : decode cX11_read 114 = .ok (.iload 6, 2) := by decide +kernel
theorem dX11_read_116 : decode cX11_read 116 = .ok (.bipush 99, 2) := by decide +kernel
theorem dX11_read_118 : decode cX11_read 118 = .ok (.if_icmp .gt 58, 3) := by decide +kernel
theorem dX11_read_121 : decode cX11_read 121 = .ok (.aload_n 0, 1) := by decide +kernel
theorem dX11_read_122 : decode cX11_read 122 = .ok (.invokevirtual 190, 3) := by decide +kernel
theorem dX11_read_125 : decode cX11_read 125 = .ok (.aload_n 0, 1) := by decide +kernel
theorem dX11_read_126 : decode cX11_read 126 = .ok (.getfield 25, 3) := by decide +kernel
theorem dX11_read_129 : decode cX11_read 129 = .ok (.getfield 73, 3) := by decide +kernel
theorem dX11_read_132 : decode cX11_read 132 = .ok (.iload_n 2, 1) := by decide +kernel
theorem dX11_read_133 : decode cX11_read 133 = .ok (.aaload, 1) := by decide +kernel
theorem dX11_read_134 : decode cX11_read 134 = .ok (.iload 5, 2) := by decide +kernel
theorem dX11_read_136 : decode cX11_read 136 = .ok (.putfield 77, 3) := by decide +kernel
theorem dX11_read_139 : decode cX11_read 139 = .ok (.aload_n 0, 1) := by decide +kernel
theorem dX11_read_140 : decode cX11_read 140 = .ok (.getfield 25, 3) := by decide +kernel
theorem dX11_read_143 : decode cX11_read 143 = .ok (.getfield 103, 3) := by decide +kernel
theorem dX11_read_146 : decode cX11_read 146 = .ok (.iload_n 3, 1) := by decide +kernel
theorem dX11_read_147 : decode cX11_read 147 = .ok (.aaload, 1) := by decide +kernel
theorem dX11_read_148 : decode cX11_read 148 = .ok (.iload 6, 2) := by decide +kernel
theorem dX11_read_150 : decode cX11_read 150 = .ok (.putfield 125, 3) := by decide +kernel
theorem dX11_read_153 : decode cX11_read 153 = .ok (.aload_n 0, 1) := by decide +kernel
theorem dX11_read_154 : decode cX11_read 154 = .ok (.aload_n 0, 1) := by decide +kernel
theorem dX11_read_155 : decode cX11_read 155 = .ok (.getfield 34, 3) := by decide +kernel
theorem dX11_read_158 : decode cX11_read 158 = .ok (.iload_n 1, 1) := by decide +kernel
theorem dX11_read_159 : decode cX11_read 159 = .ok (.aaload, 1) := by decide +kernel
theorem dX11_read_160 : decode cX11_read 160 = .ok (.iload_n 2, 1) := by decide +kernel
theorem dX11_read_161 : decode cX11_read 161 = .ok (.invokevirtual 267, 3) := by decide +kernel
theorem dX11_read_164 : decode cX11_read 164 = .ok (.ifCond .eq 6, 3) := by decide +kernel
theorem dX11_read_167 : decode cX11_read 167 = .ok (.iinc 4 1, 3) := by decide +kernel
theorem dX11_read_170 : decode cX11_read 170 = .ok (.iinc 6 1, 3) := by decide +kernel
theorem dX11_read_173 : decode cX11_read 173 = .ok (.goto (-59), 3) := by decide +kernel
theorem dX11_read_176 : decode cX11_read 176 = .ok (.iinc 5 1, 3) := by decide +kernel
theorem dX11_read_179 : decode cX11_read 179 = .ok (.goto (-75), 3) := by decide +kernel
theorem dX11_read_182 : decode cX11_read 182 = .ok (.iload 4, 2) := by decide +kernel
theorem dX11_read_184 : decode cX11_read 184 = .ok (.ireturn, 1) := by decide +kernel
theorem dX11_image_0 : decode cX11_image 0 = .ok (.aload_n 0, 1) := by decide +kernel
theorem dX11_image_1 : decode cX11_image 1 = .ok (.getfield 22, 3) := by decide +kernel
theorem dX11_image_4 : decode cX11_image 4 = .ok (.aload_n 0, 1) := by decide +kernel
theorem dX11_image_5 : decode cX11_image 5 = .ok (.getfield 18, 3) := by decide +kernel
theorem dX11_image_8 : decode cX11_image 8 = .ok (.invokevirtual 218, 3) := by decide +kernel
theorem dX11_image_11 : decode cX11_image 11 = .ok (.aload_n 0, 1) := by decide +kernel
theorem dX11_image_12 : decode cX11_image 12 = .ok (.iconst 1, 1) := by decide +kernel
theorem dX11_image_13 : decode cX11_image 13 = .ok (.putfield 28, 3) := by decide +kernel
theorem dX11_image_16 : decode cX11_image 16 = .ok (.iconst 1, 1) := by decide +kernel
theorem dX11_image_17 : decode cX11_image 17 = .ok (.ireturn, 1) := by decide +kernel
theorem dX11_undo_0 : decode cX11_undo 0 = .ok (.aload_n 0, 1) := by decide +kernel
theorem dX11_undo_1 : decode cX11_undo 1 = .ok (.getfield 28, 3) := by decide +kernel
theorem dX11_undo_4 : decode cX11_undo 4 = .ok (.ifCond .ne 10, 3) := by decide +kernel
theorem dX11_undo_7 : decode cX11_undo 7 = .ok (.aload_n 0, 1) := by decide +kernel
theorem dX11_undo_8 : decode cX11_undo 8 = .ok (.ldc 112, 2) := by decide +kernel
theorem dX11_undo_10 : decode cX11_undo 10 = .ok (.invokevirtual 58, 3) := by decide +kernel
theorem dX11_undo_13 : decode cX11_undo 13 = .ok (.ireturn, 1) := by decide +kernel
theorem dX11_undo_14 : decode cX11_undo 14 = .ok (.aload_n 0, 1) := by decide +kernel
theorem dX11_undo_15 : decode cX11_undo 15 = .ok (.getfield 18, 3) := by decide +kernel
theorem dX11_undo_18 : decode cX11_undo 18 = .ok (.aload_n 0, 1) := by decide +kernel
theorem dX11_undo_19 : decode cX11_undo 19 = .ok (.getfield 22, 3) := by decide +kernel
theorem dX11_undo_22 : decode cX11_undo 22 = .ok (.invokevirtual 218, 3) := by decide +kernel
theorem dX11_undo_25 : decode cX11_undo 25 = .ok (.aload_n 0, 1) := by decide +kernel
theorem dX11_undo_26 : decode cX11_undo 26 = .ok (.getfield 18, 3) := by decide +kernel
theorem dX11_undo_29 : decode cX11_undo 29 = .ok (.getfield 62, 3) := by decide +kernel
theorem dX11_undo_32 : decode cX11_undo 32 = .ok (.ireturn, 1) := by decide +kernel
theorem dX11_tear_0 : decode cX11_tear 0 = .ok (.aload_n 0, 1) := by decide +kernel
theorem dX11_tear_1 : decode cX11_tear 1 = .ok (.getfield 28, 3) := by decide +kernel
theorem dX11_tear_4 : decode cX11_tear 4 = .ok (.ifCond .eq 7, 3) := by decide +kernel
theorem dX11_tear_7 : decode cX11_tear 7 = .ok (.iconst 1, 1) := by decide +kernel
theorem dX11_tear_8 : decode cX11_tear 8 = .ok (.goto 4, 3) := by decide +kernel
theorem dX11_tear_11 : decode cX11_tear 11 = .ok (.iconst 0, 1) := by decide +kernel
theorem dX11_tear_12 : decode cX11_tear 12 = .ok (.istore_n 1, 1) := by decide +kernel
theorem dX11_tear_13 : decode cX11_tear 13 = .ok (.aload_n 0, 1) := by decide +kernel
theorem dX11_tear_14 : decode cX11_tear 14 = .ok (.iconst 0, 1) := by decide +kernel
theorem dX11_tear_15 : decode cX11_tear 15 = .ok (.putfield 28, 3) := by decide +kernel
theorem dX11_tear_18 : decode cX11_tear 18 = .ok (.iload_n 1, 1) := by decide +kernel
theorem dX11_tear_19 : decode cX11_tear 19 = .ok (.ireturn, 1) := by decide +kernel
theorem dX11_count_0 : decode cX11_count 0 = .ok (.iload_n 1, 1) := by decide +kernel
theorem dX11_count_1 : decode cX11_count 1 = .ok (.tableswitch 66 0 3 #[31, 39, 47, 55], 31) := by decide +kernel
theorem dX11_count_32 : decode cX11_count 32 = .ok (.aload_n 0, 1) := by decide +kernel
theorem dX11_count_33 : decode cX11_count 33 = .ok (.getfield 18, 3) := by decide +kernel
theorem dX11_count_36 : decode cX11_count 36 = .ok (.getfield 62, 3) := by decide +kernel
theorem dX11_count_39 : decode cX11_count 39 = .ok (.ireturn, 1) := by decide +kernel
theorem dX11_count_40 : decode cX11_count 40 = .ok (.aload_n 0, 1) := by decide +kernel
theorem dX11_count_41 : decode cX11_count 41 = .ok (.getfield 18, 3) := by decide +kernel
theorem dX11_count_44 : decode cX11_count 44 = .ok (.getfield 146, 3) := by decide +kernel
theorem dX11_count_47 : decode cX11_count 47 = .ok (.ireturn, 1) := by decide +kernel
theorem dX11_count_48 : decode cX11_count 48 = .ok (.aload_n 0, 1) := by decide +kernel
theorem dX11_count_49 : decode cX11_count 49 = .ok (.getfield 42, 3) := by decide +kernel
theorem dX11_count_52 : decode cX11_count 52 = .ok (.getfield 208, 3) := by decide +kernel
theorem dX11_count_55 : decode cX11_count 55 = .ok (.ireturn, 1) := by decide +kernel
theorem dX11_count_56 : decode cX11_count 56 = .ok (.aload_n 0, 1) := by decide +kernel
theorem dX11_count_57 : decode cX11_count 57 = .ok (.getfield 18, 3) := by decide +kernel
theorem dX11_count_60 : decode cX11_count 60 = .ok (.invokevirtual 181, 3) := by decide +kernel
theorem dX11_count_63 : decode cX11_count 63 = .ok (.invokestatic 271, 3) := by decide +kernel
theorem dX11_count_66 : decode cX11_count 66 = .ok (.ireturn, 1) := by decide +kernel
theorem dX11_count_67 : decode cX11_count 67 = .ok (.aload_n 0, 1) := by decide +kernel
theorem dX11_count_68 : decode cX11_count 68 = .ok (.ldc 57, 2) := by decide +kernel
theorem dX11_count_70 : decode cX11_count 70 = .ok (.invokevirtual 58, 3) := by decide +kernel
theorem dX11_count_73 : decode cX11_count 73 = .ok (.ireturn, 1) := by decide +kernel
theorem dX11_status_0 : decode cX11_status 0 = .ok (.iload_n 1, 1) := by decide +kernel
theorem dX11_status_1 : decode cX11_status 1 = .ok (.iconst (-1), 1) := by decide +kernel
theorem dX11_status_2 : decode cX11_status 2 = .ok (.bipush 6, 2) := by decide +kernel
theorem dX11_status_4 : decode cX11_status 4 = .ok (.invokestatic 92, 3) := by decide +kernel
theorem dX11_status_7 : decode cX11_status 7 = .ok (.ifCond .ne 10, 3) := by decide +kernel
theorem dX11_status_10 : decode cX11_status 10 = .ok (.aload_n 0, 1) := by decide +kernel
theorem dX11_status_11 : decode cX11_status 11 = .ok (.ldc 57, 2) := by decide +kernel
theorem dX11_status_13 : decode cX11_status 13 = .ok (.invokevirtual 58, 3) := by decide +kernel
theorem dX11_status_16 : decode cX11_status 16 = .ok (.ireturn, 1) := by decide +kernel
theorem dX11_status_17 : decode cX11_status 17 = .ok (.iload_n 1, 1) := by decide +kernel
theorem dX11_status_18 : decode cX11_status 18 = .ok (.ifCond .lt 10, 3) := by decide +kernel
theorem dX11_status_21 : decode cX11_status 21 = .ok (.aload_n 0, 1) := by decide +kernel
theorem dX11_status_22 : decode cX11_status 22 = .ok (.getfield 46, 3) := by decide +kernel
theorem dX11_status_25 : decode cX11_status 25 = .ok (.iload_n 1, 1) := by decide +kernel
theorem dX11_status_26 : decode cX11_status 26 = .ok (.iaload, 1) := by decide +kernel
theorem dX11_status_27 : decode cX11_status 27 = .ok (.ireturn, 1) := by decide +kernel
theorem dX11_status_28 : decode cX11_status 28 = .ok (.iconst 0, 1) := by decide +kernel
theorem dX11_status_29 : decode cX11_status 29 = .ok (.istore_n 2, 1) := by decide +kernel
theorem dX11_status_30 : decode cX11_status 30 = .ok (.iconst 0, 1) := by decide +kernel
theorem dX11_status_31 : decode cX11_status 31 = .ok (.istore_n 3, 1) := by decide +kernel
theorem dX11_status_32 : decode cX11_status 32 = .ok (.iload_n 3, 1) := by decide +kernel
theorem dX11_status_33 : decode cX11_status 33 = .ok (.bipush 7, 2) := by decide +kernel
theorem dX11_status_35 : decode cX11_status 35 = .ok (.if_icmp .ge 18, 3) := by decide +kernel
theorem dX11_status_38 : decode cX11_status 38 = .ok (.iload_n 2, 1) := by decide +kernel
theorem dX11_status_39 : decode cX11_status 39 = .ok (.aload_n 0, 1) := by decide +kernel
theorem dX11_status_40 : decode cX11_status 40 = .ok (.getfield 46, 3) := by decide +kernel
theorem dX11_status_43 : decode cX11_status 43 = .ok (.iload_n 3, 1) := by decide +kernel
theorem dX11_status_44 : decode cX11_status 44 = .ok (.iaload, 1) := by decide +kernel
theorem dX11_status_45 : decode cX11_status 45 = .ok (.iadd, 1) := by decide +kernel
theorem dX11_status_46 : decode cX11_status 46 = .ok (.istore_n 2, 1) := by decide +kernel
theorem dX11_status_47 : decode cX11_status 47 = .ok (.iinc 3 1, 3) := by decide +kernel
theorem dX11_status_50 : decode cX11_status 50 = .ok (.goto (-18), 3) := by decide +kernel
theorem dX11_status_53 : decode cX11_status 53 = .ok (.iload_n 2, 1) := by decide +kernel
theorem dX11_status_54 : decode cX11_status 54 = .ok (.ireturn, 1) := by decide +kernel
theorem dX11_tell_0 : decode cX11_tell 0 = .ok (.ldc 57, 2) := by decide +kernel
theorem dX11_tell_2 : decode cX11_tell 2 = .ok (.iload_n 1, 1) := by decide +kernel
theorem dX11_tell_3 : decode cX11_tell 3 = .ok (.isub, 1) := by decide +kernel
theorem dX11_tell_4 : decode cX11_tell 4 = .ok (.istore_n 2, 1) := by decide +kernel
theorem dX11_tell_5 : decode cX11_tell 5 = .ok (.iload_n 2, 1) := by decide +kernel
theorem dX11_tell_6 : decode cX11_tell 6 = .ok (.iconst 0, 1) := by decide +kernel
theorem dX11_tell_7 : decode cX11_tell 7 = .ok (.bipush 6, 2) := by decide +kernel
theorem dX11_tell_9 : decode cX11_tell 9 = .ok (.invokestatic 92, 3) := by decide +kernel
theorem dX11_tell_12 : decode cX11_tell 12 = .ok (.ifCond .eq 13, 3) := by decide +kernel
theorem dX11_tell_15 : decode cX11_tell 15 = .ok (.aload_n 0, 1) := by decide +kernel
theorem dX11_tell_16 : decode cX11_tell 16 = .ok (.getfield 46, 3) := by decide +kernel
theorem dX11_tell_19 : decode cX11_tell 19 = .ok (.iload_n 2, 1) := by decide +kernel
theorem dX11_tell_20 : decode cX11_tell 20 = .ok (.dup2, 1) := by decide +kernel
theorem dX11_tell_21 : decode cX11_tell 21 = .ok (.iaload, 1) := by decide +kernel
theorem dX11_tell_22 : decode cX11_tell 22 = .ok (.iconst 1, 1) := by decide +kernel
theorem dX11_tell_23 : decode cX11_tell 23 = .ok (.iadd, 1) := by decide +kernel
theorem dX11_tell_24 : decode cX11_tell 24 = .ok (.iastore, 1) := by decide +kernel
theorem dX11_tell_25 : decode cX11_tell 25 = .ok (.iload_n 1, 1) := by decide +kernel
theorem dX11_tell_26 : decode cX11_tell 26 = .ok (.ireturn, 1) := by decide +kernel
theorem dX11_within_0 : decode cX11_within 0 = .ok (.iload_n 0, 1) := by decide +kernel
theorem dX11_within_1 : decode cX11_within 1 = .ok (.iload_n 1, 1) := by decide +kernel
theorem dX11_within_2 : decode cX11_within 2 = .ok (.if_icmp .lt 12, 3) := by decide +kernel
theorem dX11_within_5 : decode cX11_within 5 = .ok (.iload_n 0, 1) := by decide +kernel
theorem dX11_within_6 : decode cX11_within 6 = .ok (.iload_n 2, 1) := by decide +kernel
theorem dX11_within_7 : decode cX11_within 7 = .ok (.if_icmp .gt 7, 3) := by decide +kernel
theorem dX11_within_10 : decode cX11_within 10 = .ok (.iconst 1, 1) := by decide +kernel
theorem dX11_within_11 : decode cX11_within 11 = .ok (.goto 4, 3) := by decide +kernel
theorem dX11_within_14 : decode cX11_within 14 = .ok (.iconst 0, 1) := by decide +kernel
theorem dX11_within_15 : decode cX11_within 15 = .ok (.ireturn, 1) := by decide +kernel
theorem dX11_isKind_0 : decode cX11_isKind 0 = .ok (.iload_n 0, 1) := by decide +kernel
theorem dX11_isKind_1 : decode cX11_isKind 1 = .ok (.iconst 0, 1) := by decide +kernel
theorem dX11_isKind_2 : decode cX11_isKind 2 = .ok (.iconst 5, 1) := by decide +kernel
theorem dX11_isKind_3 : decode cX11_isKind 3 = .ok (.invokestatic 92, 3) := by decide +kernel
theorem dX11_isKind_6 : decode cX11_isKind 6 = .ok (.ireturn, 1) := by decide +kernel
theorem dX11_isPaper_0 : decode cX11_isPaper 0 = .ok (.iload_n 0, 1) := by decide +kernel
theorem dX11_isPaper_1 : decode cX11_isPaper 1 = .ok (.iconst 0, 1) := by decide +kernel
theorem dX11_isPaper_2 : decode cX11_isPaper 2 = .ok (.iconst 3, 1) := by decide +kernel
theorem dX11_isPaper_3 : decode cX11_isPaper 3 = .ok (.invokestatic 92, 3) := by decide +kernel
theorem dX11_isPaper_6 : decode cX11_isPaper 6 = .ok (.ireturn, 1) := by decide +kernel
theorem dX11_isThing_0 : decode cX11_isThing 0 = .ok (.iload_n 0, 1) := by decide +kernel
theorem dX11_isThing_1 : decode cX11_isThing 1 = .ok (.iconst 0, 1) := by decide +kernel
theorem dX11_isThing_2 : decode cX11_isThing 2 = .ok (.bipush 99, 2) := by decide +kernel
theorem dX11_isThing_4 : decode cX11_isThing 4 = .ok (.invokestatic 92, 3) := by decide +kernel
theorem dX11_isThing_7 : decode cX11_isThing 7 = .ok (.ireturn, 1) := by decide +kernel
theorem dX11_isSheet_0 : decode cX11_isSheet 0 = .ok (.iload_n 0, 1) := by decide +kernel
theorem dX11_isSheet_1 : decode cX11_isSheet 1 = .ok (.iconst 0, 1) := by decide +kernel
theorem dX11_isSheet_2 : decode cX11_isSheet 2 = .ok (.iconst 3, 1) := by decide +kernel
theorem dX11_isSheet_3 : decode cX11_isSheet 3 = .ok (.invokestatic 92, 3) := by decide +kernel
theorem dX11_isSheet_6 : decode cX11_isSheet 6 = .ok (.ireturn, 1) := by decide +kernel
theorem dX11_isPerson_0 : decode cX11_isPerson 0 = .ok (.iload_n 1, 1) := by decide +kernel
theorem dX11_isPerson_1 : decode cX11_isPerson 1 = .ok (.iconst 0, 1) := by decide +kernel
theorem dX11_isPerson_2 : decode cX11_isPerson 2 = .ok (.aload_n 0, 1) := by decide +kernel
theorem dX11_isPerson_3 : decode cX11_isPerson 3 = .ok (.getfield 18, 3) := by decide +kernel
theorem dX11_isPerson_6 : decode cX11_isPerson 6 = .ok (.getfield 62, 3) := by decide +kernel
theorem dX11_isPerson_9 : decode cX11_isPerson 9 = .ok (.iconst 1, 1) := by decide +kernel
theorem dX11_isPerson_10 : decode cX11_isPerson 10 = .ok (.isub, 1) := by decide +kernel
theorem dX11_isPerson_11 : decode cX11_isPerson 11 = .ok (.invokestatic 92, 3) := by decide +kernel
theorem dX11_isPerson_14 : decode cX11_isPerson 14 = .ok (.ireturn, 1) := by decide +kernel
theorem dX11_isPresent_0 : decode cX11_isPresent 0 = .ok (.iload_n 1, 1) := by decide +kernel
theorem dX11_isPresent_1 : decode cX11_isPresent 1 = .ok (.iconst 0, 1) := by decide +kernel
theorem dX11_isPresent_2 : decode cX11_isPresent 2 = .ok (.aload_n 0, 1) := by decide +kernel
theorem dX11_isPresent_3 : decode cX11_isPresent 3 = .ok (.getfield 18, 3) := by decide +kernel
theorem dX11_isPresent_6 : decode cX11_isPresent 6 = .ok (.getfield 146, 3) := by decide +kernel
theorem dX11_isPresent_9 : decode cX11_isPresent 9 = .ok (.iconst 1, 1) := by decide +kernel
theorem dX11_isPresent_10 : decode cX11_isPresent 10 = .ok (.isub, 1) := by decide +kernel
theorem dX11_isPresent_11 : decode cX11_isPresent 11 = .ok (.invokestatic 92, 3) := by decide +kernel
theorem dX11_isPresent_14 : decode cX11_isPresent 14 = .ok (.ireturn, 1) := by decide +kernel
theorem dX11_isOf_0 : decode cX11_isOf 0 = .ok (.iload_n 1, 1) := by decide +kernel
theorem dX11_isOf_1 : decode cX11_isOf 1 = .ok (.tableswitch 57 0 4 #[35, 37, 42, 47, 52], 35) := by decide +kernel
theorem dX11_isOf_36 : decode cX11_isOf 36 = .ok (.iconst 1, 1) := by decide +kernel
theorem dX11_isOf_37 : decode cX11_isOf 37 = .ok (.ireturn, 1) := by decide +kernel
theorem dX11_isOf_38 : decode cX11_isOf 38 = .ok (.aload_n 0, 1) := by decide +kernel
theorem dX11_isOf_39 : decode cX11_isOf 39 = .ok (.instanceof 276, 3) := by decide +kernel
theorem dX11_isOf_42 : decode cX11_isOf 42 = .ok (.ireturn, 1) := by decide +kernel
theorem dX11_isOf_43 : decode cX11_isOf 43 = .ok (.aload_n 0, 1) := by decide +kernel
theorem dX11_isOf_44 : decode cX11_isOf 44 = .ok (.instanceof 278, 3) := by decide +kernel
theorem dX11_isOf_47 : decode cX11_isOf 47 = .ok (.ireturn, 1) := by decide +kernel
theorem dX11_isOf_48 : decode cX11_isOf 48 = .ok (.aload_n 0, 1) := by decide +kernel
theorem dX11_isOf_49 : decode cX11_isOf 49 = .ok (.instanceof 280, 3) := by decide +kernel
theorem dX11_isOf_52 : decode cX11_isOf 52 = .ok (.ireturn, 1) := by decide +kernel
theorem dX11_isOf_53 : decode cX11_isOf 53 = .ok (.aload_n 0, 1) := by decide +kernel
theorem dX11_isOf_54 : decode cX11_isOf 54 = .ok (.instanceof 282, 3) := by decide +kernel
theorem dX11_isOf_57 : decode cX11_isOf 57 = .ok (.ireturn, 1) := by decide +kernel
theorem dX11_isOf_58 : decode cX11_isOf 58 = .ok (.aload_n 0, 1) := by decide +kernel
theorem dX11_isOf_59 : decode cX11_isOf 59 = .ok (.instanceof 284, 3) := by decide +kernel
theorem dX11_isOf_62 : decode cX11_isOf 62 = .ok (.ireturn, 1) := by decide +kernel
theorem dX11_allManners_0 : decode cX11_allManners 0 = .ok (.bipush 6, 2) := by decide +kernel
theorem dX11_allManners_2 : decode cX11_allManners 2 = .ok (.anewarray 121, 3) := by decide +kernel
theorem dX11_allManners_5 : decode cX11_allManners 5 = .ok (.astore_n 0, 1) := by decide +kernel
theorem dX11_allManners_6 : decode cX11_allManners 6 = .ok (.aload_n 0, 1) := by decide +kernel
theorem dX11_allManners_7 : decode cX11_allManners 7 = .ok (.iconst 0, 1) := by decide +kernel
theorem dX11_allManners_8 : decode cX11_allManners 8 = .ok (.new 121, 3) := by decide +kernel
theorem dX11_allManners_11 : decode cX11_allManners 11 = .ok (.dup, 1) := by decide +kernel
theorem dX11_allManners_12 : decode cX11_allManners 12 = .ok (.invokespecial 286, 3) := by decide +kernel
theorem dX11_allManners_15 : decode cX11_allManners 15 = .ok (.aastore, 1) := by decide +kernel
theorem dX11_allManners_16 : decode cX11_allManners 16 = .ok (.aload_n 0, 1) := by decide +kernel
theorem dX11_allManners_17 : decode cX11_allManners 17 = .ok (.iconst 1, 1) := by decide +kernel
theorem dX11_allManners_18 : decode cX11_allManners 18 = .ok (.new 276, 3) := by decide +kernel
theorem dX11_allManners_21 : decode cX11_allManners 21 = .ok (.dup, 1) := by decide +kernel
theorem dX11_allManners_22 : decode cX11_allManners 22 = .ok (.invokespecial 287, 3) := by decide +kernel
theorem dX11_allManners_25 : decode cX11_allManners 25 = .ok (.aastore, 1) := by decide +kernel
theorem dX11_allManners_26 : decode cX11_allManners 26 = .ok (.aload_n 0, 1) := by decide +kernel
theorem dX11_allManners_27 : decode cX11_allManners 27 = .ok (.iconst 2, 1) := by decide +kernel
theorem dX11_allManners_28 : decode cX11_allManners 28 = .ok (.new 278, 3) := by decide +kernel
theorem dX11_allManners_31 : decode cX11_allManners 31 = .ok (.dup, 1) := by decide +kernel
theorem dX11_allManners_32 : decode cX11_allManners 32 = .ok (.invokespecial 288, 3) := by decide +kernel
theorem dX11_allManners_35 : decode cX11_allManners 35 = .ok (.aastore, 1) := by decide +kernel
theorem dX11_allManners_36 : decode cX11_allManners 36 = .ok (.aload_n 0, 1) := by decide +kernel
theorem dX11_allManners_37 : decode cX11_allManners 37 = .ok (.iconst 3, 1) := by decide +kernel
theorem dX11_allManners_38 : decode cX11_allManners 38 = .ok (.new 280, 3) := by decide +kernel
theorem dX11_allManners_41 : decode cX11_allManners 41 = .ok (.dup, 1) := by decide +kernel
theorem dX11_allManners_42 : decode cX11_allManners 42 = .ok (.invokespecial 289, 3) := by decide +kernel
theorem dX11_allManners_45 : decode cX11_allManners 45 = .ok (.aastore, 1) := by decide +kernel
theorem dX11_allManners_46 : decode cX11_allManners 46 = .ok (.aload_n 0, 1) := by decide +kernel
theorem dX11_allManners_47 : decode cX11_allManners 47 = .ok (.iconst 4, 1) := by decide +kernel
theorem dX11_allManners_48 : decode cX11_allManners 48 = .ok (.new 282, 3) := by decide +kernel
theorem dX11_allManners_51 : decode cX11_allManners 51 = .ok (.dup, 1) := by decide +kernel
theorem dX11_allManners_52 : decode cX11_allManners 52 = .ok (.invokespecial 290, 3) := by decide +kernel
theorem dX11_allManners_55 : decode cX11_allManners 55 = .ok (.aastore, 1) := by decide +kernel
theorem dX11_allManners_56 : decode cX11_allManners 56 = .ok (.aload_n 0, 1) := by decide +kernel
theorem dX11_allManners_57 : decode cX11_allManners 57 = .ok (.iconst 5, 1) := by decide +kernel
theorem dX11_allManners_58 : decode cX11_allManners 58 = .ok (.new 284, 3) := by decide +kernel
theorem dX11_allManners_61 : decode cX11_allManners 61 = .ok (.dup, 1) := by decide +kernel
theorem dX11_allManners_62 : decode cX11_allManners 62 = .ok (.invokespecial 291, 3) := by decide +kernel
theorem dX11_allManners_65 : decode cX11_allManners 65 = .ok (.aastore, 1) := by decide +kernel
theorem dX11_allManners_66 : decode cX11_allManners 66 = .ok (.aload_n 0, 1) := by decide +kernel
theorem dX11_allManners_67 : decode cX11_allManners 67 = .ok (.areturn, 1) := by decide +kernel
theorem dX11_startTrial_0 : decode cX11_startTrial 0 = .ok (.aload_n 0, 1) := by decide +kernel
theorem dX11_startTrial_1 : decode cX11_startTrial 1 = .ok (.getfield 25, 3) := by decide +kernel
theorem dX11_startTrial_4 : decode cX11_startTrial 4 = .ok (.aload_n 0, 1) := by decide +kernel
theorem dX11_startTrial_5 : decode cX11_startTrial 5 = .ok (.getfield 18, 3) := by decide +kernel
theorem dX11_startTrial_8 : decode cX11_startTrial 8 = .ok (.invokevirtual 218, 3) := by decide +kernel
theorem dX11_startTrial_11 : decode cX11_startTrial 11 = .ok (.return_, 1) := by decide +kernel
theorem dX11_trialGoesAs_0 : decode cX11_trialGoesAs 0 = .ok (.iconst 0, 1) := by decide +kernel
theorem dX11_trialGoesAs_1 : decode cX11_trialGoesAs 1 = .ok (.istore_n 3, 1) := by decide +kernel
theorem dX11_trialGoesAs_2 : decode cX11_trialGoesAs 2 = .ok (.iload_n 3, 1) := by decide +kernel
theorem dX11_trialGoesAs_3 : decode cX11_trialGoesAs 3 = .ok (.aload_n 1, 1) := by decide +kernel
theorem dX11_trialGoesAs_4 : decode cX11_trialGoesAs 4 = .ok (.getfield 228, 3) := by decide +kernel
theorem dX11_trialGoesAs_7 : decode cX11_trialGoesAs 7 = .ok (.if_icmp .ge 46, 3) := by decide +kernel
theorem dX11_trialGoesAs_10 : decode cX11_trialGoesAs 10 = .ok (.iload_n 3, 1) := by decide +kernel
theorem dX11_trialGoesAs_11 : decode cX11_trialGoesAs 11 = .ok (.ifCond .le 11, 3) := by decide +kernel
theorem dX11_trialGoesAs_14 : decode cX11_trialGoesAs 14 = .ok (.aload_n 0, 1) := by decide +kernel
theorem dX11_trialGoesAs_15 : decode cX11_trialGoesAs 15 = .ok (.getfield 25, 3) := by decide +kernel
theorem dX11_trialGoesAs_18 : decode cX11_trialGoesAs 18 = .ok (.iconst 1, 1) := by decide +kernel
theorem dX11_trialGoesAs_19 : decode cX11_trialGoesAs 19 = .ok (.invokevirtual 175, 3) := by decide +kernel
theorem dX11_trialGoesAs_22 : decode cX11_trialGoesAs 22 = .ok (.aload_n 0, 1) := by decide +kernel
theorem dX11_trialGoesAs_23 : decode cX11_trialGoesAs 23 = .ok (.getfield 25, 3) := by decide +kernel
theorem dX11_trialGoesAs_26 : decode cX11_trialGoesAs 26 = .ok (.getfield 73, 3) := by decide +kernel
theorem dX11_trialGoesAs_29 : decode cX11_trialGoesAs 29 = .ok (.iload_n 2, 1) := by decide +kernel
theorem dX11_trialGoesAs_30 : decode cX11_trialGoesAs 30 = .ok (.aaload, 1) := by decide +kernel
theorem dX11_trialGoesAs_31 : decode cX11_trialGoesAs 31 = .ok (.getfield 82, 3) := by decide +kernel
theorem dX11_trialGoesAs_34 : decode cX11_trialGoesAs 34 = .ok (.i2l, 1) := by decide +kernel
theorem dX11_trialGoesAs_35 : decode cX11_trialGoesAs 35 = .ok (.aload_n 1, 1) := by decide +kernel
theorem dX11_trialGoesAs_36 : decode cX11_trialGoesAs 36 = .ok (.getfield 236, 3) := by decide +kernel
theorem dX11_trialGoesAs_39 : decode cX11_trialGoesAs 39 = .ok (.iload_n 3, 1) := by decide +kernel
theorem dX11_trialGoesAs_40 : decode cX11_trialGoesAs 40 = .ok (.laload, 1) := by decide +kernel
theorem dX11_trialGoesAs_41 : decode cX11_trialGoesAs 41 = .ok (.lcmp, 1) := by decide +kernel
theorem dX11_trialGoesAs_42 : decode cX11_trialGoesAs 42 = .ok (.ifCond .eq 5, 3) := by decide +kernel
theorem dX11_trialGoesAs_45 : decode cX11_trialGoesAs 45 = .ok (.iconst 0, 1) := by decide +kernel
theorem dX11_trialGoesAs_46 : decode cX11_trialGoesAs 46 = .ok (.ireturn, 1) := by decide +kernel
theorem dX11_trialGoesAs_47 : decode cX11_trialGoesAs 47 = .ok (.iinc 3 1, 3) := by decide +kernel
theorem dX11_trialGoesAs_50 : decode cX11_trialGoesAs 50 = .ok (.goto (-48), 3) := by decide +kernel
theorem dX11_trialGoesAs_53 : decode cX11_trialGoesAs 53 = .ok (.iconst 1, 1) := by decide +kernel
theorem dX11_trialGoesAs_54 : decode cX11_trialGoesAs 54 = .ok (.ireturn, 1) := by decide +kernel
theorem dX11_startRow_0 : decode cX11_startRow 0 = .ok (.iconst 0, 1) := by decide +kernel
theorem dX11_startRow_1 : decode cX11_startRow 1 = .ok (.istore_n 3, 1) := by decide +kernel
theorem dX11_startRow_2 : decode cX11_startRow 2 = .ok (.iload_n 3, 1) := by decide +kernel
theorem dX11_startRow_3 : decode cX11_startRow 3 = .ok (.iload_n 2, 1) := by decide +kernel
theorem dX11_startRow_4 : decode cX11_startRow 4 = .ok (.if_icmp .ge 71, 3) := by decide +kernel
theorem dX11_startRow_7 : decode cX11_startRow 7 = .ok (.aload_n 0, 1) := by decide +kernel
theorem dX11_startRow_8 : decode cX11_startRow 8 = .ok (.getfield 50, 3) := by decide +kernel
theorem dX11_startRow_11 : decode cX11_startRow 11 = .ok (.iload_n 3, 1) := by decide +kernel
theorem dX11_startRow_12 : decode cX11_startRow 12 = .ok (.aload_n 0, 1) := by decide +kernel
theorem dX11_startRow_13 : decode cX11_startRow 13 = .ok (.getfield 18, 3) := by decide +kernel
theorem dX11_startRow_16 : decode cX11_startRow 16 = .ok (.getfield 103, 3) := by decide +kernel
theorem dX11_startRow_19 : decode cX11_startRow 19 = .ok (.iload_n 1, 1) := by decide +kernel
theorem dX11_startRow_20 : decode cX11_startRow 20 = .ok (.aaload, 1) := by decide +kernel
theorem dX11_startRow_21 : decode cX11_startRow 21 = .ok (.iload_n 3, 1) := by decide +kernel
theorem dX11_startRow_22 : decode cX11_startRow 22 = .ok (.invokevirtual 155, 3) := by decide +kernel
theorem dX11_startRow_25 : decode cX11_startRow 25 = .ok (.iastore, 1) := by decide +kernel
theorem dX11_startRow_26 : decode cX11_startRow 26 = .ok (.iload_n 3, 1) := by decide +kernel
theorem dX11_startRow_27 : decode cX11_startRow 27 = .ok (.istore 4, 2) := by decide +kernel
theorem dX11_startRow_29 : decode cX11_startRow 29 = .ok (.iload 4, 2) := by decide +kernel
theorem dX11_startRow_31 : decode cX11_startRow 31 = .ok (.ifCond .le 38, 3) := by decide +kernel
theorem dX11_startRow_34 : decode cX11_startRow 34 = .ok (.aload_n 0, 1) := by decide +kernel
theorem dX11_startRow_35 : decode cX11_startRow 35 = .ok (.getfield 50, 3) := by decide +kernel
theorem dX11_startRow_38 : decode cX11_startRow 38 = .ok (.iload 4, 2) := by decide +kernel
theorem dX11_startRow_40 : decode cX11_startRow 40 = .ok (.iconst 1, 1) := by decide +kernel
theorem dX11_startRow_41 : decode cX11_startRow 41 = .ok (.isub, 1) := by decide +kernel
theorem dX11_startRow_42 : decode cX11_startRow 42 = .ok (.iaload, 1) := by decide +kernel
theorem dX11_startRow_43 : decode cX11_startRow 43 = .ok (.aload_n 0, 1) := by decide +kernel
theorem dX11_startRow_44 : decode cX11_startRow 44 = .ok (.getfield 50, 3) := by decide +kernel
theorem dX11_startRow_47 : decode cX11_startRow 47 = .ok (.iload 4, 2) := by decide +kernel
theorem dX11_startRow_49 : decode cX11_startRow 49 = .ok (.iaload, 1) := by decide +kernel
theorem dX11_startRow_50 : decode cX11_startRow 50 = .ok (.if_icmp .le 19, 3) := by decide +kernel
theorem dX11_startRow_53 : decode cX11_startRow 53 = .ok (.aload_n 0, 1) := by decide +kernel
theorem dX11_startRow_54 : decode cX11_startRow 54 = .ok (.iload 4, 2) := by decide +kernel
theorem dX11_startRow_56 : decode cX11_startRow 56 = .ok (.iconst 1, 1) := by decide +kernel
theorem dX11_startRow_57 : decode cX11_startRow 57 = .ok (.isub, 1) := by decide +kernel
theorem dX11_startRow_58 : decode cX11_startRow 58 = .ok (.iload 4, 2) := by decide +kernel
theorem dX11_startRow_60 : decode cX11_startRow 60 = .ok (.invokevirtual 292, 3) := by decide +kernel
theorem dX11_startRow_63 : decode cX11_startRow 63 = .ok (.iinc 4 (-1), 3) := by decide +kernel
theorem dX11_startRow_66 : decode cX11_startRow 66 = .ok (.goto (-37), 3) := by decide +kernel
theorem dX11_startRow_69 : decode cX11_startRow 69 = .ok (.iinc 3 1, 3) := by decide +kernel
theorem dX11_startRow_72 : decode cX11_startRow 72 = .ok (.goto (-70), 3) := by decide +kernel
theorem dX11_startRow_75 : decode cX11_startRow 75 = .ok (.return_, 1) := by decide +kernel
theorem dX11_rowAsNumber_0 : decode cX11_rowAsNumber 0 = .ok (.iconst 0, 1) := by decide +kernel
theorem dX11_rowAsNumber_1 : decode cX11_rowAsNumber 1 = .ok (.istore_n 2, 1) := by decide +kernel
theorem dX11_rowAsNumber_2 : decode cX11_rowAsNumber 2 = .ok (.iconst 0, 1) := by decide +kernel
theorem dX11_rowAsNumber_3 : decode cX11_rowAsNumber 3 = .ok (.istore_n 3, 1) := by decide +kernel
theorem dX11_rowAsNumber_4 : decode cX11_rowAsNumber 4 = .ok (.iload_n 3, 1) := by decide +kernel
theorem dX11_rowAsNumber_5 : decode cX11_rowAsNumber 5 = .ok (.iload_n 1, 1) := by decide +kernel
theorem dX11_rowAsNumber_6 : decode cX11_rowAsNumber 6 = .ok (.if_icmp .ge 23, 3) := by decide +kernel
theorem dX11_rowAsNumber_9 : decode cX11_rowAsNumber 9 = .ok (.iload_n 2, 1) := by decide +kernel
theorem dX11_rowAsNumber_10 : decode cX11_rowAsNumber 10 = .ok (.bipush 10, 2) := by decide +kernel
theorem dX11_rowAsNumber_12 : decode cX11_rowAsNumber 12 = .ok (.imul, 1) := by decide +kernel
theorem dX11_rowAsNumber_13 : decode cX11_rowAsNumber 13 = .ok (.aload_n 0, 1) := by decide +kernel
theorem dX11_rowAsNumber_14 : decode cX11_rowAsNumber 14 = .ok (.getfield 50, 3) := by decide +kernel
theorem dX11_rowAsNumber_17 : decode cX11_rowAsNumber 17 = .ok (.iload_n 3, 1) := by decide +kernel
theorem dX11_rowAsNumber_18 : decode cX11_rowAsNumber 18 = .ok (.iaload, 1) := by decide +kernel
theorem dX11_rowAsNumber_19 : decode cX11_rowAsNumber 19 = .ok (.iadd, 1) := by decide +kernel
theorem dX11_rowAsNumber_20 : decode cX11_rowAsNumber 20 = .ok (.iconst 1, 1) := by decide +kernel
theorem dX11_rowAsNumber_21 : decode cX11_rowAsNumber 21 = .ok (.iadd, 1) := by decide +kernel
theorem dX11_rowAsNumber_22 : decode cX11_rowAsNumber 22 = .ok (.istore_n 2, 1) := by decide +kernel
theorem dX11_rowAsNumber_23 : decode cX11_rowAsNumber 23 = .ok (.iinc 3 1, 3) := by decide +kernel
theorem dX11_rowAsNumber_26 : decode cX11_rowAsNumber 26 = .ok (.goto (-22), 3) := by decide +kernel
theorem dX11_rowAsNumber_29 : decode cX11_rowAsNumber 29 = .ok (.iload_n 2, 1) := by decide +kernel
theorem dX11_rowAsNumber_30 : decode cX11_rowAsNumber 30 = .ok (.ireturn, 1) := by decide +kernel
theorem dX11_nextRow_0 : decode cX11_nextRow 0 = .ok (.iload_n 1, 1) := by decide +kernel
theorem dX11_nextRow_1 : decode cX11_nextRow 1 = .ok (.iconst 2, 1) := by decide +kernel
theorem dX11_nextRow_2 : decode cX11_nextRow 2 = .ok (.isub, 1) := by decide +kernel
theorem dX11_nextRow_3 : decode cX11_nextRow 3 = .ok (.istore_n 2, 1) := by decide +kernel
theorem dX11_nextRow_4 : decode cX11_nextRow 4 = .ok (.iload_n 2, 1) := by decide +kernel
theorem dX11_nextRow_5 : decode cX11_nextRow 5 = .ok (.ifCond .lt 26, 3) := by decide +kernel
theorem dX11_nextRow_8 : decode cX11_nextRow 8 = .ok (.aload_n 0, 1) := by decide +kernel
theorem dX11_nextRow_9 : decode cX11_nextRow 9 = .ok (.getfield 50, 3) := by decide +kernel
theorem dX11_nextRow_12 : decode cX11_nextRow 12 = .ok (.iload_n 2, 1) := by decide +kernel
theorem dX11_nextRow_13 : decode cX11_nextRow 13 = .ok (.iaload, 1) := by decide +kernel
theorem dX11_nextRow_14 : decode cX11_nextRow 14 = .ok (.aload_n 0, 1) := by decide +kernel
theorem dX11_nextRow_15 : decode cX11_nextRow 15 = .ok (.getfield 50, 3) := by decide +kernel
theorem dX11_nextRow_18 : decode cX11_nextRow 18 = .ok (.iload_n 2, 1) := by decide +kernel
theorem dX11_nextRow_19 : decode cX11_nextRow 19 = .ok (.iconst 1, 1) := by decide +kernel
theorem dX11_nextRow_20 : decode cX11_nextRow 20 = .ok (.iadd, 1) := by decide +kernel
theorem dX11_nextRow_21 : decode cX11_nextRow 21 = .ok (.iaload, 1) := by decide +kernel
theorem dX11_nextRow_22 : decode cX11_nextRow 22 = .ok (.if_icmp .lt 9, 3) := by decide +kernel
theorem dX11_nextRow_25 : decode cX11_nextRow 25 = .ok (.iinc 2 (-1), 3) := by decide +kernel
theorem dX11_nextRow_28 : decode cX11_nextRow 28 = .ok (.goto (-24), 3) := by decide +kernel
theorem dX11_nextRow_31 : decode cX11_nextRow 31 = .ok (.iload_n 2, 1) := by decide +kernel
theorem dX11_nextRow_32 : decode cX11_nextRow 32 = .ok (.ifCond .ge 5, 3) := by decide +kernel
theorem dX11_nextRow_35 : decode cX11_nextRow 35 = .ok (.iconst 0, 1) := by decide +kernel
theorem dX11_nextRow_36 : decode cX11_nextRow 36 = .ok (.ireturn, 1) := by decide +kernel
theorem dX11_nextRow_37 : decode cX11_nextRow 37 = .ok (.iload_n 1, 1) := by decide +kernel
theorem dX11_nextRow_38 : decode cX11_nextRow 38 = .ok (.iconst 1, 1) := by decide +kernel
theorem dX11_nextRow_39 : decode cX11_nextRow 39 = .ok (.isub, 1) := by decide +kernel
theorem dX11_nextRow_40 : decode cX11_nextRow 40 = .ok (.istore_n 3, 1) := by decide +kernel
theorem dX11_nextRow_41 : decode cX11_nextRow 41 = .ok (.iload_n 3, 1) := by decide +kernel
theorem dX11_nextRow_42 : decode cX11_nextRow 42 = .ok (.iload_n 2, 1) := by decide +kernel
theorem dX11_nextRow_43 : decode cX11_nextRow 43 = .ok (.if_icmp .le 24, 3) := by decide +kernel
theorem dX11_nextRow_46 : decode cX11_nextRow 46 = .ok (.aload_n 0, 1) := by decide +kernel
theorem dX11_nextRow_47 : decode cX11_nextRow 47 = .ok (.getfield 50, 3) := by decide +kernel
theorem dX11_nextRow_50 : decode cX11_nextRow 50 = .ok (.iload_n 3, 1) := by decide +kernel
theorem dX11_nextRow_51 : decode cX11_nextRow 51 = .ok (.iaload, 1) := by decide +kernel
theorem dX11_nextRow_52 : decode cX11_nextRow 52 = .ok (.aload_n 0, 1) := by decide +kernel
theorem dX11_nextRow_53 : decode cX11_nextRow 53 = .ok (.getfield 50, 3) := by decide +kernel
theorem dX11_nextRow_56 : decode cX11_nextRow 56 = .ok (.iload_n 2, 1) := by decide +kernel
theorem dX11_nextRow_57 : decode cX11_nextRow 57 = .ok (.iaload, 1) := by decide +kernel
theorem dX11_nextRow_58 : decode cX11_nextRow 58 = .ok (.if_icmp .gt 9, 3) := by decide +kernel
theorem dX11_nextRow_61 : decode cX11_nextRow 61 = .ok (.iinc 3 (-1), 3) := by decide +kernel
theorem dX11_nextRow_64 : decode cX11_nextRow 64 = .ok (.goto (-23), 3) := by decide +kernel
theorem dX11_nextRow_67 : decode cX11_nextRow 67 = .ok (.aload_n 0, 1) := by decide +kernel
theorem dX11_nextRow_68 : decode cX11_nextRow 68 = .ok (.iload_n 2, 1) := by decide +kernel
theorem dX11_nextRow_69 : decode cX11_nextRow 69 = .ok (.iload_n 3, 1) := by decide +kernel
theorem dX11_nextRow_70 : decode cX11_nextRow 70 = .ok (.invokevirtual 292, 3) := by decide +kernel
theorem dX11_nextRow_73 : decode cX11_nextRow 73 = .ok (.iload_n 2, 1) := by decide +kernel
theorem dX11_nextRow_74 : decode cX11_nextRow 74 = .ok (.iconst 1, 1) := by decide +kernel
theorem dX11_nextRow_75 : decode cX11_nextRow 75 = .ok (.iadd, 1) := by decide +kernel
theorem dX11_nextRow_76 : decode cX11_nextRow 76 = .ok (.istore 4, 2) := by decide +kernel
theorem dX11_nextRow_78 : decode cX11_nextRow 78 = .ok (.iload_n 1, 1) := by decide +kernel
theorem dX11_nextRow_79 : decode cX11_nextRow 79 = .ok (.iconst 1, 1) := by decide +kernel
theorem dX11_nextRow_80 : decode cX11_nextRow 80 = .ok (.isub, 1) := by decide +kernel
theorem dX11_nextRow_81 : decode cX11_nextRow 81 = .ok (.istore 5, 2) := by decide +kernel
theorem dX11_nextRow_83 : decode cX11_nextRow 83 = .ok (.iload 4, 2) := by decide +kernel
theorem dX11_nextRow_85 : decode cX11_nextRow 85 = .ok (.iload 5, 2) := by decide +kernel
theorem dX11_nextRow_87 : decode cX11_nextRow 87 = .ok (.if_icmp .ge 20, 3) := by decide +kernel
theorem dX11_nextRow_90 : decode cX11_nextRow 90 = .ok (.aload_n 0, 1) := by decide +kernel
theorem dX11_nextRow_91 : decode cX11_nextRow 91 = .ok (.iload 4, 2) := by decide +kernel
theorem dX11_nextRow_93 : decode cX11_nextRow 93 = .ok (.iload 5, 2) := by decide +kernel
theorem dX11_nextRow_95 : decode cX11_nextRow 95 = .ok (.invokevirtual 292, 3) := by decide +kernel
theorem dX11_nextRow_98 : decode cX11_nextRow 98 = .ok (.iinc 4 1, 3) := by decide +kernel
theorem dX11_nextRow_101 : decode cX11_nextRow 101 = .ok (.iinc 5 (-1), 3) := by decide +kernel
theorem dX11_nextRow_104 : decode cX11_nextRow 104 = .ok (.goto (-21), 3) := by decide +kernel
theorem dX11_nextRow_107 : decode cX11_nextRow 107 = .ok (.iconst 1, 1) := by decide +kernel
theorem dX11_nextRow_108 : decode cX11_nextRow 108 = .ok (.ireturn, 1) := by decide +kernel
theorem dX11_swapInRow_0 : decode cX11_swapInRow 0 = .ok (.aload_n 0, 1) := by decide +kernel
theorem dX11_swapInRow_1 : decode cX11_swapInRow 1 = .ok (.getfield 50, 3) := by decide +kernel
theorem dX11_swapInRow_4 : decode cX11_swapInRow 4 = .ok (.iload_n 1, 1) := by decide +kernel
theorem dX11_swapInRow_5 : decode cX11_swapInRow 5 = .ok (.iaload, 1) := by decide +kernel
theorem dX11_swapInRow_6 : decode cX11_swapInRow 6 = .ok (.istore_n 3, 1) := by decide +kernel
theorem dX11_swapInRow_7 : decode cX11_swapInRow 7 = .ok (.aload_n 0, 1) := by decide +kernel
theorem dX11_swapInRow_8 : decode cX11_swapInRow 8 = .ok (.getfield 50, 3) := by decide +kernel
theorem dX11_swapInRow_11 : decode cX11_swapInRow 11 = .ok (.iload_n 1, 1) := by decide +kernel
theorem dX11_swapInRow_12 : decode cX11_swapInRow 12 = .ok (.aload_n 0, 1) := by decide +kernel
theorem dX11_swapInRow_13 : decode cX11_swapInRow 13 = .ok (.getfield 50, 3) := by decide +kernel
theorem dX11_swapInRow_16 : decode cX11_swapInRow 16 = .ok (.iload_n 2, 1) := by decide +kernel
theorem dX11_swapInRow_17 : decode cX11_swapInRow 17 = .ok (.iaload, 1) := by decide +kernel
theorem dX11_swapInRow_18 : decode cX11_swapInRow 18 = .ok (.iastore, 1) := by decide +kernel
theorem dX11_swapInRow_19 : decode cX11_swapInRow 19 = .ok (.aload_n 0, 1) := by decide +kernel
theorem dX11_swapInRow_20 : decode cX11_swapInRow 20 = .ok (.getfield 50, 3) := by decide +kernel
theorem dX11_swapInRow_23 : decode cX11_swapInRow 23 = .ok (.iload_n 2, 1) := by decide +kernel
theorem dX11_swapInRow_24 : decode cX11_swapInRow 24 = .ok (.iload_n 3, 1) := by decide +kernel
theorem dX11_swapInRow_25 : decode cX11_swapInRow 25 = .ok (.iastore, 1) := by decide +kernel
theorem dX11_swapInRow_26 : decode cX11_swapInRow 26 = .ok (.return_, 1) := by decide +kernel
theorem dX12_init_0 : decode cX12_init 0 = .ok (.aload_n 0, 1) := by decide +kernel
theorem dX12_init_1 : decode cX12_init 1 = .ok (.invokespecial 1, 3) := by decide +kernel
theorem dX12_init_4 : decode cX12_init 4 = .ok (.aload_n 0, 1) := by decide +kernel
theorem dX12_init_5 : decode cX12_init 5 = .ok (.bipush 96, 2) := by decide +kernel
theorem dX12_init_7 : decode cX12_init 7 = .ok (.newarray .int, 2) := by decide +kernel
theorem dX12_init_9 : decode cX12_init 9 = .ok (.putfield 9, 3) := by decide +kernel
theorem dX12_init_12 : decode cX12_init 12 = .ok (.aload_n 0, 1) := by decide +kernel
theorem dX12_init_13 : decode cX12_init 13 = .ok (.bipush 96, 2) := by decide +kernel
theorem dX12_init_15 : decode cX12_init 15 = .ok (.newarray .int, 2) := by decide +kernel
theorem dX12_init_17 : decode cX12_init 17 = .ok (.putfield 13, 3) := by decide +kernel
theorem dX12_init_20 : decode cX12_init 20 = .ok (.aload_n 0, 1) := by decide +kernel
theorem dX12_init_21 : decode cX12_init 21 = .ok (.bipush 96, 2) := by decide +kernel
theorem dX12_init_23 : decode cX12_init 23 = .ok (.newarray .int, 2) := by decide +kernel
theorem dX12_init_25 : decode cX12_init 25 = .ok (.putfield 16, 3) := by decide +kernel
theorem dX12_init_28 : decode cX12_init 28 = .ok (.aload_n 0, 1) := by decide +kernel
theorem dX12_init_29 : decode cX12_init 29 = .ok (.bipush 7, 2) := by decide +kernel
theorem dX12_init_31 : decode cX12_init 31 = .ok (.newarray .int, 2) := by decide +kernel
theorem dX12_init_33 : decode cX12_init 33 = .ok (.putfield 19, 3) := by decide +kernel
theorem dX12_init_36 : decode cX12_init 36 = .ok (.aload_n 0, 1) := by decide +kernel
theorem dX12_init_37 : decode cX12_init 37 = .ok (.iconst 5, 1) := by decide +kernel
theorem dX12_init_38 : decode cX12_init 38 = .ok (.newarray .int, 2) := by decide +kernel
theorem dX12_init_40 : decode cX12_init 40 = .ok (.putfield 22, 3) := by decide +kernel
theorem dX12_init_43 : decode cX12_init 43 = .ok (.aload_n 0, 1) := by decide +kernel
theorem dX12_init_44 : decode cX12_init 44 = .ok (.bipush 120, 2) := by decide +kernel
theorem dX12_init_46 : decode cX12_init 46 = .ok (.newarray .int, 2) := by decide +kernel
theorem dX12_init_48 : decode cX12_init 48 = .ok (.putfield 25, 3) := by decide +kernel
theorem dX12_init_51 : decode cX12_init 51 = .ok (.aload_n 0, 1) := by decide +kernel
theorem dX12_init_52 : decode cX12_init 52 = .ok (.bipush 48, 2) := by decide +kernel
theorem dX12_init_54 : decode cX12_init 54 = .ok (.newarray .char, 2) := by decide +kernel
theorem dX12_init_56 : decode cX12_init 56 = .ok (.dup, 1) := by decide +kernel
theorem dX12_init_57 : decode cX12_init 57 = .ok (.iconst 0, 1) := by decide +kernel
theorem dX12_init_58 : decode cX12_init 58 = .ok (.bipush 109, 2) := by decide +kernel
theorem dX12_init_60 : decode cX12_init 60 = .ok (.castore, 1) := by decide +kernel
theorem dX12_init_61 : decode cX12_init 61 = .ok (.dup, 1) := by decide +kernel
theorem dX12_init_62 : decode cX12_init 62 = .ok (.iconst 1, 1) := by decide +kernel
theorem dX12_init_63 : decode cX12_init 63 = .ok (.bipush 97, 2) := by decide +kernel
theorem dX12_init_65 : decode cX12_init 65 = .ok (.castore, 1) := by decide +kernel
theorem dX12_init_66 : decode cX12_init 66 = .ok (.dup, 1) := by decide +kernel
theorem dX12_init_67 : decode cX12_init 67 = .ok (.iconst 2, 1) := by decide +kernel
theorem dX12_init_68 : decode cX12_init 68 = .ok (.bipush 110, 2) := by decide +kernel
theorem dX12_init_70 : decode cX12_init 70 = .ok (.castore, 1) := by decide +kernel
theorem dX12_init_71 : decode cX12_init 71 = .ok (.dup, 1) := by decide +kernel
theorem dX12_init_72 : decode cX12_init 72 = .ok (.iconst 3, 1) := by decide +kernel
theorem dX12_init_73 : decode cX12_init 73 = .ok (.bipush 32, 2) := by decide +kernel
theorem dX12_init_75 : decode cX12_init 75 = .ok (.castore, 1) := by decide +kernel
theorem dX12_init_76 : decode cX12_init 76 = .ok (.dup, 1) := by decide +kernel
theorem dX12_init_77 : decode cX12_init 77 = .ok (.iconst 4, 1) := by decide +kernel
theorem dX12_init_78 : decode cX12_init 78 = .ok (.bipush 32, 2) := by decide +kernel
theorem dX12_init_80 : decode cX12_init 80 = .ok (.castore, 1) := by decide +kernel
theorem dX12_init_81 : decode cX12_init 81 = .ok (.dup, 1) := by decide +kernel
theorem dX12_init_82 : decode cX12_init 82 = .ok (.iconst 5, 1) := by decide +kernel
theorem dX12_init_83 : decode cX12_init 83 = .ok (.bipush 32, 2) := by decide +kernel
theorem dX12_init_85 : decode cX12_init 85 = .ok (.castore, 1) := by decide +kernel
theorem dX12_init_86 : decode cX12_init 86 = .ok (.dup, 1) := by decide +kernel
theorem dX12_init_87 : decode cX12_init 87 = .ok (.bipush 6, 2) := by decide +kernel
theorem dX12_init_89 : decode cX12_init 89 = .ok (.bipush 32, 2) := by decide +kernel
theorem dX12_init_91 : decode cX12_init 91 = .ok (.castore, 1) := by decide +kernel
theorem dX12_init_92 : decode cX12_init 92 = .ok (.dup, 1) := by decide +kernel
theorem dX12_init_93 : decode cX12_init 93 = .ok (.bipush 7, 2) := by decide +kernel
theorem dX12_init_95 : decode cX12_init 95 = .ok (.bipush 32, 2) := by decide +kernel
theorem dX12_init_97 : decode cX12_init 97 = .ok (.castore, 1) := by decide +kernel
theorem dX12_init_98 : decode cX12_init 98 = .ok (.dup, 1) := by decide +kernel
theorem dX12_init_99 : decode cX12_init 99 = .ok (.bipush 8, 2) := by decide +kernel
theorem dX12_init_101 : decode cX12_init 101 = .ok (.bipush 97, 2) := by decide +kernel
theorem dX12_init_103 : decode cX12_init 103 = .ok (.castore, 1) := by decide +kernel
theorem dX12_init_104 : decode cX12_init 104 = .ok (.dup, 1) := by decide +kernel
theorem dX12_init_105 : decode cX12_init 105 = .ok (.bipush 9, 2) := by decide +kernel
theorem dX12_init_107 : decode cX12_init 107 = .ok (.bipush 117, 2) := by decide +kernel
theorem dX12_init_109 : decode cX12_init 109 = .ok (.castore, 1) := by decide +kernel
theorem dX12_init_110 : decode cX12_init 110 = .ok (.dup, 1) := by decide +kernel
theorem dX12_init_111 : decode cX12_init 111 = .ok (.bipush 10, 2) := by decide +kernel
theorem dX12_init_113 : decode cX12_init 113 = .ok (.bipush 110, 2) := by decide +kernel
theorem dX12_init_115 : decode cX12_init 115 = .ok (.castore, 1) := by decide +kernel
theorem dX12_init_116 : decode cX12_init 116 = .ok (.dup, 1) := by decide +kernel
theorem dX12_init_117 : decode cX12_init 117 = .ok (.bipush 11, 2) := by decide +kernel
theorem dX12_init_119 : decode cX12_init 119 = .ok (.bipush 116, 2) := by decide +kernel
theorem dX12_init_121 : decode cX12_init 121 = .ok (.castore, 1) := by decide +kernel
theorem dX12_init_122 : decode cX12_init 122 = .ok (.dup, 1) := by decide +kernel
theorem dX12_init_123 : decode cX12_init 123 = .ok (.bipush 12, 2) := by decide +kernel
theorem dX12_init_125 : decode cX12_init 125 = .ok (.bipush 32, 2) := by decide +kernel
theorem dX12_init_127 : decode cX12_init 127 = .ok (.castore, 1) := by decide +kernel
theorem dX12_init_128 : decode cX12_init 128 = .ok (.dup, 1) := by decide +kernel
theorem dX12_init_129 : decode cX12_init 129 = .ok (.bipush 13, 2) := by decide +kernel
theorem dX12_init_131 : decode cX12_init 131 = .ok (.bipush 32, 2) := by decide +kernel
theorem dX12_init_133 : decode cX12_init 133 = .ok (.castore, 1) := by decide +kernel
theorem dX12_init_134 : decode cX12_init 134 = .ok (.dup, 1) := by decide +kernel
theorem dX12_init_135 : decode cX12_init 135 = .ok (.bipush 14, 2) := by decide +kernel
theorem dX12_init_137 : decode cX12_init 137 = .ok (.bipush 32, 2) := by decide +kernel
theorem dX12_init_139 : decode cX12_init 139 = .ok (.castore, 1) := by decide +kernel
theorem dX12_init_140 : decode cX12_init 140 = .ok (.dup, 1) := by decide +kernel
theorem dX12_init_141 : decode cX12_init 141 = .ok (.bipush 15, 2) := by decide +kernel
theorem dX12_init_143 : decode cX12_init 143 = .ok (.bipush 32, 2) := by decide +kernel
theorem dX12_init_145 : decode cX12_init 145 = .ok (.castore, 1) := by decide +kernel
theorem dX12_init_146 : decode cX12_init 146 = .ok (.dup, 1) := by decide +kernel
theorem dX12_init_147 : decode cX12_init 147 = .ok (.bipush 16, 2) := by decide +kernel
theorem dX12_init_149 : decode cX12_init 149 = .ok (.bipush 99, 2) := by decide +kernel
theorem dX12_init_151 : decode cX12_init 151 = .ok (.castore, 1) := by decide +kernel
theorem dX12_init_152 : decode cX12_init 152 = .ok (.dup, 1) := by decide +kernel
theorem dX12_init_153 : decode cX12_init 153 = .ok (.bipush 17, 2) := by decide +kernel
theorem dX12_init_155 : decode cX12_init 155 = .ok (.bipush 104, 2) := by decide +kernel
theorem dX12_init_157 : decode cX12_init 157 = .ok (.castore, 1) := by decide +kernel
theorem dX12_init_158 : decode cX12_init 158 = .ok (.dup, 1) := by decide +kernel
theorem dX12_init_159 : decode cX12_init 159 = .ok (.bipush 18, 2) := by decide +kernel
theorem dX12_init_161 : decode cX12_init 161 = .ok (.bipush 105, 2) := by decide +kernel
theorem dX12_init_163 : decode cX12_init 163 = .ok (.castore, 1) := by decide +kernel
theorem dX12_init_164 : decode cX12_init 164 = .ok (.dup, 1) := by decide +kernel
theorem dX12_init_165 : decode cX12_init 165 = .ok (.bipush 19, 2) := by decide +kernel
theorem dX12_init_167 : decode cX12_init 167 = .ok (.bipush 108, 2) := by decide +kernel
theorem dX12_init_169 : decode cX12_init 169 = .ok (.castore, 1) := by decide +kernel
theorem dX12_init_170 : decode cX12_init 170 = .ok (.dup, 1) := by decide +kernel
theorem dX12_init_171 : decode cX12_init 171 = .ok (.bipush 20, 2) := by decide +kernel
theorem dX12_init_173 : decode cX12_init 173 = .ok (.bipush 100, 2) := by decide +kernel
theorem dX12_init_175 : decode cX12_init 175 = .ok (.castore, 1) := by decide +kernel
theorem dX12_init_176 : decode cX12_init 176 = .ok (.dup, 1) := by decide +kernel
theorem dX12_init_177 : decode cX12_init 177 = .ok (.bipush 21, 2) := by decide +kernel
theorem dX12_init_179 : decode cX12_init 179 = .ok (.bipush 32, 2) := by decide +kernel
theorem dX12_init_181 : decode cX12_init 181 = .ok (.castore, 1) := by decide +kernel
theorem dX12_init_182 : decode cX12_init 182 = .ok (.dup, 1) := by decide +kernel
theorem dX12_init_183 : decode cX12_init 183 = .ok (.bipush 22, 2) := by decide +kernel
theorem dX12_init_185 : decode cX12_init 185 = .ok (.bipush 32, 2) := by decide +kernel
theorem dX12_init_187 : decode cX12_init 187 = .ok (.castore, 1) := by decide +kernel
theorem dX12_init_188 : decode cX12_init 188 = .ok (.dup, 1) := by decide +kernel
theorem dX12_init_189 : decode cX12_init 189 = .ok (.bipush 23, 2) := by decide +kernel
theorem dX12_init_191 : decode cX12_init 191 = .ok (.bipush 32, 2) := by decide +kernel
theorem dX12_init_193 : decode cX12_init 193 = .ok (.castore, 1) := by decide +kernel
theorem dX12_init_194 : decode cX12_init 194 = .ok (.dup, 1) := by decide +kernel
theorem dX12_init_195 : decode cX12_init 195 = .ok (.bipush 24, 2) := by decide +kernel
theorem dX12_init_197 : decode cX12_init 197 = .ok (.bipush 112, 2) := by decide +kernel
theorem dX12_init_199 : decode cX12_init 199 = .ok (.castore, 1) := by decide +kernel
theorem dX12_init_200 : decode cX12_init 200 = .ok (.dup, 1) := by decide +kernel
theorem dX12_init_201 : decode cX12_init 201 = .ok (.bipush 25, 2) := by decide +kernel
theorem dX12_init_203 : decode cX12_init 203 = .ok (.bipush 111, 2) := by decide +kernel
theorem dX12_init_205 : decode cX12_init 205 = .ok (.castore, 1) := by decide +kernel
theorem dX12_init_206 : decode cX12_init 206 = .ok (.dup, 1) := by decide +kernel
theorem dX12_init_207 : decode cX12_init 207 = .ok (.bipush 26, 2) := by decide +kernel
theorem dX12_init_209 : decode cX12_init 209 = .ok (.bipush 111, 2) := by decide +kernel
theorem dX12_init_211 : decode cX12_init 211 = .ok (.castore, 1) := by decide +kernel
theorem dX12_init_212 : decode cX12_init 212 = .ok (.dup, 1) := by decide +kernel
theorem dX12_init_213 : decode cX12_init 213 = .ok (.bipush 27, 2) := by decide +kernel
theorem dX12_init_215 : decode cX12_init 215 = .ok (.bipush 114, 2) := by decide +kernel
theorem dX12_init_217 : decode cX12_init 217 = .ok (.castore, 1) := by decide +kernel
theorem dX12_init_218 : decode cX12_init 218 = .ok (.dup, 1) := by decide +kernel
theorem dX12_init_219 : decode cX12_init 219 = .ok (.bipush 28, 2) := by decide +kernel
theorem dX12_init_221 : decode cX12_init 221 = .ok (.bipush 32, 2) := by decide +kernel
theorem dX12_init_223 : decode cX12_init 223 = .ok (.castore, 1) := by decide +kernel
theorem dX12_init_224 : decode cX12_init 224 = .ok (.dup, 1) := by decide +kernel
theorem dX12_init_225 : decode cX12_init 225 = .ok (.bipush 29, 2) := by decide +kernel
theorem dX12_init_227 : decode cX12_init 227 = .ok (.bipush 32, 2) := by decide +kernel
theorem dX12_init_229 : decode cX12_init 229 = .ok (.castore, 1) := by decide +kernel
theorem dX12_init_230 : decode cX12_init 230 = .ok (.dup, 1) := by decide +kernel
theorem dX12_init_231 : decode cX12_init 231 = .ok (.bipush 30, 2) := by decide +kernel
theorem dX12_init_233 : decode cX12_init 233 = .ok (.bipush 32, 2) := by decide +kernel
theorem dX12_init_235 : decode cX12_init 235 = .ok (.castore, 1) := by decide +kernel
theorem dX12_init_236 : decode cX12_init 236 = .ok (.dup, 1) := by decide +kernel
theorem dX12_init_237 : decode cX12_init 237 = .ok (.bipush 31, 2) := by decide +kernel
theorem dX12_init_239 : decode cX12_init 239 = .ok (.bipush 32, 2) := by decide +kernel
theorem dX12_init_241 : decode cX12_init 241 = .ok (.castore, 1) := by decide +kernel
theorem dX12_init_242 : decode cX12_init 242 = .ok (.dup, 1) := by decide +kernel
theorem dX12_init_243 : decode cX12_init 243 = .ok (.bipush 32, 2) := by decide +kernel
theorem dX12_init_245 : decode cX12_init 245 = .ok (.bipush 103, 2) := by decide +kernel
theorem dX12_init_247 : decode cX12_init 247 = .ok (.castore, 1) := by decide +kernel
theorem dX12_init_248 : decode cX12_init 248 = .ok (.dup, 1) := by decide +kernel
theorem dX12_init_249 : decode cX12_init 249 = .ok (.bipush 33, 2) := by decide +kernel
theorem dX12_init_251 : decode cX12_init 251 = .ok (.bipush 105, 2) := by decide +kernel
theorem dX12_init_253 : decode cX12_init 253 = .ok (.castore, 1) := by decide +kernel
theorem dX12_init_254 : decode cX12_init 254 = .ok (.dup, 1) := by decide +kernel
theorem dX12_init_255 : decode cX12_init 255 = .ok (.bipush 34, 2) := by decide +kernel
theorem dX12_init_257 : decode cX12_init 257 = .ok (.bipush 114, 2) := by decide +kernel
theorem dX12_init_259 : decode cX12_init 259 = .ok (.castore, 1) := by decide +kernel
theorem dX12_init_260 : decode cX12_init 260 = .ok (.dup, 1) := by decide +kernel
theorem dX12_init_261 : decode cX12_init 261 = .ok (.bipush 35, 2) := by decide +kernel
theorem dX12_init_263 : decode cX12_init 263 = .ok (.bipush 108, 2) := by decide +kernel
theorem dX12_init_265 : decode cX12_init 265 = .ok (.castore, 1) := by decide +kernel
theorem dX12_init_266 : decode cX12_init 266 = .ok (.dup, 1) := by decide +kernel
theorem dX12_init_267 : decode cX12_init 267 = .ok (.bipush 36, 2) := by decide +kernel
theorem dX12_init_269 : decode cX12_init 269 = .ok (.bipush 32, 2) := by decide +kernel
theorem dX12_init_271 : decode cX12_init 271 = .ok (.castore, 1) := by decide +kernel
theorem dX12_init_272 : decode cX12_init 272 = .ok (.dup, 1) := by decide +kernel
theorem dX12_init_273 : decode cX12_init 273 = .ok (.bipush 37, 2) := by decide +kernel
theorem dX12_init_275 : decode cX12_init 275 = .ok (.bipush 32, 2) := by decide +kernel
theorem dX12_init_277 : decode cX12_init 277 = .ok (.castore, 1) := by decide +kernel
theorem dX12_init_278 : decode cX12_init 278 = .ok (.dup, 1) := by decide +kernel
theorem dX12_init_279 : decode cX12_init 279 = .ok (.bipush 38, 2) := by decide +kernel
theorem dX12_init_281 : decode cX12_init 281 = .ok (.bipush 32, 2) := by decide +kernel
theorem dX12_init_283 : decode cX12_init 283 = .ok (.castore, 1) := by decide +kernel
theorem dX12_init_284 : decode cX12_init 284 = .ok (.dup, 1) := by decide +kernel
theorem dX12_init_285 : decode cX12_init 285 = .ok (.bipush 39, 2) := by decide +kernel
theorem dX12_init_287 : decode cX12_init 287 = .ok (.bipush 32, 2) := by decide +kernel
theorem dX12_init_289 : decode cX12_init 289 = .ok (.castore, 1) := by decide +kernel
theorem dX12_init_290 : decode cX12_init 290 = .ok (.dup, 1) := by decide +kernel
theorem dX12_init_291 : decode cX12_init 291 = .ok (.bipush 40, 2) := by decide +kernel
theorem dX12_init_293 : decode cX12_init 293 = .ok (.bipush 99, 2) := by decide +kernel
theorem dX12_init_295 : decode cX12_init 295 = .ok (.castore, 1) := by decide +kernel
theorem dX12_init_296 : decode cX12_init 296 = .ok (.dup, 1) := by decide +kernel
theorem dX12_init_297 : decode cX12_init 297 = .ok (.bipush 41, 2) := by decide +kernel
theorem dX12_init_299 : decode cX12_init 299 = .ok (.bipush 108, 2) := by decide +kernel
theorem dX12_init_301 : decode cX12_init 301 = .ok (.castore, 1) := by decide +kernel
theorem dX12_init_302 : decode cX12_init 302 = .ok (.dup, 1) := by decide +kernel
theorem dX12_init_303 : decode cX12_init 303 = .ok (.bipush 42, 2) := by decide +kernel
theorem dX12_init_305 : decode cX12_init 305 = .ok (.bipush 101, 2) := by decide +kernel
theorem dX12_init_307 : decode cX12_init 307 = .ok (.castore, 1) := by decide +kernel
theorem dX12_init_308 : decode cX12_init 308 = .ok (.dup, 1) := by decide +kernel
theorem dX12_init_309 : decode cX12_init 309 = .ok (.bipush 43, 2) := by decide +kernel
theorem dX12_init_311 : decode cX12_init 311 = .ok (.bipush 114, 2) := by decide +kernel
theorem dX12_init_313 : decode cX12_init 313 = .ok (.castore, 1) := by decide +kernel
theorem dX12_init_314 : decode cX12_init 314 = .ok (.dup, 1) := by decide +kernel
theorem dX12_init_315 : decode cX12_init 315 = .ok (.bipush 44, 2) := by decide +kernel
theorem dX12_init_317 : decode cX12_init 317 = .ok (.bipush 107, 2) := by decide +kernel
theorem dX12_init_319 : decode cX12_init 319 = .ok (.castore, 1) := by decide +kernel
theorem dX12_init_320 : decode cX12_init 320 = .ok (.dup, 1) := by decide +kernel
theorem dX12_init_321 : decode cX12_init 321 = .ok (.bipush 45, 2) := by decide +kernel
theorem dX12_init_323 : decode cX12_init 323 = .ok (.bipush 32, 2) := by decide +kernel
theorem dX12_init_325 : decode cX12_init 325 = .ok (.castore, 1) := by decide +kernel
theorem dX12_init_326 : decode cX12_init 326 = .ok (.dup, 1) := by decide +kernel
theorem dX12_init_327 : decode cX12_init 327 = .ok (.bipush 46, 2) := by decide +kernel
theorem dX12_init_329 : decode cX12_init 329 = .ok (.bipush 32, 2) := by decide +kernel
theorem dX12_init_331 : decode cX12_init 331 = .ok (.castore, 1) := by decide +kernel
theorem dX12_init_332 : decode cX12_init 332 = .ok (.dup, 1) := by decide +kernel
theorem dX12_init_333 : decode cX12_init 333 = .ok (.bipush 47, 2) := by decide +kernel
theorem dX12_init_335 : decode cX12_init 335 = .ok (.bipush 32, 2) := by decide +kernel
theorem dX12_init_337 : decode cX12_init 337 = .ok (.castore, 1) := by decide +kernel
theorem dX12_init_338 : decode cX12_init 338 = .ok (.putfield 28, 3) := by decide +kernel
theorem dX12_init_341 : decode cX12_init 341 = .ok (.aload_n 0, 1) := by decide +kernel
theorem dX12_init_342 : decode cX12_init 342 = .ok (.bipush 16, 2) := by decide +kernel
theorem dX12_init_344 : decode cX12_init 344 = .ok (.newarray .char, 2) := by decide +kernel
theorem dX12_init_346 : decode cX12_init 346 = .ok (.dup, 1) := by decide +kernel
theorem dX12_init_347 : decode cX12_init 347 = .ok (.iconst 0, 1) := by decide +kernel
theorem dX12_init_348 : decode cX12_init 348 = .ok (.bipush 112, 2) := by decide +kernel
theorem dX12_init_350 : decode cX12_init 350 = .ok (.castore, 1) := by decide +kernel
theorem dX12_init_351 : decode cX12_init 351 = .ok (.dup, 1) := by decide +kernel
theorem dX12_init_352 : decode cX12_init 352 = .ok (.iconst 1, 1) := by decide +kernel
theorem dX12_init_353 : decode cX12_init 353 = .ok (.bipush 114, 2) := by decide +kernel
theorem dX12_init_355 : decode cX12_init 355 = .ok (.castore, 1) := by decide +kernel
theorem dX12_init_356 : decode cX12_init 356 = .ok (.dup, 1) := by decide +kernel
theorem dX12_init_357 : decode cX12_init 357 = .ok (.iconst 2, 1) := by decide +kernel
theorem dX12_init_358 : decode cX12_init 358 = .ok (.bipush 101, 2) := by decide +kernel
theorem dX12_init_360 : decode cX12_init 360 = .ok (.castore, 1) := by decide +kernel
theorem dX12_init_361 : decode cX12_init 361 = .ok (.dup, 1) := by decide +kernel
theorem dX12_init_362 : decode cX12_init 362 = .ok (.iconst 3, 1) := by decide +kernel
theorem dX12_init_363 : decode cX12_init 363 = .ok (.bipush 115, 2) := by decide +kernel
theorem dX12_init_365 : decode cX12_init 365 = .ok (.castore, 1) := by decide +kernel
theorem dX12_init_366 : decode cX12_init 366 = .ok (.dup, 1) := by decide +kernel
theorem dX12_init_367 : decode cX12_init 367 = .ok (.iconst 4, 1) := by decide +kernel
theorem dX12_init_368 : decode cX12_init 368 = .ok (.bipush 101, 2) := by decide +kernel
theorem dX12_init_370 : decode cX12_init 370 = .ok (.castore, 1) := by decide +kernel
theorem dX12_init_371 : decode cX12_init 371 = .ok (.dup, 1) := by decide +kernel
theorem dX12_init_372 : decode cX12_init 372 = .ok (.iconst 5, 1) := by decide +kernel
theorem dX12_init_373 : decode cX12_init 373 = .ok (.bipush 110, 2) := by decide +kernel
theorem dX12_init_375 : decode cX12_init 375 = .ok (.castore, 1) := by decide +kernel
theorem dX12_init_376 : decode cX12_init 376 = .ok (.dup, 1) := by decide +kernel
theorem dX12_init_377 : decode cX12_init 377 = .ok (.bipush 6, 2) := by decide +kernel
theorem dX12_init_379 : decode cX12_init 379 = .ok (.bipush 116, 2) := by decide +kernel
theorem dX12_init_381 : decode cX12_init 381 = .ok (.castore, 1) := by decide +kernel
theorem dX12_init_382 : decode cX12_init 382 = .ok (.dup, 1) := by decide +kernel
theorem dX12_init_383 : decode cX12_init 383 = .ok (.bipush 7, 2) := by decide +kernel
theorem dX12_init_385 : decode cX12_init 385 = .ok (.bipush 32, 2) := by decide +kernel
theorem dX12_init_387 : decode cX12_init 387 = .ok (.castore, 1) := by decide +kernel
theorem dX12_init_388 : decode cX12_init 388 = .ok (.dup, 1) := by decide +kernel
theorem dX12_init_389 : decode cX12_init 389 = .ok (.bipush 8, 2) := by decide +kernel
theorem dX12_init_391 : decode cX12_init 391 = .ok (.bipush 116, 2) := by decide +kernel
theorem dX12_init_393 : decode cX12_init 393 = .ok (.castore, 1) := by decide +kernel
theorem dX12_init_394 : decode cX12_init 394 = .ok (.dup, 1) := by decide +kernel
theorem dX12_init_395 : decode cX12_init 395 = .ok (.bipush 9, 2) := by decide +kernel
theorem dX12_init_397 : decode cX12_init 397 = .ok (.bipush 104, 2) := by decide +kernel
theorem dX12_init_399 : decode cX12_init 399 = .ok (.castore, 1) := by decide +kernel
theorem dX12_init_400 : decode cX12_init 400 = .ok (.dup, 1) := by decide +kernel
theorem dX12_init_401 : decode cX12_init 401 = .ok (.bipush 10, 2) := by decide +kernel
theorem dX12_init_403 : decode cX12_init 403 = .ok (.bipush 105, 2) := by decide +kernel
theorem dX12_init_405 : decode cX12_init 405 = .ok (.castore, 1) := by decide +kernel
theorem dX12_init_406 : decode cX12_init 406 = .ok (.dup, 1) := by decide +kernel
theorem dX12_init_407 : decode cX12_init 407 = .ok (.bipush 11, 2) := by decide +kernel
theorem dX12_init_409 : decode cX12_init 409 = .ok (.bipush 110, 2) := by decide +kernel
theorem dX12_init_411 : decode cX12_init 411 = .ok (.castore, 1) := by decide +kernel
theorem dX12_init_412 : decode cX12_init 412 = .ok (.dup, 1) := by decide +kernel
theorem dX12_init_413 : decode cX12_init 413 = .ok (.bipush 12, 2) := by decide +kernel
theorem dX12_init_415 : decode cX12_init 415 = .ok (.bipush 103, 2) := by decide +kernel
theorem dX12_init_417 : decode cX12_init 417 = .ok (.castore, 1) := by decide +kernel
theorem dX12_init_418 : decode cX12_init 418 = .ok (.dup, 1) := by decide +kernel
theorem dX12_init_419 : decode cX12_init 419 = .ok (.bipush 13, 2) := by decide +kernel
theorem dX12_init_421 : decode cX12_init 421 = .ok (.bipush 32, 2) := by decide +kernel
theorem dX12_init_423 : decode cX12_init 423 = .ok (.castore, 1) := by decide +kernel
theorem dX12_init_424 : decode cX12_init 424 = .ok (.dup, 1) := by decide +kernel
theorem dX12_init_425 : decode cX12_init 425 = .ok (.bipush 14, 2) := by decide +kernel
theorem dX12_init_427 : decode cX12_init 427 = .ok (.bipush 32, 2) := by decide +kernel
theorem dX12_init_429 : decode cX12_init 429 = .ok (.castore, 1) := by decide +kernel
theorem dX12_init_430 : decode cX12_init 430 = .ok (.dup, 1) := by decide +kernel
theorem dX12_init_431 : decode cX12_init 431 = .ok (.bipush 15, 2) := by decide +kernel
theorem dX12_init_433 : decode cX12_init 433 = .ok (.bipush 32, 2) := by decide +kernel
theorem dX12_init_435 : decode cX12_init 435 = .ok (.castore, 1) := by decide +kernel
theorem dX12_init_436 : decode cX12_init 436 = .ok (.putfield 32, 3) := by decide +kernel
theorem dX12_init_439 : decode cX12_init 439 = .ok (.aload_n 0, 1) := by decide +kernel
theorem dX12_init_440 : decode cX12_init 440 = .ok (.bipush 32, 2) := by decide +kernel
theorem dX12_init_442 : decode cX12_init 442 = .ok (.newarray .char, 2) := by decide +kernel
theorem dX12_init_444 : decode cX12_init 444 = .ok (.dup, 1) := by decide +kernel
theorem dX12_init_445 : decode cX12_init 445 = .ok (.iconst 0, 1) := by decide +kernel
theorem dX12_init_446 : decode cX12_init 446 = .ok (.bipush 110, 2) := by decide +kernel
theorem dX12_init_448 : decode cX12_init 448 = .ok (.castore, 1) := by decide +kernel
theorem dX12_init_449 : decode cX12_init 449 = .ok (.dup, 1) := by decide +kernel
theorem dX12_init_450 : decode cX12_init 450 = .ok (.iconst 1, 1) := by decide +kernel
theorem dX12_init_451 : decode cX12_init 451 = .ok (.bipush 101, 2) := by decide +kernel
theorem dX12_init_453 : decode cX12_init 453 = .ok (.castore, 1) := by decide +kernel
theorem dX12_init_454 : decode cX12_init 454 = .ok (.dup, 1) := by decide +kernel
theorem dX12_init_455 : decode cX12_init 455 = .ok (.iconst 2, 1) := by decide +kernel
theorem dX12_init_456 : decode cX12_init 456 = .ok (.bipush 119, 2) := by decide +kernel
theorem dX12_init_458 : decode cX12_init 458 = .ok (.castore, 1) := by decide +kernel
theorem dX12_init_459 : decode cX12_init 459 = .ok (.dup, 1) := by decide +kernel
theorem dX12_init_460 : decode cX12_init 460 = .ok (.iconst 3, 1) := by decide +kernel
theorem dX12_init_461 : decode cX12_init 461 = .ok (.bipush 115, 2) := by decide +kernel
theorem dX12_init_463 : decode cX12_init 463 = .ok (.castore, 1) := by decide +kernel
theorem dX12_init_464 : decode cX12_init 464 = .ok (.dup, 1) := by decide +kernel
theorem dX12_init_465 : decode cX12_init 465 = .ok (.iconst 4, 1) := by decide +kernel
theorem dX12_init_466 : decode cX12_init 466 = .ok (.bipush 32, 2) := by decide +kernel
theorem dX12_init_468 : decode cX12_init 468 = .ok (.castore, 1) := by decide +kernel
theorem dX12_init_469 : decode cX12_init 469 = .ok (.dup, 1) := by decide +kernel
theorem dX12_init_470 : decode cX12_init 470 = .ok (.iconst 5, 1) := by decide +kernel
theorem dX12_init_471 : decode cX12_init 471 = .ok (.bipush 32, 2) := by decide +kernel
theorem dX12_init_473 : decode cX12_init 473 = .ok (.castore, 1) := by decide +kernel
theorem dX12_init_474 : decode cX12_init 474 = .ok (.dup, 1) := by decide +kernel
theorem dX12_init_475 : decode cX12_init 475 = .ok (.bipush 6, 2) := by decide +kernel
theorem dX12_init_477 : decode cX12_init 477 = .ok (.bipush 32, 2) := by decide +kernel
theorem dX12_init_479 : decode cX12_init 479 = .ok (.castore, 1) := by decide +kernel
theorem dX12_init_480 : decode cX12_init 480 = .ok (.dup, 1) := by decide +kernel
theorem dX12_init_481 : decode cX12_init 481 = .ok (.bipush 7, 2) := by decide +kernel
theorem dX12_init_483 : decode cX12_init 483 = .ok (.bipush 32, 2) := by decide +kernel
theorem dX12_init_485 : decode cX12_init 485 = .ok (.castore, 1) := by decide +kernel
theorem dX12_init_486 : decode cX12_init 486 = .ok (.dup, 1) := by decide +kernel
theorem dX12_init_487 : decode cX12_init 487 = .ok (.bipush 8, 2) := by decide +kernel
theorem dX12_init_489 : decode cX12_init 489 = .ok (.bipush 98, 2) := by decide +kernel
theorem dX12_init_491 : decode cX12_init 491 = .ok (.castore, 1) := by decide +kernel
theorem dX12_init_492 : decode cX12_init 492 = .ok (.dup, 1) := by decide +kernel
theorem dX12_init_493 : decode cX12_init 493 = .ok (.bipush 9, 2) := by decide +kernel
theorem dX12_init_495 : decode cX12_init 495 = .ok (.bipush 114, 2) := by decide +kernel
theorem dX12_init_497 : decode cX12_init 497 = .ok (.castore, 1) := by decide +kernel
theorem dX12_init_498 : decode cX12_init 498 = .ok (.dup, 1) := by decide +kernel
theorem dX12_init_499 : decode cX12_init 499 = .ok (.bipush 10, 2) := by decide +kernel
theorem dX12_init_501 : decode cX12_init 501 = .ok (.bipush 111, 2) := by decide +kernel
theorem dX12_init_503 : decode cX12_init 503 = .ok (.castore, 1) := by decide +kernel
theorem dX12_init_504 : decode cX12_init 504 = .ok (.dup, 1) := by decide +kernel
theorem dX12_init_505 : decode cX12_init 505 = .ok (.bipush 11, 2) := by decide +kernel
theorem dX12_init_507 : decode cX12_init 507 = .ok (.bipush 119, 2) := by decide +kernel
theorem dX12_init_509 : decode cX12_init 509 = .ok (.castore, 1) := by decide +kernel
theorem dX12_init_510 : decode cX12_init 510 = .ok (.dup, 1) := by decide +kernel
theorem dX12_init_511 : decode cX12_init 511 = .ok (.bipush 12, 2) := by decide +kernel
theorem dX12_init_513 : decode cX12_init 513 = .ok (.bipush 110, 2) := by decide +kernel
theorem dX12_init_515 : decode cX12_init 515 = .ok (.castore, 1) := by decide +kernel
theorem dX12_init_516 : decode cX12_init 516 = .ok (.dup, 1) := by decide +kernel
theorem dX12_init_517 : decode cX12_init 517 = .ok (.bipush 13, 2) := by decide +kernel
theorem dX12_init_519 : decode cX12_init 519 = .ok (.bipush 32, 2) := by decide +kernel
theorem dX12_init_521 : decode cX12_init 521 = .ok (.castore, 1) := by decide +kernel
theorem dX12_init_522 : decode cX12_init 522 = .ok (.dup, 1) := by decide +kernel
theorem dX12_init_523 : decode cX12_init 523 = .ok (.bipush 14, 2) := by decide +kernel
theorem dX12_init_525 : decode cX12_init 525 = .ok (.bipush 32, 2) := by decide +kernel
theorem dX12_init_527 : decode cX12_init 527 = .ok (.castore, 1) := by decide +kernel
theorem dX12_init_528 : decode cX12_init 528 = .ok (.dup, 1) := by decide +kernel
theorem dX12_init_529 : decode cX12_init 529 = .ok (.bipush 15, 2) := by decide +kernel
theorem dX12_init_531 : decode cX12_init 531 = .ok (.bipush 32, 2) := by decide +kernel
theorem dX12_init_533 : decode cX12_init 533 = .ok (.castore, 1) := by decide +kernel
theorem dX12_init_534 : decode cX12_init 534 = .ok (.dup, 1) := by decide +kernel
theorem dX12_init_535 : decode cX12_init 535 = .ok (.bipush 16, 2) := by decide +kernel
theorem dX12_init_537 : decode cX12_init 537 = .ok (.bipush 116, 2) := by decide +kernel
theorem dX12_init_539 : decode cX12_init 539 = .ok (.castore, 1) := by decide +kernel
theorem dX12_init_540 : decode cX12_init 540 = .ok (.dup, 1) := by decide +kernel
theorem dX12_init_541 : decode cX12_init 541 = .ok (.bipush 17, 2) := by decide +kernel
theorem dX12_init_543 : decode cX12_init 543 = .ok (.bipush 105, 2) := by decide +kernel
theorem dX12_init_545 : decode cX12_init 545 = .ok (.castore, 1) := by decide +kernel
theorem dX12_init_546 : decode cX12_init 546 = .ok (.dup, 1) := by decide +kernel
theorem dX12_init_547 : decode cX12_init 547 = .ok (.bipush 18, 2) := by decide +kernel
theorem dX12_init_549 : decode cX12_init 549 = .ok (.bipush 115, 2) := by decide +kernel
theorem dX12_init_551 : decode cX12_init 551 = .ok (.castore, 1) := by decide +kernel
theorem dX12_init_552 : decode cX12_init 552 = .ok (.dup, 1) := by decide +kernel
theorem dX12_init_553 : decode cX12_init 553 = .ok (.bipush 19, 2) := by decide +kernel
theorem dX12_init_555 : decode cX12_init 555 = .ok (.bipush 115, 2) := by decide +kernel
theorem dX12_init_557 : decode cX12_init 557 = .ok (.castore, 1) := by decide +kernel
theorem dX12_init_558 : decode cX12_init 558 = .ok (.dup, 1) := by decide +kernel
theorem dX12_init_559 : decode cX12_init 559 = .ok (.bipush 20, 2) := by decide +kernel
theorem dX12_init_561 : decode cX12_init 561 = .ok (.bipush 117, 2) := by decide +kernel
theorem dX12_init_563 : decode cX12_init 563 = .ok (.castore, 1) := by decide +kernel
theorem dX12_init_564 : decode cX12_init 564 = .ok (.dup, 1) := by decide +kernel
theorem dX12_init_565 : decode cX12_init 565 = .ok (.bipush 21, 2) := by decide +kernel
theorem dX12_init_567 : decode cX12_init 567 = .ok (.bipush 101, 2) := by decide +kernel
theorem dX12_init_569 : decode cX12_init 569 = .ok (.castore, 1) := by decide +kernel
theorem dX12_init_570 : decode cX12_init 570 = .ok (.dup, 1) := by decide +kernel
theorem dX12_init_571 : decode cX12_init 571 = .ok (.bipush 22, 2) := by decide +kernel
theorem dX12_init_573 : decode cX12_init 573 = .ok (.bipush 32, 2) := by decide +kernel
theorem dX12_init_575 : decode cX12_init 575 = .ok (.castore, 1) := by decide +kernel
theorem dX12_init_576 : decode cX12_init 576 = .ok (.dup, 1) := by decide +kernel
theorem dX12_init_577 : decode cX12_init 577 = .ok (.bipush 23, 2) := by decide +kernel
theorem dX12_init_579 : decode cX12_init 579 = .ok (.bipush 32, 2) := by decide +kernel
theorem dX12_init_581 : decode cX12_init 581 = .ok (.castore, 1) := by decide +kernel
theorem dX12_init_582 : decode cX12_init 582 = .ok (.dup, 1) := by decide +kernel
theorem dX12_init_583 : decode cX12_init 583 = .ok (.bipush 24, 2) := by decide +kernel
theorem dX12_init_585 : decode cX12_init 585 = .ok (.bipush 109, 2) := by decide +kernel
theorem dX12_init_587 : decode cX12_init 587 = .ok (.castore, 1) := by decide +kernel
theorem dX12_init_588 : decode cX12_init 588 = .ok (.dup, 1) := by decide +kernel
theorem dX12_init_589 : decode cX12_init 589 = .ok (.bipush 25, 2) := by decide +kernel
theorem dX12_init_591 : decode cX12_init 591 = .ok (.bipush 97, 2) := by decide +kernel
theorem dX12_init_593 : decode cX12_init 593 = .ok (.castore, 1) := by decide +kernel
theorem dX12_init_594 : decode cX12_init 594 = .ok (.dup, 1) := by decide +kernel
theorem dX12_init_595 : decode cX12_init 595 = .ok (.bipush 26, 2) := by decide +kernel
theorem dX12_init_597 : decode cX12_init 597 = .ok (.bipush 114, 2) := by decide +kernel
theorem dX12_init_599 : decode cX12_init 599 = .ok (.castore, 1) := by decide +kernel
theorem dX12_init_600 : decode cX12_init 600 = .ok (.dup, 1) := by decide +kernel
theorem dX12_init_601 : decode cX12_init 601 = .ok (.bipush 27, 2) := by decide +kernel
theorem dX12_init_603 : decode cX12_init 603 = .ok (.bipush 98, 2) := by decide +kernel
theorem dX12_init_605 : decode cX12_init 605 = .ok (.castore, 1) := by decide +kernel
theorem dX12_init_606 : decode cX12_init 606 = .ok (.dup, 1) := by decide +kernel
theorem dX12_init_607 : decode cX12_init 607 = .ok (.bipush 28, 2) := by decide +kernel
theorem dX12_init_609 : decode cX12_init 609 = .ok (.bipush 108, 2) := by decide +kernel
theorem dX12_init_611 : decode cX12_init 611 = .ok (.castore, 1) := by decide +kernel
theorem dX12_init_612 : decode cX12_init 612 = .ok (.dup, 1) := by decide +kernel
theorem dX12_init_613 : decode cX12_init 613 = .ok (.bipush 29, 2) := by decide +kernel
theorem dX12_init_615 : decode cX12_init 615 = .ok (.bipush 101, 2) := by decide +kernel
theorem dX12_init_617 : decode cX12_init 617 = .ok (.castore, 1) := by decide +kernel
theorem dX12_init_618 : decode cX12_init 618 = .ok (.dup, 1) := by decide +kernel
theorem dX12_init_619 : decode cX12_init 619 = .ok (.bipush 30, 2) := by decide +kernel
theorem dX12_init_621 : decode cX12_init 621 = .ok (.bipush 100, 2) := by decide +kernel
theorem dX12_init_623 : decode cX12_init 623 = .ok (.castore, 1) := by decide +kernel
theorem dX12_init_624 : decode cX12_init 624 = .ok (.dup, 1) := by decide +kernel
theorem dX12_init_625 : decode cX12_init 625 = .ok (.bipush 31, 2) := by decide +kernel
theorem dX12_init_627 : decode cX12_init 627 = .ok (.bipush 32, 2) := by decide +kernel
theorem dX12_init_629 : decode cX12_init 629 = .ok (.castore, 1) := by decide +kernel
theorem dX12_init_630 : decode cX12_init 630 = .ok (.putfield 35, 3) := by decide +kernel
theorem dX12_init_633 : decode cX12_init 633 = .ok (.aload_n 0, 1) := by decide +kernel
theorem dX12_init_634 : decode cX12_init 634 = .ok (.iconst 4, 1) := by decide +kernel
theorem dX12_init_635 : decode cX12_init 635 = .ok (.newarray .int, 2) := by decide +kernel
theorem dX12_init_637 : decode cX12_init 637 = .ok (.putfield 38, 3) := by decide +kernel
theorem dX12_init_640 : decode cX12_init 640 = .ok (.aload_n 0, 1) := by decide +kernel
theorem dX12_init_641 : decode cX12_init 641 = .ok (.iconst 4, 1) := by decide +kernel
theorem dX12_init_642 : decode cX12_init 642 = .ok (.newarray .int, 2) := by decide +kernel
theorem dX12_init_644 : decode cX12_init 644 = .ok (.putfield 41, 3) := by decide +kernel
theorem dX12_init_647 : decode cX12_init 647 = .ok (.aload_n 0, 1) := by decide +kernel
theorem dX12_init_648 : decode cX12_init 648 = .ok (.sipush 160, 3) := by decide +kernel
theorem dX12_init_651 : decode cX12_init 651 = .ok (.newarray .long, 2) := by decide +kernel
theorem dX12_init_653 : decode cX12_init 653 = .ok (.putfield 44, 3) := by decide +kernel
theorem dX12_init_656 : decode cX12_init 656 = .ok (.aload_n 0, 1) := by decide +kernel
theorem dX12_init_657 : decode cX12_init 657 = .ok (.bipush 40, 2) := by decide +kernel
theorem dX12_init_659 : decode cX12_init 659 = .ok (.newarray .long, 2) := by decide +kernel
theorem dX12_init_661 : decode cX12_init 661 = .ok (.putfield 48, 3) := by decide +kernel
theorem dX12_init_664 : decode cX12_init 664 = .ok (.return_, 1) := by decide +kernel
theorem dX12_no_0 : decode cX12_no 0 = .ok (.aload_n 0, 1) := by decide +kernel
theorem dX12_no_1 : decode cX12_no 1 = .ok (.getfield 19, 3) := by decide +kernel
theorem dX12_no_4 : decode cX12_no 4 = .ok (.iload_n 1, 1) := by decide +kernel
theorem dX12_no_5 : decode cX12_no 5 = .ok (.dup2, 1) := by decide +kernel
theorem dX12_no_6 : decode cX12_no 6 = .ok (.iaload, 1) := by decide +kernel
theorem dX12_no_7 : decode cX12_no 7 = .ok (.iconst 1, 1) := by decide +kernel
theorem dX12_no_8 : decode cX12_no 8 = .ok (.iadd, 1) := by decide +kernel
theorem dX12_no_9 : decode cX12_no 9 = .ok (.iastore, 1) := by decide +kernel
theorem dX12_no_10 : decode cX12_no 10 = .ok (.ldc 51, 2) := by decide +kernel
theorem dX12_no_12 : decode cX12_no 12 = .ok (.iload_n 1, 1) := by decide +kernel
theorem dX12_no_13 : decode cX12_no 13 = .ok (.isub, 1) := by decide +kernel
theorem dX12_no_14 : decode cX12_no 14 = .ok (.ireturn, 1) := by decide +kernel
theorem dX12_in1_0 : decode cX12_in1 0 = .ok (.iload_n 0, 1) := by decide +kernel
theorem dX12_in1_1 : decode cX12_in1 1 = .ok (.iload_n 1, 1) := by decide +kernel
theorem dX12_in1_2 : decode cX12_in1 2 = .ok (.if_icmp .lt 12, 3) := by decide +kernel
theorem dX12_in1_5 : decode cX12_in1 5 = .ok (.iload_n 0, 1) := by decide +kernel
theorem dX12_in1_6 : decode cX12_in1 6 = .ok (.iload_n 2, 1) := by decide +kernel
theorem dX12_in1_7 : decode cX12_in1 7 = .ok (.if_icmp .gt 7, 3) := by decide +kernel
theorem dX12_in1_10 : decode cX12_in1 10 = .ok (.iconst 1, 1) := by decide +kernel
theorem dX12_in1_11 : decode cX12_in1 11 = .ok (.goto 4, 3) := by decide +kernel
theorem dX12_in1_14 : decode cX12_in1 14 = .ok (.iconst 0, 1) := by decide +kernel
theorem dX12_in1_15 : decode cX12_in1 15 = .ok (.ireturn, 1) := by decide +kernel
theorem dX12_less_0 : decode cX12_less 0 = .ok (.iload_n 0, 1) := by decide +kernel
theorem dX12_less_1 : decode cX12_less 1 = .ok (.iload_n 1, 1) := by decide +kernel
theorem dX12_less_2 : decode cX12_less 2 = .ok (.if_icmp .ge 7, 3) := by decide +kernel
theorem dX12_less_5 : decode cX12_less 5 = .ok (.iload_n 0, 1) := by decide +kernel
theorem dX12_less_6 : decode cX12_less 6 = .ok (.goto 4, 3) := by decide +kernel
theorem dX12_less_9 : decode cX12_less 9 = .ok (.iload_n 1, 1) := by decide +kernel
theorem dX12_less_10 : decode cX12_less 10 = .ok (.ireturn, 1) := by decide +kernel
theorem dX12_bits_0 : decode cX12_bits 0 = .ok (.iconst 0, 1) := by decide +kernel
theorem dX12_bits_1 : decode cX12_bits 1 = .ok (.istore_n 1, 1) := by decide +kernel
theorem dX12_bits_2 : decode cX12_bits 2 = .ok (.iload_n 0, 1) := by decide +kernel
theorem dX12_bits_3 : decode cX12_bits 3 = .ok (.istore_n 2, 1) := by decide +kernel
theorem dX12_bits_4 : decode cX12_bits 4 = .ok (.iload_n 2, 1) := by decide +kernel
theorem dX12_bits_5 : decode cX12_bits 5 = .ok (.ifCond .eq 15, 3) := by decide +kernel
theorem dX12_bits_8 : decode cX12_bits 8 = .ok (.iinc 1 1, 3) := by decide +kernel
theorem dX12_bits_11 : decode cX12_bits 11 = .ok (.iload_n 2, 1) := by decide +kernel
theorem dX12_bits_12 : decode cX12_bits 12 = .ok (.iload_n 2, 1) := by decide +kernel
theorem dX12_bits_13 : decode cX12_bits 13 = .ok (.iconst 1, 1) := by decide +kernel
theorem dX12_bits_14 : decode cX12_bits 14 = .ok (.isub, 1) := by decide +kernel
theorem dX12_bits_15 : decode cX12_bits 15 = .ok (.iand, 1) := by decide +kernel
theorem dX12_bits_16 : decode cX12_bits 16 = .ok (.istore_n 2, 1) := by decide +kernel
theorem dX12_bits_17 : decode cX12_bits 17 = .ok (.goto (-13), 3) := by decide +kernel
theorem dX12_bits_20 : decode cX12_bits 20 = .ok (.iload_n 1, 1) := by decide +kernel
theorem dX12_bits_21 : decode cX12_bits 21 = .ok (.ireturn, 1) := by decide +kernel
theorem dX12_isPerson_0 : decode cX12_isPerson 0 = .ok (.iload_n 1, 1) := by decide +kernel
theorem dX12_isPerson_1 : decode cX12_isPerson 1 = .ok (.iconst 0, 1) := by decide +kernel
theorem dX12_isPerson_2 : decode cX12_isPerson 2 = .ok (.aload_n 0, 1) := by decide +kernel
theorem dX12_isPerson_3 : decode cX12_isPerson 3 = .ok (.getfield 9, 3) := by decide +kernel
theorem dX12_isPerson_6 : decode cX12_isPerson 6 = .ok (.iconst 1, 1) := by decide +kernel
theorem dX12_isPerson_7 : decode cX12_isPerson 7 = .ok (.iaload, 1) := by decide +kernel
theorem dX12_isPerson_8 : decode cX12_isPerson 8 = .ok (.iconst 1, 1) := by decide +kernel
theorem dX12_isPerson_9 : decode cX12_isPerson 9 = .ok (.isub, 1) := by decide +kernel
theorem dX12_isPerson_10 : decode cX12_isPerson 10 = .ok (.invokestatic 52, 3) := by decide +kernel
theorem dX12_isPerson_13 : decode cX12_isPerson 13 = .ok (.ireturn, 1) := by decide +kernel
theorem dX12_isPresent_0 : decode cX12_isPresent 0 = .ok (.iload_n 1, 1) := by decide +kernel
theorem dX12_isPresent_1 : decode cX12_isPresent 1 = .ok (.iconst 0, 1) := by decide +kernel
theorem dX12_isPresent_2 : decode cX12_isPresent 2 = .ok (.aload_n 0, 1) := by decide +kernel
theorem dX12_isPresent_3 : decode cX12_isPresent 3 = .ok (.getfield 9, 3) := by decide +kernel
theorem dX12_isPresent_6 : decode cX12_isPresent 6 = .ok (.iconst 2, 1) := by decide +kernel
theorem dX12_isPresent_7 : decode cX12_isPresent 7 = .ok (.iaload, 1) := by decide +kernel
theorem dX12_isPresent_8 : decode cX12_isPresent 8 = .ok (.iconst 1, 1) := by decide +kernel
theorem dX12_isPresent_9 : decode cX12_isPresent 9 = .ok (.isub, 1) := by decide +kernel
theorem dX12_isPresent_10 : decode cX12_isPresent 10 = .ok (.invokestatic 52, 3) := by decide +kernel
theorem dX12_isPresent_13 : decode cX12_isPresent 13 = .ok (.ireturn, 1) := by decide +kernel
theorem dX12_get_0 : decode cX12_get 0 = .ok (.aload_n 0, 1) := by decide +kernel
theorem dX12_get_1 : decode cX12_get 1 = .ok (.getfield 9, 3) := by decide +kernel
theorem dX12_get_4 : decode cX12_get 4 = .ok (.iconst 4, 1) := by decide +kernel
theorem dX12_get_5 : decode cX12_get 5 = .ok (.iconst 2, 1) := by decide +kernel
theorem dX12_get_6 : decode cX12_get 6 = .ok (.iload_n 1, 1) := by decide +kernel
theorem dX12_get_7 : decode cX12_get 7 = .ok (.imul, 1) := by decide +kernel
theorem dX12_get_8 : decode cX12_get 8 = .ok (.iadd, 1) := by decide +kernel
theorem dX12_get_9 : decode cX12_get 9 = .ok (.iload_n 2, 1) := by decide +kernel
theorem dX12_get_10 : decode cX12_get 10 = .ok (.iadd, 1) := by decide +kernel
theorem dX12_get_11 : decode cX12_get 11 = .ok (.iaload, 1) := by decide +kernel
theorem dX12_get_12 : decode cX12_get 12 = .ok (.ireturn, 1) := by decide +kernel
theorem dX12_puts_0 : decode cX12_puts 0 = .ok (.aload_n 0, 1) := by decide +kernel
theorem dX12_puts_1 : decode cX12_puts 1 = .ok (.getfield 9, 3) := by decide +kernel
theorem dX12_puts_4 : decode cX12_puts 4 = .ok (.iconst 4, 1) := by decide +kernel
theorem dX12_puts_5 : decode cX12_puts 5 = .ok (.iconst 2, 1) := by decide +kernel
theorem dX12_puts_6 : decode cX12_puts 6 = .ok (.iload_n 1, 1) := by decide +kernel
theorem dX12_puts_7 : decode cX12_puts 7 = .ok (.imul, 1) := by decide +kernel
theorem dX12_puts_8 : decode cX12_puts 8 = .ok (.iadd, 1) := by decide +kernel
theorem dX12_puts_9 : decode cX12_puts 9 = .ok (.iload_n 2, 1) := by decide +kernel
theorem dX12_puts_10 : decode cX12_puts 10 = .ok (.iadd, 1) := by decide +kernel
theorem dX12_puts_11 : decode cX12_puts 11 = .ok (.iload_n 3, 1) := by decide +kernel
theorem dX12_puts_12 : decode cX12_puts 12 = .ok (.iastore, 1) := by decide +kernel
theorem dX12_puts_13 : decode cX12_puts 13 = .ok (.return_, 1) := by decide +kernel
theorem dX12_of1_0 : decode cX12_of1 0 = .ok (.aload_n 0, 1) := by decide +kernel
theorem dX12_of1_1 : decode cX12_of1 1 = .ok (.getfield 9, 3) := by decide +kernel
theorem dX12_of1_4 : decode cX12_of1 4 = .ok (.bipush 16, 2) := by decide +kernel
theorem dX12_of1_6 : decode cX12_of1 6 = .ok (.bipush 10, 2) := by decide +kernel
theorem dX12_of1_8 : decode cX12_of1 8 = .ok (.iload_n 1, 1) := by decide +kernel
theorem dX12_of1_9 : decode cX12_of1 9 = .ok (.imul, 1) := by decide +kernel
theorem dX12_of1_10 : decode cX12_of1 10 = .ok (.iadd, 1) := by decide +kernel
theorem dX12_of1_11 : decode cX12_of1 11 = .ok (.iload_n 2, 1) := by decide +kernel
theorem dX12_of1_12 : decode cX12_of1 12 = .ok (.iadd, 1) := by decide +kernel
theorem dX12_of1_13 : decode cX12_of1 13 = .ok (.iaload, 1) := by decide +kernel
theorem dX12_of1_14 : decode cX12_of1 14 = .ok (.ireturn, 1) := by decide +kernel
theorem dX12_lays1_0 : decode cX12_lays1 0 = .ok (.aload_n 0, 1) := by decide +kernel
theorem dX12_lays1_1 : decode cX12_lays1 1 = .ok (.getfield 9, 3) := by decide +kernel
theorem dX12_lays1_4 : decode cX12_lays1 4 = .ok (.bipush 16, 2) := by decide +kernel
theorem dX12_lays1_6 : decode cX12_lays1 6 = .ok (.bipush 10, 2) := by decide +kernel
theorem dX12_lays1_8 : decode cX12_lays1 8 = .ok (.iload_n 1, 1) := by decide +kernel
theorem dX12_lays1_9 : decode cX12_lays1 9 = .ok (.imul, 1) := by decide +kernel
theorem dX12_lays1_10 : decode cX12_lays1 10 = .ok (.iadd, 1) := by decide +kernel
theorem dX12_lays1_11 : decode cX12_lays1 11 = .ok (.iload_n 2, 1) := by decide +kernel
theorem dX12_lays1_12 : decode cX12_lays1 12 = .ok (.iadd, 1) := by decide +kernel
theorem dX12_lays1_13 : decode cX12_lays1 13 = .ok (.iload_n 3, 1) := by decide +kernel
theorem dX12_lays1_14 : decode cX12_lays1 14 = .ok (.iastore, 1) := by decide +kernel
theorem dX12_lays1_15 : decode cX12_lays1 15 = .ok (.return_, 1) := by decide +kernel
theorem dX12_setsAside_0 : decode cX12_setsAside 0 = .ok (.iconst 0, 1) := by decide +kernel
theorem dX12_setsAside_1 : decode cX12_setsAside 1 = .ok (.istore_n 1, 1) := by decide +kernel
theorem dX12_setsAside_2 : decode cX12_setsAside 2 = .ok (.iload_n 1, 1) := by decide +kernel
theorem dX12_setsAside_3 : decode cX12_setsAside 3 = .ok (.bipush 96, 2) := by decide +kernel
theorem dX12_setsAside_5 : decode cX12_setsAside 5 = .ok (.if_icmp .ge 21, 3) := by decide +kernel
theorem dX12_setsAside_8 : decode cX12_setsAside 8 = .ok (.aload_n 0, 1) := by decide +kernel
theorem dX12_setsAside_9 : decode cX12_setsAside 9 = .ok (.getfield 16, 3) := by decide +kernel
theorem dX12_setsAside_12 : decode cX12_setsAside 12 = .ok (.iload_n 1, 1) := by decide +kernel
theorem dX12_setsAside_13 : decode cX12_setsAside 13 = .ok (.aload_n 0, 1) := by decide +kernel
theorem dX12_setsAside_14 : decode cX12_setsAside 14 = .ok (.getfield 9, 3) := by decide +kernel
theorem dX12_setsAside_17 : decode cX12_setsAside 17 = .ok (.iload_n 1, 1) := by decide +kernel
theorem dX12_setsAside_18 : decode cX12_setsAside 18 = .ok (.iaload, 1) := by decide +kernel
theorem dX12_setsAside_19 : decode cX12_setsAside 19 = .ok (.iastore, 1) := by decide +kernel
theorem dX12_setsAside_20 : decode cX12_setsAside 20 = .ok (.iinc 1 1, 3) := by decide +kernel
theorem dX12_setsAside_23 : decode cX12_setsAside 23 = .ok (.goto (-21), 3) := by decide +kernel
theorem dX12_setsAside_26 : decode cX12_setsAside 26 = .ok (.return_, 1) := by decide +kernel
theorem dX12_laysBack_0 : decode cX12_laysBack 0 = .ok (.iconst 0, 1) := by decide +kernel
theorem dX12_laysBack_1 : decode cX12_laysBack 1 = .ok (.istore_n 1, 1) := by decide +kernel
theorem dX12_laysBack_2 : decode cX12_laysBack 2 = .ok (.iload_n 1, 1) := by decide +kernel
theorem dX12_laysBack_3 : decode cX12_laysBack 3 = .ok (.bipush 96, 2) := by decide +kernel
theorem dX12_laysBack_5 : decode cX12_laysBack 5 = .ok (.if_icmp .ge 21, 3) := by decide +kernel
theorem dX12_laysBack_8 : decode cX12_laysBack 8 = .ok (.aload_n 0, 1) := by decide +kernel
theorem dX12_laysBack_9 : decode cX12_laysBack 9 = .ok (.getfield 9, 3) := by decide +kernel
theorem dX12_laysBack_12 : decode cX12_laysBack 12 = .ok (.iload_n 1, 1) := by decide +kernel
theorem dX12_laysBack_13 : decode cX12_laysBack 13 = .ok (.aload_n 0, 1) := by decide +kernel
theorem dX12_laysBack_14 : decode cX12_laysBack 14 = .ok (.getfield 16, 3) := by decide +kernel
theorem dX12_laysBack_17 : decode cX12_laysBack 17 = .ok (.iload_n 1, 1) := by decide +kernel
theorem dX12_laysBack_18 : decode cX12_laysBack 18 = .ok (.iaload, 1) := by decide +kernel
theorem dX12_laysBack_19 : decode cX12_laysBack 19 = .ok (.iastore, 1) := by decide +kernel
theorem dX12_laysBack_20 : decode cX12_laysBack 20 = .ok (.iinc 1 1, 3) := by decide +kernel
theorem dX12_laysBack_23 : decode cX12_laysBack 23 = .ok (.goto (-21), 3) := by decide +kernel
theorem dX12_laysBack_26 : decode cX12_laysBack 26 = .ok (.return_, 1) := by decide +kernel
theorem dX12_addsLayer_0 : decode cX12_addsLayer 0 = .ok (.aload_n 0, 1) := by decide +kernel
theorem dX12_addsLayer_1 : decode cX12_addsLayer 1 = .ok (.iload_n 1, 1) := by decide +kernel
theorem dX12_addsLayer_2 : decode cX12_addsLayer 2 = .ok (.iconst 0, 1) := by decide +kernel
theorem dX12_addsLayer_3 : decode cX12_addsLayer 3 = .ok (.invokevirtual 56, 3) := by decide +kernel
theorem dX12_addsLayer_6 : decode cX12_addsLayer 6 = .ok (.istore_n 3, 1) := by decide +kernel
theorem dX12_addsLayer_7 : decode cX12_addsLayer 7 = .ok (.iload_n 3, 1) := by decide +kernel
theorem dX12_addsLayer_8 : decode cX12_addsLayer 8 = .ok (.ifCond .le 27, 3) := by decide +kernel
theorem dX12_addsLayer_11 : decode cX12_addsLayer 11 = .ok (.aload_n 0, 1) := by decide +kernel
theorem dX12_addsLayer_12 : decode cX12_addsLayer 12 = .ok (.iload_n 1, 1) := by decide +kernel
theorem dX12_addsLayer_13 : decode cX12_addsLayer 13 = .ok (.iconst 4, 1) := by decide +kernel
theorem dX12_addsLayer_14 : decode cX12_addsLayer 14 = .ok (.iload_n 3, 1) := by decide +kernel
theorem dX12_addsLayer_15 : decode cX12_addsLayer 15 = .ok (.iadd, 1) := by decide +kernel
theorem dX12_addsLayer_16 : decode cX12_addsLayer 16 = .ok (.aload_n 0, 1) := by decide +kernel
theorem dX12_addsLayer_17 : decode cX12_addsLayer 17 = .ok (.iload_n 1, 1) := by decide +kernel
theorem dX12_addsLayer_18 : decode cX12_addsLayer 18 = .ok (.iconst 4, 1) := by decide +kernel
theorem dX12_addsLayer_19 : decode cX12_addsLayer 19 = .ok (.iload_n 3, 1) := by decide +kernel
theorem dX12_addsLayer_20 : decode cX12_addsLayer 20 = .ok (.iadd, 1) := by decide +kernel
theorem dX12_addsLayer_21 : decode cX12_addsLayer 21 = .ok (.iconst 1, 1) := by decide +kernel
theorem dX12_addsLayer_22 : decode cX12_addsLayer 22 = .ok (.isub, 1) := by decide +kernel
theorem dX12_addsLayer_23 : decode cX12_addsLayer 23 = .ok (.invokevirtual 56, 3) := by decide +kernel
theorem dX12_addsLayer_26 : decode cX12_addsLayer 26 = .ok (.invokevirtual 60, 3) := by decide +kernel
theorem dX12_addsLayer_29 : decode cX12_addsLayer 29 = .ok (.iinc 3 (-1), 3) := by decide +kernel
theorem dX12_addsLayer_32 : decode cX12_addsLayer 32 = .ok (.goto (-25), 3) := by decide +kernel
theorem dX12_addsLayer_35 : decode cX12_addsLayer 35 = .ok (.aload_n 0, 1) := by decide +kernel
theorem dX12_addsLayer_36 : decode cX12_addsLayer 36 = .ok (.iload_n 1, 1) := by decide +kernel
theorem dX12_addsLayer_37 : decode cX12_addsLayer 37 = .ok (.iconst 4, 1) := by decide +kernel
theorem dX12_addsLayer_38 : decode cX12_addsLayer 38 = .ok (.iload_n 2, 1) := by decide +kernel
theorem dX12_addsLayer_39 : decode cX12_addsLayer 39 = .ok (.invokevirtual 60, 3) := by decide +kernel
theorem dX12_addsLayer_42 : decode cX12_addsLayer 42 = .ok (.aload_n 0, 1) := by decide +kernel
theorem dX12_addsLayer_43 : decode cX12_addsLayer 43 = .ok (.iload_n 1, 1) := by decide +kernel
theorem dX12_addsLayer_44 : decode cX12_addsLayer 44 = .ok (.iconst 0, 1) := by decide +kernel
theorem dX12_addsLayer_45 : decode cX12_addsLayer 45 = .ok (.aload_n 0, 1) := by decide +kernel
theorem dX12_addsLayer_46 : decode cX12_addsLayer 46 = .ok (.iload_n 1, 1) := by decide +kernel
theorem dX12_addsLayer_47 : decode cX12_addsLayer 47 = .ok (.iconst 0, 1) := by decide +kernel
theorem dX12_addsLayer_48 : decode cX12_addsLayer 48 = .ok (.invokevirtual 56, 3) := by decide +kernel
theorem dX12_addsLayer_51 : decode cX12_addsLayer 51 = .ok (.iconst 1, 1) := by decide +kernel
theorem dX12_addsLayer_52 : decode cX12_addsLayer 52 = .ok (.iadd, 1) := by decide +kernel
theorem dX12_addsLayer_53 : decode cX12_addsLayer 53 = .ok (.invokevirtual 60, 3) := by decide +kernel
theorem dX12_addsLayer_56 : decode cX12_addsLayer 56 = .ok (.return_, 1) := by decide +kernel
theorem dX12_takesLayer_0 : decode cX12_takesLayer 0 = .ok (.aload_n 0, 1) := by decide +kernel
theorem dX12_takesLayer_1 : decode cX12_takesLayer 1 = .ok (.iload_n 1, 1) := by decide +kernel
theorem dX12_takesLayer_2 : decode cX12_takesLayer 2 = .ok (.iconst 4, 1) := by decide +kernel
theorem dX12_takesLayer_3 : decode cX12_takesLayer 3 = .ok (.invokevirtual 56, 3) := by decide +kernel
theorem dX12_takesLayer_6 : decode cX12_takesLayer 6 = .ok (.istore_n 2, 1) := by decide +kernel
theorem dX12_takesLayer_7 : decode cX12_takesLayer 7 = .ok (.aload_n 0, 1) := by decide +kernel
theorem dX12_takesLayer_8 : decode cX12_takesLayer 8 = .ok (.iload_n 1, 1) := by decide +kernel
theorem dX12_takesLayer_9 : decode cX12_takesLayer 9 = .ok (.iconst 0, 1) := by decide +kernel
theorem dX12_takesLayer_10 : decode cX12_takesLayer 10 = .ok (.aload_n 0, 1) := by decide +kernel
theorem dX12_takesLayer_11 : decode cX12_takesLayer 11 = .ok (.iload_n 1, 1) := by decide +kernel
theorem dX12_takesLayer_12 : decode cX12_takesLayer 12 = .ok (.iconst 0, 1) := by decide +kernel
theorem dX12_takesLayer_13 : decode cX12_takesLayer 13 = .ok (.invokevirtual 56, 3) := by decide +kernel
theorem dX12_takesLayer_16 : decode cX12_takesLayer 16 = .ok (.iconst 1, 1) := by decide +kernel
theorem dX12_takesLayer_17 : decode cX12_takesLayer 17 = .ok (.isub, 1) := by decide +kernel
theorem dX12_takesLayer_18 : decode cX12_takesLayer 18 = .ok (.invokevirtual 60, 3) := by decide +kernel
theorem dX12_takesLayer_21 : decode cX12_takesLayer 21 = .ok (.iconst 0, 1) := by decide +kernel
theorem dX12_takesLayer_22 : decode cX12_takesLayer 22 = .ok (.istore_n 3, 1) := by decide +kernel
theorem dX12_takesLayer_23 : decode cX12_takesLayer 23 = .ok (.iload_n 3, 1) := by decide +kernel
theorem dX12_takesLayer_24 : decode cX12_takesLayer 24 = .ok (.aload_n 0, 1) := by decide +kernel
theorem dX12_takesLayer_25 : decode cX12_takesLayer 25 = .ok (.iload_n 1, 1) := by decide +kernel
theorem dX12_takesLayer_26 : decode cX12_takesLayer 26 = .ok (.iconst 0, 1) := by decide +kernel
theorem dX12_takesLayer_27 : decode cX12_takesLayer 27 = .ok (.invokevirtual 56, 3) := by decide +kernel
theorem dX12_takesLayer_30 : decode cX12_takesLayer 30 = .ok (.if_icmp .ge 27, 3) := by decide +kernel
theorem dX12_takesLayer_33 : decode cX12_takesLayer 33 = .ok (.aload_n 0, 1) := by decide +kernel
theorem dX12_takesLayer_34 : decode cX12_takesLayer 34 = .ok (.iload_n 1, 1) := by decide +kernel
theorem dX12_takesLayer_35 : decode cX12_takesLayer 35 = .ok (.iconst 4, 1) := by decide +kernel
theorem dX12_takesLayer_36 : decode cX12_takesLayer 36 = .ok (.iload_n 3, 1) := by decide +kernel
theorem dX12_takesLayer_37 : decode cX12_takesLayer 37 = .ok (.iadd, 1) := by decide +kernel
theorem dX12_takesLayer_38 : decode cX12_takesLayer 38 = .ok (.aload_n 0, 1) := by decide +kernel
theorem dX12_takesLayer_39 : decode cX12_takesLayer 39 = .ok (.iload_n 1, 1) := by decide +kernel
theorem dX12_takesLayer_40 : decode cX12_takesLayer 40 = .ok (.iconst 4, 1) := by decide +kernel
theorem dX12_takesLayer_41 : decode cX12_takesLayer 41 = .ok (.iload_n 3, 1) := by decide +kernel
theorem dX12_takesLayer_42 : decode cX12_takesLayer 42 = .ok (.iadd, 1) := by decide +kernel
theorem dX12_takesLayer_43 : decode cX12_takesLayer 43 = .ok (.iconst 1, 1) := by decide +kernel
theorem dX12_takesLayer_44 : decode cX12_takesLayer 44 = .ok (.iadd, 1) := by decide +kernel
theorem dX12_takesLayer_45 : decode cX12_takesLayer 45 = .ok (.invokevirtual 56, 3) := by decide +kernel
theorem dX12_takesLayer_48 : decode cX12_takesLayer 48 = .ok (.invokevirtual 60, 3) := by decide +kernel
theorem dX12_takesLayer_51 : decode cX12_takesLayer 51 = .ok (.iinc 3 1, 3) := by decide +kernel
theorem dX12_takesLayer_54 : decode cX12_takesLayer 54 = .ok (.goto (-31), 3) := by decide +kernel
theorem dX12_takesLayer_57 : decode cX12_takesLayer 57 = .ok (.iload_n 2, 1) := by decide +kernel
theorem dX12_takesLayer_58 : decode cX12_takesLayer 58 = .ok (.ireturn, 1) := by decide +kernel
theorem dX12_opensOf_0 : decode cX12_opensOf 0 = .ok (.aload_n 0, 1) := by decide +kernel
theorem dX12_opensOf_1 : decode cX12_opensOf 1 = .ok (.iload_n 2, 1) := by decide +kernel
theorem dX12_opensOf_2 : decode cX12_opensOf 2 = .ok (.iconst 0, 1) := by decide +kernel
theorem dX12_opensOf_3 : decode cX12_opensOf 3 = .ok (.invokevirtual 56, 3) := by decide +kernel
theorem dX12_opensOf_6 : decode cX12_opensOf 6 = .ok (.istore_n 3, 1) := by decide +kernel
theorem dX12_opensOf_7 : decode cX12_opensOf 7 = .ok (.aload_n 0, 1) := by decide +kernel
theorem dX12_opensOf_8 : decode cX12_opensOf 8 = .ok (.iload_n 1, 1) := by decide +kernel
theorem dX12_opensOf_9 : decode cX12_opensOf 9 = .ok (.iconst 0, 1) := by decide +kernel
theorem dX12_opensOf_10 : decode cX12_opensOf 10 = .ok (.invokevirtual 64, 3) := by decide +kernel
theorem dX12_opensOf_13 : decode cX12_opensOf 13 = .ok (.tableswitch 86 1 5 #[35, 37, 43, 63, 65], 35) := by decide +kernel
theorem dX12_opensOf_48 : decode cX12_opensOf 48 = .ok (.iconst 0, 1) := by decide +kernel
theorem dX12_opensOf_49 : decode cX12_opensOf 49 = .ok (.ireturn, 1) := by decide +kernel
theorem dX12_opensOf_50 : decode cX12_opensOf 50 = .ok (.iconst 2, 1) := by decide +kernel
theorem dX12_opensOf_51 : decode cX12_opensOf 51 = .ok (.iload_n 3, 1) := by decide +kernel
theorem dX12_opensOf_52 : decode cX12_opensOf 52 = .ok (.invokestatic 67, 3) := by decide +kernel
theorem dX12_opensOf_55 : decode cX12_opensOf 55 = .ok (.ireturn, 1) := by decide +kernel
theorem dX12_opensOf_56 : decode cX12_opensOf 56 = .ok (.iload_n 3, 1) := by decide +kernel
theorem dX12_opensOf_57 : decode cX12_opensOf 57 = .ok (.ifCond .eq 13, 3) := by decide +kernel
theorem dX12_opensOf_60 : decode cX12_opensOf 60 = .ok (.aload_n 0, 1) := by decide +kernel
theorem dX12_opensOf_61 : decode cX12_opensOf 61 = .ok (.iload_n 2, 1) := by decide +kernel
theorem dX12_opensOf_62 : decode cX12_opensOf 62 = .ok (.iconst 4, 1) := by decide +kernel
theorem dX12_opensOf_63 : decode cX12_opensOf 63 = .ok (.invokevirtual 56, 3) := by decide +kernel
theorem dX12_opensOf_66 : decode cX12_opensOf 66 = .ok (.iconst 3, 1) := by decide +kernel
theorem dX12_opensOf_67 : decode cX12_opensOf 67 = .ok (.if_icmp .ne 7, 3) := by decide +kernel
theorem dX12_opensOf_70 : decode cX12_opensOf 70 = .ok (.iconst 0, 1) := by decide +kernel
theorem dX12_opensOf_71 : decode cX12_opensOf 71 = .ok (.goto 4, 3) := by decide +kernel
theorem dX12_opensOf_74 : decode cX12_opensOf 74 = .ok (.iconst 1, 1) := by decide +kernel
theorem dX12_opensOf_75 : decode cX12_opensOf 75 = .ok (.ireturn, 1) := by decide +kernel
theorem dX12_opensOf_76 : decode cX12_opensOf 76 = .ok (.iload_n 3, 1) := by decide +kernel
theorem dX12_opensOf_77 : decode cX12_opensOf 77 = .ok (.ireturn, 1) := by decide +kernel
theorem dX12_opensOf_78 : decode cX12_opensOf 78 = .ok (.aload_n 0, 1) := by decide +kernel
theorem dX12_opensOf_79 : decode cX12_opensOf 79 = .ok (.getfield 9, 3) := by decide +kernel
theorem dX12_opensOf_82 : decode cX12_opensOf 82 = .ok (.iconst 0, 1) := by decide +kernel
theorem dX12_opensOf_83 : decode cX12_opensOf 83 = .ok (.iaload, 1) := by decide +kernel
theorem dX12_opensOf_84 : decode cX12_opensOf 84 = .ok (.iconst 5, 1) := by decide +kernel
theorem dX12_opensOf_85 : decode cX12_opensOf 85 = .ok (.irem, 1) := by decide +kernel
theorem dX12_opensOf_86 : decode cX12_opensOf 86 = .ok (.ifCond .ne 11, 3) := by decide +kernel
theorem dX12_opensOf_89 : decode cX12_opensOf 89 = .ok (.iconst 1, 1) := by decide +kernel
theorem dX12_opensOf_90 : decode cX12_opensOf 90 = .ok (.iload_n 3, 1) := by decide +kernel
theorem dX12_opensOf_91 : decode cX12_opensOf 91 = .ok (.invokestatic 67, 3) := by decide +kernel
theorem dX12_opensOf_94 : decode cX12_opensOf 94 = .ok (.goto 4, 3) := by decide +kernel
theorem dX12_opensOf_97 : decode cX12_opensOf 97 = .ok (.iconst 0, 1) := by decide +kernel
theorem dX12_opensOf_98 : decode cX12_opensOf 98 = .ok (.ireturn, 1) := by decide +kernel
theorem dX12_opensOf_99 : decode cX12_opensOf 99 = .ok (.iconst 1, 1) := by decide +kernel
theorem dX12_opensOf_100 : decode cX12_opensOf 100 = .ok (.iload_n 3, 1) := by decide +kernel
theorem dX12_opensOf_101 : decode cX12_opensOf 101 = .ok (.invokestatic 67, 3) := by decide +kernel
theorem dX12_opensOf_104 : decode cX12_opensOf 104 = .ok (.ireturn, 1) := by decide +kernel
theorem dX12_enjoysOf_0 : decode cX12_enjoysOf 0 = .ok (.aload_n 0, 1) := by decide +kernel
theorem dX12_enjoysOf_1 : decode cX12_enjoysOf 1 = .ok (.iload_n 1, 1) := by decide +kernel
theorem dX12_enjoysOf_2 : decode cX12_enjoysOf 2 = .ok (.iconst 0, 1) := by decide +kernel
theorem dX12_enjoysOf_3 : decode cX12_enjoysOf 3 = .ok (.invokevirtual 64, 3) := by decide +kernel
theorem dX12_enjoysOf_6 : decode cX12_enjoysOf 6 = .ok (.tableswitch 63 1 5 #[34, 40, 42, 55, 57], 34) := by decide +kernel
theorem dX12_enjoysOf_40 : decode cX12_enjoysOf 40 = .ok (.iconst 2, 1) := by decide +kernel
theorem dX12_enjoysOf_41 : decode cX12_enjoysOf 41 = .ok (.iload_n 2, 1) := by decide +kernel
theorem dX12_enjoysOf_42 : decode cX12_enjoysOf 42 = .ok (.imul, 1) := by decide +kernel
theorem dX12_enjoysOf_43 : decode cX12_enjoysOf 43 = .ok (.iconst 2, 1) := by decide +kernel
theorem dX12_enjoysOf_44 : decode cX12_enjoysOf 44 = .ok (.iadd, 1) := by decide +kernel
theorem dX12_enjoysOf_45 : decode cX12_enjoysOf 45 = .ok (.ireturn, 1) := by decide +kernel
end
section
theorem dX12_enjoysOf_46 : decode cX12_enjoysOf 46 = .ok (.iload_n 2, 1) := by decide +kernel
theorem dX12_enjoysOf_47 : decode cX12_enjoysOf 47 = .ok (.ireturn, 1) := by decide +kernel
theorem dX12_enjoysOf_48 : decode cX12_enjoysOf 48 = .ok (.iload_n 2, 1) := by decide +kernel
theorem dX12_enjoysOf_49 : decode cX12_enjoysOf 49 = .ok (.ifCond .ne 8, 3) := by decide +kernel
theorem dX12_enjoysOf_52 : decode cX12_enjoysOf 52 = .ok (.bipush 6, 2) := by decide +kernel
theorem dX12_enjoysOf_54 : decode cX12_enjoysOf 54 = .ok (.goto 6, 3) := by decide +kernel
theorem dX12_enjoysOf_57 : decode cX12_enjoysOf 57 = .ok (.iload_n 2, 1) := by decide +kernel
theorem dX12_enjoysOf_58 : decode cX12_enjoysOf 58 = .ok (.iconst 1, 1) := by decide +kernel
theorem dX12_enjoysOf_59 : decode cX12_enjoysOf 59 = .ok (.iadd, 1) := by decide +kernel
theorem dX12_enjoysOf_60 : decode cX12_enjoysOf 60 = .ok (.ireturn, 1) := by decide +kernel
theorem dX12_enjoysOf_61 : decode cX12_enjoysOf 61 = .ok (.iconst 0, 1) := by decide +kernel
theorem dX12_enjoysOf_62 : decode cX12_enjoysOf 62 = .ok (.ireturn, 1) := by decide +kernel
theorem dX12_enjoysOf_63 : decode cX12_enjoysOf 63 = .ok (.iconst 2, 1) := by decide +kernel
theorem dX12_enjoysOf_64 : decode cX12_enjoysOf 64 = .ok (.iload_n 2, 1) := by decide +kernel
theorem dX12_enjoysOf_65 : decode cX12_enjoysOf 65 = .ok (.imul, 1) := by decide +kernel
theorem dX12_enjoysOf_66 : decode cX12_enjoysOf 66 = .ok (.iconst 1, 1) := by decide +kernel
theorem dX12_enjoysOf_67 : decode cX12_enjoysOf 67 = .ok (.iadd, 1) := by decide +kernel
theorem dX12_enjoysOf_68 : decode cX12_enjoysOf 68 = .ok (.ireturn, 1) := by decide +kernel
theorem dX12_enjoysOf_69 : decode cX12_enjoysOf 69 = .ok (.iload_n 2, 1) := by decide +kernel
theorem dX12_enjoysOf_70 : decode cX12_enjoysOf 70 = .ok (.iconst 1, 1) := by decide +kernel
theorem dX12_enjoysOf_71 : decode cX12_enjoysOf 71 = .ok (.iadd, 1) := by decide +kernel
theorem dX12_enjoysOf_72 : decode cX12_enjoysOf 72 = .ok (.ireturn, 1) := by decide +kernel
theorem dX12_struckOf_0 : decode cX12_struckOf 0 = .ok (.iload_n 2, 1) := by decide +kernel
theorem dX12_struckOf_1 : decode cX12_struckOf 1 = .ok (.ifCond .le 7, 3) := by decide +kernel
theorem dX12_struckOf_4 : decode cX12_struckOf 4 = .ok (.iconst 0, 1) := by decide +kernel
theorem dX12_struckOf_5 : decode cX12_struckOf 5 = .ok (.goto 4, 3) := by decide +kernel
theorem dX12_struckOf_8 : decode cX12_struckOf 8 = .ok (.iconst 5, 1) := by decide +kernel
theorem dX12_struckOf_9 : decode cX12_struckOf 9 = .ok (.istore_n 3, 1) := by decide +kernel
theorem dX12_struckOf_10 : decode cX12_struckOf 10 = .ok (.aload_n 0, 1) := by decide +kernel
theorem dX12_struckOf_11 : decode cX12_struckOf 11 = .ok (.iload_n 1, 1) := by decide +kernel
theorem dX12_struckOf_12 : decode cX12_struckOf 12 = .ok (.iconst 0, 1) := by decide +kernel
theorem dX12_struckOf_13 : decode cX12_struckOf 13 = .ok (.invokevirtual 64, 3) := by decide +kernel
theorem dX12_struckOf_16 : decode cX12_struckOf 16 = .ok (.tableswitch 55 1 5 #[36, 38, 55, 42, 49], 36) := by decide +kernel
theorem dX12_struckOf_52 : decode cX12_struckOf 52 = .ok (.iload_n 3, 1) := by decide +kernel
theorem dX12_struckOf_53 : decode cX12_struckOf 53 = .ok (.ireturn, 1) := by decide +kernel
theorem dX12_struckOf_54 : decode cX12_struckOf 54 = .ok (.iconst 2, 1) := by decide +kernel
theorem dX12_struckOf_55 : decode cX12_struckOf 55 = .ok (.iload_n 2, 1) := by decide +kernel
theorem dX12_struckOf_56 : decode cX12_struckOf 56 = .ok (.imul, 1) := by decide +kernel
theorem dX12_struckOf_57 : decode cX12_struckOf 57 = .ok (.ireturn, 1) := by decide +kernel
theorem dX12_struckOf_58 : decode cX12_struckOf 58 = .ok (.iconst 2, 1) := by decide +kernel
theorem dX12_struckOf_59 : decode cX12_struckOf 59 = .ok (.iload_n 2, 1) := by decide +kernel
theorem dX12_struckOf_60 : decode cX12_struckOf 60 = .ok (.imul, 1) := by decide +kernel
theorem dX12_struckOf_61 : decode cX12_struckOf 61 = .ok (.bipush 10, 2) := by decide +kernel
theorem dX12_struckOf_63 : decode cX12_struckOf 63 = .ok (.iadd, 1) := by decide +kernel
theorem dX12_struckOf_64 : decode cX12_struckOf 64 = .ok (.ireturn, 1) := by decide +kernel
theorem dX12_struckOf_65 : decode cX12_struckOf 65 = .ok (.iload_n 3, 1) := by decide +kernel
theorem dX12_struckOf_66 : decode cX12_struckOf 66 = .ok (.iload_n 2, 1) := by decide +kernel
theorem dX12_struckOf_67 : decode cX12_struckOf 67 = .ok (.iconst 2, 1) := by decide +kernel
theorem dX12_struckOf_68 : decode cX12_struckOf 68 = .ok (.idiv, 1) := by decide +kernel
theorem dX12_struckOf_69 : decode cX12_struckOf 69 = .ok (.iadd, 1) := by decide +kernel
theorem dX12_struckOf_70 : decode cX12_struckOf 70 = .ok (.ireturn, 1) := by decide +kernel
theorem dX12_struckOf_71 : decode cX12_struckOf 71 = .ok (.iload_n 2, 1) := by decide +kernel
theorem dX12_struckOf_72 : decode cX12_struckOf 72 = .ok (.ireturn, 1) := by decide +kernel
theorem dX12_passesOf_0 : decode cX12_passesOf 0 = .ok (.aload_n 0, 1) := by decide +kernel
theorem dX12_passesOf_1 : decode cX12_passesOf 1 = .ok (.getfield 9, 3) := by decide +kernel
theorem dX12_passesOf_4 : decode cX12_passesOf 4 = .ok (.iconst 0, 1) := by decide +kernel
theorem dX12_passesOf_5 : decode cX12_passesOf 5 = .ok (.iaload, 1) := by decide +kernel
theorem dX12_passesOf_6 : decode cX12_passesOf 6 = .ok (.iconst 4, 1) := by decide +kernel
theorem dX12_passesOf_7 : decode cX12_passesOf 7 = .ok (.irem, 1) := by decide +kernel
theorem dX12_passesOf_8 : decode cX12_passesOf 8 = .ok (.istore_n 3, 1) := by decide +kernel
theorem dX12_passesOf_9 : decode cX12_passesOf 9 = .ok (.aload_n 0, 1) := by decide +kernel
theorem dX12_passesOf_10 : decode cX12_passesOf 10 = .ok (.iload_n 1, 1) := by decide +kernel
theorem dX12_passesOf_11 : decode cX12_passesOf 11 = .ok (.iconst 0, 1) := by decide +kernel
theorem dX12_passesOf_12 : decode cX12_passesOf 12 = .ok (.invokevirtual 64, 3) := by decide +kernel
theorem dX12_passesOf_15 : decode cX12_passesOf 15 = .ok (.tableswitch 86 0 5 #[37, 48, 86, 60, 86, 75], 37) := by decide +kernel
theorem dX12_passesOf_52 : decode cX12_passesOf 52 = .ok (.iload_n 2, 1) := by decide +kernel
theorem dX12_passesOf_53 : decode cX12_passesOf 53 = .ok (.iconst 4, 1) := by decide +kernel
theorem dX12_passesOf_54 : decode cX12_passesOf 54 = .ok (.if_icmp .lt 7, 3) := by decide +kernel
theorem dX12_passesOf_57 : decode cX12_passesOf 57 = .ok (.iload_n 3, 1) := by decide +kernel
theorem dX12_passesOf_58 : decode cX12_passesOf 58 = .ok (.goto 4, 3) := by decide +kernel
theorem dX12_passesOf_61 : decode cX12_passesOf 61 = .ok (.iconst (-1), 1) := by decide +kernel
theorem dX12_passesOf_62 : decode cX12_passesOf 62 = .ok (.ireturn, 1) := by decide +kernel
theorem dX12_passesOf_63 : decode cX12_passesOf 63 = .ok (.iload_n 2, 1) := by decide +kernel
theorem dX12_passesOf_64 : decode cX12_passesOf 64 = .ok (.bipush 6, 2) := by decide +kernel
theorem dX12_passesOf_66 : decode cX12_passesOf 66 = .ok (.if_icmp .ne 7, 3) := by decide +kernel
theorem dX12_passesOf_69 : decode cX12_passesOf 69 = .ok (.iload_n 3, 1) := by decide +kernel
theorem dX12_passesOf_70 : decode cX12_passesOf 70 = .ok (.goto 4, 3) := by decide +kernel
theorem dX12_passesOf_73 : decode cX12_passesOf 73 = .ok (.iconst (-1), 1) := by decide +kernel
theorem dX12_passesOf_74 : decode cX12_passesOf 74 = .ok (.ireturn, 1) := by decide +kernel
theorem dX12_passesOf_75 : decode cX12_passesOf 75 = .ok (.iload_n 2, 1) := by decide +kernel
theorem dX12_passesOf_76 : decode cX12_passesOf 76 = .ok (.iconst 1, 1) := by decide +kernel
theorem dX12_passesOf_77 : decode cX12_passesOf 77 = .ok (.iconst 3, 1) := by decide +kernel
theorem dX12_passesOf_78 : decode cX12_passesOf 78 = .ok (.invokestatic 52, 3) := by decide +kernel
theorem dX12_passesOf_81 : decode cX12_passesOf 81 = .ok (.ifCond .eq 7, 3) := by decide +kernel
theorem dX12_passesOf_84 : decode cX12_passesOf 84 = .ok (.iconst 0, 1) := by decide +kernel
theorem dX12_passesOf_85 : decode cX12_passesOf 85 = .ok (.goto 4, 3) := by decide +kernel
theorem dX12_passesOf_88 : decode cX12_passesOf 88 = .ok (.iconst (-1), 1) := by decide +kernel
theorem dX12_passesOf_89 : decode cX12_passesOf 89 = .ok (.ireturn, 1) := by decide +kernel
theorem dX12_passesOf_90 : decode cX12_passesOf 90 = .ok (.iload_n 2, 1) := by decide +kernel
theorem dX12_passesOf_91 : decode cX12_passesOf 91 = .ok (.iconst 2, 1) := by decide +kernel
theorem dX12_passesOf_92 : decode cX12_passesOf 92 = .ok (.if_icmp .lt 7, 3) := by decide +kernel
theorem dX12_passesOf_95 : decode cX12_passesOf 95 = .ok (.iload_n 3, 1) := by decide +kernel
theorem dX12_passesOf_96 : decode cX12_passesOf 96 = .ok (.goto 4, 3) := by decide +kernel
theorem dX12_passesOf_99 : decode cX12_passesOf 99 = .ok (.iconst (-1), 1) := by decide +kernel
theorem dX12_passesOf_100 : decode cX12_passesOf 100 = .ok (.ireturn, 1) := by decide +kernel
theorem dX12_passesOf_101 : decode cX12_passesOf 101 = .ok (.iconst (-1), 1) := by decide +kernel
theorem dX12_passesOf_102 : decode cX12_passesOf 102 = .ok (.ireturn, 1) := by decide +kernel
theorem dX12_presentFor_0 : decode cX12_presentFor 0 = .ok (.iconst 0, 1) := by decide +kernel
theorem dX12_presentFor_1 : decode cX12_presentFor 1 = .ok (.istore_n 2, 1) := by decide +kernel
theorem dX12_presentFor_2 : decode cX12_presentFor 2 = .ok (.iload_n 2, 1) := by decide +kernel
theorem dX12_presentFor_3 : decode cX12_presentFor 3 = .ok (.aload_n 0, 1) := by decide +kernel
theorem dX12_presentFor_4 : decode cX12_presentFor 4 = .ok (.getfield 9, 3) := by decide +kernel
theorem dX12_presentFor_7 : decode cX12_presentFor 7 = .ok (.iconst 2, 1) := by decide +kernel
theorem dX12_presentFor_8 : decode cX12_presentFor 8 = .ok (.iaload, 1) := by decide +kernel
theorem dX12_presentFor_9 : decode cX12_presentFor 9 = .ok (.if_icmp .ge 41, 3) := by decide +kernel
theorem dX12_presentFor_12 : decode cX12_presentFor 12 = .ok (.aload_n 0, 1) := by decide +kernel
theorem dX12_presentFor_13 : decode cX12_presentFor 13 = .ok (.iload_n 2, 1) := by decide +kernel
theorem dX12_presentFor_14 : decode cX12_presentFor 14 = .ok (.iconst 2, 1) := by decide +kernel
theorem dX12_presentFor_15 : decode cX12_presentFor 15 = .ok (.invokevirtual 56, 3) := by decide +kernel
theorem dX12_presentFor_18 : decode cX12_presentFor 18 = .ok (.iload_n 1, 1) := by decide +kernel
theorem dX12_presentFor_19 : decode cX12_presentFor 19 = .ok (.if_icmp .ne 25, 3) := by decide +kernel
theorem dX12_presentFor_22 : decode cX12_presentFor 22 = .ok (.aload_n 0, 1) := by decide +kernel
theorem dX12_presentFor_23 : decode cX12_presentFor 23 = .ok (.iload_n 2, 1) := by decide +kernel
theorem dX12_presentFor_24 : decode cX12_presentFor 24 = .ok (.iconst 3, 1) := by decide +kernel
theorem dX12_presentFor_25 : decode cX12_presentFor 25 = .ok (.invokevirtual 56, 3) := by decide +kernel
theorem dX12_presentFor_28 : decode cX12_presentFor 28 = .ok (.iconst 1, 1) := by decide +kernel
theorem dX12_presentFor_29 : decode cX12_presentFor 29 = .ok (.if_icmp .eq 15, 3) := by decide +kernel
theorem dX12_presentFor_32 : decode cX12_presentFor 32 = .ok (.aload_n 0, 1) := by decide +kernel
theorem dX12_presentFor_33 : decode cX12_presentFor 33 = .ok (.getfield 70, 3) := by decide +kernel
theorem dX12_presentFor_36 : decode cX12_presentFor 36 = .ok (.iload_n 2, 1) := by decide +kernel
theorem dX12_presentFor_37 : decode cX12_presentFor 37 = .ok (.ishr, 1) := by decide +kernel
theorem dX12_presentFor_38 : decode cX12_presentFor 38 = .ok (.iconst 1, 1) := by decide +kernel
theorem dX12_presentFor_39 : decode cX12_presentFor 39 = .ok (.iand, 1) := by decide +kernel
theorem dX12_presentFor_40 : decode cX12_presentFor 40 = .ok (.iconst 1, 1) := by decide +kernel
theorem dX12_presentFor_41 : decode cX12_presentFor 41 = .ok (.if_icmp .ne 9, 3) := by decide +kernel
theorem dX12_presentFor_44 : decode cX12_presentFor 44 = .ok (.iinc 2 1, 3) := by decide +kernel
theorem dX12_presentFor_47 : decode cX12_presentFor 47 = .ok (.goto (-45), 3) := by decide +kernel
theorem dX12_presentFor_50 : decode cX12_presentFor 50 = .ok (.iload_n 2, 1) := by decide +kernel
theorem dX12_presentFor_51 : decode cX12_presentFor 51 = .ok (.ireturn, 1) := by decide +kernel
theorem dX12_enjoys_0 : decode cX12_enjoys 0 = .ok (.aload_n 0, 1) := by decide +kernel
theorem dX12_enjoys_1 : decode cX12_enjoys 1 = .ok (.iload_n 1, 1) := by decide +kernel
theorem dX12_enjoys_2 : decode cX12_enjoys 2 = .ok (.iconst 1, 1) := by decide +kernel
theorem dX12_enjoys_3 : decode cX12_enjoys 3 = .ok (.sipush 9999, 3) := by decide +kernel
theorem dX12_enjoys_6 : decode cX12_enjoys 6 = .ok (.aload_n 0, 1) := by decide +kernel
theorem dX12_enjoys_7 : decode cX12_enjoys 7 = .ok (.iload_n 1, 1) := by decide +kernel
theorem dX12_enjoys_8 : decode cX12_enjoys 8 = .ok (.iconst 1, 1) := by decide +kernel
theorem dX12_enjoys_9 : decode cX12_enjoys 9 = .ok (.invokevirtual 64, 3) := by decide +kernel
theorem dX12_enjoys_12 : decode cX12_enjoys 12 = .ok (.iload_n 2, 1) := by decide +kernel
theorem dX12_enjoys_13 : decode cX12_enjoys 13 = .ok (.iadd, 1) := by decide +kernel
theorem dX12_enjoys_14 : decode cX12_enjoys 14 = .ok (.invokestatic 67, 3) := by decide +kernel
theorem dX12_enjoys_17 : decode cX12_enjoys 17 = .ok (.invokevirtual 74, 3) := by decide +kernel
theorem dX12_enjoys_20 : decode cX12_enjoys 20 = .ok (.return_, 1) := by decide +kernel
theorem dX12_opens_0 : decode cX12_opens 0 = .ok (.aload_n 0, 1) := by decide +kernel
theorem dX12_opens_1 : decode cX12_opens 1 = .ok (.iload_n 1, 1) := by decide +kernel
theorem dX12_opens_2 : decode cX12_opens 2 = .ok (.iload_n 2, 1) := by decide +kernel
theorem dX12_opens_3 : decode cX12_opens 3 = .ok (.invokevirtual 77, 3) := by decide +kernel
theorem dX12_opens_6 : decode cX12_opens 6 = .ok (.istore_n 3, 1) := by decide +kernel
theorem dX12_opens_7 : decode cX12_opens 7 = .ok (.iload_n 3, 1) := by decide +kernel
theorem dX12_opens_8 : decode cX12_opens 8 = .ok (.ifCond .le 24, 3) := by decide +kernel
theorem dX12_opens_11 : decode cX12_opens 11 = .ok (.aload_n 0, 1) := by decide +kernel
theorem dX12_opens_12 : decode cX12_opens 12 = .ok (.iload_n 1, 1) := by decide +kernel
theorem dX12_opens_13 : decode cX12_opens 13 = .ok (.aload_n 0, 1) := by decide +kernel
theorem dX12_opens_14 : decode cX12_opens 14 = .ok (.iload_n 1, 1) := by decide +kernel
theorem dX12_opens_15 : decode cX12_opens 15 = .ok (.aload_n 0, 1) := by decide +kernel
theorem dX12_opens_16 : decode cX12_opens 16 = .ok (.iload_n 2, 1) := by decide +kernel
theorem dX12_opens_17 : decode cX12_opens 17 = .ok (.invokevirtual 80, 3) := by decide +kernel
theorem dX12_opens_20 : decode cX12_opens 20 = .ok (.invokevirtual 84, 3) := by decide +kernel
theorem dX12_opens_23 : decode cX12_opens 23 = .ok (.invokevirtual 87, 3) := by decide +kernel
theorem dX12_opens_26 : decode cX12_opens 26 = .ok (.iinc 3 (-1), 3) := by decide +kernel
theorem dX12_opens_29 : decode cX12_opens 29 = .ok (.goto (-22), 3) := by decide +kernel
theorem dX12_opens_32 : decode cX12_opens 32 = .ok (.aload_n 0, 1) := by decide +kernel
theorem dX12_opens_33 : decode cX12_opens 33 = .ok (.iload_n 2, 1) := by decide +kernel
theorem dX12_opens_34 : decode cX12_opens 34 = .ok (.iconst 0, 1) := by decide +kernel
theorem dX12_opens_35 : decode cX12_opens 35 = .ok (.invokevirtual 56, 3) := by decide +kernel
theorem dX12_opens_38 : decode cX12_opens 38 = .ok (.ifCond .ne 26, 3) := by decide +kernel
theorem dX12_opens_41 : decode cX12_opens 41 = .ok (.aload_n 0, 1) := by decide +kernel
theorem dX12_opens_42 : decode cX12_opens 42 = .ok (.iload_n 2, 1) := by decide +kernel
theorem dX12_opens_43 : decode cX12_opens 43 = .ok (.iconst 3, 1) := by decide +kernel
theorem dX12_opens_44 : decode cX12_opens 44 = .ok (.iconst 1, 1) := by decide +kernel
theorem dX12_opens_45 : decode cX12_opens 45 = .ok (.invokevirtual 60, 3) := by decide +kernel
theorem dX12_opens_48 : decode cX12_opens 48 = .ok (.aload_n 0, 1) := by decide +kernel
theorem dX12_opens_49 : decode cX12_opens 49 = .ok (.iload_n 1, 1) := by decide +kernel
theorem dX12_opens_50 : decode cX12_opens 50 = .ok (.aload_n 0, 1) := by decide +kernel
theorem dX12_opens_51 : decode cX12_opens 51 = .ok (.iload_n 1, 1) := by decide +kernel
theorem dX12_opens_52 : decode cX12_opens 52 = .ok (.aload_n 0, 1) := by decide +kernel
theorem dX12_opens_53 : decode cX12_opens 53 = .ok (.iload_n 2, 1) := by decide +kernel
theorem dX12_opens_54 : decode cX12_opens 54 = .ok (.iconst 1, 1) := by decide +kernel
theorem dX12_opens_55 : decode cX12_opens 55 = .ok (.invokevirtual 56, 3) := by decide +kernel
theorem dX12_opens_58 : decode cX12_opens 58 = .ok (.invokevirtual 91, 3) := by decide +kernel
theorem dX12_opens_61 : decode cX12_opens 61 = .ok (.invokevirtual 87, 3) := by decide +kernel
theorem dX12_opens_64 : decode cX12_opens 64 = .ok (.return_, 1) := by decide +kernel
theorem dX12_takesTurn_0 : decode cX12_takesTurn 0 = .ok (.aload_n 0, 1) := by decide +kernel
theorem dX12_takesTurn_1 : decode cX12_takesTurn 1 = .ok (.iload_n 1, 1) := by decide +kernel
theorem dX12_takesTurn_2 : decode cX12_takesTurn 2 = .ok (.aload_n 0, 1) := by decide +kernel
theorem dX12_takesTurn_3 : decode cX12_takesTurn 3 = .ok (.iload_n 2, 1) := by decide +kernel
theorem dX12_takesTurn_4 : decode cX12_takesTurn 4 = .ok (.iconst 0, 1) := by decide +kernel
theorem dX12_takesTurn_5 : decode cX12_takesTurn 5 = .ok (.invokevirtual 56, 3) := by decide +kernel
theorem dX12_takesTurn_8 : decode cX12_takesTurn 8 = .ok (.invokevirtual 94, 3) := by decide +kernel
theorem dX12_takesTurn_11 : decode cX12_takesTurn 11 = .ok (.istore_n 3, 1) := by decide +kernel
theorem dX12_takesTurn_12 : decode cX12_takesTurn 12 = .ok (.iload_n 3, 1) := by decide +kernel
theorem dX12_takesTurn_13 : decode cX12_takesTurn 13 = .ok (.ifCond .lt 13, 3) := by decide +kernel
theorem dX12_takesTurn_16 : decode cX12_takesTurn 16 = .ok (.aload_n 0, 1) := by decide +kernel
theorem dX12_takesTurn_17 : decode cX12_takesTurn 17 = .ok (.getfield 9, 3) := by decide +kernel
theorem dX12_takesTurn_20 : decode cX12_takesTurn 20 = .ok (.iconst 1, 1) := by decide +kernel
theorem dX12_takesTurn_21 : decode cX12_takesTurn 21 = .ok (.iaload, 1) := by decide +kernel
theorem dX12_takesTurn_22 : decode cX12_takesTurn 22 = .ok (.iconst 1, 1) := by decide +kernel
theorem dX12_takesTurn_23 : decode cX12_takesTurn 23 = .ok (.if_icmp .ne 10, 3) := by decide +kernel
theorem dX12_takesTurn_26 : decode cX12_takesTurn 26 = .ok (.aload_n 0, 1) := by decide +kernel
theorem dX12_takesTurn_27 : decode cX12_takesTurn 27 = .ok (.iload_n 1, 1) := by decide +kernel
theorem dX12_takesTurn_28 : decode cX12_takesTurn 28 = .ok (.iload_n 2, 1) := by decide +kernel
theorem dX12_takesTurn_29 : decode cX12_takesTurn 29 = .ok (.invokevirtual 97, 3) := by decide +kernel
theorem dX12_takesTurn_32 : decode cX12_takesTurn 32 = .ok (.return_, 1) := by decide +kernel
theorem dX12_takesTurn_33 : decode cX12_takesTurn 33 = .ok (.aload_n 0, 1) := by decide +kernel
theorem dX12_takesTurn_34 : decode cX12_takesTurn 34 = .ok (.iload_n 2, 1) := by decide +kernel
theorem dX12_takesTurn_35 : decode cX12_takesTurn 35 = .ok (.iconst 0, 1) := by decide +kernel
theorem dX12_takesTurn_36 : decode cX12_takesTurn 36 = .ok (.invokevirtual 56, 3) := by decide +kernel
theorem dX12_takesTurn_39 : decode cX12_takesTurn 39 = .ok (.bipush 6, 2) := by decide +kernel
theorem dX12_takesTurn_41 : decode cX12_takesTurn 41 = .ok (.if_icmp .ge 9, 3) := by decide +kernel
theorem dX12_takesTurn_44 : decode cX12_takesTurn 44 = .ok (.aload_n 0, 1) := by decide +kernel
theorem dX12_takesTurn_45 : decode cX12_takesTurn 45 = .ok (.iload_n 2, 1) := by decide +kernel
theorem dX12_takesTurn_46 : decode cX12_takesTurn 46 = .ok (.iload_n 3, 1) := by decide +kernel
theorem dX12_takesTurn_47 : decode cX12_takesTurn 47 = .ok (.invokevirtual 100, 3) := by decide +kernel
theorem dX12_takesTurn_50 : decode cX12_takesTurn 50 = .ok (.aload_n 0, 1) := by decide +kernel
theorem dX12_takesTurn_51 : decode cX12_takesTurn 51 = .ok (.iload_n 2, 1) := by decide +kernel
theorem dX12_takesTurn_52 : decode cX12_takesTurn 52 = .ok (.iconst 2, 1) := by decide +kernel
theorem dX12_takesTurn_53 : decode cX12_takesTurn 53 = .ok (.iload_n 1, 1) := by decide +kernel
theorem dX12_takesTurn_54 : decode cX12_takesTurn 54 = .ok (.iconst 1, 1) := by decide +kernel
theorem dX12_takesTurn_55 : decode cX12_takesTurn 55 = .ok (.iadd, 1) := by decide +kernel
theorem dX12_takesTurn_56 : decode cX12_takesTurn 56 = .ok (.aload_n 0, 1) := by decide +kernel
theorem dX12_takesTurn_57 : decode cX12_takesTurn 57 = .ok (.getfield 9, 3) := by decide +kernel
theorem dX12_takesTurn_60 : decode cX12_takesTurn 60 = .ok (.iconst 1, 1) := by decide +kernel
theorem dX12_takesTurn_61 : decode cX12_takesTurn 61 = .ok (.iaload, 1) := by decide +kernel
theorem dX12_takesTurn_62 : decode cX12_takesTurn 62 = .ok (.irem, 1) := by decide +kernel
theorem dX12_takesTurn_63 : decode cX12_takesTurn 63 = .ok (.invokevirtual 60, 3) := by decide +kernel
theorem dX12_takesTurn_66 : decode cX12_takesTurn 66 = .ok (.aload_n 0, 1) := by decide +kernel
theorem dX12_takesTurn_67 : decode cX12_takesTurn 67 = .ok (.dup, 1) := by decide +kernel
theorem dX12_takesTurn_68 : decode cX12_takesTurn 68 = .ok (.getfield 70, 3) := by decide +kernel
theorem dX12_takesTurn_71 : decode cX12_takesTurn 71 = .ok (.iconst 1, 1) := by decide +kernel
theorem dX12_takesTurn_72 : decode cX12_takesTurn 72 = .ok (.iload_n 2, 1) := by decide +kernel
theorem dX12_takesTurn_73 : decode cX12_takesTurn 73 = .ok (.ishl, 1) := by decide +kernel
theorem dX12_takesTurn_74 : decode cX12_takesTurn 74 = .ok (.ior, 1) := by decide +kernel
theorem dX12_takesTurn_75 : decode cX12_takesTurn 75 = .ok (.putfield 70, 3) := by decide +kernel
theorem dX12_takesTurn_78 : decode cX12_takesTurn 78 = .ok (.return_, 1) := by decide +kernel
theorem dX12_day_0 : decode cX12_day 0 = .ok (.aload_n 0, 1) := by decide +kernel
theorem dX12_day_1 : decode cX12_day 1 = .ok (.iconst 0, 1) := by decide +kernel
theorem dX12_day_2 : decode cX12_day 2 = .ok (.putfield 70, 3) := by decide +kernel
theorem dX12_day_5 : decode cX12_day 5 = .ok (.iconst 0, 1) := by decide +kernel
theorem dX12_day_6 : decode cX12_day 6 = .ok (.istore_n 1, 1) := by decide +kernel
theorem dX12_day_7 : decode cX12_day 7 = .ok (.iload_n 1, 1) := by decide +kernel
theorem dX12_day_8 : decode cX12_day 8 = .ok (.aload_n 0, 1) := by decide +kernel
theorem dX12_day_9 : decode cX12_day 9 = .ok (.getfield 9, 3) := by decide +kernel
theorem dX12_day_12 : decode cX12_day 12 = .ok (.iconst 1, 1) := by decide +kernel
theorem dX12_day_13 : decode cX12_day 13 = .ok (.iaload, 1) := by decide +kernel
theorem dX12_day_14 : decode cX12_day 14 = .ok (.if_icmp .ge 31, 3) := by decide +kernel
theorem dX12_day_17 : decode cX12_day 17 = .ok (.aload_n 0, 1) := by decide +kernel
theorem dX12_day_18 : decode cX12_day 18 = .ok (.iload_n 1, 1) := by decide +kernel
theorem dX12_day_19 : decode cX12_day 19 = .ok (.invokevirtual 103, 3) := by decide +kernel
theorem dX12_day_22 : decode cX12_day 22 = .ok (.istore_n 2, 1) := by decide +kernel
theorem dX12_day_23 : decode cX12_day 23 = .ok (.iload_n 2, 1) := by decide +kernel
theorem dX12_day_24 : decode cX12_day 24 = .ok (.aload_n 0, 1) := by decide +kernel
theorem dX12_day_25 : decode cX12_day 25 = .ok (.getfield 9, 3) := by decide +kernel
theorem dX12_day_28 : decode cX12_day 28 = .ok (.iconst 2, 1) := by decide +kernel
theorem dX12_day_29 : decode cX12_day 29 = .ok (.iaload, 1) := by decide +kernel
theorem dX12_day_30 : decode cX12_day 30 = .ok (.if_icmp .ge 9, 3) := by decide +kernel
theorem dX12_day_33 : decode cX12_day 33 = .ok (.aload_n 0, 1) := by decide +kernel
theorem dX12_day_34 : decode cX12_day 34 = .ok (.iload_n 1, 1) := by decide +kernel
theorem dX12_day_35 : decode cX12_day 35 = .ok (.iload_n 2, 1) := by decide +kernel
theorem dX12_day_36 : decode cX12_day 36 = .ok (.invokevirtual 106, 3) := by decide +kernel
theorem dX12_day_39 : decode cX12_day 39 = .ok (.iinc 1 1, 3) := by decide +kernel
theorem dX12_day_42 : decode cX12_day 42 = .ok (.goto (-35), 3) := by decide +kernel
theorem dX12_day_45 : decode cX12_day 45 = .ok (.aload_n 0, 1) := by decide +kernel
theorem dX12_day_46 : decode cX12_day 46 = .ok (.getfield 9, 3) := by decide +kernel
theorem dX12_day_49 : decode cX12_day 49 = .ok (.iconst 0, 1) := by decide +kernel
theorem dX12_day_50 : decode cX12_day 50 = .ok (.dup2, 1) := by decide +kernel
theorem dX12_day_51 : decode cX12_day 51 = .ok (.iaload, 1) := by decide +kernel
theorem dX12_day_52 : decode cX12_day 52 = .ok (.iconst 1, 1) := by decide +kernel
theorem dX12_day_53 : decode cX12_day 53 = .ok (.iadd, 1) := by decide +kernel
theorem dX12_day_54 : decode cX12_day 54 = .ok (.iastore, 1) := by decide +kernel
theorem dX12_day_55 : decode cX12_day 55 = .ok (.return_, 1) := by decide +kernel
theorem dX12_goes_0 : decode cX12_goes 0 = .ok (.iconst 0, 1) := by decide +kernel
theorem dX12_goes_1 : decode cX12_goes 1 = .ok (.istore_n 2, 1) := by decide +kernel
theorem dX12_goes_2 : decode cX12_goes 2 = .ok (.iload_n 2, 1) := by decide +kernel
theorem dX12_goes_3 : decode cX12_goes 3 = .ok (.iload_n 1, 1) := by decide +kernel
theorem dX12_goes_4 : decode cX12_goes 4 = .ok (.if_icmp .ge 13, 3) := by decide +kernel
theorem dX12_goes_7 : decode cX12_goes 7 = .ok (.aload_n 0, 1) := by decide +kernel
theorem dX12_goes_8 : decode cX12_goes 8 = .ok (.invokevirtual 109, 3) := by decide +kernel
theorem dX12_goes_11 : decode cX12_goes 11 = .ok (.iinc 2 1, 3) := by decide +kernel
theorem dX12_goes_14 : decode cX12_goes 14 = .ok (.goto (-12), 3) := by decide +kernel
theorem dX12_goes_17 : decode cX12_goes 17 = .ok (.return_, 1) := by decide +kernel
theorem dX12_addsPerson_0 : decode cX12_addsPerson 0 = .ok (.aload_n 0, 1) := by decide +kernel
theorem dX12_addsPerson_1 : decode cX12_addsPerson 1 = .ok (.aload_n 0, 1) := by decide +kernel
theorem dX12_addsPerson_2 : decode cX12_addsPerson 2 = .ok (.getfield 9, 3) := by decide +kernel
theorem dX12_addsPerson_5 : decode cX12_addsPerson 5 = .ok (.iconst 1, 1) := by decide +kernel
theorem dX12_addsPerson_6 : decode cX12_addsPerson 6 = .ok (.iaload, 1) := by decide +kernel
theorem dX12_addsPerson_7 : decode cX12_addsPerson 7 = .ok (.iconst 0, 1) := by decide +kernel
theorem dX12_addsPerson_8 : decode cX12_addsPerson 8 = .ok (.iload_n 1, 1) := by decide +kernel
theorem dX12_addsPerson_9 : decode cX12_addsPerson 9 = .ok (.invokevirtual 74, 3) := by decide +kernel
theorem dX12_addsPerson_12 : decode cX12_addsPerson 12 = .ok (.aload_n 0, 1) := by decide +kernel
theorem dX12_addsPerson_13 : decode cX12_addsPerson 13 = .ok (.aload_n 0, 1) := by decide +kernel
theorem dX12_addsPerson_14 : decode cX12_addsPerson 14 = .ok (.getfield 9, 3) := by decide +kernel
theorem dX12_addsPerson_17 : decode cX12_addsPerson 17 = .ok (.iconst 1, 1) := by decide +kernel
theorem dX12_addsPerson_18 : decode cX12_addsPerson 18 = .ok (.iaload, 1) := by decide +kernel
theorem dX12_addsPerson_19 : decode cX12_addsPerson 19 = .ok (.iconst 1, 1) := by decide +kernel
theorem dX12_addsPerson_20 : decode cX12_addsPerson 20 = .ok (.iconst 0, 1) := by decide +kernel
theorem dX12_addsPerson_21 : decode cX12_addsPerson 21 = .ok (.invokevirtual 74, 3) := by decide +kernel
theorem dX12_addsPerson_24 : decode cX12_addsPerson 24 = .ok (.aload_n 0, 1) := by decide +kernel
theorem dX12_addsPerson_25 : decode cX12_addsPerson 25 = .ok (.getfield 9, 3) := by decide +kernel
theorem dX12_addsPerson_28 : decode cX12_addsPerson 28 = .ok (.iconst 1, 1) := by decide +kernel
theorem dX12_addsPerson_29 : decode cX12_addsPerson 29 = .ok (.dup2, 1) := by decide +kernel
theorem dX12_addsPerson_30 : decode cX12_addsPerson 30 = .ok (.iaload, 1) := by decide +kernel
theorem dX12_addsPerson_31 : decode cX12_addsPerson 31 = .ok (.iconst 1, 1) := by decide +kernel
theorem dX12_addsPerson_32 : decode cX12_addsPerson 32 = .ok (.iadd, 1) := by decide +kernel
theorem dX12_addsPerson_33 : decode cX12_addsPerson 33 = .ok (.iastore, 1) := by decide +kernel
theorem dX12_addsPerson_34 : decode cX12_addsPerson 34 = .ok (.return_, 1) := by decide +kernel
theorem dX12_person_0 : decode cX12_person 0 = .ok (.iload_n 1, 1) := by decide +kernel
theorem dX12_person_1 : decode cX12_person 1 = .ok (.iconst 0, 1) := by decide +kernel
theorem dX12_person_2 : decode cX12_person 2 = .ok (.iconst 5, 1) := by decide +kernel
theorem dX12_person_3 : decode cX12_person 3 = .ok (.invokestatic 52, 3) := by decide +kernel
theorem dX12_person_6 : decode cX12_person 6 = .ok (.ifCond .ne 9, 3) := by decide +kernel
theorem dX12_person_9 : decode cX12_person 9 = .ok (.aload_n 0, 1) := by decide +kernel
theorem dX12_person_10 : decode cX12_person 10 = .ok (.iconst 0, 1) := by decide +kernel
theorem dX12_person_11 : decode cX12_person 11 = .ok (.invokevirtual 112, 3) := by decide +kernel
theorem dX12_person_14 : decode cX12_person 14 = .ok (.ireturn, 1) := by decide +kernel
theorem dX12_person_15 : decode cX12_person 15 = .ok (.aload_n 0, 1) := by decide +kernel
theorem dX12_person_16 : decode cX12_person 16 = .ok (.getfield 9, 3) := by decide +kernel
theorem dX12_person_19 : decode cX12_person 19 = .ok (.iconst 1, 1) := by decide +kernel
theorem dX12_person_20 : decode cX12_person 20 = .ok (.iaload, 1) := by decide +kernel
theorem dX12_person_21 : decode cX12_person 21 = .ok (.bipush 6, 2) := by decide +kernel
theorem dX12_person_23 : decode cX12_person 23 = .ok (.if_icmp .ne 9, 3) := by decide +kernel
theorem dX12_person_26 : decode cX12_person 26 = .ok (.aload_n 0, 1) := by decide +kernel
theorem dX12_person_27 : decode cX12_person 27 = .ok (.iconst 1, 1) := by decide +kernel
theorem dX12_person_28 : decode cX12_person 28 = .ok (.invokevirtual 112, 3) := by decide +kernel
theorem dX12_person_31 : decode cX12_person 31 = .ok (.ireturn, 1) := by decide +kernel
theorem dX12_person_32 : decode cX12_person 32 = .ok (.aload_n 0, 1) := by decide +kernel
theorem dX12_person_33 : decode cX12_person 33 = .ok (.iload_n 1, 1) := by decide +kernel
theorem dX12_person_34 : decode cX12_person 34 = .ok (.invokevirtual 115, 3) := by decide +kernel
theorem dX12_person_37 : decode cX12_person 37 = .ok (.aload_n 0, 1) := by decide +kernel
theorem dX12_person_38 : decode cX12_person 38 = .ok (.getfield 9, 3) := by decide +kernel
theorem dX12_person_41 : decode cX12_person 41 = .ok (.iconst 1, 1) := by decide +kernel
theorem dX12_person_42 : decode cX12_person 42 = .ok (.iaload, 1) := by decide +kernel
theorem dX12_person_43 : decode cX12_person 43 = .ok (.iconst 1, 1) := by decide +kernel
theorem dX12_person_44 : decode cX12_person 44 = .ok (.isub, 1) := by decide +kernel
theorem dX12_person_45 : decode cX12_person 45 = .ok (.ireturn, 1) := by decide +kernel
theorem dX12_presentsWith_0 : decode cX12_presentsWith 0 = .ok (.iconst 0, 1) := by decide +kernel
theorem dX12_presentsWith_1 : decode cX12_presentsWith 1 = .ok (.istore_n 3, 1) := by decide +kernel
theorem dX12_presentsWith_2 : decode cX12_presentsWith 2 = .ok (.iconst 0, 1) := by decide +kernel
theorem dX12_presentsWith_3 : decode cX12_presentsWith 3 = .ok (.istore 4, 2) := by decide +kernel
theorem dX12_presentsWith_5 : decode cX12_presentsWith 5 = .ok (.iload 4, 2) := by decide +kernel
theorem dX12_presentsWith_7 : decode cX12_presentsWith 7 = .ok (.aload_n 0, 1) := by decide +kernel
theorem dX12_presentsWith_8 : decode cX12_presentsWith 8 = .ok (.getfield 9, 3) := by decide +kernel
theorem dX12_presentsWith_11 : decode cX12_presentsWith 11 = .ok (.iconst 2, 1) := by decide +kernel
theorem dX12_presentsWith_12 : decode cX12_presentsWith 12 = .ok (.iaload, 1) := by decide +kernel
theorem dX12_presentsWith_13 : decode cX12_presentsWith 13 = .ok (.if_icmp .ge 45, 3) := by decide +kernel
theorem dX12_presentsWith_16 : decode cX12_presentsWith 16 = .ok (.iload_n 3, 1) := by decide +kernel
theorem dX12_presentsWith_17 : decode cX12_presentsWith 17 = .ok (.aload_n 0, 1) := by decide +kernel
theorem dX12_presentsWith_18 : decode cX12_presentsWith 18 = .ok (.iload 4, 2) := by decide +kernel
theorem dX12_presentsWith_20 : decode cX12_presentsWith 20 = .ok (.iconst 2, 1) := by decide +kernel
theorem dX12_presentsWith_21 : decode cX12_presentsWith 21 = .ok (.invokevirtual 56, 3) := by decide +kernel
theorem dX12_presentsWith_24 : decode cX12_presentsWith 24 = .ok (.iload_n 1, 1) := by decide +kernel
theorem dX12_presentsWith_25 : decode cX12_presentsWith 25 = .ok (.if_icmp .ne 24, 3) := by decide +kernel
theorem dX12_presentsWith_28 : decode cX12_presentsWith 28 = .ok (.iload_n 2, 1) := by decide +kernel
theorem dX12_presentsWith_29 : decode cX12_presentsWith 29 = .ok (.ifCond .eq 13, 3) := by decide +kernel
theorem dX12_presentsWith_32 : decode cX12_presentsWith 32 = .ok (.aload_n 0, 1) := by decide +kernel
theorem dX12_presentsWith_33 : decode cX12_presentsWith 33 = .ok (.iload 4, 2) := by decide +kernel
theorem dX12_presentsWith_35 : decode cX12_presentsWith 35 = .ok (.iconst 3, 1) := by decide +kernel
theorem dX12_presentsWith_36 : decode cX12_presentsWith 36 = .ok (.invokevirtual 56, 3) := by decide +kernel
theorem dX12_presentsWith_39 : decode cX12_presentsWith 39 = .ok (.ifCond .ne 10, 3) := by decide +kernel
theorem dX12_presentsWith_42 : decode cX12_presentsWith 42 = .ok (.iconst 1, 1) := by decide +kernel
theorem dX12_presentsWith_43 : decode cX12_presentsWith 43 = .ok (.iload 4, 2) := by decide +kernel
theorem dX12_presentsWith_45 : decode cX12_presentsWith 45 = .ok (.ishl, 1) := by decide +kernel
theorem dX12_presentsWith_46 : decode cX12_presentsWith 46 = .ok (.goto 4, 3) := by decide +kernel
theorem dX12_presentsWith_49 : decode cX12_presentsWith 49 = .ok (.iconst 0, 1) := by decide +kernel
theorem dX12_presentsWith_50 : decode cX12_presentsWith 50 = .ok (.ior, 1) := by decide +kernel
theorem dX12_presentsWith_51 : decode cX12_presentsWith 51 = .ok (.istore_n 3, 1) := by decide +kernel
theorem dX12_presentsWith_52 : decode cX12_presentsWith 52 = .ok (.iinc 4 1, 3) := by decide +kernel
theorem dX12_presentsWith_55 : decode cX12_presentsWith 55 = .ok (.goto (-50), 3) := by decide +kernel
theorem dX12_presentsWith_58 : decode cX12_presentsWith 58 = .ok (.iload_n 3, 1) := by decide +kernel
theorem dX12_presentsWith_59 : decode cX12_presentsWith 59 = .ok (.ireturn, 1) := by decide +kernel
theorem dX12_of_0 : decode cX12_of 0 = .ok (.aload_n 0, 1) := by decide +kernel
theorem dX12_of_1 : decode cX12_of 1 = .ok (.iload_n 1, 1) := by decide +kernel
theorem dX12_of_2 : decode cX12_of 2 = .ok (.invokevirtual 119, 3) := by decide +kernel
theorem dX12_of_5 : decode cX12_of 5 = .ok (.ifCond .eq 12, 3) := by decide +kernel
theorem dX12_of_8 : decode cX12_of 8 = .ok (.iload_n 2, 1) := by decide +kernel
theorem dX12_of_9 : decode cX12_of 9 = .ok (.iconst 0, 1) := by decide +kernel
theorem dX12_of_10 : decode cX12_of 10 = .ok (.iconst 3, 1) := by decide +kernel
theorem dX12_of_11 : decode cX12_of 11 = .ok (.invokestatic 52, 3) := by decide +kernel
theorem dX12_of_14 : decode cX12_of 14 = .ok (.ifCond .ne 9, 3) := by decide +kernel
theorem dX12_of_17 : decode cX12_of 17 = .ok (.aload_n 0, 1) := by decide +kernel
theorem dX12_of_18 : decode cX12_of 18 = .ok (.iconst 0, 1) := by decide +kernel
theorem dX12_of_19 : decode cX12_of 19 = .ok (.invokevirtual 112, 3) := by decide +kernel
theorem dX12_of_22 : decode cX12_of 22 = .ok (.ireturn, 1) := by decide +kernel
theorem dX12_of_23 : decode cX12_of 23 = .ok (.iload_n 2, 1) := by decide +kernel
theorem dX12_of_24 : decode cX12_of 24 = .ok (.iconst 2, 1) := by decide +kernel
theorem dX12_of_25 : decode cX12_of 25 = .ok (.if_icmp .ge 12, 3) := by decide +kernel
theorem dX12_of_28 : decode cX12_of 28 = .ok (.aload_n 0, 1) := by decide +kernel
theorem dX12_of_29 : decode cX12_of 29 = .ok (.iload_n 1, 1) := by decide +kernel
theorem dX12_of_30 : decode cX12_of 30 = .ok (.iload_n 2, 1) := by decide +kernel
theorem dX12_of_31 : decode cX12_of 31 = .ok (.invokevirtual 64, 3) := by decide +kernel
theorem dX12_of_34 : decode cX12_of 34 = .ok (.goto 18, 3) := by decide +kernel
theorem dX12_of_37 : decode cX12_of 37 = .ok (.aload_n 0, 1) := by decide +kernel
theorem dX12_of_38 : decode cX12_of 38 = .ok (.iload_n 1, 1) := by decide +kernel
theorem dX12_of_39 : decode cX12_of 39 = .ok (.iload_n 2, 1) := by decide +kernel
theorem dX12_of_40 : decode cX12_of 40 = .ok (.iconst 3, 1) := by decide +kernel
theorem dX12_of_41 : decode cX12_of 41 = .ok (.if_icmp .ne 7, 3) := by decide +kernel
theorem dX12_of_44 : decode cX12_of 44 = .ok (.iconst 1, 1) := by decide +kernel
theorem dX12_of_45 : decode cX12_of 45 = .ok (.goto 4, 3) := by decide +kernel
theorem dX12_of_48 : decode cX12_of 48 = .ok (.iconst 0, 1) := by decide +kernel
theorem dX12_of_49 : decode cX12_of 49 = .ok (.invokevirtual 123, 3) := by decide +kernel
theorem dX12_of_52 : decode cX12_of 52 = .ok (.ireturn, 1) := by decide +kernel
theorem dX12_does_0 : decode cX12_does 0 = .ok (.aload_n 0, 1) := by decide +kernel
theorem dX12_does_1 : decode cX12_does 1 = .ok (.iload_n 1, 1) := by decide +kernel
theorem dX12_does_2 : decode cX12_does 2 = .ok (.invokevirtual 119, 3) := by decide +kernel
theorem dX12_does_5 : decode cX12_does 5 = .ok (.ifCond .eq 20, 3) := by decide +kernel
theorem dX12_does_8 : decode cX12_does 8 = .ok (.iload_n 2, 1) := by decide +kernel
theorem dX12_does_9 : decode cX12_does 9 = .ok (.iconst 0, 1) := by decide +kernel
theorem dX12_does_10 : decode cX12_does 10 = .ok (.iconst 3, 1) := by decide +kernel
theorem dX12_does_11 : decode cX12_does 11 = .ok (.invokestatic 52, 3) := by decide +kernel
theorem dX12_does_14 : decode cX12_does 14 = .ok (.ifCond .eq 11, 3) := by decide +kernel
theorem dX12_does_17 : decode cX12_does 17 = .ok (.aload_n 0, 1) := by decide +kernel
theorem dX12_does_18 : decode cX12_does 18 = .ok (.iload_n 3, 1) := by decide +kernel
theorem dX12_does_19 : decode cX12_does 19 = .ok (.invokevirtual 127, 3) := by decide +kernel
theorem dX12_does_22 : decode cX12_does 22 = .ok (.ifCond .ne 9, 3) := by decide +kernel
theorem dX12_does_25 : decode cX12_does 25 = .ok (.aload_n 0, 1) := by decide +kernel
theorem dX12_does_26 : decode cX12_does 26 = .ok (.iconst 0, 1) := by decide +kernel
theorem dX12_does_27 : decode cX12_does 27 = .ok (.invokevirtual 112, 3) := by decide +kernel
theorem dX12_does_30 : decode cX12_does 30 = .ok (.ireturn, 1) := by decide +kernel
theorem dX12_does_31 : decode cX12_does 31 = .ok (.aload_n 0, 1) := by decide +kernel
theorem dX12_does_32 : decode cX12_does 32 = .ok (.iload_n 3, 1) := by decide +kernel
theorem dX12_does_33 : decode cX12_does 33 = .ok (.iconst 0, 1) := by decide +kernel
theorem dX12_does_34 : decode cX12_does 34 = .ok (.invokevirtual 56, 3) := by decide +kernel
theorem dX12_does_37 : decode cX12_does 37 = .ok (.istore 4, 2) := by decide +kernel
theorem dX12_does_39 : decode cX12_does 39 = .ok (.iload_n 2, 1) := by decide +kernel
theorem dX12_does_40 : decode cX12_does 40 = .ok (.iconst 2, 1) := by decide +kernel
theorem dX12_does_41 : decode cX12_does 41 = .ok (.if_icmp .ge 14, 3) := by decide +kernel
theorem dX12_does_44 : decode cX12_does 44 = .ok (.iload 4, 2) := by decide +kernel
theorem dX12_does_46 : decode cX12_does 46 = .ok (.ifCond .ne 9, 3) := by decide +kernel
theorem dX12_does_49 : decode cX12_does 49 = .ok (.aload_n 0, 1) := by decide +kernel
theorem dX12_does_50 : decode cX12_does 50 = .ok (.iconst 3, 1) := by decide +kernel
theorem dX12_does_51 : decode cX12_does 51 = .ok (.invokevirtual 112, 3) := by decide +kernel
theorem dX12_does_54 : decode cX12_does 54 = .ok (.ireturn, 1) := by decide +kernel
theorem dX12_does_55 : decode cX12_does 55 = .ok (.iload_n 2, 1) := by decide +kernel
theorem dX12_does_56 : decode cX12_does 56 = .ok (.ifCond .ne 12, 3) := by decide +kernel
theorem dX12_does_59 : decode cX12_does 59 = .ok (.aload_n 0, 1) := by decide +kernel
theorem dX12_does_60 : decode cX12_does 60 = .ok (.iload_n 1, 1) := by decide +kernel
theorem dX12_does_61 : decode cX12_does 61 = .ok (.iload_n 3, 1) := by decide +kernel
theorem dX12_does_62 : decode cX12_does 62 = .ok (.invokevirtual 77, 3) := by decide +kernel
theorem dX12_does_65 : decode cX12_does 65 = .ok (.goto 50, 3) := by decide +kernel
theorem dX12_does_68 : decode cX12_does 68 = .ok (.iload_n 2, 1) := by decide +kernel
theorem dX12_does_69 : decode cX12_does 69 = .ok (.iconst 1, 1) := by decide +kernel
theorem dX12_does_70 : decode cX12_does 70 = .ok (.if_icmp .ne 17, 3) := by decide +kernel
theorem dX12_does_73 : decode cX12_does 73 = .ok (.aload_n 0, 1) := by decide +kernel
theorem dX12_does_74 : decode cX12_does 74 = .ok (.iload_n 1, 1) := by decide +kernel
theorem dX12_does_75 : decode cX12_does 75 = .ok (.aload_n 0, 1) := by decide +kernel
theorem dX12_does_76 : decode cX12_does 76 = .ok (.iload_n 3, 1) := by decide +kernel
theorem dX12_does_77 : decode cX12_does 77 = .ok (.iconst 4, 1) := by decide +kernel
theorem dX12_does_78 : decode cX12_does 78 = .ok (.invokevirtual 56, 3) := by decide +kernel
theorem dX12_does_81 : decode cX12_does 81 = .ok (.invokevirtual 84, 3) := by decide +kernel
theorem dX12_does_84 : decode cX12_does 84 = .ok (.goto 31, 3) := by decide +kernel
theorem dX12_does_87 : decode cX12_does 87 = .ok (.iload_n 2, 1) := by decide +kernel
theorem dX12_does_88 : decode cX12_does 88 = .ok (.iconst 2, 1) := by decide +kernel
theorem dX12_does_89 : decode cX12_does 89 = .ok (.if_icmp .ne 17, 3) := by decide +kernel
theorem dX12_does_92 : decode cX12_does 92 = .ok (.aload_n 0, 1) := by decide +kernel
theorem dX12_does_93 : decode cX12_does 93 = .ok (.iload_n 1, 1) := by decide +kernel
theorem dX12_does_94 : decode cX12_does 94 = .ok (.aload_n 0, 1) := by decide +kernel
theorem dX12_does_95 : decode cX12_does 95 = .ok (.iload_n 3, 1) := by decide +kernel
theorem dX12_does_96 : decode cX12_does 96 = .ok (.iconst 1, 1) := by decide +kernel
theorem dX12_does_97 : decode cX12_does 97 = .ok (.invokevirtual 56, 3) := by decide +kernel
theorem dX12_does_100 : decode cX12_does 100 = .ok (.invokevirtual 91, 3) := by decide +kernel
theorem dX12_does_103 : decode cX12_does 103 = .ok (.goto 12, 3) := by decide +kernel
theorem dX12_does_106 : decode cX12_does 106 = .ok (.iconst 1, 1) := by decide +kernel
theorem dX12_does_107 : decode cX12_does 107 = .ok (.aload_n 0, 1) := by decide +kernel
theorem dX12_does_108 : decode cX12_does 108 = .ok (.iload_n 1, 1) := by decide +kernel
theorem dX12_does_109 : decode cX12_does 109 = .ok (.iload 4, 2) := by decide +kernel
theorem dX12_does_111 : decode cX12_does 111 = .ok (.invokevirtual 94, 3) := by decide +kernel
theorem dX12_does_114 : decode cX12_does 114 = .ok (.iadd, 1) := by decide +kernel
theorem dX12_does_115 : decode cX12_does 115 = .ok (.ireturn, 1) := by decide +kernel
theorem dX12_joy_0 : decode cX12_joy 0 = .ok (.aload_n 0, 1) := by decide +kernel
theorem dX12_joy_1 : decode cX12_joy 1 = .ok (.iload_n 1, 1) := by decide +kernel
theorem dX12_joy_2 : decode cX12_joy 2 = .ok (.invokevirtual 119, 3) := by decide +kernel
theorem dX12_joy_5 : decode cX12_joy 5 = .ok (.ifCond .eq 14, 3) := by decide +kernel
theorem dX12_joy_8 : decode cX12_joy 8 = .ok (.iload_n 2, 1) := by decide +kernel
theorem dX12_joy_9 : decode cX12_joy 9 = .ok (.iconst 0, 1) := by decide +kernel
theorem dX12_joy_10 : decode cX12_joy 10 = .ok (.sipush 9999, 3) := by decide +kernel
theorem dX12_joy_13 : decode cX12_joy 13 = .ok (.invokestatic 52, 3) := by decide +kernel
theorem dX12_joy_16 : decode cX12_joy 16 = .ok (.ifCond .ne 9, 3) := by decide +kernel
theorem dX12_joy_19 : decode cX12_joy 19 = .ok (.aload_n 0, 1) := by decide +kernel
theorem dX12_joy_20 : decode cX12_joy 20 = .ok (.iconst 0, 1) := by decide +kernel
theorem dX12_joy_21 : decode cX12_joy 21 = .ok (.invokevirtual 112, 3) := by decide +kernel
theorem dX12_joy_24 : decode cX12_joy 24 = .ok (.ireturn, 1) := by decide +kernel
theorem dX12_joy_25 : decode cX12_joy 25 = .ok (.aload_n 0, 1) := by decide +kernel
theorem dX12_joy_26 : decode cX12_joy 26 = .ok (.iload_n 1, 1) := by decide +kernel
theorem dX12_joy_27 : decode cX12_joy 27 = .ok (.iconst 1, 1) := by decide +kernel
theorem dX12_joy_28 : decode cX12_joy 28 = .ok (.invokevirtual 64, 3) := by decide +kernel
theorem dX12_joy_31 : decode cX12_joy 31 = .ok (.istore_n 3, 1) := by decide +kernel
theorem dX12_joy_32 : decode cX12_joy 32 = .ok (.aload_n 0, 1) := by decide +kernel
theorem dX12_joy_33 : decode cX12_joy 33 = .ok (.iload_n 1, 1) := by decide +kernel
theorem dX12_joy_34 : decode cX12_joy 34 = .ok (.iconst 1, 1) := by decide +kernel
theorem dX12_joy_35 : decode cX12_joy 35 = .ok (.iload_n 2, 1) := by decide +kernel
theorem dX12_joy_36 : decode cX12_joy 36 = .ok (.invokevirtual 74, 3) := by decide +kernel
theorem dX12_joy_39 : decode cX12_joy 39 = .ok (.iload_n 3, 1) := by decide +kernel
theorem dX12_joy_40 : decode cX12_joy 40 = .ok (.ireturn, 1) := by decide +kernel
theorem dX12_turn_0 : decode cX12_turn 0 = .ok (.aload_n 0, 1) := by decide +kernel
theorem dX12_turn_1 : decode cX12_turn 1 = .ok (.iload_n 1, 1) := by decide +kernel
theorem dX12_turn_2 : decode cX12_turn 2 = .ok (.invokevirtual 119, 3) := by decide +kernel
theorem dX12_turn_5 : decode cX12_turn 5 = .ok (.ifCond .eq 12, 3) := by decide +kernel
theorem dX12_turn_8 : decode cX12_turn 8 = .ok (.iload_n 2, 1) := by decide +kernel
theorem dX12_turn_9 : decode cX12_turn 9 = .ok (.iconst 0, 1) := by decide +kernel
theorem dX12_turn_10 : decode cX12_turn 10 = .ok (.iconst 5, 1) := by decide +kernel
theorem dX12_turn_11 : decode cX12_turn 11 = .ok (.invokestatic 52, 3) := by decide +kernel
theorem dX12_turn_14 : decode cX12_turn 14 = .ok (.ifCond .ne 9, 3) := by decide +kernel
theorem dX12_turn_17 : decode cX12_turn 17 = .ok (.aload_n 0, 1) := by decide +kernel
theorem dX12_turn_18 : decode cX12_turn 18 = .ok (.iconst 0, 1) := by decide +kernel
theorem dX12_turn_19 : decode cX12_turn 19 = .ok (.invokevirtual 112, 3) := by decide +kernel
theorem dX12_turn_22 : decode cX12_turn 22 = .ok (.ireturn, 1) := by decide +kernel
theorem dX12_turn_23 : decode cX12_turn 23 = .ok (.aload_n 0, 1) := by decide +kernel
theorem dX12_turn_24 : decode cX12_turn 24 = .ok (.iload_n 1, 1) := by decide +kernel
theorem dX12_turn_25 : decode cX12_turn 25 = .ok (.iconst 0, 1) := by decide +kernel
theorem dX12_turn_26 : decode cX12_turn 26 = .ok (.invokevirtual 64, 3) := by decide +kernel
theorem dX12_turn_29 : decode cX12_turn 29 = .ok (.istore_n 3, 1) := by decide +kernel
theorem dX12_turn_30 : decode cX12_turn 30 = .ok (.aload_n 0, 1) := by decide +kernel
theorem dX12_turn_31 : decode cX12_turn 31 = .ok (.iload_n 1, 1) := by decide +kernel
theorem dX12_turn_32 : decode cX12_turn 32 = .ok (.iconst 0, 1) := by decide +kernel
theorem dX12_turn_33 : decode cX12_turn 33 = .ok (.iload_n 2, 1) := by decide +kernel
theorem dX12_turn_34 : decode cX12_turn 34 = .ok (.invokevirtual 74, 3) := by decide +kernel
theorem dX12_turn_37 : decode cX12_turn 37 = .ok (.iload_n 3, 1) := by decide +kernel
theorem dX12_turn_38 : decode cX12_turn 38 = .ok (.ireturn, 1) := by decide +kernel
theorem dX12_as_0 : decode cX12_as 0 = .ok (.aload_n 0, 1) := by decide +kernel
theorem dX12_as_1 : decode cX12_as 1 = .ok (.iload_n 1, 1) := by decide +kernel
theorem dX12_as_2 : decode cX12_as 2 = .ok (.invokevirtual 119, 3) := by decide +kernel
theorem dX12_as_5 : decode cX12_as 5 = .ok (.ifCond .eq 12, 3) := by decide +kernel
theorem dX12_as_8 : decode cX12_as 8 = .ok (.iload_n 2, 1) := by decide +kernel
theorem dX12_as_9 : decode cX12_as 9 = .ok (.iconst 0, 1) := by decide +kernel
theorem dX12_as_10 : decode cX12_as 10 = .ok (.iconst 5, 1) := by decide +kernel
theorem dX12_as_11 : decode cX12_as 11 = .ok (.invokestatic 52, 3) := by decide +kernel
theorem dX12_as_14 : decode cX12_as 14 = .ok (.ifCond .ne 9, 3) := by decide +kernel
theorem dX12_as_17 : decode cX12_as 17 = .ok (.aload_n 0, 1) := by decide +kernel
theorem dX12_as_18 : decode cX12_as 18 = .ok (.iconst 0, 1) := by decide +kernel
theorem dX12_as_19 : decode cX12_as 19 = .ok (.invokevirtual 112, 3) := by decide +kernel
theorem dX12_as_22 : decode cX12_as 22 = .ok (.ireturn, 1) := by decide +kernel
theorem dX12_as_23 : decode cX12_as 23 = .ok (.aload_n 0, 1) := by decide +kernel
theorem dX12_as_24 : decode cX12_as 24 = .ok (.iload_n 1, 1) := by decide +kernel
theorem dX12_as_25 : decode cX12_as 25 = .ok (.iconst 0, 1) := by decide +kernel
theorem dX12_as_26 : decode cX12_as 26 = .ok (.invokevirtual 64, 3) := by decide +kernel
theorem dX12_as_29 : decode cX12_as 29 = .ok (.istore_n 3, 1) := by decide +kernel
theorem dX12_as_30 : decode cX12_as 30 = .ok (.iload_n 3, 1) := by decide +kernel
theorem dX12_as_31 : decode cX12_as 31 = .ok (.iload_n 2, 1) := by decide +kernel
theorem dX12_as_32 : decode cX12_as 32 = .ok (.if_icmp .eq 30, 3) := by decide +kernel
theorem dX12_as_35 : decode cX12_as 35 = .ok (.iload_n 3, 1) := by decide +kernel
theorem dX12_as_36 : decode cX12_as 36 = .ok (.ifCond .eq 26, 3) := by decide +kernel
theorem dX12_as_39 : decode cX12_as 39 = .ok (.iload_n 3, 1) := by decide +kernel
theorem dX12_as_40 : decode cX12_as 40 = .ok (.iconst 4, 1) := by decide +kernel
theorem dX12_as_41 : decode cX12_as 41 = .ok (.if_icmp .ne 7, 3) := by decide +kernel
theorem dX12_as_44 : decode cX12_as 44 = .ok (.iconst 2, 1) := by decide +kernel
theorem dX12_as_45 : decode cX12_as 45 = .ok (.goto 13, 3) := by decide +kernel
theorem dX12_as_48 : decode cX12_as 48 = .ok (.iload_n 3, 1) := by decide +kernel
theorem dX12_as_49 : decode cX12_as 49 = .ok (.iconst 5, 1) := by decide +kernel
theorem dX12_as_50 : decode cX12_as 50 = .ok (.if_icmp .ne 7, 3) := by decide +kernel
theorem dX12_as_53 : decode cX12_as 53 = .ok (.iconst 1, 1) := by decide +kernel
theorem dX12_as_54 : decode cX12_as 54 = .ok (.goto 4, 3) := by decide +kernel
theorem dX12_as_57 : decode cX12_as 57 = .ok (.iconst 0, 1) := by decide +kernel
theorem dX12_as_58 : decode cX12_as 58 = .ok (.istore_n 3, 1) := by decide +kernel
theorem dX12_as_59 : decode cX12_as 59 = .ok (.goto (-29), 3) := by decide +kernel
theorem dX12_as_62 : decode cX12_as 62 = .ok (.iload_n 3, 1) := by decide +kernel
theorem dX12_as_63 : decode cX12_as 63 = .ok (.iload_n 2, 1) := by decide +kernel
theorem dX12_as_64 : decode cX12_as 64 = .ok (.if_icmp .ne 12, 3) := by decide +kernel
theorem dX12_as_67 : decode cX12_as 67 = .ok (.aload_n 0, 1) := by decide +kernel
theorem dX12_as_68 : decode cX12_as 68 = .ok (.iload_n 1, 1) := by decide +kernel
theorem dX12_as_69 : decode cX12_as 69 = .ok (.iconst 1, 1) := by decide +kernel
theorem dX12_as_70 : decode cX12_as 70 = .ok (.invokevirtual 64, 3) := by decide +kernel
theorem dX12_as_73 : decode cX12_as 73 = .ok (.goto 8, 3) := by decide +kernel
theorem dX12_as_76 : decode cX12_as 76 = .ok (.aload_n 0, 1) := by decide +kernel
theorem dX12_as_77 : decode cX12_as 77 = .ok (.iconst 2, 1) := by decide +kernel
theorem dX12_as_78 : decode cX12_as 78 = .ok (.invokevirtual 112, 3) := by decide +kernel
theorem dX12_as_81 : decode cX12_as 81 = .ok (.ireturn, 1) := by decide +kernel
theorem dX12_addsPresent_0 : decode cX12_addsPresent 0 = .ok (.aload_n 0, 1) := by decide +kernel
theorem dX12_addsPresent_1 : decode cX12_addsPresent 1 = .ok (.getfield 9, 3) := by decide +kernel
theorem dX12_addsPresent_4 : decode cX12_addsPresent 4 = .ok (.iconst 2, 1) := by decide +kernel
theorem dX12_addsPresent_5 : decode cX12_addsPresent 5 = .ok (.iaload, 1) := by decide +kernel
theorem dX12_addsPresent_6 : decode cX12_addsPresent 6 = .ok (.istore_n 3, 1) := by decide +kernel
theorem dX12_addsPresent_7 : decode cX12_addsPresent 7 = .ok (.aload_n 0, 1) := by decide +kernel
theorem dX12_addsPresent_8 : decode cX12_addsPresent 8 = .ok (.iload_n 3, 1) := by decide +kernel
theorem dX12_addsPresent_9 : decode cX12_addsPresent 9 = .ok (.iconst 0, 1) := by decide +kernel
theorem dX12_addsPresent_10 : decode cX12_addsPresent 10 = .ok (.iconst 0, 1) := by decide +kernel
theorem dX12_addsPresent_11 : decode cX12_addsPresent 11 = .ok (.invokevirtual 60, 3) := by decide +kernel
theorem dX12_addsPresent_14 : decode cX12_addsPresent 14 = .ok (.aload_n 0, 1) := by decide +kernel
theorem dX12_addsPresent_15 : decode cX12_addsPresent 15 = .ok (.iload_n 3, 1) := by decide +kernel
theorem dX12_addsPresent_16 : decode cX12_addsPresent 16 = .ok (.iconst 1, 1) := by decide +kernel
theorem dX12_addsPresent_17 : decode cX12_addsPresent 17 = .ok (.iload_n 2, 1) := by decide +kernel
theorem dX12_addsPresent_18 : decode cX12_addsPresent 18 = .ok (.invokevirtual 60, 3) := by decide +kernel
theorem dX12_addsPresent_21 : decode cX12_addsPresent 21 = .ok (.aload_n 0, 1) := by decide +kernel
theorem dX12_addsPresent_22 : decode cX12_addsPresent 22 = .ok (.iload_n 3, 1) := by decide +kernel
theorem dX12_addsPresent_23 : decode cX12_addsPresent 23 = .ok (.iconst 2, 1) := by decide +kernel
theorem dX12_addsPresent_24 : decode cX12_addsPresent 24 = .ok (.iload_n 1, 1) := by decide +kernel
theorem dX12_addsPresent_25 : decode cX12_addsPresent 25 = .ok (.invokevirtual 60, 3) := by decide +kernel
theorem dX12_addsPresent_28 : decode cX12_addsPresent 28 = .ok (.aload_n 0, 1) := by decide +kernel
theorem dX12_addsPresent_29 : decode cX12_addsPresent 29 = .ok (.iload_n 3, 1) := by decide +kernel
theorem dX12_addsPresent_30 : decode cX12_addsPresent 30 = .ok (.iconst 3, 1) := by decide +kernel
theorem dX12_addsPresent_31 : decode cX12_addsPresent 31 = .ok (.iconst 0, 1) := by decide +kernel
theorem dX12_addsPresent_32 : decode cX12_addsPresent 32 = .ok (.invokevirtual 60, 3) := by decide +kernel
theorem dX12_addsPresent_35 : decode cX12_addsPresent 35 = .ok (.aload_n 0, 1) := by decide +kernel
theorem dX12_addsPresent_36 : decode cX12_addsPresent 36 = .ok (.getfield 9, 3) := by decide +kernel
theorem dX12_addsPresent_39 : decode cX12_addsPresent 39 = .ok (.iconst 2, 1) := by decide +kernel
theorem dX12_addsPresent_40 : decode cX12_addsPresent 40 = .ok (.dup2, 1) := by decide +kernel
theorem dX12_addsPresent_41 : decode cX12_addsPresent 41 = .ok (.iaload, 1) := by decide +kernel
theorem dX12_addsPresent_42 : decode cX12_addsPresent 42 = .ok (.iconst 1, 1) := by decide +kernel
theorem dX12_addsPresent_43 : decode cX12_addsPresent 43 = .ok (.iadd, 1) := by decide +kernel
theorem dX12_addsPresent_44 : decode cX12_addsPresent 44 = .ok (.iastore, 1) := by decide +kernel
theorem dX12_addsPresent_45 : decode cX12_addsPresent 45 = .ok (.return_, 1) := by decide +kernel
theorem dX12_present_0 : decode cX12_present 0 = .ok (.aload_n 0, 1) := by decide +kernel
theorem dX12_present_1 : decode cX12_present 1 = .ok (.iload_n 1, 1) := by decide +kernel
theorem dX12_present_2 : decode cX12_present 2 = .ok (.invokevirtual 119, 3) := by decide +kernel
theorem dX12_present_5 : decode cX12_present 5 = .ok (.ifCond .eq 13, 3) := by decide +kernel
theorem dX12_present_8 : decode cX12_present 8 = .ok (.iload_n 2, 1) := by decide +kernel
theorem dX12_present_9 : decode cX12_present 9 = .ok (.iconst 0, 1) := by decide +kernel
theorem dX12_present_10 : decode cX12_present 10 = .ok (.bipush 99, 2) := by decide +kernel
theorem dX12_present_12 : decode cX12_present 12 = .ok (.invokestatic 52, 3) := by decide +kernel
theorem dX12_present_15 : decode cX12_present 15 = .ok (.ifCond .ne 9, 3) := by decide +kernel
theorem dX12_present_18 : decode cX12_present 18 = .ok (.aload_n 0, 1) := by decide +kernel
theorem dX12_present_19 : decode cX12_present 19 = .ok (.iconst 0, 1) := by decide +kernel
theorem dX12_present_20 : decode cX12_present 20 = .ok (.invokevirtual 112, 3) := by decide +kernel
theorem dX12_present_23 : decode cX12_present 23 = .ok (.ireturn, 1) := by decide +kernel
theorem dX12_present_24 : decode cX12_present 24 = .ok (.aload_n 0, 1) := by decide +kernel
theorem dX12_present_25 : decode cX12_present 25 = .ok (.getfield 9, 3) := by decide +kernel
theorem dX12_present_28 : decode cX12_present 28 = .ok (.iconst 2, 1) := by decide +kernel
theorem dX12_present_29 : decode cX12_present 29 = .ok (.iaload, 1) := by decide +kernel
theorem dX12_present_30 : decode cX12_present 30 = .ok (.bipush 8, 2) := by decide +kernel
theorem dX12_present_32 : decode cX12_present 32 = .ok (.if_icmp .ne 9, 3) := by decide +kernel
theorem dX12_present_35 : decode cX12_present 35 = .ok (.aload_n 0, 1) := by decide +kernel
theorem dX12_present_36 : decode cX12_present 36 = .ok (.iconst 1, 1) := by decide +kernel
theorem dX12_present_37 : decode cX12_present 37 = .ok (.invokevirtual 112, 3) := by decide +kernel
theorem dX12_present_40 : decode cX12_present 40 = .ok (.ireturn, 1) := by decide +kernel
theorem dX12_present_41 : decode cX12_present 41 = .ok (.aload_n 0, 1) := by decide +kernel
theorem dX12_present_42 : decode cX12_present 42 = .ok (.iload_n 1, 1) := by decide +kernel
theorem dX12_present_43 : decode cX12_present 43 = .ok (.iload_n 2, 1) := by decide +kernel
theorem dX12_present_44 : decode cX12_present 44 = .ok (.invokevirtual 130, 3) := by decide +kernel
theorem dX12_present_47 : decode cX12_present 47 = .ok (.aload_n 0, 1) := by decide +kernel
theorem dX12_present_48 : decode cX12_present 48 = .ok (.getfield 9, 3) := by decide +kernel
theorem dX12_present_51 : decode cX12_present 51 = .ok (.iconst 2, 1) := by decide +kernel
theorem dX12_present_52 : decode cX12_present 52 = .ok (.iaload, 1) := by decide +kernel
theorem dX12_present_53 : decode cX12_present 53 = .ok (.iconst 1, 1) := by decide +kernel
theorem dX12_present_54 : decode cX12_present 54 = .ok (.isub, 1) := by decide +kernel
theorem dX12_present_55 : decode cX12_present 55 = .ok (.ireturn, 1) := by decide +kernel
theorem dX12_presentOf_0 : decode cX12_presentOf 0 = .ok (.aload_n 0, 1) := by decide +kernel
theorem dX12_presentOf_1 : decode cX12_presentOf 1 = .ok (.iload_n 1, 1) := by decide +kernel
theorem dX12_presentOf_2 : decode cX12_presentOf 2 = .ok (.invokevirtual 127, 3) := by decide +kernel
theorem dX12_presentOf_5 : decode cX12_presentOf 5 = .ok (.ifCond .eq 21, 3) := by decide +kernel
theorem dX12_presentOf_8 : decode cX12_presentOf 8 = .ok (.iload_n 2, 1) := by decide +kernel
theorem dX12_presentOf_9 : decode cX12_presentOf 9 = .ok (.iconst 0, 1) := by decide +kernel
theorem dX12_presentOf_10 : decode cX12_presentOf 10 = .ok (.iconst 3, 1) := by decide +kernel
theorem dX12_presentOf_11 : decode cX12_presentOf 11 = .ok (.invokestatic 52, 3) := by decide +kernel
theorem dX12_presentOf_14 : decode cX12_presentOf 14 = .ok (.ifCond .eq 12, 3) := by decide +kernel
theorem dX12_presentOf_17 : decode cX12_presentOf 17 = .ok (.aload_n 0, 1) := by decide +kernel
theorem dX12_presentOf_18 : decode cX12_presentOf 18 = .ok (.iload_n 1, 1) := by decide +kernel
theorem dX12_presentOf_19 : decode cX12_presentOf 19 = .ok (.iload_n 2, 1) := by decide +kernel
theorem dX12_presentOf_20 : decode cX12_presentOf 20 = .ok (.invokevirtual 56, 3) := by decide +kernel
theorem dX12_presentOf_23 : decode cX12_presentOf 23 = .ok (.goto 8, 3) := by decide +kernel
theorem dX12_presentOf_26 : decode cX12_presentOf 26 = .ok (.aload_n 0, 1) := by decide +kernel
theorem dX12_presentOf_27 : decode cX12_presentOf 27 = .ok (.iconst 0, 1) := by decide +kernel
theorem dX12_presentOf_28 : decode cX12_presentOf 28 = .ok (.invokevirtual 112, 3) := by decide +kernel
theorem dX12_presentOf_31 : decode cX12_presentOf 31 = .ok (.ireturn, 1) := by decide +kernel
theorem dX12_paper_0 : decode cX12_paper 0 = .ok (.aload_n 0, 1) := by decide +kernel
theorem dX12_paper_1 : decode cX12_paper 1 = .ok (.iload_n 1, 1) := by decide +kernel
theorem dX12_paper_2 : decode cX12_paper 2 = .ok (.invokevirtual 127, 3) := by decide +kernel
theorem dX12_paper_5 : decode cX12_paper 5 = .ok (.ifCond .eq 7, 3) := by decide +kernel
theorem dX12_paper_8 : decode cX12_paper 8 = .ok (.iload_n 2, 1) := by decide +kernel
theorem dX12_paper_9 : decode cX12_paper 9 = .ok (.ifCond .ge 9, 3) := by decide +kernel
theorem dX12_paper_12 : decode cX12_paper 12 = .ok (.aload_n 0, 1) := by decide +kernel
theorem dX12_paper_13 : decode cX12_paper 13 = .ok (.iconst 0, 1) := by decide +kernel
theorem dX12_paper_14 : decode cX12_paper 14 = .ok (.invokevirtual 112, 3) := by decide +kernel
theorem dX12_paper_17 : decode cX12_paper 17 = .ok (.ireturn, 1) := by decide +kernel
theorem dX12_paper_18 : decode cX12_paper 18 = .ok (.iload_n 2, 1) := by decide +kernel
theorem dX12_paper_19 : decode cX12_paper 19 = .ok (.aload_n 0, 1) := by decide +kernel
theorem dX12_paper_20 : decode cX12_paper 20 = .ok (.iload_n 1, 1) := by decide +kernel
theorem dX12_paper_21 : decode cX12_paper 21 = .ok (.iconst 0, 1) := by decide +kernel
theorem dX12_paper_22 : decode cX12_paper 22 = .ok (.invokevirtual 56, 3) := by decide +kernel
theorem dX12_paper_25 : decode cX12_paper 25 = .ok (.if_icmp .ge 14, 3) := by decide +kernel
theorem dX12_paper_28 : decode cX12_paper 28 = .ok (.aload_n 0, 1) := by decide +kernel
theorem dX12_paper_29 : decode cX12_paper 29 = .ok (.iload_n 1, 1) := by decide +kernel
theorem dX12_paper_30 : decode cX12_paper 30 = .ok (.iconst 4, 1) := by decide +kernel
theorem dX12_paper_31 : decode cX12_paper 31 = .ok (.iload_n 2, 1) := by decide +kernel
theorem dX12_paper_32 : decode cX12_paper 32 = .ok (.iadd, 1) := by decide +kernel
theorem dX12_paper_33 : decode cX12_paper 33 = .ok (.invokevirtual 56, 3) := by decide +kernel
theorem dX12_paper_36 : decode cX12_paper 36 = .ok (.goto 8, 3) := by decide +kernel
theorem dX12_paper_39 : decode cX12_paper 39 = .ok (.aload_n 0, 1) := by decide +kernel
theorem dX12_paper_40 : decode cX12_paper 40 = .ok (.iconst 3, 1) := by decide +kernel
theorem dX12_paper_41 : decode cX12_paper 41 = .ok (.invokevirtual 112, 3) := by decide +kernel
theorem dX12_paper_44 : decode cX12_paper 44 = .ok (.ireturn, 1) := by decide +kernel
theorem dX12_isPaper_0 : decode cX12_isPaper 0 = .ok (.iload_n 0, 1) := by decide +kernel
theorem dX12_isPaper_1 : decode cX12_isPaper 1 = .ok (.iconst 0, 1) := by decide +kernel
theorem dX12_isPaper_2 : decode cX12_isPaper 2 = .ok (.iconst 3, 1) := by decide +kernel
theorem dX12_isPaper_3 : decode cX12_isPaper 3 = .ok (.invokestatic 52, 3) := by decide +kernel
theorem dX12_isPaper_6 : decode cX12_isPaper 6 = .ok (.ireturn, 1) := by decide +kernel
theorem dX12_whyNoLayer_0 : decode cX12_whyNoLayer 0 = .ok (.aload_n 0, 1) := by decide +kernel
theorem dX12_whyNoLayer_1 : decode cX12_whyNoLayer 1 = .ok (.iload_n 1, 1) := by decide +kernel
theorem dX12_whyNoLayer_2 : decode cX12_whyNoLayer 2 = .ok (.iconst 0, 1) := by decide +kernel
theorem dX12_whyNoLayer_3 : decode cX12_whyNoLayer 3 = .ok (.invokevirtual 56, 3) := by decide +kernel
theorem dX12_whyNoLayer_6 : decode cX12_whyNoLayer 6 = .ok (.bipush 6, 2) := by decide +kernel
theorem dX12_whyNoLayer_8 : decode cX12_whyNoLayer 8 = .ok (.if_icmp .ne 7, 3) := by decide +kernel
theorem dX12_whyNoLayer_11 : decode cX12_whyNoLayer 11 = .ok (.iconst 1, 1) := by decide +kernel
theorem dX12_whyNoLayer_12 : decode cX12_whyNoLayer 12 = .ok (.goto 18, 3) := by decide +kernel
theorem dX12_whyNoLayer_15 : decode cX12_whyNoLayer 15 = .ok (.aload_n 0, 1) := by decide +kernel
theorem dX12_whyNoLayer_16 : decode cX12_whyNoLayer 16 = .ok (.iload_n 1, 1) := by decide +kernel
theorem dX12_whyNoLayer_17 : decode cX12_whyNoLayer 17 = .ok (.iconst 3, 1) := by decide +kernel
theorem dX12_whyNoLayer_18 : decode cX12_whyNoLayer 18 = .ok (.invokevirtual 56, 3) := by decide +kernel
theorem dX12_whyNoLayer_21 : decode cX12_whyNoLayer 21 = .ok (.iconst 1, 1) := by decide +kernel
theorem dX12_whyNoLayer_22 : decode cX12_whyNoLayer 22 = .ok (.if_icmp .ne 7, 3) := by decide +kernel
theorem dX12_whyNoLayer_25 : decode cX12_whyNoLayer 25 = .ok (.iconst 4, 1) := by decide +kernel
theorem dX12_whyNoLayer_26 : decode cX12_whyNoLayer 26 = .ok (.goto 4, 3) := by decide +kernel
theorem dX12_whyNoLayer_29 : decode cX12_whyNoLayer 29 = .ok (.iconst (-1), 1) := by decide +kernel
theorem dX12_whyNoLayer_30 : decode cX12_whyNoLayer 30 = .ok (.ireturn, 1) := by decide +kernel
theorem dX12_wrap_0 : decode cX12_wrap 0 = .ok (.aload_n 0, 1) := by decide +kernel
theorem dX12_wrap_1 : decode cX12_wrap 1 = .ok (.iload_n 1, 1) := by decide +kernel
theorem dX12_wrap_2 : decode cX12_wrap 2 = .ok (.invokevirtual 127, 3) := by decide +kernel
theorem dX12_wrap_5 : decode cX12_wrap 5 = .ok (.ifCond .eq 18, 3) := by decide +kernel
theorem dX12_wrap_8 : decode cX12_wrap 8 = .ok (.iload_n 2, 1) := by decide +kernel
theorem dX12_wrap_9 : decode cX12_wrap 9 = .ok (.invokestatic 133, 3) := by decide +kernel
theorem dX12_wrap_12 : decode cX12_wrap 12 = .ok (.ifCond .eq 11, 3) := by decide +kernel
theorem dX12_wrap_15 : decode cX12_wrap 15 = .ok (.aload_n 0, 1) := by decide +kernel
theorem dX12_wrap_16 : decode cX12_wrap 16 = .ok (.iload_n 1, 1) := by decide +kernel
theorem dX12_wrap_17 : decode cX12_wrap 17 = .ok (.invokevirtual 136, 3) := by decide +kernel
theorem dX12_wrap_20 : decode cX12_wrap 20 = .ok (.goto 4, 3) := by decide +kernel
theorem dX12_wrap_23 : decode cX12_wrap 23 = .ok (.iconst 0, 1) := by decide +kernel
theorem dX12_wrap_24 : decode cX12_wrap 24 = .ok (.istore_n 3, 1) := by decide +kernel
theorem dX12_wrap_25 : decode cX12_wrap 25 = .ok (.iload_n 3, 1) := by decide +kernel
theorem dX12_wrap_26 : decode cX12_wrap 26 = .ok (.ifCond .lt 9, 3) := by decide +kernel
theorem dX12_wrap_29 : decode cX12_wrap 29 = .ok (.aload_n 0, 1) := by decide +kernel
theorem dX12_wrap_30 : decode cX12_wrap 30 = .ok (.iload_n 3, 1) := by decide +kernel
theorem dX12_wrap_31 : decode cX12_wrap 31 = .ok (.invokevirtual 112, 3) := by decide +kernel
theorem dX12_wrap_34 : decode cX12_wrap 34 = .ok (.ireturn, 1) := by decide +kernel
theorem dX12_wrap_35 : decode cX12_wrap 35 = .ok (.aload_n 0, 1) := by decide +kernel
theorem dX12_wrap_36 : decode cX12_wrap 36 = .ok (.iload_n 1, 1) := by decide +kernel
theorem dX12_wrap_37 : decode cX12_wrap 37 = .ok (.iload_n 2, 1) := by decide +kernel
theorem dX12_wrap_38 : decode cX12_wrap 38 = .ok (.invokevirtual 100, 3) := by decide +kernel
theorem dX12_wrap_41 : decode cX12_wrap 41 = .ok (.aload_n 0, 1) := by decide +kernel
theorem dX12_wrap_42 : decode cX12_wrap 42 = .ok (.iload_n 1, 1) := by decide +kernel
theorem dX12_wrap_43 : decode cX12_wrap 43 = .ok (.iconst 0, 1) := by decide +kernel
theorem dX12_wrap_44 : decode cX12_wrap 44 = .ok (.invokevirtual 56, 3) := by decide +kernel
theorem dX12_wrap_47 : decode cX12_wrap 47 = .ok (.ireturn, 1) := by decide +kernel
theorem dX12_unwrap_0 : decode cX12_unwrap 0 = .ok (.aload_n 0, 1) := by decide +kernel
theorem dX12_unwrap_1 : decode cX12_unwrap 1 = .ok (.iload_n 1, 1) := by decide +kernel
theorem dX12_unwrap_2 : decode cX12_unwrap 2 = .ok (.invokevirtual 127, 3) := by decide +kernel
theorem dX12_unwrap_5 : decode cX12_unwrap 5 = .ok (.ifCond .ne 9, 3) := by decide +kernel
theorem dX12_unwrap_8 : decode cX12_unwrap 8 = .ok (.aload_n 0, 1) := by decide +kernel
theorem dX12_unwrap_9 : decode cX12_unwrap 9 = .ok (.iconst 0, 1) := by decide +kernel
theorem dX12_unwrap_10 : decode cX12_unwrap 10 = .ok (.invokevirtual 112, 3) := by decide +kernel
theorem dX12_unwrap_13 : decode cX12_unwrap 13 = .ok (.ireturn, 1) := by decide +kernel
theorem dX12_unwrap_14 : decode cX12_unwrap 14 = .ok (.aload_n 0, 1) := by decide +kernel
theorem dX12_unwrap_15 : decode cX12_unwrap 15 = .ok (.iload_n 1, 1) := by decide +kernel
theorem dX12_unwrap_16 : decode cX12_unwrap 16 = .ok (.iconst 0, 1) := by decide +kernel
theorem dX12_unwrap_17 : decode cX12_unwrap 17 = .ok (.invokevirtual 56, 3) := by decide +kernel
theorem dX12_unwrap_20 : decode cX12_unwrap 20 = .ok (.ifCond .ne 11, 3) := by decide +kernel
theorem dX12_unwrap_23 : decode cX12_unwrap 23 = .ok (.aload_n 0, 1) := by decide +kernel
theorem dX12_unwrap_24 : decode cX12_unwrap 24 = .ok (.iconst 3, 1) := by decide +kernel
theorem dX12_unwrap_25 : decode cX12_unwrap 25 = .ok (.invokevirtual 112, 3) := by decide +kernel
theorem dX12_unwrap_28 : decode cX12_unwrap 28 = .ok (.goto 8, 3) := by decide +kernel
theorem dX12_unwrap_31 : decode cX12_unwrap 31 = .ok (.aload_n 0, 1) := by decide +kernel
theorem dX12_unwrap_32 : decode cX12_unwrap 32 = .ok (.iload_n 1, 1) := by decide +kernel
theorem dX12_unwrap_33 : decode cX12_unwrap 33 = .ok (.invokevirtual 80, 3) := by decide +kernel
theorem dX12_unwrap_36 : decode cX12_unwrap 36 = .ok (.ireturn, 1) := by decide +kernel
theorem dX12_set_0 : decode cX12_set 0 = .ok (.aload_n 0, 1) := by decide +kernel
theorem dX12_set_1 : decode cX12_set 1 = .ok (.iload_n 1, 1) := by decide +kernel
theorem dX12_set_2 : decode cX12_set 2 = .ok (.invokevirtual 127, 3) := by decide +kernel
theorem dX12_set_5 : decode cX12_set 5 = .ok (.ifCond .eq 38, 3) := by decide +kernel
theorem dX12_set_8 : decode cX12_set 8 = .ok (.iload_n 2, 1) := by decide +kernel
theorem dX12_set_9 : decode cX12_set 9 = .ok (.iconst 1, 1) := by decide +kernel
theorem dX12_set_10 : decode cX12_set 10 = .ok (.iconst 2, 1) := by decide +kernel
theorem dX12_set_11 : decode cX12_set 11 = .ok (.invokestatic 52, 3) := by decide +kernel
theorem dX12_set_14 : decode cX12_set 14 = .ok (.ifCond .eq 29, 3) := by decide +kernel
theorem dX12_set_17 : decode cX12_set 17 = .ok (.iload_n 3, 1) := by decide +kernel
theorem dX12_set_18 : decode cX12_set 18 = .ok (.iconst 0, 1) := by decide +kernel
theorem dX12_set_19 : decode cX12_set 19 = .ok (.iload_n 2, 1) := by decide +kernel
theorem dX12_set_20 : decode cX12_set 20 = .ok (.iconst 1, 1) := by decide +kernel
theorem dX12_set_21 : decode cX12_set 21 = .ok (.if_icmp .ne 8, 3) := by decide +kernel
theorem dX12_set_24 : decode cX12_set 24 = .ok (.bipush 99, 2) := by decide +kernel
theorem dX12_set_26 : decode cX12_set 26 = .ok (.goto 11, 3) := by decide +kernel
theorem dX12_set_29 : decode cX12_set 29 = .ok (.aload_n 0, 1) := by decide +kernel
theorem dX12_set_30 : decode cX12_set 30 = .ok (.getfield 9, 3) := by decide +kernel
theorem dX12_set_33 : decode cX12_set 33 = .ok (.iconst 1, 1) := by decide +kernel
theorem dX12_set_34 : decode cX12_set 34 = .ok (.iaload, 1) := by decide +kernel
theorem dX12_set_35 : decode cX12_set 35 = .ok (.iconst 1, 1) := by decide +kernel
theorem dX12_set_36 : decode cX12_set 36 = .ok (.isub, 1) := by decide +kernel
theorem dX12_set_37 : decode cX12_set 37 = .ok (.invokestatic 52, 3) := by decide +kernel
theorem dX12_set_40 : decode cX12_set 40 = .ok (.ifCond .ne 9, 3) := by decide +kernel
theorem dX12_set_43 : decode cX12_set 43 = .ok (.aload_n 0, 1) := by decide +kernel
theorem dX12_set_44 : decode cX12_set 44 = .ok (.iconst 0, 1) := by decide +kernel
theorem dX12_set_45 : decode cX12_set 45 = .ok (.invokevirtual 112, 3) := by decide +kernel
theorem dX12_set_48 : decode cX12_set 48 = .ok (.ireturn, 1) := by decide +kernel
theorem dX12_set_49 : decode cX12_set 49 = .ok (.aload_n 0, 1) := by decide +kernel
theorem dX12_set_50 : decode cX12_set 50 = .ok (.iload_n 1, 1) := by decide +kernel
theorem dX12_set_51 : decode cX12_set 51 = .ok (.iload_n 2, 1) := by decide +kernel
theorem dX12_set_52 : decode cX12_set 52 = .ok (.invokevirtual 56, 3) := by decide +kernel
theorem dX12_set_55 : decode cX12_set 55 = .ok (.istore 4, 2) := by decide +kernel
theorem dX12_set_57 : decode cX12_set 57 = .ok (.aload_n 0, 1) := by decide +kernel
theorem dX12_set_58 : decode cX12_set 58 = .ok (.iload_n 1, 1) := by decide +kernel
theorem dX12_set_59 : decode cX12_set 59 = .ok (.iload_n 2, 1) := by decide +kernel
theorem dX12_set_60 : decode cX12_set 60 = .ok (.iload_n 3, 1) := by decide +kernel
theorem dX12_set_61 : decode cX12_set 61 = .ok (.invokevirtual 60, 3) := by decide +kernel
theorem dX12_set_64 : decode cX12_set 64 = .ok (.iload 4, 2) := by decide +kernel
theorem dX12_set_66 : decode cX12_set 66 = .ok (.ireturn, 1) := by decide +kernel
theorem dX12_foundOnes_0 : decode cX12_foundOnes 0 = .ok (.iconst 0, 1) := by decide +kernel
theorem dX12_foundOnes_1 : decode cX12_foundOnes 1 = .ok (.istore_n 1, 1) := by decide +kernel
theorem dX12_foundOnes_2 : decode cX12_foundOnes 2 = .ok (.iconst 0, 1) := by decide +kernel
theorem dX12_foundOnes_3 : decode cX12_foundOnes 3 = .ok (.istore_n 2, 1) := by decide +kernel
theorem dX12_foundOnes_4 : decode cX12_foundOnes 4 = .ok (.iload_n 2, 1) := by decide +kernel
theorem dX12_foundOnes_5 : decode cX12_foundOnes 5 = .ok (.aload_n 0, 1) := by decide +kernel
theorem dX12_foundOnes_6 : decode cX12_foundOnes 6 = .ok (.getfield 9, 3) := by decide +kernel
theorem dX12_foundOnes_9 : decode cX12_foundOnes 9 = .ok (.iconst 2, 1) := by decide +kernel
theorem dX12_foundOnes_10 : decode cX12_foundOnes 10 = .ok (.iaload, 1) := by decide +kernel
theorem dX12_foundOnes_11 : decode cX12_foundOnes 11 = .ok (.if_icmp .ge 20, 3) := by decide +kernel
theorem dX12_foundOnes_14 : decode cX12_foundOnes 14 = .ok (.iload_n 1, 1) := by decide +kernel
theorem dX12_foundOnes_15 : decode cX12_foundOnes 15 = .ok (.aload_n 0, 1) := by decide +kernel
theorem dX12_foundOnes_16 : decode cX12_foundOnes 16 = .ok (.iload_n 2, 1) := by decide +kernel
theorem dX12_foundOnes_17 : decode cX12_foundOnes 17 = .ok (.iconst 3, 1) := by decide +kernel
theorem dX12_foundOnes_18 : decode cX12_foundOnes 18 = .ok (.invokevirtual 56, 3) := by decide +kernel
theorem dX12_foundOnes_21 : decode cX12_foundOnes 21 = .ok (.iload_n 2, 1) := by decide +kernel
theorem dX12_foundOnes_22 : decode cX12_foundOnes 22 = .ok (.ishl, 1) := by decide +kernel
theorem dX12_foundOnes_23 : decode cX12_foundOnes 23 = .ok (.ior, 1) := by decide +kernel
theorem dX12_foundOnes_24 : decode cX12_foundOnes 24 = .ok (.istore_n 1, 1) := by decide +kernel
theorem dX12_foundOnes_25 : decode cX12_foundOnes 25 = .ok (.iinc 2 1, 3) := by decide +kernel
theorem dX12_foundOnes_28 : decode cX12_foundOnes 28 = .ok (.goto (-24), 3) := by decide +kernel
theorem dX12_foundOnes_31 : decode cX12_foundOnes 31 = .ok (.iload_n 1, 1) := by decide +kernel
theorem dX12_foundOnes_32 : decode cX12_foundOnes 32 = .ok (.ireturn, 1) := by decide +kernel
theorem dX12_days_0 : decode cX12_days 0 = .ok (.iload_n 1, 1) := by decide +kernel
theorem dX12_days_1 : decode cX12_days 1 = .ok (.iconst 1, 1) := by decide +kernel
theorem dX12_days_2 : decode cX12_days 2 = .ok (.bipush 60, 2) := by decide +kernel
theorem dX12_days_4 : decode cX12_days 4 = .ok (.invokestatic 52, 3) := by decide +kernel
theorem dX12_days_7 : decode cX12_days 7 = .ok (.ifCond .ne 9, 3) := by decide +kernel
theorem dX12_days_10 : decode cX12_days 10 = .ok (.aload_n 0, 1) := by decide +kernel
theorem dX12_days_11 : decode cX12_days 11 = .ok (.iconst 0, 1) := by decide +kernel
theorem dX12_days_12 : decode cX12_days 12 = .ok (.invokevirtual 112, 3) := by decide +kernel
theorem dX12_days_15 : decode cX12_days 15 = .ok (.ireturn, 1) := by decide +kernel
theorem dX12_days_16 : decode cX12_days 16 = .ok (.aload_n 0, 1) := by decide +kernel
theorem dX12_days_17 : decode cX12_days 17 = .ok (.getfield 9, 3) := by decide +kernel
theorem dX12_days_20 : decode cX12_days 20 = .ok (.iconst 0, 1) := by decide +kernel
theorem dX12_days_21 : decode cX12_days 21 = .ok (.iaload, 1) := by decide +kernel
theorem dX12_days_22 : decode cX12_days 22 = .ok (.iload_n 1, 1) := by decide +kernel
theorem dX12_days_23 : decode cX12_days 23 = .ok (.iadd, 1) := by decide +kernel
theorem dX12_days_24 : decode cX12_days 24 = .ok (.sipush 9999, 3) := by decide +kernel
theorem dX12_days_27 : decode cX12_days 27 = .ok (.if_icmp .le 9, 3) := by decide +kernel
theorem dX12_days_30 : decode cX12_days 30 = .ok (.aload_n 0, 1) := by decide +kernel
theorem dX12_days_31 : decode cX12_days 31 = .ok (.iconst 4, 1) := by decide +kernel
theorem dX12_days_32 : decode cX12_days 32 = .ok (.invokevirtual 112, 3) := by decide +kernel
theorem dX12_days_35 : decode cX12_days 35 = .ok (.ireturn, 1) := by decide +kernel
theorem dX12_days_36 : decode cX12_days 36 = .ok (.aload_n 0, 1) := by decide +kernel
theorem dX12_days_37 : decode cX12_days 37 = .ok (.iload_n 1, 1) := by decide +kernel
theorem dX12_days_38 : decode cX12_days 38 = .ok (.invokevirtual 139, 3) := by decide +kernel
theorem dX12_days_41 : decode cX12_days 41 = .ok (.iconst 1, 1) := by decide +kernel
theorem dX12_days_42 : decode cX12_days 42 = .ok (.aload_n 0, 1) := by decide +kernel
theorem dX12_days_43 : decode cX12_days 43 = .ok (.getfield 9, 3) := by decide +kernel
theorem dX12_days_46 : decode cX12_days 46 = .ok (.iconst 2, 1) := by decide +kernel
theorem dX12_days_47 : decode cX12_days 47 = .ok (.iaload, 1) := by decide +kernel
theorem dX12_days_48 : decode cX12_days 48 = .ok (.ishl, 1) := by decide +kernel
theorem dX12_days_49 : decode cX12_days 49 = .ok (.iconst 1, 1) := by decide +kernel
theorem dX12_days_50 : decode cX12_days 50 = .ok (.isub, 1) := by decide +kernel
theorem dX12_days_51 : decode cX12_days 51 = .ok (.aload_n 0, 1) := by decide +kernel
theorem dX12_days_52 : decode cX12_days 52 = .ok (.invokevirtual 142, 3) := by decide +kernel
theorem dX12_days_55 : decode cX12_days 55 = .ok (.iconst (-1), 1) := by decide +kernel
theorem dX12_days_56 : decode cX12_days 56 = .ok (.ixor, 1) := by decide +kernel
theorem dX12_days_57 : decode cX12_days 57 = .ok (.iand, 1) := by decide +kernel
theorem dX12_days_58 : decode cX12_days 58 = .ok (.ireturn, 1) := by decide +kernel
theorem dX12_allJoy_0 : decode cX12_allJoy 0 = .ok (.iconst 0, 1) := by decide +kernel
theorem dX12_allJoy_1 : decode cX12_allJoy 1 = .ok (.istore_n 1, 1) := by decide +kernel
theorem dX12_allJoy_2 : decode cX12_allJoy 2 = .ok (.iconst 0, 1) := by decide +kernel
theorem dX12_allJoy_3 : decode cX12_allJoy 3 = .ok (.istore_n 2, 1) := by decide +kernel
theorem dX12_allJoy_4 : decode cX12_allJoy 4 = .ok (.iload_n 2, 1) := by decide +kernel
theorem dX12_allJoy_5 : decode cX12_allJoy 5 = .ok (.aload_n 0, 1) := by decide +kernel
theorem dX12_allJoy_6 : decode cX12_allJoy 6 = .ok (.getfield 9, 3) := by decide +kernel
theorem dX12_allJoy_9 : decode cX12_allJoy 9 = .ok (.iconst 1, 1) := by decide +kernel
theorem dX12_allJoy_10 : decode cX12_allJoy 10 = .ok (.iaload, 1) := by decide +kernel
theorem dX12_allJoy_11 : decode cX12_allJoy 11 = .ok (.if_icmp .ge 18, 3) := by decide +kernel
theorem dX12_allJoy_14 : decode cX12_allJoy 14 = .ok (.iload_n 1, 1) := by decide +kernel
theorem dX12_allJoy_15 : decode cX12_allJoy 15 = .ok (.aload_n 0, 1) := by decide +kernel
theorem dX12_allJoy_16 : decode cX12_allJoy 16 = .ok (.iload_n 2, 1) := by decide +kernel
theorem dX12_allJoy_17 : decode cX12_allJoy 17 = .ok (.iconst 1, 1) := by decide +kernel
theorem dX12_allJoy_18 : decode cX12_allJoy 18 = .ok (.invokevirtual 64, 3) := by decide +kernel
theorem dX12_allJoy_21 : decode cX12_allJoy 21 = .ok (.iadd, 1) := by decide +kernel
theorem dX12_allJoy_22 : decode cX12_allJoy 22 = .ok (.istore_n 1, 1) := by decide +kernel
theorem dX12_allJoy_23 : decode cX12_allJoy 23 = .ok (.iinc 2 1, 3) := by decide +kernel
theorem dX12_allJoy_26 : decode cX12_allJoy 26 = .ok (.goto (-22), 3) := by decide +kernel
theorem dX12_allJoy_29 : decode cX12_allJoy 29 = .ok (.iload_n 1, 1) := by decide +kernel
theorem dX12_allJoy_30 : decode cX12_allJoy 30 = .ok (.ireturn, 1) := by decide +kernel
theorem dX12_allOf_0 : decode cX12_allOf 0 = .ok (.iconst 0, 1) := by decide +kernel
theorem dX12_allOf_1 : decode cX12_allOf 1 = .ok (.istore_n 3, 1) := by decide +kernel
theorem dX12_allOf_2 : decode cX12_allOf 2 = .ok (.iconst 0, 1) := by decide +kernel
theorem dX12_allOf_3 : decode cX12_allOf 3 = .ok (.istore 4, 2) := by decide +kernel
theorem dX12_allOf_5 : decode cX12_allOf 5 = .ok (.iload 4, 2) := by decide +kernel
theorem dX12_allOf_7 : decode cX12_allOf 7 = .ok (.aload_n 0, 1) := by decide +kernel
theorem dX12_allOf_8 : decode cX12_allOf 8 = .ok (.getfield 9, 3) := by decide +kernel
theorem dX12_allOf_11 : decode cX12_allOf 11 = .ok (.iconst 2, 1) := by decide +kernel
theorem dX12_allOf_12 : decode cX12_allOf 12 = .ok (.iaload, 1) := by decide +kernel
theorem dX12_allOf_13 : decode cX12_allOf 13 = .ok (.if_icmp .ge 38, 3) := by decide +kernel
theorem dX12_allOf_16 : decode cX12_allOf 16 = .ok (.iload_n 3, 1) := by decide +kernel
theorem dX12_allOf_17 : decode cX12_allOf 17 = .ok (.iload_n 2, 1) := by decide +kernel
theorem dX12_allOf_18 : decode cX12_allOf 18 = .ok (.ifCond .eq 14, 3) := by decide +kernel
theorem dX12_allOf_21 : decode cX12_allOf 21 = .ok (.aload_n 0, 1) := by decide +kernel
theorem dX12_allOf_22 : decode cX12_allOf 22 = .ok (.iload 4, 2) := by decide +kernel
theorem dX12_allOf_24 : decode cX12_allOf 24 = .ok (.iconst 3, 1) := by decide +kernel
theorem dX12_allOf_25 : decode cX12_allOf 25 = .ok (.invokevirtual 56, 3) := by decide +kernel
theorem dX12_allOf_28 : decode cX12_allOf 28 = .ok (.iconst 1, 1) := by decide +kernel
theorem dX12_allOf_29 : decode cX12_allOf 29 = .ok (.if_icmp .ne 13, 3) := by decide +kernel
theorem dX12_allOf_32 : decode cX12_allOf 32 = .ok (.aload_n 0, 1) := by decide +kernel
theorem dX12_allOf_33 : decode cX12_allOf 33 = .ok (.iload 4, 2) := by decide +kernel
theorem dX12_allOf_35 : decode cX12_allOf 35 = .ok (.iload_n 1, 1) := by decide +kernel
theorem dX12_allOf_36 : decode cX12_allOf 36 = .ok (.invokevirtual 56, 3) := by decide +kernel
theorem dX12_allOf_39 : decode cX12_allOf 39 = .ok (.goto 4, 3) := by decide +kernel
theorem dX12_allOf_42 : decode cX12_allOf 42 = .ok (.iconst 0, 1) := by decide +kernel
theorem dX12_allOf_43 : decode cX12_allOf 43 = .ok (.iadd, 1) := by decide +kernel
theorem dX12_allOf_44 : decode cX12_allOf 44 = .ok (.istore_n 3, 1) := by decide +kernel
theorem dX12_allOf_45 : decode cX12_allOf 45 = .ok (.iinc 4 1, 3) := by decide +kernel
theorem dX12_allOf_48 : decode cX12_allOf 48 = .ok (.goto (-43), 3) := by decide +kernel
theorem dX12_allOf_51 : decode cX12_allOf 51 = .ok (.iload_n 3, 1) := by decide +kernel
theorem dX12_allOf_52 : decode cX12_allOf 52 = .ok (.ireturn, 1) := by decide +kernel
theorem dX12_now_0 : decode cX12_now 0 = .ok (.iload_n 1, 1) := by decide +kernel
theorem dX12_now_1 : decode cX12_now 1 = .ok (.tableswitch 66 0 4 #[35, 42, 47, 52, 59], 35) := by decide +kernel
theorem dX12_now_36 : decode cX12_now 36 = .ok (.aload_n 0, 1) := by decide +kernel
theorem dX12_now_37 : decode cX12_now 37 = .ok (.getfield 9, 3) := by decide +kernel
theorem dX12_now_40 : decode cX12_now 40 = .ok (.iconst 0, 1) := by decide +kernel
theorem dX12_now_41 : decode cX12_now 41 = .ok (.iaload, 1) := by decide +kernel
theorem dX12_now_42 : decode cX12_now 42 = .ok (.ireturn, 1) := by decide +kernel
theorem dX12_now_43 : decode cX12_now 43 = .ok (.aload_n 0, 1) := by decide +kernel
theorem dX12_now_44 : decode cX12_now 44 = .ok (.invokevirtual 146, 3) := by decide +kernel
theorem dX12_now_47 : decode cX12_now 47 = .ok (.ireturn, 1) := by decide +kernel
theorem dX12_now_48 : decode cX12_now 48 = .ok (.aload_n 0, 1) := by decide +kernel
theorem dX12_now_49 : decode cX12_now 49 = .ok (.invokevirtual 142, 3) := by decide +kernel
theorem dX12_now_52 : decode cX12_now 52 = .ok (.ireturn, 1) := by decide +kernel
theorem dX12_now_53 : decode cX12_now 53 = .ok (.aload_n 0, 1) := by decide +kernel
theorem dX12_now_54 : decode cX12_now 54 = .ok (.iconst 0, 1) := by decide +kernel
theorem dX12_now_55 : decode cX12_now 55 = .ok (.iconst 0, 1) := by decide +kernel
theorem dX12_now_56 : decode cX12_now 56 = .ok (.invokevirtual 149, 3) := by decide +kernel
theorem dX12_now_59 : decode cX12_now 59 = .ok (.ireturn, 1) := by decide +kernel
theorem dX12_now_60 : decode cX12_now 60 = .ok (.aload_n 0, 1) := by decide +kernel
theorem dX12_now_61 : decode cX12_now 61 = .ok (.iconst 1, 1) := by decide +kernel
theorem dX12_now_62 : decode cX12_now 62 = .ok (.iconst 1, 1) := by decide +kernel
theorem dX12_now_63 : decode cX12_now 63 = .ok (.invokevirtual 149, 3) := by decide +kernel
theorem dX12_now_66 : decode cX12_now 66 = .ok (.ireturn, 1) := by decide +kernel
theorem dX12_now_67 : decode cX12_now 67 = .ok (.aload_n 0, 1) := by decide +kernel
theorem dX12_now_68 : decode cX12_now 68 = .ok (.iconst 0, 1) := by decide +kernel
theorem dX12_now_69 : decode cX12_now 69 = .ok (.invokevirtual 112, 3) := by decide +kernel
theorem dX12_now_72 : decode cX12_now 72 = .ok (.ireturn, 1) := by decide +kernel
theorem dX12_isAhead_0 : decode cX12_isAhead 0 = .ok (.iload_n 0, 1) := by decide +kernel
theorem dX12_isAhead_1 : decode cX12_isAhead 1 = .ok (.iconst 0, 1) := by decide +kernel
theorem dX12_isAhead_2 : decode cX12_isAhead 2 = .ok (.bipush 60, 2) := by decide +kernel
theorem dX12_isAhead_4 : decode cX12_isAhead 4 = .ok (.invokestatic 52, 3) := by decide +kernel
theorem dX12_isAhead_7 : decode cX12_isAhead 7 = .ok (.ireturn, 1) := by decide +kernel
theorem dX12_on_0 : decode cX12_on 0 = .ok (.aload_n 0, 1) := by decide +kernel
theorem dX12_on_1 : decode cX12_on 1 = .ok (.iload_n 1, 1) := by decide +kernel
theorem dX12_on_2 : decode cX12_on 2 = .ok (.invokevirtual 127, 3) := by decide +kernel
theorem dX12_on_5 : decode cX12_on 5 = .ok (.ifCond .eq 24, 3) := by decide +kernel
theorem dX12_on_8 : decode cX12_on 8 = .ok (.iload_n 2, 1) := by decide +kernel
theorem dX12_on_9 : decode cX12_on 9 = .ok (.invokestatic 152, 3) := by decide +kernel
theorem dX12_on_12 : decode cX12_on 12 = .ok (.ifCond .eq 17, 3) := by decide +kernel
theorem dX12_on_15 : decode cX12_on 15 = .ok (.iload_n 3, 1) := by decide +kernel
theorem dX12_on_16 : decode cX12_on 16 = .ok (.iconst 0, 1) := by decide +kernel
theorem dX12_on_17 : decode cX12_on 17 = .ok (.iconst 3, 1) := by decide +kernel
theorem dX12_on_18 : decode cX12_on 18 = .ok (.invokestatic 52, 3) := by decide +kernel
theorem dX12_on_21 : decode cX12_on 21 = .ok (.ifCond .eq 8, 3) := by decide +kernel
theorem dX12_on_24 : decode cX12_on 24 = .ok (.iload_n 3, 1) := by decide +kernel
theorem dX12_on_25 : decode cX12_on 25 = .ok (.iconst 1, 1) := by decide +kernel
theorem dX12_on_26 : decode cX12_on 26 = .ok (.if_icmp .ne 9, 3) := by decide +kernel
theorem dX12_on_29 : decode cX12_on 29 = .ok (.aload_n 0, 1) := by decide +kernel
theorem dX12_on_30 : decode cX12_on 30 = .ok (.iconst 0, 1) := by decide +kernel
theorem dX12_on_31 : decode cX12_on 31 = .ok (.invokevirtual 112, 3) := by decide +kernel
theorem dX12_on_34 : decode cX12_on 34 = .ok (.ireturn, 1) := by decide +kernel
theorem dX12_on_35 : decode cX12_on 35 = .ok (.aload_n 0, 1) := by decide +kernel
theorem dX12_on_36 : decode cX12_on 36 = .ok (.invokevirtual 155, 3) := by decide +kernel
theorem dX12_on_39 : decode cX12_on 39 = .ok (.aload_n 0, 1) := by decide +kernel
theorem dX12_on_40 : decode cX12_on 40 = .ok (.iload_n 2, 1) := by decide +kernel
theorem dX12_on_41 : decode cX12_on 41 = .ok (.invokevirtual 139, 3) := by decide +kernel
theorem dX12_on_44 : decode cX12_on 44 = .ok (.aload_n 0, 1) := by decide +kernel
theorem dX12_on_45 : decode cX12_on 45 = .ok (.iload_n 1, 1) := by decide +kernel
theorem dX12_on_46 : decode cX12_on 46 = .ok (.iload_n 3, 1) := by decide +kernel
theorem dX12_on_47 : decode cX12_on 47 = .ok (.invokevirtual 56, 3) := by decide +kernel
theorem dX12_on_50 : decode cX12_on 50 = .ok (.istore 4, 2) := by decide +kernel
theorem dX12_on_52 : decode cX12_on 52 = .ok (.aload_n 0, 1) := by decide +kernel
theorem dX12_on_53 : decode cX12_on 53 = .ok (.invokevirtual 158, 3) := by decide +kernel
theorem dX12_on_56 : decode cX12_on 56 = .ok (.iload 4, 2) := by decide +kernel
theorem dX12_on_58 : decode cX12_on 58 = .ok (.ireturn, 1) := by decide +kernel
theorem dX12_joyOn_0 : decode cX12_joyOn 0 = .ok (.aload_n 0, 1) := by decide +kernel
theorem dX12_joyOn_1 : decode cX12_joyOn 1 = .ok (.iload_n 1, 1) := by decide +kernel
theorem dX12_joyOn_2 : decode cX12_joyOn 2 = .ok (.invokevirtual 119, 3) := by decide +kernel
theorem dX12_joyOn_5 : decode cX12_joyOn 5 = .ok (.ifCond .eq 10, 3) := by decide +kernel
theorem dX12_joyOn_8 : decode cX12_joyOn 8 = .ok (.iload_n 2, 1) := by decide +kernel
theorem dX12_joyOn_9 : decode cX12_joyOn 9 = .ok (.invokestatic 152, 3) := by decide +kernel
theorem dX12_joyOn_12 : decode cX12_joyOn 12 = .ok (.ifCond .ne 9, 3) := by decide +kernel
theorem dX12_joyOn_15 : decode cX12_joyOn 15 = .ok (.aload_n 0, 1) := by decide +kernel
theorem dX12_joyOn_16 : decode cX12_joyOn 16 = .ok (.iconst 0, 1) := by decide +kernel
theorem dX12_joyOn_17 : decode cX12_joyOn 17 = .ok (.invokevirtual 112, 3) := by decide +kernel
theorem dX12_joyOn_20 : decode cX12_joyOn 20 = .ok (.ireturn, 1) := by decide +kernel
theorem dX12_joyOn_21 : decode cX12_joyOn 21 = .ok (.aload_n 0, 1) := by decide +kernel
theorem dX12_joyOn_22 : decode cX12_joyOn 22 = .ok (.invokevirtual 155, 3) := by decide +kernel
theorem dX12_joyOn_25 : decode cX12_joyOn 25 = .ok (.aload_n 0, 1) := by decide +kernel
theorem dX12_joyOn_26 : decode cX12_joyOn 26 = .ok (.iload_n 2, 1) := by decide +kernel
theorem dX12_joyOn_27 : decode cX12_joyOn 27 = .ok (.invokevirtual 139, 3) := by decide +kernel
theorem dX12_joyOn_30 : decode cX12_joyOn 30 = .ok (.aload_n 0, 1) := by decide +kernel
theorem dX12_joyOn_31 : decode cX12_joyOn 31 = .ok (.iload_n 1, 1) := by decide +kernel
theorem dX12_joyOn_32 : decode cX12_joyOn 32 = .ok (.iconst 1, 1) := by decide +kernel
theorem dX12_joyOn_33 : decode cX12_joyOn 33 = .ok (.invokevirtual 64, 3) := by decide +kernel
theorem dX12_joyOn_36 : decode cX12_joyOn 36 = .ok (.istore_n 3, 1) := by decide +kernel
theorem dX12_joyOn_37 : decode cX12_joyOn 37 = .ok (.aload_n 0, 1) := by decide +kernel
theorem dX12_joyOn_38 : decode cX12_joyOn 38 = .ok (.invokevirtual 158, 3) := by decide +kernel
theorem dX12_joyOn_41 : decode cX12_joyOn 41 = .ok (.iload_n 3, 1) := by decide +kernel
theorem dX12_joyOn_42 : decode cX12_joyOn 42 = .ok (.ireturn, 1) := by decide +kernel
theorem dX12_firstBy_0 : decode cX12_firstBy 0 = .ok (.aload_n 0, 1) := by decide +kernel
theorem dX12_firstBy_1 : decode cX12_firstBy 1 = .ok (.invokevirtual 155, 3) := by decide +kernel
theorem dX12_firstBy_4 : decode cX12_firstBy 4 = .ok (.iconst 0, 1) := by decide +kernel
theorem dX12_firstBy_5 : decode cX12_firstBy 5 = .ok (.istore 4, 2) := by decide +kernel
theorem dX12_firstBy_7 : decode cX12_firstBy 7 = .ok (.iload 4, 2) := by decide +kernel
theorem dX12_firstBy_9 : decode cX12_firstBy 9 = .ok (.bipush 60, 2) := by decide +kernel
theorem dX12_firstBy_11 : decode cX12_firstBy 11 = .ok (.if_icmp .gt 23, 3) := by decide +kernel
theorem dX12_firstBy_14 : decode cX12_firstBy 14 = .ok (.aload_n 0, 1) := by decide +kernel
theorem dX12_firstBy_15 : decode cX12_firstBy 15 = .ok (.iload_n 1, 1) := by decide +kernel
theorem dX12_firstBy_16 : decode cX12_firstBy 16 = .ok (.iload_n 2, 1) := by decide +kernel
theorem dX12_firstBy_17 : decode cX12_firstBy 17 = .ok (.invokevirtual 56, 3) := by decide +kernel
theorem dX12_firstBy_20 : decode cX12_firstBy 20 = .ok (.iload_n 3, 1) := by decide +kernel
theorem dX12_firstBy_21 : decode cX12_firstBy 21 = .ok (.if_icmp .eq 13, 3) := by decide +kernel
theorem dX12_firstBy_24 : decode cX12_firstBy 24 = .ok (.aload_n 0, 1) := by decide +kernel
theorem dX12_firstBy_25 : decode cX12_firstBy 25 = .ok (.invokevirtual 109, 3) := by decide +kernel
theorem dX12_firstBy_28 : decode cX12_firstBy 28 = .ok (.iinc 4 1, 3) := by decide +kernel
theorem dX12_firstBy_31 : decode cX12_firstBy 31 = .ok (.goto (-24), 3) := by decide +kernel
theorem dX12_firstBy_34 : decode cX12_firstBy 34 = .ok (.aload_n 0, 1) := by decide +kernel
theorem dX12_firstBy_35 : decode cX12_firstBy 35 = .ok (.invokevirtual 158, 3) := by decide +kernel
theorem dX12_firstBy_38 : decode cX12_firstBy 38 = .ok (.iload 4, 2) := by decide +kernel
theorem dX12_firstBy_40 : decode cX12_firstBy 40 = .ok (.bipush 60, 2) := by decide +kernel
theorem dX12_firstBy_42 : decode cX12_firstBy 42 = .ok (.if_icmp .le 11, 3) := by decide +kernel
theorem dX12_firstBy_45 : decode cX12_firstBy 45 = .ok (.aload_n 0, 1) := by decide +kernel
theorem dX12_firstBy_46 : decode cX12_firstBy 46 = .ok (.iconst 3, 1) := by decide +kernel
theorem dX12_firstBy_47 : decode cX12_firstBy 47 = .ok (.invokevirtual 112, 3) := by decide +kernel
theorem dX12_firstBy_50 : decode cX12_firstBy 50 = .ok (.goto 5, 3) := by decide +kernel
theorem dX12_firstBy_53 : decode cX12_firstBy 53 = .ok (.iload 4, 2) := by decide +kernel
theorem dX12_firstBy_55 : decode cX12_firstBy 55 = .ok (.ireturn, 1) := by decide +kernel
theorem dX12_found_0 : decode cX12_found 0 = .ok (.aload_n 0, 1) := by decide +kernel
theorem dX12_found_1 : decode cX12_found 1 = .ok (.iload_n 1, 1) := by decide +kernel
theorem dX12_found_2 : decode cX12_found 2 = .ok (.invokevirtual 127, 3) := by decide +kernel
theorem dX12_found_5 : decode cX12_found 5 = .ok (.ifCond .eq 13, 3) := by decide +kernel
theorem dX12_found_8 : decode cX12_found 8 = .ok (.aload_n 0, 1) := by decide +kernel
theorem dX12_found_9 : decode cX12_found 9 = .ok (.iload_n 1, 1) := by decide +kernel
theorem dX12_found_10 : decode cX12_found 10 = .ok (.iconst 3, 1) := by decide +kernel
theorem dX12_found_11 : decode cX12_found 11 = .ok (.iconst 1, 1) := by decide +kernel
theorem dX12_found_12 : decode cX12_found 12 = .ok (.invokevirtual 161, 3) := by decide +kernel
theorem dX12_found_15 : decode cX12_found 15 = .ok (.goto 8, 3) := by decide +kernel
theorem dX12_found_18 : decode cX12_found 18 = .ok (.aload_n 0, 1) := by decide +kernel
theorem dX12_found_19 : decode cX12_found 19 = .ok (.iconst 0, 1) := by decide +kernel
theorem dX12_found_20 : decode cX12_found 20 = .ok (.invokevirtual 112, 3) := by decide +kernel
theorem dX12_found_23 : decode cX12_found 23 = .ok (.ireturn, 1) := by decide +kernel
theorem dX12_comes_0 : decode cX12_comes 0 = .ok (.aload_n 0, 1) := by decide +kernel
theorem dX12_comes_1 : decode cX12_comes 1 = .ok (.iload_n 1, 1) := by decide +kernel
theorem dX12_comes_2 : decode cX12_comes 2 = .ok (.invokevirtual 127, 3) := by decide +kernel
theorem dX12_comes_5 : decode cX12_comes 5 = .ok (.ifCond .eq 21, 3) := by decide +kernel
theorem dX12_comes_8 : decode cX12_comes 8 = .ok (.aload_n 0, 1) := by decide +kernel
theorem dX12_comes_9 : decode cX12_comes 9 = .ok (.iload_n 2, 1) := by decide +kernel
theorem dX12_comes_10 : decode cX12_comes 10 = .ok (.invokevirtual 119, 3) := by decide +kernel
theorem dX12_comes_13 : decode cX12_comes 13 = .ok (.ifCond .eq 13, 3) := by decide +kernel
theorem dX12_comes_16 : decode cX12_comes 16 = .ok (.aload_n 0, 1) := by decide +kernel
theorem dX12_comes_17 : decode cX12_comes 17 = .ok (.iload_n 1, 1) := by decide +kernel
theorem dX12_comes_18 : decode cX12_comes 18 = .ok (.iconst 2, 1) := by decide +kernel
theorem dX12_comes_19 : decode cX12_comes 19 = .ok (.iload_n 2, 1) := by decide +kernel
theorem dX12_comes_20 : decode cX12_comes 20 = .ok (.invokevirtual 161, 3) := by decide +kernel
theorem dX12_comes_23 : decode cX12_comes 23 = .ok (.goto 8, 3) := by decide +kernel
theorem dX12_comes_26 : decode cX12_comes 26 = .ok (.aload_n 0, 1) := by decide +kernel
theorem dX12_comes_27 : decode cX12_comes 27 = .ok (.iconst 0, 1) := by decide +kernel
theorem dX12_comes_28 : decode cX12_comes 28 = .ok (.invokevirtual 112, 3) := by decide +kernel
theorem dX12_comes_31 : decode cX12_comes 31 = .ok (.ireturn, 1) := by decide +kernel
theorem dX12_isSoon_0 : decode cX12_isSoon 0 = .ok (.iload_n 0, 1) := by decide +kernel
theorem dX12_isSoon_1 : decode cX12_isSoon 1 = .ok (.iconst 1, 1) := by decide +kernel
theorem dX12_isSoon_2 : decode cX12_isSoon 2 = .ok (.bipush 30, 2) := by decide +kernel
theorem dX12_isSoon_4 : decode cX12_isSoon 4 = .ok (.invokestatic 52, 3) := by decide +kernel
theorem dX12_isSoon_7 : decode cX12_isSoon 7 = .ok (.ireturn, 1) := by decide +kernel
theorem dX12_joyThen_0 : decode cX12_joyThen 0 = .ok (.aload_n 0, 1) := by decide +kernel
theorem dX12_joyThen_1 : decode cX12_joyThen 1 = .ok (.iload_n 2, 1) := by decide +kernel
theorem dX12_joyThen_2 : decode cX12_joyThen 2 = .ok (.invokevirtual 139, 3) := by decide +kernel
theorem dX12_joyThen_5 : decode cX12_joyThen 5 = .ok (.iload_n 1, 1) := by decide +kernel
theorem dX12_joyThen_6 : decode cX12_joyThen 6 = .ok (.ifCond .ge 10, 3) := by decide +kernel
theorem dX12_joyThen_9 : decode cX12_joyThen 9 = .ok (.aload_n 0, 1) := by decide +kernel
theorem dX12_joyThen_10 : decode cX12_joyThen 10 = .ok (.invokevirtual 146, 3) := by decide +kernel
theorem dX12_joyThen_13 : decode cX12_joyThen 13 = .ok (.goto 9, 3) := by decide +kernel
theorem dX12_joyThen_16 : decode cX12_joyThen 16 = .ok (.aload_n 0, 1) := by decide +kernel
theorem dX12_joyThen_17 : decode cX12_joyThen 17 = .ok (.iload_n 1, 1) := by decide +kernel
theorem dX12_joyThen_18 : decode cX12_joyThen 18 = .ok (.iconst 1, 1) := by decide +kernel
theorem dX12_joyThen_19 : decode cX12_joyThen 19 = .ok (.invokevirtual 64, 3) := by decide +kernel
theorem dX12_joyThen_22 : decode cX12_joyThen 22 = .ok (.istore_n 3, 1) := by decide +kernel
theorem dX12_joyThen_23 : decode cX12_joyThen 23 = .ok (.aload_n 0, 1) := by decide +kernel
theorem dX12_joyThen_24 : decode cX12_joyThen 24 = .ok (.invokevirtual 158, 3) := by decide +kernel
theorem dX12_joyThen_27 : decode cX12_joyThen 27 = .ok (.iload_n 3, 1) := by decide +kernel
theorem dX12_joyThen_28 : decode cX12_joyThen 28 = .ok (.ireturn, 1) := by decide +kernel
theorem dX12_best_0 : decode cX12_best 0 = .ok (.aload_n 0, 1) := by decide +kernel
theorem dX12_best_1 : decode cX12_best 1 = .ok (.iload_n 1, 1) := by decide +kernel
theorem dX12_best_2 : decode cX12_best 2 = .ok (.invokevirtual 127, 3) := by decide +kernel
theorem dX12_best_5 : decode cX12_best 5 = .ok (.ifCond .eq 18, 3) := by decide +kernel
theorem dX12_best_8 : decode cX12_best 8 = .ok (.iload_n 2, 1) := by decide +kernel
theorem dX12_best_9 : decode cX12_best 9 = .ok (.invokestatic 165, 3) := by decide +kernel
theorem dX12_best_12 : decode cX12_best 12 = .ok (.ifCond .eq 11, 3) := by decide +kernel
theorem dX12_best_15 : decode cX12_best 15 = .ok (.aload_n 0, 1) := by decide +kernel
theorem dX12_best_16 : decode cX12_best 16 = .ok (.iload_n 1, 1) := by decide +kernel
theorem dX12_best_17 : decode cX12_best 17 = .ok (.invokevirtual 136, 3) := by decide +kernel
theorem dX12_best_20 : decode cX12_best 20 = .ok (.goto 4, 3) := by decide +kernel
theorem dX12_best_23 : decode cX12_best 23 = .ok (.iconst 0, 1) := by decide +kernel
theorem dX12_best_24 : decode cX12_best 24 = .ok (.istore_n 3, 1) := by decide +kernel
theorem dX12_best_25 : decode cX12_best 25 = .ok (.iload_n 3, 1) := by decide +kernel
theorem dX12_best_26 : decode cX12_best 26 = .ok (.ifCond .lt 9, 3) := by decide +kernel
theorem dX12_best_29 : decode cX12_best 29 = .ok (.aload_n 0, 1) := by decide +kernel
theorem dX12_best_30 : decode cX12_best 30 = .ok (.iload_n 3, 1) := by decide +kernel
theorem dX12_best_31 : decode cX12_best 31 = .ok (.invokevirtual 112, 3) := by decide +kernel
theorem dX12_best_34 : decode cX12_best 34 = .ok (.ireturn, 1) := by decide +kernel
theorem dX12_best_35 : decode cX12_best 35 = .ok (.iconst 0, 1) := by decide +kernel
theorem dX12_best_36 : decode cX12_best 36 = .ok (.istore 4, 2) := by decide +kernel
theorem dX12_best_38 : decode cX12_best 38 = .ok (.iconst (-1), 1) := by decide +kernel
theorem dX12_best_39 : decode cX12_best 39 = .ok (.istore 5, 2) := by decide +kernel
theorem dX12_best_41 : decode cX12_best 41 = .ok (.iconst 0, 1) := by decide +kernel
theorem dX12_best_42 : decode cX12_best 42 = .ok (.istore 6, 2) := by decide +kernel
theorem dX12_best_44 : decode cX12_best 44 = .ok (.iload 6, 2) := by decide +kernel
theorem dX12_best_46 : decode cX12_best 46 = .ok (.iconst 4, 1) := by decide +kernel
theorem dX12_best_47 : decode cX12_best 47 = .ok (.if_icmp .ge 60, 3) := by decide +kernel
theorem dX12_best_50 : decode cX12_best 50 = .ok (.aload_n 0, 1) := by decide +kernel
theorem dX12_best_51 : decode cX12_best 51 = .ok (.invokevirtual 155, 3) := by decide +kernel
theorem dX12_best_54 : decode cX12_best 54 = .ok (.aload_n 0, 1) := by decide +kernel
theorem dX12_best_55 : decode cX12_best 55 = .ok (.iload_n 1, 1) := by decide +kernel
theorem dX12_best_56 : decode cX12_best 56 = .ok (.iload 6, 2) := by decide +kernel
theorem dX12_best_58 : decode cX12_best 58 = .ok (.invokevirtual 100, 3) := by decide +kernel
theorem dX12_best_61 : decode cX12_best 61 = .ok (.aload_n 0, 1) := by decide +kernel
theorem dX12_best_62 : decode cX12_best 62 = .ok (.iconst (-1), 1) := by decide +kernel
theorem dX12_best_63 : decode cX12_best 63 = .ok (.iload_n 2, 1) := by decide +kernel
theorem dX12_best_64 : decode cX12_best 64 = .ok (.invokevirtual 168, 3) := by decide +kernel
theorem dX12_best_67 : decode cX12_best 67 = .ok (.istore 7, 2) := by decide +kernel
theorem dX12_best_69 : decode cX12_best 69 = .ok (.iload 7, 2) := by decide +kernel
theorem dX12_best_71 : decode cX12_best 71 = .ok (.iload 5, 2) := by decide +kernel
theorem dX12_best_73 : decode cX12_best 73 = .ok (.if_icmp .le 8, 3) := by decide +kernel
theorem dX12_best_76 : decode cX12_best 76 = .ok (.iload 6, 2) := by decide +kernel
theorem dX12_best_78 : decode cX12_best 78 = .ok (.goto 5, 3) := by decide +kernel
theorem dX12_best_81 : decode cX12_best 81 = .ok (.iload 4, 2) := by decide +kernel
theorem dX12_best_83 : decode cX12_best 83 = .ok (.istore 4, 2) := by decide +kernel
theorem dX12_best_85 : decode cX12_best 85 = .ok (.iload 7, 2) := by decide +kernel
theorem dX12_best_87 : decode cX12_best 87 = .ok (.iload 5, 2) := by decide +kernel
theorem dX12_best_89 : decode cX12_best 89 = .ok (.if_icmp .le 8, 3) := by decide +kernel
theorem dX12_best_92 : decode cX12_best 92 = .ok (.iload 7, 2) := by decide +kernel
theorem dX12_best_94 : decode cX12_best 94 = .ok (.goto 5, 3) := by decide +kernel
theorem dX12_best_97 : decode cX12_best 97 = .ok (.iload 5, 2) := by decide +kernel
theorem dX12_best_99 : decode cX12_best 99 = .ok (.istore 5, 2) := by decide +kernel
theorem dX12_best_101 : decode cX12_best 101 = .ok (.iinc 6 1, 3) := by decide +kernel
theorem dX12_best_104 : decode cX12_best 104 = .ok (.goto (-60), 3) := by decide +kernel
theorem dX12_best_107 : decode cX12_best 107 = .ok (.iload 4, 2) := by decide +kernel
theorem dX12_best_109 : decode cX12_best 109 = .ok (.ireturn, 1) := by decide +kernel
theorem dX12_give_0 : decode cX12_give 0 = .ok (.aload_n 0, 1) := by decide +kernel
theorem dX12_give_1 : decode cX12_give 1 = .ok (.iload_n 1, 1) := by decide +kernel
theorem dX12_give_2 : decode cX12_give 2 = .ok (.invokevirtual 127, 3) := by decide +kernel
theorem dX12_give_5 : decode cX12_give 5 = .ok (.ifCond .eq 10, 3) := by decide +kernel
theorem dX12_give_8 : decode cX12_give 8 = .ok (.iload_n 2, 1) := by decide +kernel
theorem dX12_give_9 : decode cX12_give 9 = .ok (.invokestatic 165, 3) := by decide +kernel
theorem dX12_give_12 : decode cX12_give 12 = .ok (.ifCond .ne 9, 3) := by decide +kernel
theorem dX12_give_15 : decode cX12_give 15 = .ok (.aload_n 0, 1) := by decide +kernel
theorem dX12_give_16 : decode cX12_give 16 = .ok (.iconst 0, 1) := by decide +kernel
theorem dX12_give_17 : decode cX12_give 17 = .ok (.invokevirtual 112, 3) := by decide +kernel
theorem dX12_give_20 : decode cX12_give 20 = .ok (.ireturn, 1) := by decide +kernel
theorem dX12_give_21 : decode cX12_give 21 = .ok (.iconst 0, 1) := by decide +kernel
theorem dX12_give_22 : decode cX12_give 22 = .ok (.istore_n 3, 1) := by decide +kernel
theorem dX12_give_23 : decode cX12_give 23 = .ok (.iconst (-1), 1) := by decide +kernel
theorem dX12_give_24 : decode cX12_give 24 = .ok (.istore 4, 2) := by decide +kernel
theorem dX12_give_26 : decode cX12_give 26 = .ok (.iconst 0, 1) := by decide +kernel
theorem dX12_give_27 : decode cX12_give 27 = .ok (.istore 5, 2) := by decide +kernel
theorem dX12_give_29 : decode cX12_give 29 = .ok (.iload 5, 2) := by decide +kernel
theorem dX12_give_31 : decode cX12_give 31 = .ok (.aload_n 0, 1) := by decide +kernel
theorem dX12_give_32 : decode cX12_give 32 = .ok (.getfield 9, 3) := by decide +kernel
theorem dX12_give_35 : decode cX12_give 35 = .ok (.iconst 1, 1) := by decide +kernel
theorem dX12_give_36 : decode cX12_give 36 = .ok (.iaload, 1) := by decide +kernel
theorem dX12_give_37 : decode cX12_give 37 = .ok (.if_icmp .ge 59, 3) := by decide +kernel
theorem dX12_give_40 : decode cX12_give 40 = .ok (.aload_n 0, 1) := by decide +kernel
theorem dX12_give_41 : decode cX12_give 41 = .ok (.invokevirtual 155, 3) := by decide +kernel
theorem dX12_give_44 : decode cX12_give 44 = .ok (.aload_n 0, 1) := by decide +kernel
theorem dX12_give_45 : decode cX12_give 45 = .ok (.iload_n 1, 1) := by decide +kernel
theorem dX12_give_46 : decode cX12_give 46 = .ok (.iconst 2, 1) := by decide +kernel
theorem dX12_give_47 : decode cX12_give 47 = .ok (.iload 5, 2) := by decide +kernel
theorem dX12_give_49 : decode cX12_give 49 = .ok (.invokevirtual 60, 3) := by decide +kernel
theorem dX12_give_52 : decode cX12_give 52 = .ok (.aload_n 0, 1) := by decide +kernel
theorem dX12_give_53 : decode cX12_give 53 = .ok (.iconst (-1), 1) := by decide +kernel
theorem dX12_give_54 : decode cX12_give 54 = .ok (.iload_n 2, 1) := by decide +kernel
theorem dX12_give_55 : decode cX12_give 55 = .ok (.invokevirtual 168, 3) := by decide +kernel
theorem dX12_give_58 : decode cX12_give 58 = .ok (.istore 6, 2) := by decide +kernel
theorem dX12_give_60 : decode cX12_give 60 = .ok (.iload 6, 2) := by decide +kernel
theorem dX12_give_62 : decode cX12_give 62 = .ok (.iload 4, 2) := by decide +kernel
theorem dX12_give_64 : decode cX12_give 64 = .ok (.if_icmp .le 8, 3) := by decide +kernel
theorem dX12_give_67 : decode cX12_give 67 = .ok (.iload 5, 2) := by decide +kernel
theorem dX12_give_69 : decode cX12_give 69 = .ok (.goto 4, 3) := by decide +kernel
theorem dX12_give_72 : decode cX12_give 72 = .ok (.iload_n 3, 1) := by decide +kernel
theorem dX12_give_73 : decode cX12_give 73 = .ok (.istore_n 3, 1) := by decide +kernel
theorem dX12_give_74 : decode cX12_give 74 = .ok (.iload 6, 2) := by decide +kernel
theorem dX12_give_76 : decode cX12_give 76 = .ok (.iload 4, 2) := by decide +kernel
theorem dX12_give_78 : decode cX12_give 78 = .ok (.if_icmp .le 8, 3) := by decide +kernel
theorem dX12_give_81 : decode cX12_give 81 = .ok (.iload 6, 2) := by decide +kernel
theorem dX12_give_83 : decode cX12_give 83 = .ok (.goto 5, 3) := by decide +kernel
theorem dX12_give_86 : decode cX12_give 86 = .ok (.iload 4, 2) := by decide +kernel
theorem dX12_give_88 : decode cX12_give 88 = .ok (.istore 4, 2) := by decide +kernel
theorem dX12_give_90 : decode cX12_give 90 = .ok (.iinc 5 1, 3) := by decide +kernel
theorem dX12_give_93 : decode cX12_give 93 = .ok (.goto (-64), 3) := by decide +kernel
theorem dX12_give_96 : decode cX12_give 96 = .ok (.iload_n 3, 1) := by decide +kernel
theorem dX12_give_97 : decode cX12_give 97 = .ok (.ireturn, 1) := by decide +kernel
theorem dX12_kind_0 : decode cX12_kind 0 = .ok (.aload_n 0, 1) := by decide +kernel
theorem dX12_kind_1 : decode cX12_kind 1 = .ok (.iload_n 1, 1) := by decide +kernel
theorem dX12_kind_2 : decode cX12_kind 2 = .ok (.invokevirtual 119, 3) := by decide +kernel
theorem dX12_kind_5 : decode cX12_kind 5 = .ok (.ifCond .eq 10, 3) := by decide +kernel
theorem dX12_kind_8 : decode cX12_kind 8 = .ok (.iload_n 2, 1) := by decide +kernel
theorem dX12_kind_9 : decode cX12_kind 9 = .ok (.invokestatic 165, 3) := by decide +kernel
theorem dX12_kind_12 : decode cX12_kind 12 = .ok (.ifCond .ne 9, 3) := by decide +kernel
theorem dX12_kind_15 : decode cX12_kind 15 = .ok (.aload_n 0, 1) := by decide +kernel
theorem dX12_kind_16 : decode cX12_kind 16 = .ok (.iconst 0, 1) := by decide +kernel
theorem dX12_kind_17 : decode cX12_kind 17 = .ok (.invokevirtual 112, 3) := by decide +kernel
theorem dX12_kind_20 : decode cX12_kind 20 = .ok (.ireturn, 1) := by decide +kernel
theorem dX12_kind_21 : decode cX12_kind 21 = .ok (.iconst 0, 1) := by decide +kernel
theorem dX12_kind_22 : decode cX12_kind 22 = .ok (.istore_n 3, 1) := by decide +kernel
theorem dX12_kind_23 : decode cX12_kind 23 = .ok (.iconst (-1), 1) := by decide +kernel
theorem dX12_kind_24 : decode cX12_kind 24 = .ok (.istore 4, 2) := by decide +kernel
theorem dX12_kind_26 : decode cX12_kind 26 = .ok (.iconst 0, 1) := by decide +kernel
theorem dX12_kind_27 : decode cX12_kind 27 = .ok (.istore 5, 2) := by decide +kernel
theorem dX12_kind_29 : decode cX12_kind 29 = .ok (.iload 5, 2) := by decide +kernel
theorem dX12_kind_31 : decode cX12_kind 31 = .ok (.bipush 6, 2) := by decide +kernel
theorem dX12_kind_33 : decode cX12_kind 33 = .ok (.if_icmp .ge 59, 3) := by decide +kernel
theorem dX12_kind_36 : decode cX12_kind 36 = .ok (.aload_n 0, 1) := by decide +kernel
theorem dX12_kind_37 : decode cX12_kind 37 = .ok (.invokevirtual 155, 3) := by decide +kernel
theorem dX12_kind_40 : decode cX12_kind 40 = .ok (.aload_n 0, 1) := by decide +kernel
theorem dX12_kind_41 : decode cX12_kind 41 = .ok (.iload_n 1, 1) := by decide +kernel
theorem dX12_kind_42 : decode cX12_kind 42 = .ok (.iconst 0, 1) := by decide +kernel
theorem dX12_kind_43 : decode cX12_kind 43 = .ok (.iload 5, 2) := by decide +kernel
theorem dX12_kind_45 : decode cX12_kind 45 = .ok (.invokevirtual 74, 3) := by decide +kernel
theorem dX12_kind_48 : decode cX12_kind 48 = .ok (.aload_n 0, 1) := by decide +kernel
theorem dX12_kind_49 : decode cX12_kind 49 = .ok (.iload_n 1, 1) := by decide +kernel
theorem dX12_kind_50 : decode cX12_kind 50 = .ok (.iload_n 2, 1) := by decide +kernel
theorem dX12_kind_51 : decode cX12_kind 51 = .ok (.invokevirtual 168, 3) := by decide +kernel
theorem dX12_kind_54 : decode cX12_kind 54 = .ok (.istore 6, 2) := by decide +kernel
theorem dX12_kind_56 : decode cX12_kind 56 = .ok (.iload 6, 2) := by decide +kernel
theorem dX12_kind_58 : decode cX12_kind 58 = .ok (.iload 4, 2) := by decide +kernel
theorem dX12_kind_60 : decode cX12_kind 60 = .ok (.if_icmp .le 8, 3) := by decide +kernel
theorem dX12_kind_63 : decode cX12_kind 63 = .ok (.iload 5, 2) := by decide +kernel
theorem dX12_kind_65 : decode cX12_kind 65 = .ok (.goto 4, 3) := by decide +kernel
theorem dX12_kind_68 : decode cX12_kind 68 = .ok (.iload_n 3, 1) := by decide +kernel
theorem dX12_kind_69 : decode cX12_kind 69 = .ok (.istore_n 3, 1) := by decide +kernel
theorem dX12_kind_70 : decode cX12_kind 70 = .ok (.iload 6, 2) := by decide +kernel
theorem dX12_kind_72 : decode cX12_kind 72 = .ok (.iload 4, 2) := by decide +kernel
theorem dX12_kind_74 : decode cX12_kind 74 = .ok (.if_icmp .le 8, 3) := by decide +kernel
theorem dX12_kind_77 : decode cX12_kind 77 = .ok (.iload 6, 2) := by decide +kernel
theorem dX12_kind_79 : decode cX12_kind 79 = .ok (.goto 5, 3) := by decide +kernel
theorem dX12_kind_82 : decode cX12_kind 82 = .ok (.iload 4, 2) := by decide +kernel
theorem dX12_kind_84 : decode cX12_kind 84 = .ok (.istore 4, 2) := by decide +kernel
theorem dX12_kind_86 : decode cX12_kind 86 = .ok (.iinc 5 1, 3) := by decide +kernel
theorem dX12_kind_89 : decode cX12_kind 89 = .ok (.goto (-60), 3) := by decide +kernel
theorem dX12_kind_92 : decode cX12_kind 92 = .ok (.iload_n 3, 1) := by decide +kernel
theorem dX12_kind_93 : decode cX12_kind 93 = .ok (.ireturn, 1) := by decide +kernel
theorem dX12_least_0 : decode cX12_least 0 = .ok (.aload_n 0, 1) := by decide +kernel
theorem dX12_least_1 : decode cX12_least 1 = .ok (.iload_n 1, 1) := by decide +kernel
theorem dX12_least_2 : decode cX12_least 2 = .ok (.invokevirtual 127, 3) := by decide +kernel
theorem dX12_least_5 : decode cX12_least 5 = .ok (.ifCond .eq 30, 3) := by decide +kernel
theorem dX12_least_8 : decode cX12_least 8 = .ok (.aload_n 0, 1) := by decide +kernel
theorem dX12_least_9 : decode cX12_least 9 = .ok (.iload_n 2, 1) := by decide +kernel
theorem dX12_least_10 : decode cX12_least 10 = .ok (.invokevirtual 119, 3) := by decide +kernel
theorem dX12_least_13 : decode cX12_least 13 = .ok (.ifCond .eq 22, 3) := by decide +kernel
theorem dX12_least_16 : decode cX12_least 16 = .ok (.iload_n 3, 1) := by decide +kernel
theorem dX12_least_17 : decode cX12_least 17 = .ok (.invokestatic 165, 3) := by decide +kernel
theorem dX12_least_20 : decode cX12_least 20 = .ok (.ifCond .eq 15, 3) := by decide +kernel
theorem dX12_least_23 : decode cX12_least 23 = .ok (.iload 4, 2) := by decide +kernel
theorem dX12_least_25 : decode cX12_least 25 = .ok (.iconst 0, 1) := by decide +kernel
theorem dX12_least_26 : decode cX12_least 26 = .ok (.sipush 9999, 3) := by decide +kernel
theorem dX12_least_29 : decode cX12_least 29 = .ok (.invokestatic 52, 3) := by decide +kernel
theorem dX12_least_32 : decode cX12_least 32 = .ok (.ifCond .ne 9, 3) := by decide +kernel
theorem dX12_least_35 : decode cX12_least 35 = .ok (.aload_n 0, 1) := by decide +kernel
theorem dX12_least_36 : decode cX12_least 36 = .ok (.iconst 0, 1) := by decide +kernel
theorem dX12_least_37 : decode cX12_least 37 = .ok (.invokevirtual 112, 3) := by decide +kernel
theorem dX12_least_40 : decode cX12_least 40 = .ok (.ireturn, 1) := by decide +kernel
theorem dX12_least_41 : decode cX12_least 41 = .ok (.iconst 0, 1) := by decide +kernel
theorem dX12_least_42 : decode cX12_least 42 = .ok (.istore 5, 2) := by decide +kernel
theorem dX12_least_44 : decode cX12_least 44 = .ok (.iload 5, 2) := by decide +kernel
theorem dX12_least_46 : decode cX12_least 46 = .ok (.bipush 99, 2) := by decide +kernel
theorem dX12_least_48 : decode cX12_least 48 = .ok (.if_icmp .gt 35, 3) := by decide +kernel
theorem dX12_least_51 : decode cX12_least 51 = .ok (.aload_n 0, 1) := by decide +kernel
theorem dX12_least_52 : decode cX12_least 52 = .ok (.invokevirtual 155, 3) := by decide +kernel
theorem dX12_least_55 : decode cX12_least 55 = .ok (.aload_n 0, 1) := by decide +kernel
theorem dX12_least_56 : decode cX12_least 56 = .ok (.iload_n 1, 1) := by decide +kernel
theorem dX12_least_57 : decode cX12_least 57 = .ok (.iconst 1, 1) := by decide +kernel
theorem dX12_least_58 : decode cX12_least 58 = .ok (.iload 5, 2) := by decide +kernel
theorem dX12_least_60 : decode cX12_least 60 = .ok (.invokevirtual 60, 3) := by decide +kernel
theorem dX12_least_63 : decode cX12_least 63 = .ok (.aload_n 0, 1) := by decide +kernel
theorem dX12_least_64 : decode cX12_least 64 = .ok (.iload_n 2, 1) := by decide +kernel
theorem dX12_least_65 : decode cX12_least 65 = .ok (.iload_n 3, 1) := by decide +kernel
theorem dX12_least_66 : decode cX12_least 66 = .ok (.invokevirtual 168, 3) := by decide +kernel
theorem dX12_least_69 : decode cX12_least 69 = .ok (.iload 4, 2) := by decide +kernel
theorem dX12_least_71 : decode cX12_least 71 = .ok (.if_icmp .lt 6, 3) := by decide +kernel
theorem dX12_least_74 : decode cX12_least 74 = .ok (.iload 5, 2) := by decide +kernel
theorem dX12_least_76 : decode cX12_least 76 = .ok (.ireturn, 1) := by decide +kernel
theorem dX12_least_77 : decode cX12_least 77 = .ok (.iinc 5 1, 3) := by decide +kernel
theorem dX12_least_80 : decode cX12_least 80 = .ok (.goto (-36), 3) := by decide +kernel
theorem dX12_least_83 : decode cX12_least 83 = .ok (.aload_n 0, 1) := by decide +kernel
theorem dX12_least_84 : decode cX12_least 84 = .ok (.iconst 3, 1) := by decide +kernel
theorem dX12_least_85 : decode cX12_least 85 = .ok (.invokevirtual 112, 3) := by decide +kernel
theorem dX12_least_88 : decode cX12_least 88 = .ok (.ireturn, 1) := by decide +kernel
theorem dX12_isOrder_0 : decode cX12_isOrder 0 = .ok (.iconst 0, 1) := by decide +kernel
theorem dX12_isOrder_1 : decode cX12_isOrder 1 = .ok (.istore_n 3, 1) := by decide +kernel
theorem dX12_isOrder_2 : decode cX12_isOrder 2 = .ok (.iload_n 3, 1) := by decide +kernel
theorem dX12_isOrder_3 : decode cX12_isOrder 3 = .ok (.iconst 5, 1) := by decide +kernel
theorem dX12_isOrder_4 : decode cX12_isOrder 4 = .ok (.if_icmp .ge 16, 3) := by decide +kernel
theorem dX12_isOrder_7 : decode cX12_isOrder 7 = .ok (.aload_n 0, 1) := by decide +kernel
theorem dX12_isOrder_8 : decode cX12_isOrder 8 = .ok (.getfield 22, 3) := by decide +kernel
theorem dX12_isOrder_11 : decode cX12_isOrder 11 = .ok (.iload_n 3, 1) := by decide +kernel
theorem dX12_isOrder_12 : decode cX12_isOrder 12 = .ok (.iconst 0, 1) := by decide +kernel
theorem dX12_isOrder_13 : decode cX12_isOrder 13 = .ok (.iastore, 1) := by decide +kernel
theorem dX12_isOrder_14 : decode cX12_isOrder 14 = .ok (.iinc 3 1, 3) := by decide +kernel
theorem dX12_isOrder_17 : decode cX12_isOrder 17 = .ok (.goto (-15), 3) := by decide +kernel
theorem dX12_isOrder_20 : decode cX12_isOrder 20 = .ok (.iconst 0, 1) := by decide +kernel
theorem dX12_isOrder_21 : decode cX12_isOrder 21 = .ok (.istore_n 3, 1) := by decide +kernel
theorem dX12_isOrder_22 : decode cX12_isOrder 22 = .ok (.iload_n 3, 1) := by decide +kernel
theorem dX12_isOrder_23 : decode cX12_isOrder 23 = .ok (.aload_n 0, 1) := by decide +kernel
theorem dX12_isOrder_24 : decode cX12_isOrder 24 = .ok (.iload_n 1, 1) := by decide +kernel
theorem dX12_isOrder_25 : decode cX12_isOrder 25 = .ok (.iconst 0, 1) := by decide +kernel
theorem dX12_isOrder_26 : decode cX12_isOrder 26 = .ok (.invokevirtual 56, 3) := by decide +kernel
theorem dX12_isOrder_29 : decode cX12_isOrder 29 = .ok (.if_icmp .ge 28, 3) := by decide +kernel
theorem dX12_isOrder_32 : decode cX12_isOrder 32 = .ok (.aload_n 0, 1) := by decide +kernel
theorem dX12_isOrder_33 : decode cX12_isOrder 33 = .ok (.getfield 22, 3) := by decide +kernel
theorem dX12_isOrder_36 : decode cX12_isOrder 36 = .ok (.iconst 1, 1) := by decide +kernel
theorem dX12_isOrder_37 : decode cX12_isOrder 37 = .ok (.aload_n 0, 1) := by decide +kernel
theorem dX12_isOrder_38 : decode cX12_isOrder 38 = .ok (.iload_n 1, 1) := by decide +kernel
theorem dX12_isOrder_39 : decode cX12_isOrder 39 = .ok (.iconst 4, 1) := by decide +kernel
theorem dX12_isOrder_40 : decode cX12_isOrder 40 = .ok (.iload_n 3, 1) := by decide +kernel
theorem dX12_isOrder_41 : decode cX12_isOrder 41 = .ok (.iadd, 1) := by decide +kernel
theorem dX12_isOrder_42 : decode cX12_isOrder 42 = .ok (.invokevirtual 56, 3) := by decide +kernel
theorem dX12_isOrder_45 : decode cX12_isOrder 45 = .ok (.iadd, 1) := by decide +kernel
theorem dX12_isOrder_46 : decode cX12_isOrder 46 = .ok (.dup2, 1) := by decide +kernel
theorem dX12_isOrder_47 : decode cX12_isOrder 47 = .ok (.iaload, 1) := by decide +kernel
theorem dX12_isOrder_48 : decode cX12_isOrder 48 = .ok (.iconst 1, 1) := by decide +kernel
theorem dX12_isOrder_49 : decode cX12_isOrder 49 = .ok (.iadd, 1) := by decide +kernel
theorem dX12_isOrder_50 : decode cX12_isOrder 50 = .ok (.iastore, 1) := by decide +kernel
theorem dX12_isOrder_51 : decode cX12_isOrder 51 = .ok (.iinc 3 1, 3) := by decide +kernel
theorem dX12_isOrder_54 : decode cX12_isOrder 54 = .ok (.goto (-32), 3) := by decide +kernel
theorem dX12_isOrder_57 : decode cX12_isOrder 57 = .ok (.iconst 1, 1) := by decide +kernel
theorem dX12_isOrder_58 : decode cX12_isOrder 58 = .ok (.istore_n 3, 1) := by decide +kernel
theorem dX12_isOrder_59 : decode cX12_isOrder 59 = .ok (.iload_n 2, 1) := by decide +kernel
theorem dX12_isOrder_60 : decode cX12_isOrder 60 = .ok (.istore 4, 2) := by decide +kernel
theorem dX12_isOrder_62 : decode cX12_isOrder 62 = .ok (.iload 4, 2) := by decide +kernel
theorem dX12_isOrder_64 : decode cX12_isOrder 64 = .ok (.ifCond .le 71, 3) := by decide +kernel
theorem dX12_isOrder_67 : decode cX12_isOrder 67 = .ok (.iload_n 3, 1) := by decide +kernel
theorem dX12_isOrder_68 : decode cX12_isOrder 68 = .ok (.ifCond .eq 67, 3) := by decide +kernel
theorem dX12_isOrder_71 : decode cX12_isOrder 71 = .ok (.iload 4, 2) := by decide +kernel
theorem dX12_isOrder_73 : decode cX12_isOrder 73 = .ok (.bipush 10, 2) := by decide +kernel
theorem dX12_isOrder_75 : decode cX12_isOrder 75 = .ok (.irem, 1) := by decide +kernel
theorem dX12_isOrder_76 : decode cX12_isOrder 76 = .ok (.iconst 1, 1) := by decide +kernel
theorem dX12_isOrder_77 : decode cX12_isOrder 77 = .ok (.iconst 4, 1) := by decide +kernel
theorem dX12_isOrder_78 : decode cX12_isOrder 78 = .ok (.invokestatic 52, 3) := by decide +kernel
theorem dX12_isOrder_81 : decode cX12_isOrder 81 = .ok (.ifCond .eq 20, 3) := by decide +kernel
theorem dX12_isOrder_84 : decode cX12_isOrder 84 = .ok (.aload_n 0, 1) := by decide +kernel
theorem dX12_isOrder_85 : decode cX12_isOrder 85 = .ok (.getfield 22, 3) := by decide +kernel
theorem dX12_isOrder_88 : decode cX12_isOrder 88 = .ok (.iload 4, 2) := by decide +kernel
theorem dX12_isOrder_90 : decode cX12_isOrder 90 = .ok (.bipush 10, 2) := by decide +kernel
theorem dX12_isOrder_92 : decode cX12_isOrder 92 = .ok (.irem, 1) := by decide +kernel
theorem dX12_isOrder_93 : decode cX12_isOrder 93 = .ok (.iaload, 1) := by decide +kernel
theorem dX12_isOrder_94 : decode cX12_isOrder 94 = .ok (.ifCond .le 7, 3) := by decide +kernel
theorem dX12_isOrder_97 : decode cX12_isOrder 97 = .ok (.iconst 1, 1) := by decide +kernel
theorem dX12_isOrder_98 : decode cX12_isOrder 98 = .ok (.goto 4, 3) := by decide +kernel
theorem dX12_isOrder_101 : decode cX12_isOrder 101 = .ok (.iconst 0, 1) := by decide +kernel
theorem dX12_isOrder_102 : decode cX12_isOrder 102 = .ok (.istore_n 3, 1) := by decide +kernel
theorem dX12_isOrder_103 : decode cX12_isOrder 103 = .ok (.aload_n 0, 1) := by decide +kernel
theorem dX12_isOrder_104 : decode cX12_isOrder 104 = .ok (.getfield 22, 3) := by decide +kernel
theorem dX12_isOrder_107 : decode cX12_isOrder 107 = .ok (.iload_n 3, 1) := by decide +kernel
theorem dX12_isOrder_108 : decode cX12_isOrder 108 = .ok (.ifCond .eq 11, 3) := by decide +kernel
theorem dX12_isOrder_111 : decode cX12_isOrder 111 = .ok (.iload 4, 2) := by decide +kernel
theorem dX12_isOrder_113 : decode cX12_isOrder 113 = .ok (.bipush 10, 2) := by decide +kernel
theorem dX12_isOrder_115 : decode cX12_isOrder 115 = .ok (.irem, 1) := by decide +kernel
theorem dX12_isOrder_116 : decode cX12_isOrder 116 = .ok (.goto 4, 3) := by decide +kernel
theorem dX12_isOrder_119 : decode cX12_isOrder 119 = .ok (.iconst 0, 1) := by decide +kernel
theorem dX12_isOrder_120 : decode cX12_isOrder 120 = .ok (.dup2, 1) := by decide +kernel
theorem dX12_isOrder_121 : decode cX12_isOrder 121 = .ok (.iaload, 1) := by decide +kernel
theorem dX12_isOrder_122 : decode cX12_isOrder 122 = .ok (.iconst 1, 1) := by decide +kernel
theorem dX12_isOrder_123 : decode cX12_isOrder 123 = .ok (.isub, 1) := by decide +kernel
theorem dX12_isOrder_124 : decode cX12_isOrder 124 = .ok (.iastore, 1) := by decide +kernel
theorem dX12_isOrder_125 : decode cX12_isOrder 125 = .ok (.iload 4, 2) := by decide +kernel
theorem dX12_isOrder_127 : decode cX12_isOrder 127 = .ok (.bipush 10, 2) := by decide +kernel
theorem dX12_isOrder_129 : decode cX12_isOrder 129 = .ok (.idiv, 1) := by decide +kernel
theorem dX12_isOrder_130 : decode cX12_isOrder 130 = .ok (.istore 4, 2) := by decide +kernel
theorem dX12_isOrder_132 : decode cX12_isOrder 132 = .ok (.goto (-70), 3) := by decide +kernel
theorem dX12_isOrder_135 : decode cX12_isOrder 135 = .ok (.iload_n 3, 1) := by decide +kernel
theorem dX12_isOrder_136 : decode cX12_isOrder 136 = .ok (.ireturn, 1) := by decide +kernel
theorem dX12_joyBy_0 : decode cX12_joyBy 0 = .ok (.aload_n 0, 1) := by decide +kernel
theorem dX12_joyBy_1 : decode cX12_joyBy 1 = .ok (.invokevirtual 155, 3) := by decide +kernel
theorem dX12_joyBy_4 : decode cX12_joyBy 4 = .ok (.aload_n 0, 1) := by decide +kernel
theorem dX12_joyBy_5 : decode cX12_joyBy 5 = .ok (.iload_n 1, 1) := by decide +kernel
theorem dX12_joyBy_6 : decode cX12_joyBy 6 = .ok (.iconst 0, 1) := by decide +kernel
theorem dX12_joyBy_7 : decode cX12_joyBy 7 = .ok (.invokevirtual 56, 3) := by decide +kernel
theorem dX12_joyBy_10 : decode cX12_joyBy 10 = .ok (.iconst 1, 1) := by decide +kernel
theorem dX12_joyBy_11 : decode cX12_joyBy 11 = .ok (.isub, 1) := by decide +kernel
theorem dX12_joyBy_12 : decode cX12_joyBy 12 = .ok (.istore 4, 2) := by decide +kernel
theorem dX12_joyBy_14 : decode cX12_joyBy 14 = .ok (.iload_n 2, 1) := by decide +kernel
theorem dX12_joyBy_15 : decode cX12_joyBy 15 = .ok (.istore 5, 2) := by decide +kernel
theorem dX12_joyBy_17 : decode cX12_joyBy 17 = .ok (.iload 5, 2) := by decide +kernel
theorem dX12_joyBy_19 : decode cX12_joyBy 19 = .ok (.ifCond .le 32, 3) := by decide +kernel
theorem dX12_joyBy_22 : decode cX12_joyBy 22 = .ok (.aload_n 0, 1) := by decide +kernel
theorem dX12_joyBy_23 : decode cX12_joyBy 23 = .ok (.iload_n 1, 1) := by decide +kernel
theorem dX12_joyBy_24 : decode cX12_joyBy 24 = .ok (.iconst 4, 1) := by decide +kernel
theorem dX12_joyBy_25 : decode cX12_joyBy 25 = .ok (.iload 4, 2) := by decide +kernel
theorem dX12_joyBy_27 : decode cX12_joyBy 27 = .ok (.iadd, 1) := by decide +kernel
theorem dX12_joyBy_28 : decode cX12_joyBy 28 = .ok (.iload 5, 2) := by decide +kernel
theorem dX12_joyBy_30 : decode cX12_joyBy 30 = .ok (.bipush 10, 2) := by decide +kernel
theorem dX12_joyBy_32 : decode cX12_joyBy 32 = .ok (.irem, 1) := by decide +kernel
theorem dX12_joyBy_33 : decode cX12_joyBy 33 = .ok (.iconst 1, 1) := by decide +kernel
theorem dX12_joyBy_34 : decode cX12_joyBy 34 = .ok (.isub, 1) := by decide +kernel
theorem dX12_joyBy_35 : decode cX12_joyBy 35 = .ok (.invokevirtual 60, 3) := by decide +kernel
theorem dX12_joyBy_38 : decode cX12_joyBy 38 = .ok (.iinc 4 (-1), 3) := by decide +kernel
theorem dX12_joyBy_41 : decode cX12_joyBy 41 = .ok (.iload 5, 2) := by decide +kernel
theorem dX12_joyBy_43 : decode cX12_joyBy 43 = .ok (.bipush 10, 2) := by decide +kernel
theorem dX12_joyBy_45 : decode cX12_joyBy 45 = .ok (.idiv, 1) := by decide +kernel
theorem dX12_joyBy_46 : decode cX12_joyBy 46 = .ok (.istore 5, 2) := by decide +kernel
theorem dX12_joyBy_48 : decode cX12_joyBy 48 = .ok (.goto (-31), 3) := by decide +kernel
theorem dX12_joyBy_51 : decode cX12_joyBy 51 = .ok (.aload_n 0, 1) := by decide +kernel
theorem dX12_joyBy_52 : decode cX12_joyBy 52 = .ok (.iconst (-1), 1) := by decide +kernel
theorem dX12_joyBy_53 : decode cX12_joyBy 53 = .ok (.iload_n 3, 1) := by decide +kernel
theorem dX12_joyBy_54 : decode cX12_joyBy 54 = .ok (.invokevirtual 168, 3) := by decide +kernel
theorem dX12_joyBy_57 : decode cX12_joyBy 57 = .ok (.ireturn, 1) := by decide +kernel
theorem dX12_order_0 : decode cX12_order 0 = .ok (.aload_n 0, 1) := by decide +kernel
theorem dX12_order_1 : decode cX12_order 1 = .ok (.iload_n 1, 1) := by decide +kernel
theorem dX12_order_2 : decode cX12_order 2 = .ok (.invokevirtual 127, 3) := by decide +kernel
theorem dX12_order_5 : decode cX12_order 5 = .ok (.ifCond .eq 13, 3) := by decide +kernel
theorem dX12_order_8 : decode cX12_order 8 = .ok (.iload_n 2, 1) := by decide +kernel
theorem dX12_order_9 : decode cX12_order 9 = .ok (.iconst 1, 1) := by decide +kernel
theorem dX12_order_10 : decode cX12_order 10 = .ok (.bipush 10, 2) := by decide +kernel
theorem dX12_order_12 : decode cX12_order 12 = .ok (.invokestatic 52, 3) := by decide +kernel
theorem dX12_order_15 : decode cX12_order 15 = .ok (.ifCond .ne 9, 3) := by decide +kernel
theorem dX12_order_18 : decode cX12_order 18 = .ok (.aload_n 0, 1) := by decide +kernel
theorem dX12_order_19 : decode cX12_order 19 = .ok (.iconst 0, 1) := by decide +kernel
theorem dX12_order_20 : decode cX12_order 20 = .ok (.invokevirtual 112, 3) := by decide +kernel
theorem dX12_order_23 : decode cX12_order 23 = .ok (.ireturn, 1) := by decide +kernel
theorem dX12_order_24 : decode cX12_order 24 = .ok (.aload_n 0, 1) := by decide +kernel
theorem dX12_order_25 : decode cX12_order 25 = .ok (.iload_n 1, 1) := by decide +kernel
theorem dX12_order_26 : decode cX12_order 26 = .ok (.iconst 0, 1) := by decide +kernel
theorem dX12_order_27 : decode cX12_order 27 = .ok (.invokevirtual 56, 3) := by decide +kernel
theorem dX12_order_30 : decode cX12_order 30 = .ok (.istore_n 3, 1) := by decide +kernel
theorem dX12_order_31 : decode cX12_order 31 = .ok (.iload_n 3, 1) := by decide +kernel
theorem dX12_order_32 : decode cX12_order 32 = .ok (.ifCond .ne 9, 3) := by decide +kernel
theorem dX12_order_35 : decode cX12_order 35 = .ok (.aload_n 0, 1) := by decide +kernel
theorem dX12_order_36 : decode cX12_order 36 = .ok (.iconst 3, 1) := by decide +kernel
theorem dX12_order_37 : decode cX12_order 37 = .ok (.invokevirtual 112, 3) := by decide +kernel
theorem dX12_order_40 : decode cX12_order 40 = .ok (.ireturn, 1) := by decide +kernel
theorem dX12_order_41 : decode cX12_order 41 = .ok (.iload_n 3, 1) := by decide +kernel
theorem dX12_order_42 : decode cX12_order 42 = .ok (.iconst 5, 1) := by decide +kernel
theorem dX12_order_43 : decode cX12_order 43 = .ok (.if_icmp .le 10, 3) := by decide +kernel
theorem dX12_order_46 : decode cX12_order 46 = .ok (.aload_n 0, 1) := by decide +kernel
theorem dX12_order_47 : decode cX12_order 47 = .ok (.bipush 6, 2) := by decide +kernel
theorem dX12_order_49 : decode cX12_order 49 = .ok (.invokevirtual 112, 3) := by decide +kernel
theorem dX12_order_52 : decode cX12_order 52 = .ok (.ireturn, 1) := by decide +kernel
theorem dX12_order_53 : decode cX12_order 53 = .ok (.iconst 1, 1) := by decide +kernel
theorem dX12_order_54 : decode cX12_order 54 = .ok (.istore 4, 2) := by decide +kernel
theorem dX12_order_56 : decode cX12_order 56 = .ok (.iconst 1, 1) := by decide +kernel
theorem dX12_order_57 : decode cX12_order 57 = .ok (.istore 5, 2) := by decide +kernel
theorem dX12_order_59 : decode cX12_order 59 = .ok (.iload 5, 2) := by decide +kernel
theorem dX12_order_61 : decode cX12_order 61 = .ok (.iload_n 3, 1) := by decide +kernel
theorem dX12_order_62 : decode cX12_order 62 = .ok (.if_icmp .ge 18, 3) := by decide +kernel
theorem dX12_order_65 : decode cX12_order 65 = .ok (.bipush 10, 2) := by decide +kernel
theorem dX12_order_67 : decode cX12_order 67 = .ok (.iload 4, 2) := by decide +kernel
theorem dX12_order_69 : decode cX12_order 69 = .ok (.imul, 1) := by decide +kernel
theorem dX12_order_70 : decode cX12_order 70 = .ok (.iconst 1, 1) := by decide +kernel
theorem dX12_order_71 : decode cX12_order 71 = .ok (.iadd, 1) := by decide +kernel
theorem dX12_order_72 : decode cX12_order 72 = .ok (.istore 4, 2) := by decide +kernel
theorem dX12_order_74 : decode cX12_order 74 = .ok (.iinc 5 1, 3) := by decide +kernel
theorem dX12_order_77 : decode cX12_order 77 = .ok (.goto (-18), 3) := by decide +kernel
theorem dX12_order_80 : decode cX12_order 80 = .ok (.iconst 0, 1) := by decide +kernel
theorem dX12_order_81 : decode cX12_order 81 = .ok (.istore 5, 2) := by decide +kernel
theorem dX12_order_83 : decode cX12_order 83 = .ok (.iconst (-1), 1) := by decide +kernel
theorem dX12_order_84 : decode cX12_order 84 = .ok (.istore 6, 2) := by decide +kernel
theorem dX12_order_86 : decode cX12_order 86 = .ok (.iload 4, 2) := by decide +kernel
theorem dX12_order_88 : decode cX12_order 88 = .ok (.istore 7, 2) := by decide +kernel
theorem dX12_order_90 : decode cX12_order 90 = .ok (.iload 7, 2) := by decide +kernel
theorem dX12_order_92 : decode cX12_order 92 = .ok (.iconst 4, 1) := by decide +kernel
theorem dX12_order_93 : decode cX12_order 93 = .ok (.iload 4, 2) := by decide +kernel
theorem dX12_order_95 : decode cX12_order 95 = .ok (.imul, 1) := by decide +kernel
theorem dX12_order_96 : decode cX12_order 96 = .ok (.if_icmp .gt 65, 3) := by decide +kernel
theorem dX12_order_99 : decode cX12_order 99 = .ok (.aload_n 0, 1) := by decide +kernel
theorem dX12_order_100 : decode cX12_order 100 = .ok (.iload_n 1, 1) := by decide +kernel
theorem dX12_order_101 : decode cX12_order 101 = .ok (.iload 7, 2) := by decide +kernel
theorem dX12_order_103 : decode cX12_order 103 = .ok (.invokevirtual 171, 3) := by decide +kernel
theorem dX12_order_106 : decode cX12_order 106 = .ok (.ifCond .eq 14, 3) := by decide +kernel
theorem dX12_order_109 : decode cX12_order 109 = .ok (.aload_n 0, 1) := by decide +kernel
theorem dX12_order_110 : decode cX12_order 110 = .ok (.iload_n 1, 1) := by decide +kernel
theorem dX12_order_111 : decode cX12_order 111 = .ok (.iload 7, 2) := by decide +kernel
theorem dX12_order_113 : decode cX12_order 113 = .ok (.iload_n 2, 1) := by decide +kernel
theorem dX12_order_114 : decode cX12_order 114 = .ok (.invokevirtual 175, 3) := by decide +kernel
theorem dX12_order_117 : decode cX12_order 117 = .ok (.goto 4, 3) := by decide +kernel
theorem dX12_order_120 : decode cX12_order 120 = .ok (.iconst (-1), 1) := by decide +kernel
theorem dX12_order_121 : decode cX12_order 121 = .ok (.istore 8, 2) := by decide +kernel
theorem dX12_order_123 : decode cX12_order 123 = .ok (.iload 8, 2) := by decide +kernel
theorem dX12_order_125 : decode cX12_order 125 = .ok (.iload 6, 2) := by decide +kernel
theorem dX12_order_127 : decode cX12_order 127 = .ok (.if_icmp .le 8, 3) := by decide +kernel
theorem dX12_order_130 : decode cX12_order 130 = .ok (.iload 7, 2) := by decide +kernel
theorem dX12_order_132 : decode cX12_order 132 = .ok (.goto 5, 3) := by decide +kernel
theorem dX12_order_135 : decode cX12_order 135 = .ok (.iload 5, 2) := by decide +kernel
theorem dX12_order_137 : decode cX12_order 137 = .ok (.istore 5, 2) := by decide +kernel
theorem dX12_order_139 : decode cX12_order 139 = .ok (.iload 8, 2) := by decide +kernel
theorem dX12_order_141 : decode cX12_order 141 = .ok (.iload 6, 2) := by decide +kernel
theorem dX12_order_143 : decode cX12_order 143 = .ok (.if_icmp .le 8, 3) := by decide +kernel
theorem dX12_order_146 : decode cX12_order 146 = .ok (.iload 8, 2) := by decide +kernel
theorem dX12_order_148 : decode cX12_order 148 = .ok (.goto 5, 3) := by decide +kernel
theorem dX12_order_151 : decode cX12_order 151 = .ok (.iload 6, 2) := by decide +kernel
theorem dX12_order_153 : decode cX12_order 153 = .ok (.istore 6, 2) := by decide +kernel
theorem dX12_order_155 : decode cX12_order 155 = .ok (.iinc 7 1, 3) := by decide +kernel
theorem dX12_order_158 : decode cX12_order 158 = .ok (.goto (-68), 3) := by decide +kernel
theorem dX12_order_161 : decode cX12_order 161 = .ok (.iload 5, 2) := by decide +kernel
theorem dX12_order_163 : decode cX12_order 163 = .ok (.ireturn, 1) := by decide +kernel
theorem dX12_happiest_0 : decode cX12_happiest 0 = .ok (.iload_n 1, 1) := by decide +kernel
theorem dX12_happiest_1 : decode cX12_happiest 1 = .ok (.invokestatic 152, 3) := by decide +kernel
theorem dX12_happiest_4 : decode cX12_happiest 4 = .ok (.ifCond .ne 9, 3) := by decide +kernel
theorem dX12_happiest_7 : decode cX12_happiest 7 = .ok (.aload_n 0, 1) := by decide +kernel
theorem dX12_happiest_8 : decode cX12_happiest 8 = .ok (.iconst 0, 1) := by decide +kernel
theorem dX12_happiest_9 : decode cX12_happiest 9 = .ok (.invokevirtual 112, 3) := by decide +kernel
theorem dX12_happiest_12 : decode cX12_happiest 12 = .ok (.ireturn, 1) := by decide +kernel
theorem dX12_happiest_13 : decode cX12_happiest 13 = .ok (.aload_n 0, 1) := by decide +kernel
theorem dX12_happiest_14 : decode cX12_happiest 14 = .ok (.getfield 9, 3) := by decide +kernel
theorem dX12_happiest_17 : decode cX12_happiest 17 = .ok (.iconst 1, 1) := by decide +kernel
theorem dX12_happiest_18 : decode cX12_happiest 18 = .ok (.iaload, 1) := by decide +kernel
theorem dX12_happiest_19 : decode cX12_happiest 19 = .ok (.ifCond .ne 9, 3) := by decide +kernel
theorem dX12_happiest_22 : decode cX12_happiest 22 = .ok (.aload_n 0, 1) := by decide +kernel
theorem dX12_happiest_23 : decode cX12_happiest 23 = .ok (.iconst 3, 1) := by decide +kernel
theorem dX12_happiest_24 : decode cX12_happiest 24 = .ok (.invokevirtual 112, 3) := by decide +kernel
theorem dX12_happiest_27 : decode cX12_happiest 27 = .ok (.ireturn, 1) := by decide +kernel
theorem dX12_happiest_28 : decode cX12_happiest 28 = .ok (.aload_n 0, 1) := by decide +kernel
theorem dX12_happiest_29 : decode cX12_happiest 29 = .ok (.invokevirtual 155, 3) := by decide +kernel
theorem dX12_happiest_32 : decode cX12_happiest 32 = .ok (.aload_n 0, 1) := by decide +kernel
theorem dX12_happiest_33 : decode cX12_happiest 33 = .ok (.iload_n 1, 1) := by decide +kernel
theorem dX12_happiest_34 : decode cX12_happiest 34 = .ok (.invokevirtual 139, 3) := by decide +kernel
theorem dX12_happiest_37 : decode cX12_happiest 37 = .ok (.iconst 0, 1) := by decide +kernel
theorem dX12_happiest_38 : decode cX12_happiest 38 = .ok (.istore_n 2, 1) := by decide +kernel
theorem dX12_happiest_39 : decode cX12_happiest 39 = .ok (.iconst 1, 1) := by decide +kernel
theorem dX12_happiest_40 : decode cX12_happiest 40 = .ok (.istore_n 3, 1) := by decide +kernel
theorem dX12_happiest_41 : decode cX12_happiest 41 = .ok (.iload_n 3, 1) := by decide +kernel
theorem dX12_happiest_42 : decode cX12_happiest 42 = .ok (.aload_n 0, 1) := by decide +kernel
theorem dX12_happiest_43 : decode cX12_happiest 43 = .ok (.getfield 9, 3) := by decide +kernel
theorem dX12_happiest_46 : decode cX12_happiest 46 = .ok (.iconst 1, 1) := by decide +kernel
theorem dX12_happiest_47 : decode cX12_happiest 47 = .ok (.iaload, 1) := by decide +kernel
theorem dX12_happiest_48 : decode cX12_happiest 48 = .ok (.if_icmp .ge 30, 3) := by decide +kernel
theorem dX12_happiest_51 : decode cX12_happiest 51 = .ok (.aload_n 0, 1) := by decide +kernel
theorem dX12_happiest_52 : decode cX12_happiest 52 = .ok (.iload_n 3, 1) := by decide +kernel
theorem dX12_happiest_53 : decode cX12_happiest 53 = .ok (.iconst 1, 1) := by decide +kernel
theorem dX12_happiest_54 : decode cX12_happiest 54 = .ok (.invokevirtual 64, 3) := by decide +kernel
theorem dX12_happiest_57 : decode cX12_happiest 57 = .ok (.aload_n 0, 1) := by decide +kernel
theorem dX12_happiest_58 : decode cX12_happiest 58 = .ok (.iload_n 2, 1) := by decide +kernel
theorem dX12_happiest_59 : decode cX12_happiest 59 = .ok (.iconst 1, 1) := by decide +kernel
theorem dX12_happiest_60 : decode cX12_happiest 60 = .ok (.invokevirtual 64, 3) := by decide +kernel
theorem dX12_happiest_63 : decode cX12_happiest 63 = .ok (.if_icmp .le 7, 3) := by decide +kernel
theorem dX12_happiest_66 : decode cX12_happiest 66 = .ok (.iload_n 3, 1) := by decide +kernel
theorem dX12_happiest_67 : decode cX12_happiest 67 = .ok (.goto 4, 3) := by decide +kernel
theorem dX12_happiest_70 : decode cX12_happiest 70 = .ok (.iload_n 2, 1) := by decide +kernel
theorem dX12_happiest_71 : decode cX12_happiest 71 = .ok (.istore_n 2, 1) := by decide +kernel
theorem dX12_happiest_72 : decode cX12_happiest 72 = .ok (.iinc 3 1, 3) := by decide +kernel
theorem dX12_happiest_75 : decode cX12_happiest 75 = .ok (.goto (-34), 3) := by decide +kernel
theorem dX12_happiest_78 : decode cX12_happiest 78 = .ok (.aload_n 0, 1) := by decide +kernel
theorem dX12_happiest_79 : decode cX12_happiest 79 = .ok (.invokevirtual 158, 3) := by decide +kernel
theorem dX12_happiest_82 : decode cX12_happiest 82 = .ok (.iload_n 2, 1) := by decide +kernel
theorem dX12_happiest_83 : decode cX12_happiest 83 = .ok (.ireturn, 1) := by decide +kernel
theorem dX12_isHiddenBy_0 : decode cX12_isHiddenBy 0 = .ok (.aload_n 0, 1) := by decide +kernel
theorem dX12_isHiddenBy_1 : decode cX12_isHiddenBy 1 = .ok (.invokevirtual 155, 3) := by decide +kernel
theorem dX12_isHiddenBy_4 : decode cX12_isHiddenBy 4 = .ok (.iconst 0, 1) := by decide +kernel
theorem dX12_isHiddenBy_5 : decode cX12_isHiddenBy 5 = .ok (.istore 5, 2) := by decide +kernel
theorem dX12_isHiddenBy_7 : decode cX12_isHiddenBy 7 = .ok (.iload 5, 2) := by decide +kernel
theorem dX12_isHiddenBy_9 : decode cX12_isHiddenBy 9 = .ok (.iload_n 3, 1) := by decide +kernel
theorem dX12_isHiddenBy_10 : decode cX12_isHiddenBy 10 = .ok (.if_icmp .ge 15, 3) := by decide +kernel
theorem dX12_isHiddenBy_13 : decode cX12_isHiddenBy 13 = .ok (.aload_n 0, 1) := by decide +kernel
theorem dX12_isHiddenBy_14 : decode cX12_isHiddenBy 14 = .ok (.iload_n 1, 1) := by decide +kernel
theorem dX12_isHiddenBy_15 : decode cX12_isHiddenBy 15 = .ok (.iload_n 2, 1) := by decide +kernel
theorem dX12_isHiddenBy_16 : decode cX12_isHiddenBy 16 = .ok (.invokevirtual 100, 3) := by decide +kernel
theorem dX12_isHiddenBy_19 : decode cX12_isHiddenBy 19 = .ok (.iinc 5 1, 3) := by decide +kernel
theorem dX12_isHiddenBy_22 : decode cX12_isHiddenBy 22 = .ok (.goto (-15), 3) := by decide +kernel
theorem dX12_isHiddenBy_25 : decode cX12_isHiddenBy 25 = .ok (.aload_n 0, 1) := by decide +kernel
theorem dX12_isHiddenBy_26 : decode cX12_isHiddenBy 26 = .ok (.iload 4, 2) := by decide +kernel
theorem dX12_isHiddenBy_28 : decode cX12_isHiddenBy 28 = .ok (.invokevirtual 139, 3) := by decide +kernel
theorem dX12_isHiddenBy_31 : decode cX12_isHiddenBy 31 = .ok (.aload_n 0, 1) := by decide +kernel
theorem dX12_isHiddenBy_32 : decode cX12_isHiddenBy 32 = .ok (.iload_n 1, 1) := by decide +kernel
theorem dX12_isHiddenBy_33 : decode cX12_isHiddenBy 33 = .ok (.iconst 3, 1) := by decide +kernel
theorem dX12_isHiddenBy_34 : decode cX12_isHiddenBy 34 = .ok (.invokevirtual 56, 3) := by decide +kernel
theorem dX12_isHiddenBy_37 : decode cX12_isHiddenBy 37 = .ok (.ifCond .ne 7, 3) := by decide +kernel
theorem dX12_isHiddenBy_40 : decode cX12_isHiddenBy 40 = .ok (.iconst 1, 1) := by decide +kernel
theorem dX12_isHiddenBy_41 : decode cX12_isHiddenBy 41 = .ok (.goto 4, 3) := by decide +kernel
theorem dX12_isHiddenBy_44 : decode cX12_isHiddenBy 44 = .ok (.iconst 0, 1) := by decide +kernel
theorem dX12_isHiddenBy_45 : decode cX12_isHiddenBy 45 = .ok (.istore 5, 2) := by decide +kernel
theorem dX12_isHiddenBy_47 : decode cX12_isHiddenBy 47 = .ok (.aload_n 0, 1) := by decide +kernel
theorem dX12_isHiddenBy_48 : decode cX12_isHiddenBy 48 = .ok (.invokevirtual 158, 3) := by decide +kernel
theorem dX12_isHiddenBy_51 : decode cX12_isHiddenBy 51 = .ok (.iload 5, 2) := by decide +kernel
theorem dX12_isHiddenBy_53 : decode cX12_isHiddenBy 53 = .ok (.ireturn, 1) := by decide +kernel
theorem dX12_enough_0 : decode cX12_enough 0 = .ok (.aload_n 0, 1) := by decide +kernel
theorem dX12_enough_1 : decode cX12_enough 1 = .ok (.iload_n 1, 1) := by decide +kernel
theorem dX12_enough_2 : decode cX12_enough 2 = .ok (.invokevirtual 127, 3) := by decide +kernel
theorem dX12_enough_5 : decode cX12_enough 5 = .ok (.ifCond .eq 17, 3) := by decide +kernel
theorem dX12_enough_8 : decode cX12_enough 8 = .ok (.iload_n 2, 1) := by decide +kernel
theorem dX12_enough_9 : decode cX12_enough 9 = .ok (.invokestatic 133, 3) := by decide +kernel
theorem dX12_enough_12 : decode cX12_enough 12 = .ok (.ifCond .eq 10, 3) := by decide +kernel
theorem dX12_enough_15 : decode cX12_enough 15 = .ok (.iload_n 3, 1) := by decide +kernel
theorem dX12_enough_16 : decode cX12_enough 16 = .ok (.invokestatic 165, 3) := by decide +kernel
theorem dX12_enough_19 : decode cX12_enough 19 = .ok (.ifCond .ne 9, 3) := by decide +kernel
theorem dX12_enough_22 : decode cX12_enough 22 = .ok (.aload_n 0, 1) := by decide +kernel
theorem dX12_enough_23 : decode cX12_enough 23 = .ok (.iconst 0, 1) := by decide +kernel
theorem dX12_enough_24 : decode cX12_enough 24 = .ok (.invokevirtual 112, 3) := by decide +kernel
theorem dX12_enough_27 : decode cX12_enough 27 = .ok (.ireturn, 1) := by decide +kernel
theorem dX12_enough_28 : decode cX12_enough 28 = .ok (.aload_n 0, 1) := by decide +kernel
theorem dX12_enough_29 : decode cX12_enough 29 = .ok (.iload_n 1, 1) := by decide +kernel
theorem dX12_enough_30 : decode cX12_enough 30 = .ok (.iconst 3, 1) := by decide +kernel
theorem dX12_enough_31 : decode cX12_enough 31 = .ok (.invokevirtual 56, 3) := by decide +kernel
theorem dX12_enough_34 : decode cX12_enough 34 = .ok (.iconst 1, 1) := by decide +kernel
theorem dX12_enough_35 : decode cX12_enough 35 = .ok (.if_icmp .ne 9, 3) := by decide +kernel
theorem dX12_enough_38 : decode cX12_enough 38 = .ok (.aload_n 0, 1) := by decide +kernel
theorem dX12_enough_39 : decode cX12_enough 39 = .ok (.iconst 4, 1) := by decide +kernel
theorem dX12_enough_40 : decode cX12_enough 40 = .ok (.invokevirtual 112, 3) := by decide +kernel
theorem dX12_enough_43 : decode cX12_enough 43 = .ok (.ireturn, 1) := by decide +kernel
theorem dX12_enough_44 : decode cX12_enough 44 = .ok (.iconst 0, 1) := by decide +kernel
theorem dX12_enough_45 : decode cX12_enough 45 = .ok (.istore 4, 2) := by decide +kernel
theorem dX12_enough_47 : decode cX12_enough 47 = .ok (.iload 4, 2) := by decide +kernel
theorem dX12_enough_49 : decode cX12_enough 49 = .ok (.bipush 6, 2) := by decide +kernel
theorem dX12_enough_51 : decode cX12_enough 51 = .ok (.aload_n 0, 1) := by decide +kernel
theorem dX12_enough_52 : decode cX12_enough 52 = .ok (.iload_n 1, 1) := by decide +kernel
theorem dX12_enough_53 : decode cX12_enough 53 = .ok (.iconst 0, 1) := by decide +kernel
theorem dX12_enough_54 : decode cX12_enough 54 = .ok (.invokevirtual 56, 3) := by decide +kernel
theorem dX12_enough_57 : decode cX12_enough 57 = .ok (.isub, 1) := by decide +kernel
theorem dX12_enough_58 : decode cX12_enough 58 = .ok (.if_icmp .gt 24, 3) := by decide +kernel
theorem dX12_enough_61 : decode cX12_enough 61 = .ok (.aload_n 0, 1) := by decide +kernel
theorem dX12_enough_62 : decode cX12_enough 62 = .ok (.iload_n 1, 1) := by decide +kernel
theorem dX12_enough_63 : decode cX12_enough 63 = .ok (.iload_n 2, 1) := by decide +kernel
theorem dX12_enough_64 : decode cX12_enough 64 = .ok (.iload 4, 2) := by decide +kernel
theorem dX12_enough_66 : decode cX12_enough 66 = .ok (.iload_n 3, 1) := by decide +kernel
theorem dX12_enough_67 : decode cX12_enough 67 = .ok (.invokevirtual 178, 3) := by decide +kernel
theorem dX12_enough_70 : decode cX12_enough 70 = .ok (.ifCond .eq 6, 3) := by decide +kernel
theorem dX12_enough_73 : decode cX12_enough 73 = .ok (.iload 4, 2) := by decide +kernel
theorem dX12_enough_75 : decode cX12_enough 75 = .ok (.ireturn, 1) := by decide +kernel
theorem dX12_enough_76 : decode cX12_enough 76 = .ok (.iinc 4 1, 3) := by decide +kernel
theorem dX12_enough_79 : decode cX12_enough 79 = .ok (.goto (-32), 3) := by decide +kernel
theorem dX12_enough_82 : decode cX12_enough 82 = .ok (.aload_n 0, 1) := by decide +kernel
theorem dX12_enough_83 : decode cX12_enough 83 = .ok (.iconst 3, 1) := by decide +kernel
theorem dX12_enough_84 : decode cX12_enough 84 = .ok (.invokevirtual 112, 3) := by decide +kernel
theorem dX12_enough_87 : decode cX12_enough 87 = .ok (.ireturn, 1) := by decide +kernel
theorem dX12_feed_0 : decode cX12_feed 0 = .ok (.iload_n 2, 1) := by decide +kernel
theorem dX12_feed_1 : decode cX12_feed 1 = .ok (.iconst 1, 1) := by decide +kernel
theorem dX12_feed_2 : decode cX12_feed 2 = .ok (.iconst 4, 1) := by decide +kernel
theorem dX12_feed_3 : decode cX12_feed 3 = .ok (.invokestatic 52, 3) := by decide +kernel
theorem dX12_feed_6 : decode cX12_feed 6 = .ok (.ifCond .ne 9, 3) := by decide +kernel
theorem dX12_feed_9 : decode cX12_feed 9 = .ok (.aload_n 0, 1) := by decide +kernel
theorem dX12_feed_10 : decode cX12_feed 10 = .ok (.iconst 0, 1) := by decide +kernel
theorem dX12_feed_11 : decode cX12_feed 11 = .ok (.invokevirtual 112, 3) := by decide +kernel
theorem dX12_feed_14 : decode cX12_feed 14 = .ok (.ireturn, 1) := by decide +kernel
theorem dX12_feed_15 : decode cX12_feed 15 = .ok (.aload_n 0, 1) := by decide +kernel
theorem dX12_feed_16 : decode cX12_feed 16 = .ok (.getfield 182, 3) := by decide +kernel
theorem dX12_feed_19 : decode cX12_feed 19 = .ok (.iload_n 2, 1) := by decide +kernel
theorem dX12_feed_20 : decode cX12_feed 20 = .ok (.iadd, 1) := by decide +kernel
theorem dX12_feed_21 : decode cX12_feed 21 = .ok (.bipush 120, 2) := by decide +kernel
theorem dX12_feed_23 : decode cX12_feed 23 = .ok (.if_icmp .le 9, 3) := by decide +kernel
theorem dX12_feed_26 : decode cX12_feed 26 = .ok (.aload_n 0, 1) := by decide +kernel
theorem dX12_feed_27 : decode cX12_feed 27 = .ok (.iconst 1, 1) := by decide +kernel
theorem dX12_feed_28 : decode cX12_feed 28 = .ok (.invokevirtual 112, 3) := by decide +kernel
theorem dX12_feed_31 : decode cX12_feed 31 = .ok (.ireturn, 1) := by decide +kernel
theorem dX12_feed_32 : decode cX12_feed 32 = .ok (.iload_n 2, 1) := by decide +kernel
theorem dX12_feed_33 : decode cX12_feed 33 = .ok (.iconst 1, 1) := by decide +kernel
theorem dX12_feed_34 : decode cX12_feed 34 = .ok (.isub, 1) := by decide +kernel
theorem dX12_feed_35 : decode cX12_feed 35 = .ok (.istore_n 3, 1) := by decide +kernel
theorem dX12_feed_36 : decode cX12_feed 36 = .ok (.iload_n 3, 1) := by decide +kernel
theorem dX12_feed_37 : decode cX12_feed 37 = .ok (.ifCond .lt 38, 3) := by decide +kernel
theorem dX12_feed_40 : decode cX12_feed 40 = .ok (.aload_n 0, 1) := by decide +kernel
theorem dX12_feed_41 : decode cX12_feed 41 = .ok (.getfield 25, 3) := by decide +kernel
theorem dX12_feed_44 : decode cX12_feed 44 = .ok (.aload_n 0, 1) := by decide +kernel
theorem dX12_feed_45 : decode cX12_feed 45 = .ok (.getfield 182, 3) := by decide +kernel
theorem dX12_feed_48 : decode cX12_feed 48 = .ok (.iload_n 1, 1) := by decide +kernel
theorem dX12_feed_49 : decode cX12_feed 49 = .ok (.bipush 8, 2) := by decide +kernel
theorem dX12_feed_51 : decode cX12_feed 51 = .ok (.iload_n 3, 1) := by decide +kernel
theorem dX12_feed_52 : decode cX12_feed 52 = .ok (.imul, 1) := by decide +kernel
theorem dX12_feed_53 : decode cX12_feed 53 = .ok (.ishr, 1) := by decide +kernel
theorem dX12_feed_54 : decode cX12_feed 54 = .ok (.sipush 255, 3) := by decide +kernel
theorem dX12_feed_57 : decode cX12_feed 57 = .ok (.iand, 1) := by decide +kernel
theorem dX12_feed_58 : decode cX12_feed 58 = .ok (.iastore, 1) := by decide +kernel
theorem dX12_feed_59 : decode cX12_feed 59 = .ok (.aload_n 0, 1) := by decide +kernel
theorem dX12_feed_60 : decode cX12_feed 60 = .ok (.dup, 1) := by decide +kernel
theorem dX12_feed_61 : decode cX12_feed 61 = .ok (.getfield 182, 3) := by decide +kernel
theorem dX12_feed_64 : decode cX12_feed 64 = .ok (.iconst 1, 1) := by decide +kernel
theorem dX12_feed_65 : decode cX12_feed 65 = .ok (.iadd, 1) := by decide +kernel
theorem dX12_feed_66 : decode cX12_feed 66 = .ok (.putfield 182, 3) := by decide +kernel
theorem dX12_feed_69 : decode cX12_feed 69 = .ok (.iinc 3 (-1), 3) := by decide +kernel
theorem dX12_feed_72 : decode cX12_feed 72 = .ok (.goto (-36), 3) := by decide +kernel
theorem dX12_feed_75 : decode cX12_feed 75 = .ok (.aload_n 0, 1) := by decide +kernel
theorem dX12_feed_76 : decode cX12_feed 76 = .ok (.getfield 182, 3) := by decide +kernel
theorem dX12_feed_79 : decode cX12_feed 79 = .ok (.ireturn, 1) := by decide +kernel
theorem dX12_wipe_0 : decode cX12_wipe 0 = .ok (.aload_n 0, 1) := by decide +kernel
theorem dX12_wipe_1 : decode cX12_wipe 1 = .ok (.getfield 182, 3) := by decide +kernel
theorem dX12_wipe_4 : decode cX12_wipe 4 = .ok (.istore_n 1, 1) := by decide +kernel
theorem dX12_wipe_5 : decode cX12_wipe 5 = .ok (.aload_n 0, 1) := by decide +kernel
theorem dX12_wipe_6 : decode cX12_wipe 6 = .ok (.iconst 0, 1) := by decide +kernel
theorem dX12_wipe_7 : decode cX12_wipe 7 = .ok (.putfield 182, 3) := by decide +kernel
theorem dX12_wipe_10 : decode cX12_wipe 10 = .ok (.iload_n 1, 1) := by decide +kernel
theorem dX12_wipe_11 : decode cX12_wipe 11 = .ok (.ireturn, 1) := by decide +kernel
theorem dX12_isLetter_0 : decode cX12_isLetter 0 = .ok (.iload_n 0, 1) := by decide +kernel
theorem dX12_isLetter_1 : decode cX12_isLetter 1 = .ok (.bipush 97, 2) := by decide +kernel
theorem dX12_isLetter_3 : decode cX12_isLetter 3 = .ok (.bipush 122, 2) := by decide +kernel
theorem dX12_isLetter_5 : decode cX12_isLetter 5 = .ok (.invokestatic 52, 3) := by decide +kernel
theorem dX12_isLetter_8 : decode cX12_isLetter 8 = .ok (.ireturn, 1) := by decide +kernel
theorem dX12_isDigit_0 : decode cX12_isDigit 0 = .ok (.iload_n 0, 1) := by decide +kernel
theorem dX12_isDigit_1 : decode cX12_isDigit 1 = .ok (.bipush 48, 2) := by decide +kernel
theorem dX12_isDigit_3 : decode cX12_isDigit 3 = .ok (.bipush 57, 2) := by decide +kernel
theorem dX12_isDigit_5 : decode cX12_isDigit 5 = .ok (.invokestatic 52, 3) := by decide +kernel
theorem dX12_isDigit_8 : decode cX12_isDigit 8 = .ok (.ireturn, 1) := by decide +kernel
theorem dX12_nextToken_0 : decode cX12_nextToken 0 = .ok (.aload_n 0, 1) := by decide +kernel
theorem dX12_nextToken_1 : decode cX12_nextToken 1 = .ok (.aload_n 0, 1) := by decide +kernel
theorem dX12_nextToken_2 : decode cX12_nextToken 2 = .ok (.getfield 185, 3) := by decide +kernel
theorem dX12_nextToken_5 : decode cX12_nextToken 5 = .ok (.putfield 188, 3) := by decide +kernel
theorem dX12_nextToken_8 : decode cX12_nextToken 8 = .ok (.aload_n 0, 1) := by decide +kernel
theorem dX12_nextToken_9 : decode cX12_nextToken 9 = .ok (.getfield 188, 3) := by decide +kernel
theorem dX12_nextToken_12 : decode cX12_nextToken 12 = .ok (.aload_n 0, 1) := by decide +kernel
theorem dX12_nextToken_13 : decode cX12_nextToken 13 = .ok (.getfield 182, 3) := by decide +kernel
theorem dX12_nextToken_16 : decode cX12_nextToken 16 = .ok (.if_icmp .ge 30, 3) := by decide +kernel
theorem dX12_nextToken_19 : decode cX12_nextToken 19 = .ok (.aload_n 0, 1) := by decide +kernel
theorem dX12_nextToken_20 : decode cX12_nextToken 20 = .ok (.getfield 25, 3) := by decide +kernel
theorem dX12_nextToken_23 : decode cX12_nextToken 23 = .ok (.aload_n 0, 1) := by decide +kernel
theorem dX12_nextToken_24 : decode cX12_nextToken 24 = .ok (.getfield 188, 3) := by decide +kernel
theorem dX12_nextToken_27 : decode cX12_nextToken 27 = .ok (.iaload, 1) := by decide +kernel
theorem dX12_nextToken_28 : decode cX12_nextToken 28 = .ok (.bipush 32, 2) := by decide +kernel
theorem dX12_nextToken_30 : decode cX12_nextToken 30 = .ok (.if_icmp .ne 16, 3) := by decide +kernel
theorem dX12_nextToken_33 : decode cX12_nextToken 33 = .ok (.aload_n 0, 1) := by decide +kernel
theorem dX12_nextToken_34 : decode cX12_nextToken 34 = .ok (.dup, 1) := by decide +kernel
theorem dX12_nextToken_35 : decode cX12_nextToken 35 = .ok (.getfield 188, 3) := by decide +kernel
theorem dX12_nextToken_38 : decode cX12_nextToken 38 = .ok (.iconst 1, 1) := by decide +kernel
theorem dX12_nextToken_39 : decode cX12_nextToken 39 = .ok (.iadd, 1) := by decide +kernel
theorem dX12_nextToken_40 : decode cX12_nextToken 40 = .ok (.putfield 188, 3) := by decide +kernel
theorem dX12_nextToken_43 : decode cX12_nextToken 43 = .ok (.goto (-35), 3) := by decide +kernel
theorem dX12_nextToken_46 : decode cX12_nextToken 46 = .ok (.aload_n 0, 1) := by decide +kernel
theorem dX12_nextToken_47 : decode cX12_nextToken 47 = .ok (.aload_n 0, 1) := by decide +kernel
theorem dX12_nextToken_48 : decode cX12_nextToken 48 = .ok (.getfield 188, 3) := by decide +kernel
theorem dX12_nextToken_51 : decode cX12_nextToken 51 = .ok (.putfield 185, 3) := by decide +kernel
theorem dX12_nextToken_54 : decode cX12_nextToken 54 = .ok (.aload_n 0, 1) := by decide +kernel
theorem dX12_nextToken_55 : decode cX12_nextToken 55 = .ok (.lconst 0, 1) := by decide +kernel
theorem dX12_nextToken_56 : decode cX12_nextToken 56 = .ok (.putfield 191, 3) := by decide +kernel
theorem dX12_nextToken_59 : decode cX12_nextToken 59 = .ok (.aload_n 0, 1) := by decide +kernel
theorem dX12_nextToken_60 : decode cX12_nextToken 60 = .ok (.getfield 188, 3) := by decide +kernel
theorem dX12_nextToken_63 : decode cX12_nextToken 63 = .ok (.aload_n 0, 1) := by decide +kernel
theorem dX12_nextToken_64 : decode cX12_nextToken 64 = .ok (.getfield 182, 3) := by decide +kernel
theorem dX12_nextToken_67 : decode cX12_nextToken 67 = .ok (.if_icmp .ne 11, 3) := by decide +kernel
theorem dX12_nextToken_70 : decode cX12_nextToken 70 = .ok (.aload_n 0, 1) := by decide +kernel
theorem dX12_nextToken_71 : decode cX12_nextToken 71 = .ok (.iconst 0, 1) := by decide +kernel
theorem dX12_nextToken_72 : decode cX12_nextToken 72 = .ok (.putfield 195, 3) := by decide +kernel
theorem dX12_nextToken_75 : decode cX12_nextToken 75 = .ok (.goto 262, 3) := by decide +kernel
theorem dX12_nextToken_78 : decode cX12_nextToken 78 = .ok (.aload_n 0, 1) := by decide +kernel
theorem dX12_nextToken_79 : decode cX12_nextToken 79 = .ok (.getfield 25, 3) := by decide +kernel
theorem dX12_nextToken_82 : decode cX12_nextToken 82 = .ok (.aload_n 0, 1) := by decide +kernel
theorem dX12_nextToken_83 : decode cX12_nextToken 83 = .ok (.getfield 188, 3) := by decide +kernel
theorem dX12_nextToken_86 : decode cX12_nextToken 86 = .ok (.iaload, 1) := by decide +kernel
theorem dX12_nextToken_87 : decode cX12_nextToken 87 = .ok (.invokestatic 198, 3) := by decide +kernel
theorem dX12_nextToken_90 : decode cX12_nextToken 90 = .ok (.ifCond .eq 92, 3) := by decide +kernel
theorem dX12_nextToken_93 : decode cX12_nextToken 93 = .ok (.aload_n 0, 1) := by decide +kernel
theorem dX12_nextToken_94 : decode cX12_nextToken 94 = .ok (.iconst 1, 1) := by decide +kernel
theorem dX12_nextToken_95 : decode cX12_nextToken 95 = .ok (.putfield 195, 3) := by decide +kernel
theorem dX12_nextToken_98 : decode cX12_nextToken 98 = .ok (.aload_n 0, 1) := by decide +kernel
theorem dX12_nextToken_99 : decode cX12_nextToken 99 = .ok (.getfield 185, 3) := by decide +kernel
theorem dX12_nextToken_102 : decode cX12_nextToken 102 = .ok (.aload_n 0, 1) := by decide +kernel
theorem dX12_nextToken_103 : decode cX12_nextToken 103 = .ok (.getfield 182, 3) := by decide +kernel
theorem dX12_nextToken_106 : decode cX12_nextToken 106 = .ok (.if_icmp .ge 231, 3) := by decide +kernel
theorem dX12_nextToken_109 : decode cX12_nextToken 109 = .ok (.aload_n 0, 1) := by decide +kernel
theorem dX12_nextToken_110 : decode cX12_nextToken 110 = .ok (.getfield 25, 3) := by decide +kernel
theorem dX12_nextToken_113 : decode cX12_nextToken 113 = .ok (.aload_n 0, 1) := by decide +kernel
theorem dX12_nextToken_114 : decode cX12_nextToken 114 = .ok (.getfield 185, 3) := by decide +kernel
theorem dX12_nextToken_117 : decode cX12_nextToken 117 = .ok (.iaload, 1) := by decide +kernel
theorem dX12_nextToken_118 : decode cX12_nextToken 118 = .ok (.invokestatic 198, 3) := by decide +kernel
theorem dX12_nextToken_121 : decode cX12_nextToken 121 = .ok (.ifCond .eq 216, 3) := by decide +kernel
theorem dX12_nextToken_124 : decode cX12_nextToken 124 = .ok (.aload_n 0, 1) := by decide +kernel
theorem dX12_nextToken_125 : decode cX12_nextToken 125 = .ok (.aload_n 0, 1) := by decide +kernel
theorem dX12_nextToken_126 : decode cX12_nextToken 126 = .ok (.getfield 191, 3) := by decide +kernel
theorem dX12_nextToken_129 : decode cX12_nextToken 129 = .ok (.ldc2_w 201, 3) := by decide +kernel
theorem dX12_nextToken_132 : decode cX12_nextToken 132 = .ok (.lcmp, 1) := by decide +kernel
theorem dX12_nextToken_133 : decode cX12_nextToken 133 = .ok (.ifCond .le 10, 3) := by decide +kernel
theorem dX12_nextToken_136 : decode cX12_nextToken 136 = .ok (.aload_n 0, 1) := by decide +kernel
theorem dX12_nextToken_137 : decode cX12_nextToken 137 = .ok (.getfield 191, 3) := by decide +kernel
theorem dX12_nextToken_140 : decode cX12_nextToken 140 = .ok (.goto 26, 3) := by decide +kernel
theorem dX12_nextToken_143 : decode cX12_nextToken 143 = .ok (.aload_n 0, 1) := by decide +kernel
theorem dX12_nextToken_144 : decode cX12_nextToken 144 = .ok (.getfield 191, 3) := by decide +kernel
theorem dX12_nextToken_147 : decode cX12_nextToken 147 = .ok (.ldc2_w 203, 3) := by decide +kernel
theorem dX12_nextToken_150 : decode cX12_nextToken 150 = .ok (.lmul, 1) := by decide +kernel
theorem dX12_nextToken_151 : decode cX12_nextToken 151 = .ok (.aload_n 0, 1) := by decide +kernel
theorem dX12_nextToken_152 : decode cX12_nextToken 152 = .ok (.getfield 25, 3) := by decide +kernel
theorem dX12_nextToken_155 : decode cX12_nextToken 155 = .ok (.aload_n 0, 1) := by decide +kernel
theorem dX12_nextToken_156 : decode cX12_nextToken 156 = .ok (.getfield 185, 3) := by decide +kernel
theorem dX12_nextToken_159 : decode cX12_nextToken 159 = .ok (.iaload, 1) := by decide +kernel
theorem dX12_nextToken_160 : decode cX12_nextToken 160 = .ok (.i2l, 1) := by decide +kernel
theorem dX12_nextToken_161 : decode cX12_nextToken 161 = .ok (.ladd, 1) := by decide +kernel
theorem dX12_nextToken_162 : decode cX12_nextToken 162 = .ok (.ldc2_w 205, 3) := by decide +kernel
theorem dX12_nextToken_165 : decode cX12_nextToken 165 = .ok (.lsub, 1) := by decide +kernel
theorem dX12_nextToken_166 : decode cX12_nextToken 166 = .ok (.putfield 191, 3) := by decide +kernel
theorem dX12_nextToken_169 : decode cX12_nextToken 169 = .ok (.aload_n 0, 1) := by decide +kernel
theorem dX12_nextToken_170 : decode cX12_nextToken 170 = .ok (.dup, 1) := by decide +kernel
theorem dX12_nextToken_171 : decode cX12_nextToken 171 = .ok (.getfield 185, 3) := by decide +kernel
theorem dX12_nextToken_174 : decode cX12_nextToken 174 = .ok (.iconst 1, 1) := by decide +kernel
theorem dX12_nextToken_175 : decode cX12_nextToken 175 = .ok (.iadd, 1) := by decide +kernel
theorem dX12_nextToken_176 : decode cX12_nextToken 176 = .ok (.putfield 185, 3) := by decide +kernel
theorem dX12_nextToken_179 : decode cX12_nextToken 179 = .ok (.goto (-81), 3) := by decide +kernel
theorem dX12_nextToken_182 : decode cX12_nextToken 182 = .ok (.aload_n 0, 1) := by decide +kernel
theorem dX12_nextToken_183 : decode cX12_nextToken 183 = .ok (.getfield 25, 3) := by decide +kernel
theorem dX12_nextToken_186 : decode cX12_nextToken 186 = .ok (.aload_n 0, 1) := by decide +kernel
theorem dX12_nextToken_187 : decode cX12_nextToken 187 = .ok (.getfield 188, 3) := by decide +kernel
theorem dX12_nextToken_190 : decode cX12_nextToken 190 = .ok (.iaload, 1) := by decide +kernel
theorem dX12_nextToken_191 : decode cX12_nextToken 191 = .ok (.invokestatic 207, 3) := by decide +kernel
theorem dX12_nextToken_194 : decode cX12_nextToken 194 = .ok (.ifCond .eq 110, 3) := by decide +kernel
theorem dX12_nextToken_197 : decode cX12_nextToken 197 = .ok (.aload_n 0, 1) := by decide +kernel
theorem dX12_nextToken_198 : decode cX12_nextToken 198 = .ok (.getfield 185, 3) := by decide +kernel
theorem dX12_nextToken_201 : decode cX12_nextToken 201 = .ok (.aload_n 0, 1) := by decide +kernel
theorem dX12_nextToken_202 : decode cX12_nextToken 202 = .ok (.getfield 182, 3) := by decide +kernel
theorem dX12_nextToken_205 : decode cX12_nextToken 205 = .ok (.if_icmp .ge 76, 3) := by decide +kernel
theorem dX12_nextToken_208 : decode cX12_nextToken 208 = .ok (.aload_n 0, 1) := by decide +kernel
theorem dX12_nextToken_209 : decode cX12_nextToken 209 = .ok (.getfield 25, 3) := by decide +kernel
theorem dX12_nextToken_212 : decode cX12_nextToken 212 = .ok (.aload_n 0, 1) := by decide +kernel
theorem dX12_nextToken_213 : decode cX12_nextToken 213 = .ok (.getfield 185, 3) := by decide +kernel
theorem dX12_nextToken_216 : decode cX12_nextToken 216 = .ok (.iaload, 1) := by decide +kernel
theorem dX12_nextToken_217 : decode cX12_nextToken 217 = .ok (.invokestatic 207, 3) := by decide +kernel
theorem dX12_nextToken_220 : decode cX12_nextToken 220 = .ok (.ifCond .eq 61, 3) := by decide +kernel
theorem dX12_nextToken_223 : decode cX12_nextToken 223 = .ok (.aload_n 0, 1) := by decide +kernel
theorem dX12_nextToken_224 : decode cX12_nextToken 224 = .ok (.aload_n 0, 1) := by decide +kernel
theorem dX12_nextToken_225 : decode cX12_nextToken 225 = .ok (.getfield 191, 3) := by decide +kernel
theorem dX12_nextToken_228 : decode cX12_nextToken 228 = .ok (.ldc2_w 210, 3) := by decide +kernel
theorem dX12_nextToken_231 : decode cX12_nextToken 231 = .ok (.lcmp, 1) := by decide +kernel
theorem dX12_nextToken_232 : decode cX12_nextToken 232 = .ok (.ifCond .le 10, 3) := by decide +kernel
theorem dX12_nextToken_235 : decode cX12_nextToken 235 = .ok (.aload_n 0, 1) := by decide +kernel
theorem dX12_nextToken_236 : decode cX12_nextToken 236 = .ok (.getfield 191, 3) := by decide +kernel
theorem dX12_nextToken_239 : decode cX12_nextToken 239 = .ok (.goto 26, 3) := by decide +kernel
theorem dX12_nextToken_242 : decode cX12_nextToken 242 = .ok (.aload_n 0, 1) := by decide +kernel
theorem dX12_nextToken_243 : decode cX12_nextToken 243 = .ok (.getfield 191, 3) := by decide +kernel
theorem dX12_nextToken_246 : decode cX12_nextToken 246 = .ok (.ldc2_w 212, 3) := by decide +kernel
theorem dX12_nextToken_249 : decode cX12_nextToken 249 = .ok (.lmul, 1) := by decide +kernel
theorem dX12_nextToken_250 : decode cX12_nextToken 250 = .ok (.aload_n 0, 1) := by decide +kernel
theorem dX12_nextToken_251 : decode cX12_nextToken 251 = .ok (.getfield 25, 3) := by decide +kernel
theorem dX12_nextToken_254 : decode cX12_nextToken 254 = .ok (.aload_n 0, 1) := by decide +kernel
theorem dX12_nextToken_255 : decode cX12_nextToken 255 = .ok (.getfield 185, 3) := by decide +kernel
theorem dX12_nextToken_258 : decode cX12_nextToken 258 = .ok (.iaload, 1) := by decide +kernel
theorem dX12_nextToken_259 : decode cX12_nextToken 259 = .ok (.i2l, 1) := by decide +kernel
theorem dX12_nextToken_260 : decode cX12_nextToken 260 = .ok (.ladd, 1) := by decide +kernel
theorem dX12_nextToken_261 : decode cX12_nextToken 261 = .ok (.ldc2_w 214, 3) := by decide +kernel
theorem dX12_nextToken_264 : decode cX12_nextToken 264 = .ok (.lsub, 1) := by decide +kernel
theorem dX12_nextToken_265 : decode cX12_nextToken 265 = .ok (.putfield 191, 3) := by decide +kernel
theorem dX12_nextToken_268 : decode cX12_nextToken 268 = .ok (.aload_n 0, 1) := by decide +kernel
theorem dX12_nextToken_269 : decode cX12_nextToken 269 = .ok (.dup, 1) := by decide +kernel
theorem dX12_nextToken_270 : decode cX12_nextToken 270 = .ok (.getfield 185, 3) := by decide +kernel
theorem dX12_nextToken_273 : decode cX12_nextToken 273 = .ok (.iconst 1, 1) := by decide +kernel
theorem dX12_nextToken_274 : decode cX12_nextToken 274 = .ok (.iadd, 1) := by decide +kernel
theorem dX12_nextToken_275 : decode cX12_nextToken 275 = .ok (.putfield 185, 3) := by decide +kernel
theorem dX12_nextToken_278 : decode cX12_nextToken 278 = .ok (.goto (-81), 3) := by decide +kernel
theorem dX12_nextToken_281 : decode cX12_nextToken 281 = .ok (.aload_n 0, 1) := by decide +kernel
theorem dX12_nextToken_282 : decode cX12_nextToken 282 = .ok (.aload_n 0, 1) := by decide +kernel
theorem dX12_nextToken_283 : decode cX12_nextToken 283 = .ok (.getfield 191, 3) := by decide +kernel
theorem dX12_nextToken_286 : decode cX12_nextToken 286 = .ok (.ldc2_w 210, 3) := by decide +kernel
theorem dX12_nextToken_289 : decode cX12_nextToken 289 = .ok (.lcmp, 1) := by decide +kernel
theorem dX12_nextToken_290 : decode cX12_nextToken 290 = .ok (.ifCond .le 7, 3) := by decide +kernel
theorem dX12_nextToken_293 : decode cX12_nextToken 293 = .ok (.iconst 4, 1) := by decide +kernel
theorem dX12_nextToken_294 : decode cX12_nextToken 294 = .ok (.goto 4, 3) := by decide +kernel
theorem dX12_nextToken_297 : decode cX12_nextToken 297 = .ok (.iconst 2, 1) := by decide +kernel
theorem dX12_nextToken_298 : decode cX12_nextToken 298 = .ok (.putfield 195, 3) := by decide +kernel
theorem dX12_nextToken_301 : decode cX12_nextToken 301 = .ok (.goto 36, 3) := by decide +kernel
theorem dX12_nextToken_304 : decode cX12_nextToken 304 = .ok (.aload_n 0, 1) := by decide +kernel
theorem dX12_nextToken_305 : decode cX12_nextToken 305 = .ok (.aload_n 0, 1) := by decide +kernel
theorem dX12_nextToken_306 : decode cX12_nextToken 306 = .ok (.getfield 25, 3) := by decide +kernel
theorem dX12_nextToken_309 : decode cX12_nextToken 309 = .ok (.aload_n 0, 1) := by decide +kernel
theorem dX12_nextToken_310 : decode cX12_nextToken 310 = .ok (.getfield 188, 3) := by decide +kernel
theorem dX12_nextToken_313 : decode cX12_nextToken 313 = .ok (.iaload, 1) := by decide +kernel
theorem dX12_nextToken_314 : decode cX12_nextToken 314 = .ok (.bipush 59, 2) := by decide +kernel
theorem dX12_nextToken_316 : decode cX12_nextToken 316 = .ok (.if_icmp .ne 7, 3) := by decide +kernel
theorem dX12_nextToken_319 : decode cX12_nextToken 319 = .ok (.iconst 3, 1) := by decide +kernel
theorem dX12_nextToken_320 : decode cX12_nextToken 320 = .ok (.goto 4, 3) := by decide +kernel
theorem dX12_nextToken_323 : decode cX12_nextToken 323 = .ok (.iconst 4, 1) := by decide +kernel
theorem dX12_nextToken_324 : decode cX12_nextToken 324 = .ok (.putfield 195, 3) := by decide +kernel
theorem dX12_nextToken_327 : decode cX12_nextToken 327 = .ok (.aload_n 0, 1) := by decide +kernel
theorem dX12_nextToken_328 : decode cX12_nextToken 328 = .ok (.dup, 1) := by decide +kernel
theorem dX12_nextToken_329 : decode cX12_nextToken 329 = .ok (.getfield 185, 3) := by decide +kernel
theorem dX12_nextToken_332 : decode cX12_nextToken 332 = .ok (.iconst 1, 1) := by decide +kernel
theorem dX12_nextToken_333 : decode cX12_nextToken 333 = .ok (.iadd, 1) := by decide +kernel
theorem dX12_nextToken_334 : decode cX12_nextToken 334 = .ok (.putfield 185, 3) := by decide +kernel
theorem dX12_nextToken_337 : decode cX12_nextToken 337 = .ok (.return_, 1) := by decide +kernel
theorem dX12_wordOf_0 : decode cX12_wordOf 0 = .ok (.iconst (-1), 1) := by decide +kernel
theorem dX12_wordOf_1 : decode cX12_wordOf 1 = .ok (.istore_n 2, 1) := by decide +kernel
theorem dX12_wordOf_2 : decode cX12_wordOf 2 = .ok (.iconst 0, 1) := by decide +kernel
theorem dX12_wordOf_3 : decode cX12_wordOf 3 = .ok (.istore_n 3, 1) := by decide +kernel
theorem dX12_wordOf_4 : decode cX12_wordOf 4 = .ok (.iload_n 3, 1) := by decide +kernel
theorem dX12_wordOf_5 : decode cX12_wordOf 5 = .ok (.aload_n 1, 1) := by decide +kernel
theorem dX12_wordOf_6 : decode cX12_wordOf 6 = .ok (.arraylength, 1) := by decide +kernel
theorem dX12_wordOf_7 : decode cX12_wordOf 7 = .ok (.bipush 8, 2) := by decide +kernel
theorem dX12_wordOf_9 : decode cX12_wordOf 9 = .ok (.idiv, 1) := by decide +kernel
theorem dX12_wordOf_10 : decode cX12_wordOf 10 = .ok (.if_icmp .ge 94, 3) := by decide +kernel
theorem dX12_wordOf_13 : decode cX12_wordOf 13 = .ok (.aload_n 0, 1) := by decide +kernel
theorem dX12_wordOf_14 : decode cX12_wordOf 14 = .ok (.getfield 195, 3) := by decide +kernel
theorem dX12_wordOf_17 : decode cX12_wordOf 17 = .ok (.iconst 1, 1) := by decide +kernel
theorem dX12_wordOf_18 : decode cX12_wordOf 18 = .ok (.if_icmp .ne 86, 3) := by decide +kernel
theorem dX12_wordOf_21 : decode cX12_wordOf 21 = .ok (.lconst 0, 1) := by decide +kernel
theorem dX12_wordOf_22 : decode cX12_wordOf 22 = .ok (.lstore 4, 2) := by decide +kernel
theorem dX12_wordOf_24 : decode cX12_wordOf 24 = .ok (.iconst 0, 1) := by decide +kernel
theorem dX12_wordOf_25 : decode cX12_wordOf 25 = .ok (.istore 6, 2) := by decide +kernel
theorem dX12_wordOf_27 : decode cX12_wordOf 27 = .ok (.iload 6, 2) := by decide +kernel
theorem dX12_wordOf_29 : decode cX12_wordOf 29 = .ok (.bipush 8, 2) := by decide +kernel
theorem dX12_wordOf_31 : decode cX12_wordOf 31 = .ok (.if_icmp .ge 51, 3) := by decide +kernel
theorem dX12_wordOf_34 : decode cX12_wordOf 34 = .ok (.aload_n 1, 1) := by decide +kernel
theorem dX12_wordOf_35 : decode cX12_wordOf 35 = .ok (.bipush 8, 2) := by decide +kernel
theorem dX12_wordOf_37 : decode cX12_wordOf 37 = .ok (.iload_n 3, 1) := by decide +kernel
theorem dX12_wordOf_38 : decode cX12_wordOf 38 = .ok (.imul, 1) := by decide +kernel
theorem dX12_wordOf_39 : decode cX12_wordOf 39 = .ok (.iload 6, 2) := by decide +kernel
theorem dX12_wordOf_41 : decode cX12_wordOf 41 = .ok (.iadd, 1) := by decide +kernel
theorem dX12_wordOf_42 : decode cX12_wordOf 42 = .ok (.caload, 1) := by decide +kernel
theorem dX12_wordOf_43 : decode cX12_wordOf 43 = .ok (.bipush 32, 2) := by decide +kernel
theorem dX12_wordOf_45 : decode cX12_wordOf 45 = .ok (.if_icmp .ne 8, 3) := by decide +kernel
theorem dX12_wordOf_48 : decode cX12_wordOf 48 = .ok (.lload 4, 2) := by decide +kernel
theorem dX12_wordOf_50 : decode cX12_wordOf 50 = .ok (.goto 24, 3) := by decide +kernel
theorem dX12_wordOf_53 : decode cX12_wordOf 53 = .ok (.lload 4, 2) := by decide +kernel
theorem dX12_wordOf_55 : decode cX12_wordOf 55 = .ok (.ldc2_w 203, 3) := by decide +kernel
theorem dX12_wordOf_58 : decode cX12_wordOf 58 = .ok (.lmul, 1) := by decide +kernel
theorem dX12_wordOf_59 : decode cX12_wordOf 59 = .ok (.aload_n 1, 1) := by decide +kernel
theorem dX12_wordOf_60 : decode cX12_wordOf 60 = .ok (.bipush 8, 2) := by decide +kernel
theorem dX12_wordOf_62 : decode cX12_wordOf 62 = .ok (.iload_n 3, 1) := by decide +kernel
theorem dX12_wordOf_63 : decode cX12_wordOf 63 = .ok (.imul, 1) := by decide +kernel
theorem dX12_wordOf_64 : decode cX12_wordOf 64 = .ok (.iload 6, 2) := by decide +kernel
theorem dX12_wordOf_66 : decode cX12_wordOf 66 = .ok (.iadd, 1) := by decide +kernel
theorem dX12_wordOf_67 : decode cX12_wordOf 67 = .ok (.caload, 1) := by decide +kernel
theorem dX12_wordOf_68 : decode cX12_wordOf 68 = .ok (.i2l, 1) := by decide +kernel
theorem dX12_wordOf_69 : decode cX12_wordOf 69 = .ok (.ladd, 1) := by decide +kernel
theorem dX12_wordOf_70 : decode cX12_wordOf 70 = .ok (.ldc2_w 205, 3) := by decide +kernel
theorem dX12_wordOf_73 : decode cX12_wordOf 73 = .ok (.lsub, 1) := by decide +kernel
theorem dX12_wordOf_74 : decode cX12_wordOf 74 = .ok (.lstore 4, 2) := by decide +kernel
theorem dX12_wordOf_76 : decode cX12_wordOf 76 = .ok (.iinc 6 1, 3) := by decide +kernel
theorem dX12_wordOf_79 : decode cX12_wordOf 79 = .ok (.goto (-52), 3) := by decide +kernel
theorem dX12_wordOf_82 : decode cX12_wordOf 82 = .ok (.lload 4, 2) := by decide +kernel
theorem dX12_wordOf_84 : decode cX12_wordOf 84 = .ok (.aload_n 0, 1) := by decide +kernel
theorem dX12_wordOf_85 : decode cX12_wordOf 85 = .ok (.getfield 191, 3) := by decide +kernel
theorem dX12_wordOf_88 : decode cX12_wordOf 88 = .ok (.lcmp, 1) := by decide +kernel
theorem dX12_wordOf_89 : decode cX12_wordOf 89 = .ok (.ifCond .ne 7, 3) := by decide +kernel
theorem dX12_wordOf_92 : decode cX12_wordOf 92 = .ok (.iload_n 3, 1) := by decide +kernel
theorem dX12_wordOf_93 : decode cX12_wordOf 93 = .ok (.goto 4, 3) := by decide +kernel
theorem dX12_wordOf_96 : decode cX12_wordOf 96 = .ok (.iload_n 2, 1) := by decide +kernel
theorem dX12_wordOf_97 : decode cX12_wordOf 97 = .ok (.istore_n 2, 1) := by decide +kernel
theorem dX12_wordOf_98 : decode cX12_wordOf 98 = .ok (.iinc 3 1, 3) := by decide +kernel
theorem dX12_wordOf_101 : decode cX12_wordOf 101 = .ok (.goto (-97), 3) := by decide +kernel
theorem dX12_wordOf_104 : decode cX12_wordOf 104 = .ok (.iload_n 2, 1) := by decide +kernel
theorem dX12_wordOf_105 : decode cX12_wordOf 105 = .ok (.ireturn, 1) := by decide +kernel
theorem dX12_takesNumber_0 : decode cX12_takesNumber 0 = .ok (.aload_n 0, 1) := by decide +kernel
theorem dX12_takesNumber_1 : decode cX12_takesNumber 1 = .ok (.getfield 195, 3) := by decide +kernel
theorem dX12_takesNumber_4 : decode cX12_takesNumber 4 = .ok (.iconst 2, 1) := by decide +kernel
theorem dX12_takesNumber_5 : decode cX12_takesNumber 5 = .ok (.if_icmp .ne 24, 3) := by decide +kernel
theorem dX12_takesNumber_8 : decode cX12_takesNumber 8 = .ok (.aload_n 0, 1) := by decide +kernel
theorem dX12_takesNumber_9 : decode cX12_takesNumber 9 = .ok (.getfield 191, 3) := by decide +kernel
theorem dX12_takesNumber_12 : decode cX12_takesNumber 12 = .ok (.l2i, 1) := by decide +kernel
theorem dX12_takesNumber_13 : decode cX12_takesNumber 13 = .ok (.iload_n 1, 1) := by decide +kernel
theorem dX12_takesNumber_14 : decode cX12_takesNumber 14 = .ok (.iload_n 2, 1) := by decide +kernel
theorem dX12_takesNumber_15 : decode cX12_takesNumber 15 = .ok (.invokestatic 52, 3) := by decide +kernel
theorem dX12_takesNumber_18 : decode cX12_takesNumber 18 = .ok (.ifCond .eq 11, 3) := by decide +kernel
theorem dX12_takesNumber_21 : decode cX12_takesNumber 21 = .ok (.aload_n 0, 1) := by decide +kernel
theorem dX12_takesNumber_22 : decode cX12_takesNumber 22 = .ok (.getfield 191, 3) := by decide +kernel
theorem dX12_takesNumber_25 : decode cX12_takesNumber 25 = .ok (.l2i, 1) := by decide +kernel
theorem dX12_takesNumber_26 : decode cX12_takesNumber 26 = .ok (.goto 4, 3) := by decide +kernel
theorem dX12_takesNumber_29 : decode cX12_takesNumber 29 = .ok (.iconst (-1), 1) := by decide +kernel
theorem dX12_takesNumber_30 : decode cX12_takesNumber 30 = .ok (.istore_n 3, 1) := by decide +kernel
theorem dX12_takesNumber_31 : decode cX12_takesNumber 31 = .ok (.iload_n 3, 1) := by decide +kernel
theorem dX12_takesNumber_32 : decode cX12_takesNumber 32 = .ok (.ifCond .lt 7, 3) := by decide +kernel
theorem dX12_takesNumber_35 : decode cX12_takesNumber 35 = .ok (.aload_n 0, 1) := by decide +kernel
theorem dX12_takesNumber_36 : decode cX12_takesNumber 36 = .ok (.invokevirtual 216, 3) := by decide +kernel
theorem dX12_takesNumber_39 : decode cX12_takesNumber 39 = .ok (.iload_n 3, 1) := by decide +kernel
theorem dX12_takesNumber_40 : decode cX12_takesNumber 40 = .ok (.ireturn, 1) := by decide +kernel
theorem dX12_readsPresent_0 : decode cX12_readsPresent 0 = .ok (.aload_n 0, 1) := by decide +kernel
theorem dX12_readsPresent_1 : decode cX12_readsPresent 1 = .ok (.getfield 9, 3) := by decide +kernel
theorem dX12_readsPresent_4 : decode cX12_readsPresent 4 = .ok (.iconst 2, 1) := by decide +kernel
theorem dX12_readsPresent_5 : decode cX12_readsPresent 5 = .ok (.iaload, 1) := by decide +kernel
theorem dX12_readsPresent_6 : decode cX12_readsPresent 6 = .ok (.bipush 8, 2) := by decide +kernel
theorem dX12_readsPresent_8 : decode cX12_readsPresent 8 = .ok (.if_icmp .ne 5, 3) := by decide +kernel
theorem dX12_readsPresent_11 : decode cX12_readsPresent 11 = .ok (.iconst 0, 1) := by decide +kernel
theorem dX12_readsPresent_12 : decode cX12_readsPresent 12 = .ok (.ireturn, 1) := by decide +kernel
theorem dX12_readsPresent_13 : decode cX12_readsPresent 13 = .ok (.aload_n 0, 1) := by decide +kernel
theorem dX12_readsPresent_14 : decode cX12_readsPresent 14 = .ok (.invokevirtual 216, 3) := by decide +kernel
theorem dX12_readsPresent_17 : decode cX12_readsPresent 17 = .ok (.aload_n 0, 1) := by decide +kernel
theorem dX12_readsPresent_18 : decode cX12_readsPresent 18 = .ok (.iconst 0, 1) := by decide +kernel
theorem dX12_readsPresent_19 : decode cX12_readsPresent 19 = .ok (.aload_n 0, 1) := by decide +kernel
theorem dX12_readsPresent_20 : decode cX12_readsPresent 20 = .ok (.getfield 9, 3) := by decide +kernel
theorem dX12_readsPresent_23 : decode cX12_readsPresent 23 = .ok (.iconst 1, 1) := by decide +kernel
theorem dX12_readsPresent_24 : decode cX12_readsPresent 24 = .ok (.iaload, 1) := by decide +kernel
theorem dX12_readsPresent_25 : decode cX12_readsPresent 25 = .ok (.iconst 1, 1) := by decide +kernel
theorem dX12_readsPresent_26 : decode cX12_readsPresent 26 = .ok (.isub, 1) := by decide +kernel
theorem dX12_readsPresent_27 : decode cX12_readsPresent 27 = .ok (.invokevirtual 219, 3) := by decide +kernel
theorem dX12_readsPresent_30 : decode cX12_readsPresent 30 = .ok (.istore_n 1, 1) := by decide +kernel
theorem dX12_readsPresent_31 : decode cX12_readsPresent 31 = .ok (.iload_n 1, 1) := by decide +kernel
theorem dX12_readsPresent_32 : decode cX12_readsPresent 32 = .ok (.ifCond .ge 5, 3) := by decide +kernel
theorem dX12_readsPresent_35 : decode cX12_readsPresent 35 = .ok (.iconst 0, 1) := by decide +kernel
theorem dX12_readsPresent_36 : decode cX12_readsPresent 36 = .ok (.ireturn, 1) := by decide +kernel
theorem dX12_readsPresent_37 : decode cX12_readsPresent 37 = .ok (.aload_n 0, 1) := by decide +kernel
theorem dX12_readsPresent_38 : decode cX12_readsPresent 38 = .ok (.getfield 9, 3) := by decide +kernel
theorem dX12_readsPresent_41 : decode cX12_readsPresent 41 = .ok (.iconst 2, 1) := by decide +kernel
theorem dX12_readsPresent_42 : decode cX12_readsPresent 42 = .ok (.iaload, 1) := by decide +kernel
theorem dX12_readsPresent_43 : decode cX12_readsPresent 43 = .ok (.istore_n 2, 1) := by decide +kernel
theorem dX12_readsPresent_44 : decode cX12_readsPresent 44 = .ok (.aload_n 0, 1) := by decide +kernel
theorem dX12_readsPresent_45 : decode cX12_readsPresent 45 = .ok (.iload_n 1, 1) := by decide +kernel
theorem dX12_readsPresent_46 : decode cX12_readsPresent 46 = .ok (.iconst 0, 1) := by decide +kernel
theorem dX12_readsPresent_47 : decode cX12_readsPresent 47 = .ok (.invokevirtual 130, 3) := by decide +kernel
theorem dX12_readsPresent_50 : decode cX12_readsPresent 50 = .ok (.aload_n 0, 1) := by decide +kernel
theorem dX12_readsPresent_51 : decode cX12_readsPresent 51 = .ok (.aload_n 0, 1) := by decide +kernel
theorem dX12_readsPresent_52 : decode cX12_readsPresent 52 = .ok (.getfield 32, 3) := by decide +kernel
theorem dX12_readsPresent_55 : decode cX12_readsPresent 55 = .ok (.invokevirtual 222, 3) := by decide +kernel
theorem dX12_readsPresent_58 : decode cX12_readsPresent 58 = .ok (.iconst 1, 1) := by decide +kernel
theorem dX12_readsPresent_59 : decode cX12_readsPresent 59 = .ok (.if_icmp .ne 28, 3) := by decide +kernel
theorem dX12_readsPresent_62 : decode cX12_readsPresent 62 = .ok (.aload_n 0, 1) := by decide +kernel
theorem dX12_readsPresent_63 : decode cX12_readsPresent 63 = .ok (.invokevirtual 216, 3) := by decide +kernel
theorem dX12_readsPresent_66 : decode cX12_readsPresent 66 = .ok (.aload_n 0, 1) := by decide +kernel
theorem dX12_readsPresent_67 : decode cX12_readsPresent 67 = .ok (.iconst 0, 1) := by decide +kernel
theorem dX12_readsPresent_68 : decode cX12_readsPresent 68 = .ok (.bipush 99, 2) := by decide +kernel
theorem dX12_readsPresent_70 : decode cX12_readsPresent 70 = .ok (.invokevirtual 219, 3) := by decide +kernel
theorem dX12_readsPresent_73 : decode cX12_readsPresent 73 = .ok (.istore_n 3, 1) := by decide +kernel
theorem dX12_readsPresent_74 : decode cX12_readsPresent 74 = .ok (.iload_n 3, 1) := by decide +kernel
theorem dX12_readsPresent_75 : decode cX12_readsPresent 75 = .ok (.ifCond .ge 5, 3) := by decide +kernel
theorem dX12_readsPresent_78 : decode cX12_readsPresent 78 = .ok (.iconst 0, 1) := by decide +kernel
theorem dX12_readsPresent_79 : decode cX12_readsPresent 79 = .ok (.ireturn, 1) := by decide +kernel
theorem dX12_readsPresent_80 : decode cX12_readsPresent 80 = .ok (.aload_n 0, 1) := by decide +kernel
theorem dX12_readsPresent_81 : decode cX12_readsPresent 81 = .ok (.iload_n 2, 1) := by decide +kernel
theorem dX12_readsPresent_82 : decode cX12_readsPresent 82 = .ok (.iconst 1, 1) := by decide +kernel
theorem dX12_readsPresent_83 : decode cX12_readsPresent 83 = .ok (.iload_n 3, 1) := by decide +kernel
theorem dX12_readsPresent_84 : decode cX12_readsPresent 84 = .ok (.invokevirtual 60, 3) := by decide +kernel
theorem dX12_readsPresent_87 : decode cX12_readsPresent 87 = .ok (.aload_n 0, 1) := by decide +kernel
theorem dX12_readsPresent_88 : decode cX12_readsPresent 88 = .ok (.aload_n 0, 1) := by decide +kernel
theorem dX12_readsPresent_89 : decode cX12_readsPresent 89 = .ok (.getfield 35, 3) := by decide +kernel
theorem dX12_readsPresent_92 : decode cX12_readsPresent 92 = .ok (.invokevirtual 222, 3) := by decide +kernel
theorem dX12_readsPresent_95 : decode cX12_readsPresent 95 = .ok (.istore_n 3, 1) := by decide +kernel
theorem dX12_readsPresent_96 : decode cX12_readsPresent 96 = .ok (.iload_n 3, 1) := by decide +kernel
theorem dX12_readsPresent_97 : decode cX12_readsPresent 97 = .ok (.ifCond .lt 60, 3) := by decide +kernel
theorem dX12_readsPresent_100 : decode cX12_readsPresent 100 = .ok (.aload_n 0, 1) := by decide +kernel
theorem dX12_readsPresent_101 : decode cX12_readsPresent 101 = .ok (.iload_n 2, 1) := by decide +kernel
end
section
theorem dX12_readsPresent_102 : decode cX12_readsPresent 102 = .ok (.iconst 0, 1) := by decide +kernel
theorem dX12_readsPresent_103 : decode cX12_readsPresent 103 = .ok (.invokevirtual 56, 3) := by decide +kernel
theorem dX12_readsPresent_106 : decode cX12_readsPresent 106 = .ok (.bipush 6, 2) := by decide +kernel
theorem dX12_readsPresent_108 : decode cX12_readsPresent 108 = .ok (.if_icmp .ne 5, 3) := by decide +kernel
theorem dX12_readsPresent_111 : decode cX12_readsPresent 111 = .ok (.iconst 0, 1) := by decide +kernel
theorem dX12_readsPresent_112 : decode cX12_readsPresent 112 = .ok (.ireturn, 1) := by decide +kernel
theorem dX12_readsPresent_113 : decode cX12_readsPresent 113 = .ok (.aload_n 0, 1) := by decide +kernel
theorem dX12_readsPresent_114 : decode cX12_readsPresent 114 = .ok (.iload_n 2, 1) := by decide +kernel
theorem dX12_readsPresent_115 : decode cX12_readsPresent 115 = .ok (.iconst 4, 1) := by decide +kernel
theorem dX12_readsPresent_116 : decode cX12_readsPresent 116 = .ok (.aload_n 0, 1) := by decide +kernel
theorem dX12_readsPresent_117 : decode cX12_readsPresent 117 = .ok (.iload_n 2, 1) := by decide +kernel
theorem dX12_readsPresent_118 : decode cX12_readsPresent 118 = .ok (.iconst 0, 1) := by decide +kernel
theorem dX12_readsPresent_119 : decode cX12_readsPresent 119 = .ok (.invokevirtual 56, 3) := by decide +kernel
theorem dX12_readsPresent_122 : decode cX12_readsPresent 122 = .ok (.iadd, 1) := by decide +kernel
theorem dX12_readsPresent_123 : decode cX12_readsPresent 123 = .ok (.iload_n 3, 1) := by decide +kernel
theorem dX12_readsPresent_124 : decode cX12_readsPresent 124 = .ok (.invokevirtual 60, 3) := by decide +kernel
theorem dX12_readsPresent_127 : decode cX12_readsPresent 127 = .ok (.aload_n 0, 1) := by decide +kernel
theorem dX12_readsPresent_128 : decode cX12_readsPresent 128 = .ok (.iload_n 2, 1) := by decide +kernel
theorem dX12_readsPresent_129 : decode cX12_readsPresent 129 = .ok (.iconst 0, 1) := by decide +kernel
theorem dX12_readsPresent_130 : decode cX12_readsPresent 130 = .ok (.aload_n 0, 1) := by decide +kernel
theorem dX12_readsPresent_131 : decode cX12_readsPresent 131 = .ok (.iload_n 2, 1) := by decide +kernel
theorem dX12_readsPresent_132 : decode cX12_readsPresent 132 = .ok (.iconst 0, 1) := by decide +kernel
theorem dX12_readsPresent_133 : decode cX12_readsPresent 133 = .ok (.invokevirtual 56, 3) := by decide +kernel
theorem dX12_readsPresent_136 : decode cX12_readsPresent 136 = .ok (.iconst 1, 1) := by decide +kernel
theorem dX12_readsPresent_137 : decode cX12_readsPresent 137 = .ok (.iadd, 1) := by decide +kernel
theorem dX12_readsPresent_138 : decode cX12_readsPresent 138 = .ok (.invokevirtual 60, 3) := by decide +kernel
theorem dX12_readsPresent_141 : decode cX12_readsPresent 141 = .ok (.aload_n 0, 1) := by decide +kernel
theorem dX12_readsPresent_142 : decode cX12_readsPresent 142 = .ok (.invokevirtual 216, 3) := by decide +kernel
theorem dX12_readsPresent_145 : decode cX12_readsPresent 145 = .ok (.aload_n 0, 1) := by decide +kernel
theorem dX12_readsPresent_146 : decode cX12_readsPresent 146 = .ok (.aload_n 0, 1) := by decide +kernel
theorem dX12_readsPresent_147 : decode cX12_readsPresent 147 = .ok (.getfield 35, 3) := by decide +kernel
theorem dX12_readsPresent_150 : decode cX12_readsPresent 150 = .ok (.invokevirtual 222, 3) := by decide +kernel
theorem dX12_readsPresent_153 : decode cX12_readsPresent 153 = .ok (.istore_n 3, 1) := by decide +kernel
theorem dX12_readsPresent_154 : decode cX12_readsPresent 154 = .ok (.goto (-58), 3) := by decide +kernel
theorem dX12_readsPresent_157 : decode cX12_readsPresent 157 = .ok (.iconst 1, 1) := by decide +kernel
theorem dX12_readsPresent_158 : decode cX12_readsPresent 158 = .ok (.ireturn, 1) := by decide +kernel
theorem dX12_readsItem_0 : decode cX12_readsItem 0 = .ok (.aload_n 0, 1) := by decide +kernel
theorem dX12_readsItem_1 : decode cX12_readsItem 1 = .ok (.aload_n 0, 1) := by decide +kernel
theorem dX12_readsItem_2 : decode cX12_readsItem 2 = .ok (.getfield 28, 3) := by decide +kernel
theorem dX12_readsItem_5 : decode cX12_readsItem 5 = .ok (.invokevirtual 222, 3) := by decide +kernel
theorem dX12_readsItem_8 : decode cX12_readsItem 8 = .ok (.istore_n 1, 1) := by decide +kernel
theorem dX12_readsItem_9 : decode cX12_readsItem 9 = .ok (.iload_n 1, 1) := by decide +kernel
theorem dX12_readsItem_10 : decode cX12_readsItem 10 = .ok (.ifCond .ge 27, 3) := by decide +kernel
theorem dX12_readsItem_13 : decode cX12_readsItem 13 = .ok (.aload_n 0, 1) := by decide +kernel
theorem dX12_readsItem_14 : decode cX12_readsItem 14 = .ok (.aload_n 0, 1) := by decide +kernel
theorem dX12_readsItem_15 : decode cX12_readsItem 15 = .ok (.getfield 32, 3) := by decide +kernel
theorem dX12_readsItem_18 : decode cX12_readsItem 18 = .ok (.invokevirtual 222, 3) := by decide +kernel
theorem dX12_readsItem_21 : decode cX12_readsItem 21 = .ok (.ifCond .ne 14, 3) := by decide +kernel
theorem dX12_readsItem_24 : decode cX12_readsItem 24 = .ok (.aload_n 0, 1) := by decide +kernel
theorem dX12_readsItem_25 : decode cX12_readsItem 25 = .ok (.invokevirtual 226, 3) := by decide +kernel
theorem dX12_readsItem_28 : decode cX12_readsItem 28 = .ok (.ifCond .eq 7, 3) := by decide +kernel
theorem dX12_readsItem_31 : decode cX12_readsItem 31 = .ok (.iconst 1, 1) := by decide +kernel
theorem dX12_readsItem_32 : decode cX12_readsItem 32 = .ok (.goto 4, 3) := by decide +kernel
theorem dX12_readsItem_35 : decode cX12_readsItem 35 = .ok (.iconst 0, 1) := by decide +kernel
theorem dX12_readsItem_36 : decode cX12_readsItem 36 = .ok (.ireturn, 1) := by decide +kernel
theorem dX12_readsItem_37 : decode cX12_readsItem 37 = .ok (.aload_n 0, 1) := by decide +kernel
theorem dX12_readsItem_38 : decode cX12_readsItem 38 = .ok (.getfield 9, 3) := by decide +kernel
theorem dX12_readsItem_41 : decode cX12_readsItem 41 = .ok (.iconst 1, 1) := by decide +kernel
theorem dX12_readsItem_42 : decode cX12_readsItem 42 = .ok (.iaload, 1) := by decide +kernel
theorem dX12_readsItem_43 : decode cX12_readsItem 43 = .ok (.bipush 6, 2) := by decide +kernel
theorem dX12_readsItem_45 : decode cX12_readsItem 45 = .ok (.if_icmp .ne 5, 3) := by decide +kernel
theorem dX12_readsItem_48 : decode cX12_readsItem 48 = .ok (.iconst 0, 1) := by decide +kernel
theorem dX12_readsItem_49 : decode cX12_readsItem 49 = .ok (.ireturn, 1) := by decide +kernel
theorem dX12_readsItem_50 : decode cX12_readsItem 50 = .ok (.aload_n 0, 1) := by decide +kernel
theorem dX12_readsItem_51 : decode cX12_readsItem 51 = .ok (.iload_n 1, 1) := by decide +kernel
theorem dX12_readsItem_52 : decode cX12_readsItem 52 = .ok (.invokevirtual 115, 3) := by decide +kernel
theorem dX12_readsItem_55 : decode cX12_readsItem 55 = .ok (.aload_n 0, 1) := by decide +kernel
theorem dX12_readsItem_56 : decode cX12_readsItem 56 = .ok (.invokevirtual 216, 3) := by decide +kernel
theorem dX12_readsItem_59 : decode cX12_readsItem 59 = .ok (.iconst 1, 1) := by decide +kernel
theorem dX12_readsItem_60 : decode cX12_readsItem 60 = .ok (.ireturn, 1) := by decide +kernel
theorem dX12_town_0 : decode cX12_town 0 = .ok (.aload_n 0, 1) := by decide +kernel
theorem dX12_town_1 : decode cX12_town 1 = .ok (.invokevirtual 155, 3) := by decide +kernel
theorem dX12_town_4 : decode cX12_town 4 = .ok (.aload_n 0, 1) := by decide +kernel
theorem dX12_town_5 : decode cX12_town 5 = .ok (.iconst 0, 1) := by decide +kernel
theorem dX12_town_6 : decode cX12_town 6 = .ok (.putfield 185, 3) := by decide +kernel
theorem dX12_town_9 : decode cX12_town 9 = .ok (.aload_n 0, 1) := by decide +kernel
theorem dX12_town_10 : decode cX12_town 10 = .ok (.invokevirtual 216, 3) := by decide +kernel
theorem dX12_town_13 : decode cX12_town 13 = .ok (.iconst 1, 1) := by decide +kernel
theorem dX12_town_14 : decode cX12_town 14 = .ok (.istore_n 1, 1) := by decide +kernel
theorem dX12_town_15 : decode cX12_town 15 = .ok (.aload_n 0, 1) := by decide +kernel
theorem dX12_town_16 : decode cX12_town 16 = .ok (.invokevirtual 230, 3) := by decide +kernel
theorem dX12_town_19 : decode cX12_town 19 = .ok (.istore_n 2, 1) := by decide +kernel
theorem dX12_town_20 : decode cX12_town 20 = .ok (.iload_n 2, 1) := by decide +kernel
theorem dX12_town_21 : decode cX12_town 21 = .ok (.ifCond .eq 26, 3) := by decide +kernel
theorem dX12_town_24 : decode cX12_town 24 = .ok (.aload_n 0, 1) := by decide +kernel
theorem dX12_town_25 : decode cX12_town 25 = .ok (.getfield 195, 3) := by decide +kernel
theorem dX12_town_28 : decode cX12_town 28 = .ok (.iconst 3, 1) := by decide +kernel
theorem dX12_town_29 : decode cX12_town 29 = .ok (.if_icmp .ne 18, 3) := by decide +kernel
theorem dX12_town_32 : decode cX12_town 32 = .ok (.aload_n 0, 1) := by decide +kernel
theorem dX12_town_33 : decode cX12_town 33 = .ok (.invokevirtual 216, 3) := by decide +kernel
theorem dX12_town_36 : decode cX12_town 36 = .ok (.aload_n 0, 1) := by decide +kernel
theorem dX12_town_37 : decode cX12_town 37 = .ok (.invokevirtual 230, 3) := by decide +kernel
theorem dX12_town_40 : decode cX12_town 40 = .ok (.istore_n 2, 1) := by decide +kernel
theorem dX12_town_41 : decode cX12_town 41 = .ok (.iinc 1 1, 3) := by decide +kernel
theorem dX12_town_44 : decode cX12_town 44 = .ok (.goto (-24), 3) := by decide +kernel
theorem dX12_town_47 : decode cX12_town 47 = .ok (.iload_n 2, 1) := by decide +kernel
theorem dX12_town_48 : decode cX12_town 48 = .ok (.ifCond .eq 14, 3) := by decide +kernel
theorem dX12_town_51 : decode cX12_town 51 = .ok (.aload_n 0, 1) := by decide +kernel
theorem dX12_town_52 : decode cX12_town 52 = .ok (.getfield 195, 3) := by decide +kernel
theorem dX12_town_55 : decode cX12_town 55 = .ok (.ifCond .ne 7, 3) := by decide +kernel
theorem dX12_town_58 : decode cX12_town 58 = .ok (.iconst 1, 1) := by decide +kernel
theorem dX12_town_59 : decode cX12_town 59 = .ok (.goto 4, 3) := by decide +kernel
theorem dX12_town_62 : decode cX12_town 62 = .ok (.iconst 0, 1) := by decide +kernel
theorem dX12_town_63 : decode cX12_town 63 = .ok (.istore_n 2, 1) := by decide +kernel
theorem dX12_town_64 : decode cX12_town 64 = .ok (.aload_n 0, 1) := by decide +kernel
theorem dX12_town_65 : decode cX12_town 65 = .ok (.iconst 0, 1) := by decide +kernel
theorem dX12_town_66 : decode cX12_town 66 = .ok (.putfield 182, 3) := by decide +kernel
theorem dX12_town_69 : decode cX12_town 69 = .ok (.iload_n 2, 1) := by decide +kernel
theorem dX12_town_70 : decode cX12_town 70 = .ok (.ifCond .ne 14, 3) := by decide +kernel
theorem dX12_town_73 : decode cX12_town 73 = .ok (.aload_n 0, 1) := by decide +kernel
theorem dX12_town_74 : decode cX12_town 74 = .ok (.invokevirtual 158, 3) := by decide +kernel
theorem dX12_town_77 : decode cX12_town 77 = .ok (.iconst (-1), 1) := by decide +kernel
theorem dX12_town_78 : decode cX12_town 78 = .ok (.aload_n 0, 1) := by decide +kernel
theorem dX12_town_79 : decode cX12_town 79 = .ok (.getfield 188, 3) := by decide +kernel
theorem dX12_town_82 : decode cX12_town 82 = .ok (.isub, 1) := by decide +kernel
theorem dX12_town_83 : decode cX12_town 83 = .ok (.ireturn, 1) := by decide +kernel
theorem dX12_town_84 : decode cX12_town 84 = .ok (.iload_n 1, 1) := by decide +kernel
theorem dX12_town_85 : decode cX12_town 85 = .ok (.ireturn, 1) := by decide +kernel
theorem dX12_isSheet_0 : decode cX12_isSheet 0 = .ok (.iload_n 0, 1) := by decide +kernel
theorem dX12_isSheet_1 : decode cX12_isSheet 1 = .ok (.iconst 0, 1) := by decide +kernel
theorem dX12_isSheet_2 : decode cX12_isSheet 2 = .ok (.iconst 3, 1) := by decide +kernel
theorem dX12_isSheet_3 : decode cX12_isSheet 3 = .ok (.invokestatic 52, 3) := by decide +kernel
theorem dX12_isSheet_6 : decode cX12_isSheet 6 = .ok (.ireturn, 1) := by decide +kernel
theorem dX12_wrongSheet_0 : decode cX12_wrongSheet 0 = .ok (.iload_n 1, 1) := by decide +kernel
theorem dX12_wrongSheet_1 : decode cX12_wrongSheet 1 = .ok (.invokestatic 233, 3) := by decide +kernel
theorem dX12_wrongSheet_4 : decode cX12_wrongSheet 4 = .ok (.ifCond .ne 7, 3) := by decide +kernel
theorem dX12_wrongSheet_7 : decode cX12_wrongSheet 7 = .ok (.iconst 0, 1) := by decide +kernel
theorem dX12_wrongSheet_8 : decode cX12_wrongSheet 8 = .ok (.goto 17, 3) := by decide +kernel
theorem dX12_wrongSheet_11 : decode cX12_wrongSheet 11 = .ok (.aload_n 0, 1) := by decide +kernel
theorem dX12_wrongSheet_12 : decode cX12_wrongSheet 12 = .ok (.getfield 38, 3) := by decide +kernel
theorem dX12_wrongSheet_15 : decode cX12_wrongSheet 15 = .ok (.iload_n 1, 1) := by decide +kernel
theorem dX12_wrongSheet_16 : decode cX12_wrongSheet 16 = .ok (.iaload, 1) := by decide +kernel
theorem dX12_wrongSheet_17 : decode cX12_wrongSheet 17 = .ok (.ifCond .ne 7, 3) := by decide +kernel
theorem dX12_wrongSheet_20 : decode cX12_wrongSheet 20 = .ok (.iconst 5, 1) := by decide +kernel
theorem dX12_wrongSheet_21 : decode cX12_wrongSheet 21 = .ok (.goto 4, 3) := by decide +kernel
theorem dX12_wrongSheet_24 : decode cX12_wrongSheet 24 = .ok (.iconst (-1), 1) := by decide +kernel
theorem dX12_wrongSheet_25 : decode cX12_wrongSheet 25 = .ok (.ireturn, 1) := by decide +kernel
theorem dX12_told_0 : decode cX12_told 0 = .ok (.aload_n 0, 1) := by decide +kernel
theorem dX12_told_1 : decode cX12_told 1 = .ok (.getfield 44, 3) := by decide +kernel
theorem dX12_told_4 : decode cX12_told 4 = .ok (.bipush 40, 2) := by decide +kernel
theorem dX12_told_6 : decode cX12_told 6 = .ok (.iload_n 1, 1) := by decide +kernel
theorem dX12_told_7 : decode cX12_told 7 = .ok (.imul, 1) := by decide +kernel
theorem dX12_told_8 : decode cX12_told 8 = .ok (.iload_n 2, 1) := by decide +kernel
theorem dX12_told_9 : decode cX12_told 9 = .ok (.iadd, 1) := by decide +kernel
theorem dX12_told_10 : decode cX12_told 10 = .ok (.laload, 1) := by decide +kernel
theorem dX12_told_11 : decode cX12_told 11 = .ok (.lreturn, 1) := by decide +kernel
theorem dX12_tells_0 : decode cX12_tells 0 = .ok (.aload_n 0, 1) := by decide +kernel
theorem dX12_tells_1 : decode cX12_tells 1 = .ok (.getfield 44, 3) := by decide +kernel
theorem dX12_tells_4 : decode cX12_tells 4 = .ok (.bipush 40, 2) := by decide +kernel
theorem dX12_tells_6 : decode cX12_tells 6 = .ok (.iload_n 1, 1) := by decide +kernel
theorem dX12_tells_7 : decode cX12_tells 7 = .ok (.imul, 1) := by decide +kernel
theorem dX12_tells_8 : decode cX12_tells 8 = .ok (.iload_n 2, 1) := by decide +kernel
theorem dX12_tells_9 : decode cX12_tells 9 = .ok (.iadd, 1) := by decide +kernel
theorem dX12_tells_10 : decode cX12_tells 10 = .ok (.aload_n 0, 1) := by decide +kernel
theorem dX12_tells_11 : decode cX12_tells 11 = .ok (.getfield 38, 3) := by decide +kernel
theorem dX12_tells_14 : decode cX12_tells 14 = .ok (.iload_n 1, 1) := by decide +kernel
theorem dX12_tells_15 : decode cX12_tells 15 = .ok (.iaload, 1) := by decide +kernel
theorem dX12_tells_16 : decode cX12_tells 16 = .ok (.bipush 8, 2) := by decide +kernel
theorem dX12_tells_18 : decode cX12_tells 18 = .ok (.if_icmp .ne 10, 3) := by decide +kernel
theorem dX12_tells_21 : decode cX12_tells 21 = .ok (.lload_n 3, 1) := by decide +kernel
theorem dX12_tells_22 : decode cX12_tells 22 = .ok (.l2i, 1) := by decide +kernel
theorem dX12_tells_23 : decode cX12_tells 23 = .ok (.i2b, 1) := by decide +kernel
theorem dX12_tells_24 : decode cX12_tells 24 = .ok (.i2l, 1) := by decide +kernel
theorem dX12_tells_25 : decode cX12_tells 25 = .ok (.goto 22, 3) := by decide +kernel
theorem dX12_tells_28 : decode cX12_tells 28 = .ok (.aload_n 0, 1) := by decide +kernel
theorem dX12_tells_29 : decode cX12_tells 29 = .ok (.getfield 38, 3) := by decide +kernel
theorem dX12_tells_32 : decode cX12_tells 32 = .ok (.iload_n 1, 1) := by decide +kernel
theorem dX12_tells_33 : decode cX12_tells 33 = .ok (.iaload, 1) := by decide +kernel
theorem dX12_tells_34 : decode cX12_tells 34 = .ok (.bipush 16, 2) := by decide +kernel
theorem dX12_tells_36 : decode cX12_tells 36 = .ok (.if_icmp .ne 10, 3) := by decide +kernel
theorem dX12_tells_39 : decode cX12_tells 39 = .ok (.lload_n 3, 1) := by decide +kernel
theorem dX12_tells_40 : decode cX12_tells 40 = .ok (.l2i, 1) := by decide +kernel
theorem dX12_tells_41 : decode cX12_tells 41 = .ok (.i2s, 1) := by decide +kernel
theorem dX12_tells_42 : decode cX12_tells 42 = .ok (.i2l, 1) := by decide +kernel
theorem dX12_tells_43 : decode cX12_tells 43 = .ok (.goto 4, 3) := by decide +kernel
theorem dX12_tells_46 : decode cX12_tells 46 = .ok (.lload_n 3, 1) := by decide +kernel
theorem dX12_tells_47 : decode cX12_tells 47 = .ok (.lastore, 1) := by decide +kernel
theorem dX12_tells_48 : decode cX12_tells 48 = .ok (.return_, 1) := by decide +kernel
theorem dX12_sheet_0 : decode cX12_sheet 0 = .ok (.iload_n 1, 1) := by decide +kernel
theorem dX12_sheet_1 : decode cX12_sheet 1 = .ok (.invokestatic 233, 3) := by decide +kernel
theorem dX12_sheet_4 : decode cX12_sheet 4 = .ok (.ifCond .eq 25, 3) := by decide +kernel
theorem dX12_sheet_7 : decode cX12_sheet 7 = .ok (.iload_n 2, 1) := by decide +kernel
theorem dX12_sheet_8 : decode cX12_sheet 8 = .ok (.ifCond .eq 27, 3) := by decide +kernel
theorem dX12_sheet_11 : decode cX12_sheet 11 = .ok (.iload_n 2, 1) := by decide +kernel
theorem dX12_sheet_12 : decode cX12_sheet 12 = .ok (.bipush 8, 2) := by decide +kernel
theorem dX12_sheet_14 : decode cX12_sheet 14 = .ok (.if_icmp .eq 21, 3) := by decide +kernel
theorem dX12_sheet_17 : decode cX12_sheet 17 = .ok (.iload_n 2, 1) := by decide +kernel
theorem dX12_sheet_18 : decode cX12_sheet 18 = .ok (.bipush 16, 2) := by decide +kernel
theorem dX12_sheet_20 : decode cX12_sheet 20 = .ok (.if_icmp .eq 15, 3) := by decide +kernel
theorem dX12_sheet_23 : decode cX12_sheet 23 = .ok (.iload_n 2, 1) := by decide +kernel
theorem dX12_sheet_24 : decode cX12_sheet 24 = .ok (.bipush 64, 2) := by decide +kernel
theorem dX12_sheet_26 : decode cX12_sheet 26 = .ok (.if_icmp .eq 9, 3) := by decide +kernel
theorem dX12_sheet_29 : decode cX12_sheet 29 = .ok (.aload_n 0, 1) := by decide +kernel
theorem dX12_sheet_30 : decode cX12_sheet 30 = .ok (.iconst 0, 1) := by decide +kernel
theorem dX12_sheet_31 : decode cX12_sheet 31 = .ok (.invokevirtual 112, 3) := by decide +kernel
theorem dX12_sheet_34 : decode cX12_sheet 34 = .ok (.ireturn, 1) := by decide +kernel
theorem dX12_sheet_35 : decode cX12_sheet 35 = .ok (.iload_n 3, 1) := by decide +kernel
theorem dX12_sheet_36 : decode cX12_sheet 36 = .ok (.ifCond .ge 10, 3) := by decide +kernel
theorem dX12_sheet_39 : decode cX12_sheet 39 = .ok (.aload_n 0, 1) := by decide +kernel
theorem dX12_sheet_40 : decode cX12_sheet 40 = .ok (.bipush 6, 2) := by decide +kernel
theorem dX12_sheet_42 : decode cX12_sheet 42 = .ok (.invokevirtual 112, 3) := by decide +kernel
theorem dX12_sheet_45 : decode cX12_sheet 45 = .ok (.ireturn, 1) := by decide +kernel
theorem dX12_sheet_46 : decode cX12_sheet 46 = .ok (.iload_n 3, 1) := by decide +kernel
theorem dX12_sheet_47 : decode cX12_sheet 47 = .ok (.bipush 40, 2) := by decide +kernel
theorem dX12_sheet_49 : decode cX12_sheet 49 = .ok (.if_icmp .le 9, 3) := by decide +kernel
theorem dX12_sheet_52 : decode cX12_sheet 52 = .ok (.aload_n 0, 1) := by decide +kernel
theorem dX12_sheet_53 : decode cX12_sheet 53 = .ok (.iconst 0, 1) := by decide +kernel
theorem dX12_sheet_54 : decode cX12_sheet 54 = .ok (.invokevirtual 112, 3) := by decide +kernel
theorem dX12_sheet_57 : decode cX12_sheet 57 = .ok (.ireturn, 1) := by decide +kernel
theorem dX12_sheet_58 : decode cX12_sheet 58 = .ok (.aload_n 0, 1) := by decide +kernel
theorem dX12_sheet_59 : decode cX12_sheet 59 = .ok (.getfield 38, 3) := by decide +kernel
theorem dX12_sheet_62 : decode cX12_sheet 62 = .ok (.iload_n 1, 1) := by decide +kernel
theorem dX12_sheet_63 : decode cX12_sheet 63 = .ok (.iload_n 2, 1) := by decide +kernel
theorem dX12_sheet_64 : decode cX12_sheet 64 = .ok (.iastore, 1) := by decide +kernel
theorem dX12_sheet_65 : decode cX12_sheet 65 = .ok (.aload_n 0, 1) := by decide +kernel
theorem dX12_sheet_66 : decode cX12_sheet 66 = .ok (.getfield 41, 3) := by decide +kernel
theorem dX12_sheet_69 : decode cX12_sheet 69 = .ok (.iload_n 1, 1) := by decide +kernel
theorem dX12_sheet_70 : decode cX12_sheet 70 = .ok (.iload_n 2, 1) := by decide +kernel
theorem dX12_sheet_71 : decode cX12_sheet 71 = .ok (.ifCond .ne 7, 3) := by decide +kernel
theorem dX12_sheet_74 : decode cX12_sheet 74 = .ok (.iconst 0, 1) := by decide +kernel
theorem dX12_sheet_75 : decode cX12_sheet 75 = .ok (.goto 4, 3) := by decide +kernel
theorem dX12_sheet_78 : decode cX12_sheet 78 = .ok (.iload_n 3, 1) := by decide +kernel
theorem dX12_sheet_79 : decode cX12_sheet 79 = .ok (.iastore, 1) := by decide +kernel
theorem dX12_sheet_80 : decode cX12_sheet 80 = .ok (.iconst 0, 1) := by decide +kernel
theorem dX12_sheet_81 : decode cX12_sheet 81 = .ok (.istore 4, 2) := by decide +kernel
theorem dX12_sheet_83 : decode cX12_sheet 83 = .ok (.iload 4, 2) := by decide +kernel
theorem dX12_sheet_85 : decode cX12_sheet 85 = .ok (.bipush 40, 2) := by decide +kernel
theorem dX12_sheet_87 : decode cX12_sheet 87 = .ok (.if_icmp .ge 22, 3) := by decide +kernel
theorem dX12_sheet_90 : decode cX12_sheet 90 = .ok (.aload_n 0, 1) := by decide +kernel
theorem dX12_sheet_91 : decode cX12_sheet 91 = .ok (.getfield 44, 3) := by decide +kernel
theorem dX12_sheet_94 : decode cX12_sheet 94 = .ok (.bipush 40, 2) := by decide +kernel
theorem dX12_sheet_96 : decode cX12_sheet 96 = .ok (.iload_n 1, 1) := by decide +kernel
theorem dX12_sheet_97 : decode cX12_sheet 97 = .ok (.imul, 1) := by decide +kernel
theorem dX12_sheet_98 : decode cX12_sheet 98 = .ok (.iload 4, 2) := by decide +kernel
theorem dX12_sheet_100 : decode cX12_sheet 100 = .ok (.iadd, 1) := by decide +kernel
theorem dX12_sheet_101 : decode cX12_sheet 101 = .ok (.lconst 0, 1) := by decide +kernel
theorem dX12_sheet_102 : decode cX12_sheet 102 = .ok (.lastore, 1) := by decide +kernel
theorem dX12_sheet_103 : decode cX12_sheet 103 = .ok (.iinc 4 1, 3) := by decide +kernel
theorem dX12_sheet_106 : decode cX12_sheet 106 = .ok (.goto (-23), 3) := by decide +kernel
theorem dX12_sheet_109 : decode cX12_sheet 109 = .ok (.aload_n 0, 1) := by decide +kernel
theorem dX12_sheet_110 : decode cX12_sheet 110 = .ok (.getfield 41, 3) := by decide +kernel
theorem dX12_sheet_113 : decode cX12_sheet 113 = .ok (.iload_n 1, 1) := by decide +kernel
theorem dX12_sheet_114 : decode cX12_sheet 114 = .ok (.iaload, 1) := by decide +kernel
theorem dX12_sheet_115 : decode cX12_sheet 115 = .ok (.ireturn, 1) := by decide +kernel
theorem dX12_write_0 : decode cX12_write 0 = .ok (.aload_n 0, 1) := by decide +kernel
theorem dX12_write_1 : decode cX12_write 1 = .ok (.iload_n 1, 1) := by decide +kernel
theorem dX12_write_2 : decode cX12_write 2 = .ok (.invokevirtual 236, 3) := by decide +kernel
theorem dX12_write_5 : decode cX12_write 5 = .ok (.istore 5, 2) := by decide +kernel
theorem dX12_write_7 : decode cX12_write 7 = .ok (.iload 5, 2) := by decide +kernel
theorem dX12_write_9 : decode cX12_write 9 = .ok (.ifCond .ge 22, 3) := by decide +kernel
theorem dX12_write_12 : decode cX12_write 12 = .ok (.iload_n 2, 1) := by decide +kernel
theorem dX12_write_13 : decode cX12_write 13 = .ok (.iconst 0, 1) := by decide +kernel
theorem dX12_write_14 : decode cX12_write 14 = .ok (.aload_n 0, 1) := by decide +kernel
theorem dX12_write_15 : decode cX12_write 15 = .ok (.getfield 41, 3) := by decide +kernel
theorem dX12_write_18 : decode cX12_write 18 = .ok (.iload_n 1, 1) := by decide +kernel
theorem dX12_write_19 : decode cX12_write 19 = .ok (.iaload, 1) := by decide +kernel
theorem dX12_write_20 : decode cX12_write 20 = .ok (.iconst 1, 1) := by decide +kernel
theorem dX12_write_21 : decode cX12_write 21 = .ok (.isub, 1) := by decide +kernel
theorem dX12_write_22 : decode cX12_write 22 = .ok (.invokestatic 52, 3) := by decide +kernel
theorem dX12_write_25 : decode cX12_write 25 = .ok (.ifCond .ne 6, 3) := by decide +kernel
theorem dX12_write_28 : decode cX12_write 28 = .ok (.iconst 0, 1) := by decide +kernel
theorem dX12_write_29 : decode cX12_write 29 = .ok (.istore 5, 2) := by decide +kernel
theorem dX12_write_31 : decode cX12_write 31 = .ok (.iload 5, 2) := by decide +kernel
theorem dX12_write_33 : decode cX12_write 33 = .ok (.ifCond .lt 11, 3) := by decide +kernel
theorem dX12_write_36 : decode cX12_write 36 = .ok (.aload_n 0, 1) := by decide +kernel
theorem dX12_write_37 : decode cX12_write 37 = .ok (.iload 5, 2) := by decide +kernel
theorem dX12_write_39 : decode cX12_write 39 = .ok (.invokevirtual 112, 3) := by decide +kernel
theorem dX12_write_42 : decode cX12_write 42 = .ok (.i2l, 1) := by decide +kernel
theorem dX12_write_43 : decode cX12_write 43 = .ok (.lreturn, 1) := by decide +kernel
theorem dX12_write_44 : decode cX12_write 44 = .ok (.aload_n 0, 1) := by decide +kernel
theorem dX12_write_45 : decode cX12_write 45 = .ok (.iload_n 1, 1) := by decide +kernel
theorem dX12_write_46 : decode cX12_write 46 = .ok (.iload_n 2, 1) := by decide +kernel
theorem dX12_write_47 : decode cX12_write 47 = .ok (.invokevirtual 239, 3) := by decide +kernel
theorem dX12_write_50 : decode cX12_write 50 = .ok (.lstore 6, 2) := by decide +kernel
theorem dX12_write_52 : decode cX12_write 52 = .ok (.aload_n 0, 1) := by decide +kernel
theorem dX12_write_53 : decode cX12_write 53 = .ok (.iload_n 1, 1) := by decide +kernel
theorem dX12_write_54 : decode cX12_write 54 = .ok (.iload_n 2, 1) := by decide +kernel
theorem dX12_write_55 : decode cX12_write 55 = .ok (.lload_n 3, 1) := by decide +kernel
theorem dX12_write_56 : decode cX12_write 56 = .ok (.invokevirtual 243, 3) := by decide +kernel
theorem dX12_write_59 : decode cX12_write 59 = .ok (.lload 6, 2) := by decide +kernel
theorem dX12_write_61 : decode cX12_write 61 = .ok (.lreturn, 1) := by decide +kernel
theorem dX12_copy_0 : decode cX12_copy 0 = .ok (.iload_n 1, 1) := by decide +kernel
theorem dX12_copy_1 : decode cX12_copy 1 = .ok (.invokestatic 233, 3) := by decide +kernel
theorem dX12_copy_4 : decode cX12_copy 4 = .ok (.ifCond .eq 10, 3) := by decide +kernel
theorem dX12_copy_7 : decode cX12_copy 7 = .ok (.iload_n 3, 1) := by decide +kernel
theorem dX12_copy_8 : decode cX12_copy 8 = .ok (.invokestatic 233, 3) := by decide +kernel
theorem dX12_copy_11 : decode cX12_copy 11 = .ok (.ifCond .ne 9, 3) := by decide +kernel
theorem dX12_copy_14 : decode cX12_copy 14 = .ok (.aload_n 0, 1) := by decide +kernel
theorem dX12_copy_15 : decode cX12_copy 15 = .ok (.iconst 0, 1) := by decide +kernel
theorem dX12_copy_16 : decode cX12_copy 16 = .ok (.invokevirtual 112, 3) := by decide +kernel
theorem dX12_copy_19 : decode cX12_copy 19 = .ok (.ireturn, 1) := by decide +kernel
theorem dX12_copy_20 : decode cX12_copy 20 = .ok (.aload_n 0, 1) := by decide +kernel
theorem dX12_copy_21 : decode cX12_copy 21 = .ok (.getfield 38, 3) := by decide +kernel
theorem dX12_copy_24 : decode cX12_copy 24 = .ok (.iload_n 1, 1) := by decide +kernel
theorem dX12_copy_25 : decode cX12_copy 25 = .ok (.iaload, 1) := by decide +kernel
theorem dX12_copy_26 : decode cX12_copy 26 = .ok (.ifCond .eq 12, 3) := by decide +kernel
theorem dX12_copy_29 : decode cX12_copy 29 = .ok (.aload_n 0, 1) := by decide +kernel
theorem dX12_copy_30 : decode cX12_copy 30 = .ok (.getfield 38, 3) := by decide +kernel
theorem dX12_copy_33 : decode cX12_copy 33 = .ok (.iload_n 3, 1) := by decide +kernel
theorem dX12_copy_34 : decode cX12_copy 34 = .ok (.iaload, 1) := by decide +kernel
theorem dX12_copy_35 : decode cX12_copy 35 = .ok (.ifCond .ne 9, 3) := by decide +kernel
theorem dX12_copy_38 : decode cX12_copy 38 = .ok (.aload_n 0, 1) := by decide +kernel
theorem dX12_copy_39 : decode cX12_copy 39 = .ok (.iconst 5, 1) := by decide +kernel
theorem dX12_copy_40 : decode cX12_copy 40 = .ok (.invokevirtual 112, 3) := by decide +kernel
theorem dX12_copy_43 : decode cX12_copy 43 = .ok (.ireturn, 1) := by decide +kernel
theorem dX12_copy_44 : decode cX12_copy 44 = .ok (.aload_n 0, 1) := by decide +kernel
theorem dX12_copy_45 : decode cX12_copy 45 = .ok (.getfield 38, 3) := by decide +kernel
theorem dX12_copy_48 : decode cX12_copy 48 = .ok (.iload_n 1, 1) := by decide +kernel
theorem dX12_copy_49 : decode cX12_copy 49 = .ok (.iaload, 1) := by decide +kernel
theorem dX12_copy_50 : decode cX12_copy 50 = .ok (.aload_n 0, 1) := by decide +kernel
theorem dX12_copy_51 : decode cX12_copy 51 = .ok (.getfield 38, 3) := by decide +kernel
theorem dX12_copy_54 : decode cX12_copy 54 = .ok (.iload_n 3, 1) := by decide +kernel
theorem dX12_copy_55 : decode cX12_copy 55 = .ok (.iaload, 1) := by decide +kernel
theorem dX12_copy_56 : decode cX12_copy 56 = .ok (.if_icmp .eq 9, 3) := by decide +kernel
theorem dX12_copy_59 : decode cX12_copy 59 = .ok (.aload_n 0, 1) := by decide +kernel
theorem dX12_copy_60 : decode cX12_copy 60 = .ok (.iconst 2, 1) := by decide +kernel
theorem dX12_copy_61 : decode cX12_copy 61 = .ok (.invokevirtual 112, 3) := by decide +kernel
theorem dX12_copy_64 : decode cX12_copy 64 = .ok (.ireturn, 1) := by decide +kernel
theorem dX12_copy_65 : decode cX12_copy 65 = .ok (.iload 5, 2) := by decide +kernel
theorem dX12_copy_67 : decode cX12_copy 67 = .ok (.ifCond .lt 39, 3) := by decide +kernel
theorem dX12_copy_70 : decode cX12_copy 70 = .ok (.iload_n 2, 1) := by decide +kernel
theorem dX12_copy_71 : decode cX12_copy 71 = .ok (.ifCond .lt 35, 3) := by decide +kernel
theorem dX12_copy_74 : decode cX12_copy 74 = .ok (.iload 4, 2) := by decide +kernel
theorem dX12_copy_76 : decode cX12_copy 76 = .ok (.ifCond .lt 30, 3) := by decide +kernel
theorem dX12_copy_79 : decode cX12_copy 79 = .ok (.iload_n 2, 1) := by decide +kernel
theorem dX12_copy_80 : decode cX12_copy 80 = .ok (.aload_n 0, 1) := by decide +kernel
theorem dX12_copy_81 : decode cX12_copy 81 = .ok (.getfield 41, 3) := by decide +kernel
theorem dX12_copy_84 : decode cX12_copy 84 = .ok (.iload_n 1, 1) := by decide +kernel
theorem dX12_copy_85 : decode cX12_copy 85 = .ok (.iaload, 1) := by decide +kernel
theorem dX12_copy_86 : decode cX12_copy 86 = .ok (.iload 5, 2) := by decide +kernel
theorem dX12_copy_88 : decode cX12_copy 88 = .ok (.isub, 1) := by decide +kernel
theorem dX12_copy_89 : decode cX12_copy 89 = .ok (.if_icmp .gt 17, 3) := by decide +kernel
theorem dX12_copy_92 : decode cX12_copy 92 = .ok (.iload 4, 2) := by decide +kernel
theorem dX12_copy_94 : decode cX12_copy 94 = .ok (.aload_n 0, 1) := by decide +kernel
theorem dX12_copy_95 : decode cX12_copy 95 = .ok (.getfield 41, 3) := by decide +kernel
theorem dX12_copy_98 : decode cX12_copy 98 = .ok (.iload_n 3, 1) := by decide +kernel
theorem dX12_copy_99 : decode cX12_copy 99 = .ok (.iaload, 1) := by decide +kernel
theorem dX12_copy_100 : decode cX12_copy 100 = .ok (.iload 5, 2) := by decide +kernel
theorem dX12_copy_102 : decode cX12_copy 102 = .ok (.isub, 1) := by decide +kernel
theorem dX12_copy_103 : decode cX12_copy 103 = .ok (.if_icmp .le 9, 3) := by decide +kernel
theorem dX12_copy_106 : decode cX12_copy 106 = .ok (.aload_n 0, 1) := by decide +kernel
theorem dX12_copy_107 : decode cX12_copy 107 = .ok (.iconst 0, 1) := by decide +kernel
theorem dX12_copy_108 : decode cX12_copy 108 = .ok (.invokevirtual 112, 3) := by decide +kernel
theorem dX12_copy_111 : decode cX12_copy 111 = .ok (.ireturn, 1) := by decide +kernel
theorem dX12_copy_112 : decode cX12_copy 112 = .ok (.iconst 0, 1) := by decide +kernel
theorem dX12_copy_113 : decode cX12_copy 113 = .ok (.istore 6, 2) := by decide +kernel
theorem dX12_copy_115 : decode cX12_copy 115 = .ok (.iload 6, 2) := by decide +kernel
theorem dX12_copy_117 : decode cX12_copy 117 = .ok (.iload 5, 2) := by decide +kernel
theorem dX12_copy_119 : decode cX12_copy 119 = .ok (.if_icmp .ge 25, 3) := by decide +kernel
theorem dX12_copy_122 : decode cX12_copy 122 = .ok (.aload_n 0, 1) := by decide +kernel
theorem dX12_copy_123 : decode cX12_copy 123 = .ok (.getfield 48, 3) := by decide +kernel
theorem dX12_copy_126 : decode cX12_copy 126 = .ok (.iload 6, 2) := by decide +kernel
theorem dX12_copy_128 : decode cX12_copy 128 = .ok (.aload_n 0, 1) := by decide +kernel
theorem dX12_copy_129 : decode cX12_copy 129 = .ok (.iload_n 1, 1) := by decide +kernel
theorem dX12_copy_130 : decode cX12_copy 130 = .ok (.iload_n 2, 1) := by decide +kernel
theorem dX12_copy_131 : decode cX12_copy 131 = .ok (.iload 6, 2) := by decide +kernel
theorem dX12_copy_133 : decode cX12_copy 133 = .ok (.iadd, 1) := by decide +kernel
theorem dX12_copy_134 : decode cX12_copy 134 = .ok (.invokevirtual 239, 3) := by decide +kernel
theorem dX12_copy_137 : decode cX12_copy 137 = .ok (.lastore, 1) := by decide +kernel
theorem dX12_copy_138 : decode cX12_copy 138 = .ok (.iinc 6 1, 3) := by decide +kernel
theorem dX12_copy_141 : decode cX12_copy 141 = .ok (.goto (-26), 3) := by decide +kernel
theorem dX12_copy_144 : decode cX12_copy 144 = .ok (.iconst 0, 1) := by decide +kernel
theorem dX12_copy_145 : decode cX12_copy 145 = .ok (.istore 6, 2) := by decide +kernel
theorem dX12_copy_147 : decode cX12_copy 147 = .ok (.iload 6, 2) := by decide +kernel
theorem dX12_copy_149 : decode cX12_copy 149 = .ok (.iload 5, 2) := by decide +kernel
theorem dX12_copy_151 : decode cX12_copy 151 = .ok (.if_icmp .ge 31, 3) := by decide +kernel
theorem dX12_copy_154 : decode cX12_copy 154 = .ok (.aload_n 0, 1) := by decide +kernel
theorem dX12_copy_155 : decode cX12_copy 155 = .ok (.getfield 44, 3) := by decide +kernel
theorem dX12_copy_158 : decode cX12_copy 158 = .ok (.bipush 40, 2) := by decide +kernel
theorem dX12_copy_160 : decode cX12_copy 160 = .ok (.iload_n 3, 1) := by decide +kernel
theorem dX12_copy_161 : decode cX12_copy 161 = .ok (.imul, 1) := by decide +kernel
theorem dX12_copy_162 : decode cX12_copy 162 = .ok (.iload 4, 2) := by decide +kernel
theorem dX12_copy_164 : decode cX12_copy 164 = .ok (.iadd, 1) := by decide +kernel
theorem dX12_copy_165 : decode cX12_copy 165 = .ok (.iload 6, 2) := by decide +kernel
theorem dX12_copy_167 : decode cX12_copy 167 = .ok (.iadd, 1) := by decide +kernel
theorem dX12_copy_168 : decode cX12_copy 168 = .ok (.aload_n 0, 1) := by decide +kernel
theorem dX12_copy_169 : decode cX12_copy 169 = .ok (.getfield 48, 3) := by decide +kernel
theorem dX12_copy_172 : decode cX12_copy 172 = .ok (.iload 6, 2) := by decide +kernel
theorem dX12_copy_174 : decode cX12_copy 174 = .ok (.laload, 1) := by decide +kernel
theorem dX12_copy_175 : decode cX12_copy 175 = .ok (.lastore, 1) := by decide +kernel
theorem dX12_copy_176 : decode cX12_copy 176 = .ok (.iinc 6 1, 3) := by decide +kernel
theorem dX12_copy_179 : decode cX12_copy 179 = .ok (.goto (-32), 3) := by decide +kernel
theorem dX12_copy_182 : decode cX12_copy 182 = .ok (.iload 5, 2) := by decide +kernel
theorem dX12_copy_184 : decode cX12_copy 184 = .ok (.ireturn, 1) := by decide +kernel
theorem dX12_lays_0 : decode cX12_lays 0 = .ok (.aload_n 0, 1) := by decide +kernel
theorem dX12_lays_1 : decode cX12_lays 1 = .ok (.iload_n 1, 1) := by decide +kernel
theorem dX12_lays_2 : decode cX12_lays 2 = .ok (.invokevirtual 236, 3) := by decide +kernel
theorem dX12_lays_5 : decode cX12_lays 5 = .ok (.istore_n 3, 1) := by decide +kernel
theorem dX12_lays_6 : decode cX12_lays 6 = .ok (.iload_n 3, 1) := by decide +kernel
theorem dX12_lays_7 : decode cX12_lays 7 = .ok (.ifCond .ge 31, 3) := by decide +kernel
theorem dX12_lays_10 : decode cX12_lays 10 = .ok (.aload_n 0, 1) := by decide +kernel
theorem dX12_lays_11 : decode cX12_lays 11 = .ok (.iload_n 2, 1) := by decide +kernel
theorem dX12_lays_12 : decode cX12_lays 12 = .ok (.invokevirtual 127, 3) := by decide +kernel
theorem dX12_lays_15 : decode cX12_lays 15 = .ok (.ifCond .ne 7, 3) := by decide +kernel
theorem dX12_lays_18 : decode cX12_lays 18 = .ok (.iconst 0, 1) := by decide +kernel
theorem dX12_lays_19 : decode cX12_lays 19 = .ok (.goto 18, 3) := by decide +kernel
theorem dX12_lays_22 : decode cX12_lays 22 = .ok (.aload_n 0, 1) := by decide +kernel
theorem dX12_lays_23 : decode cX12_lays 23 = .ok (.iload_n 2, 1) := by decide +kernel
theorem dX12_lays_24 : decode cX12_lays 24 = .ok (.iconst 3, 1) := by decide +kernel
theorem dX12_lays_25 : decode cX12_lays 25 = .ok (.invokevirtual 56, 3) := by decide +kernel
theorem dX12_lays_28 : decode cX12_lays 28 = .ok (.iconst 1, 1) := by decide +kernel
theorem dX12_lays_29 : decode cX12_lays 29 = .ok (.if_icmp .ne 7, 3) := by decide +kernel
theorem dX12_lays_32 : decode cX12_lays 32 = .ok (.iconst 4, 1) := by decide +kernel
theorem dX12_lays_33 : decode cX12_lays 33 = .ok (.goto 4, 3) := by decide +kernel
theorem dX12_lays_36 : decode cX12_lays 36 = .ok (.iconst (-1), 1) := by decide +kernel
theorem dX12_lays_37 : decode cX12_lays 37 = .ok (.istore_n 3, 1) := by decide +kernel
theorem dX12_lays_38 : decode cX12_lays 38 = .ok (.iload_n 3, 1) := by decide +kernel
theorem dX12_lays_39 : decode cX12_lays 39 = .ok (.ifCond .lt 9, 3) := by decide +kernel
theorem dX12_lays_42 : decode cX12_lays 42 = .ok (.aload_n 0, 1) := by decide +kernel
theorem dX12_lays_43 : decode cX12_lays 43 = .ok (.iload_n 3, 1) := by decide +kernel
theorem dX12_lays_44 : decode cX12_lays 44 = .ok (.invokevirtual 112, 3) := by decide +kernel
theorem dX12_lays_47 : decode cX12_lays 47 = .ok (.ireturn, 1) := by decide +kernel
theorem dX12_lays_48 : decode cX12_lays 48 = .ok (.iconst 0, 1) := by decide +kernel
theorem dX12_lays_49 : decode cX12_lays 49 = .ok (.istore 4, 2) := by decide +kernel
theorem dX12_lays_51 : decode cX12_lays 51 = .ok (.iload 4, 2) := by decide +kernel
theorem dX12_lays_53 : decode cX12_lays 53 = .ok (.aload_n 0, 1) := by decide +kernel
theorem dX12_lays_54 : decode cX12_lays 54 = .ok (.getfield 41, 3) := by decide +kernel
theorem dX12_lays_57 : decode cX12_lays 57 = .ok (.iload_n 1, 1) := by decide +kernel
theorem dX12_lays_58 : decode cX12_lays 58 = .ok (.iaload, 1) := by decide +kernel
theorem dX12_lays_59 : decode cX12_lays 59 = .ok (.if_icmp .ge 59, 3) := by decide +kernel
theorem dX12_lays_62 : decode cX12_lays 62 = .ok (.iload 4, 2) := by decide +kernel
theorem dX12_lays_64 : decode cX12_lays 64 = .ok (.bipush 6, 2) := by decide +kernel
theorem dX12_lays_66 : decode cX12_lays 66 = .ok (.if_icmp .ge 52, 3) := by decide +kernel
theorem dX12_lays_69 : decode cX12_lays 69 = .ok (.aload_n 0, 1) := by decide +kernel
theorem dX12_lays_70 : decode cX12_lays 70 = .ok (.iload_n 1, 1) := by decide +kernel
theorem dX12_lays_71 : decode cX12_lays 71 = .ok (.iload 4, 2) := by decide +kernel
theorem dX12_lays_73 : decode cX12_lays 73 = .ok (.invokevirtual 239, 3) := by decide +kernel
theorem dX12_lays_76 : decode cX12_lays 76 = .ok (.lconst 0, 1) := by decide +kernel
theorem dX12_lays_77 : decode cX12_lays 77 = .ok (.lcmp, 1) := by decide +kernel
theorem dX12_lays_78 : decode cX12_lays 78 = .ok (.ifCond .lt 40, 3) := by decide +kernel
theorem dX12_lays_81 : decode cX12_lays 81 = .ok (.aload_n 0, 1) := by decide +kernel
theorem dX12_lays_82 : decode cX12_lays 82 = .ok (.iload_n 1, 1) := by decide +kernel
theorem dX12_lays_83 : decode cX12_lays 83 = .ok (.iload 4, 2) := by decide +kernel
theorem dX12_lays_85 : decode cX12_lays 85 = .ok (.invokevirtual 239, 3) := by decide +kernel
theorem dX12_lays_88 : decode cX12_lays 88 = .ok (.ldc2_w 247, 3) := by decide +kernel
theorem dX12_lays_91 : decode cX12_lays 91 = .ok (.lcmp, 1) := by decide +kernel
theorem dX12_lays_92 : decode cX12_lays 92 = .ok (.ifCond .gt 26, 3) := by decide +kernel
theorem dX12_lays_95 : decode cX12_lays 95 = .ok (.aload_n 0, 1) := by decide +kernel
theorem dX12_lays_96 : decode cX12_lays 96 = .ok (.iload_n 2, 1) := by decide +kernel
theorem dX12_lays_97 : decode cX12_lays 97 = .ok (.iconst 4, 1) := by decide +kernel
theorem dX12_lays_98 : decode cX12_lays 98 = .ok (.iload 4, 2) := by decide +kernel
theorem dX12_lays_100 : decode cX12_lays 100 = .ok (.iadd, 1) := by decide +kernel
theorem dX12_lays_101 : decode cX12_lays 101 = .ok (.aload_n 0, 1) := by decide +kernel
theorem dX12_lays_102 : decode cX12_lays 102 = .ok (.iload_n 1, 1) := by decide +kernel
theorem dX12_lays_103 : decode cX12_lays 103 = .ok (.iload 4, 2) := by decide +kernel
theorem dX12_lays_105 : decode cX12_lays 105 = .ok (.invokevirtual 239, 3) := by decide +kernel
theorem dX12_lays_108 : decode cX12_lays 108 = .ok (.l2i, 1) := by decide +kernel
theorem dX12_lays_109 : decode cX12_lays 109 = .ok (.invokevirtual 60, 3) := by decide +kernel
theorem dX12_lays_112 : decode cX12_lays 112 = .ok (.iinc 4 1, 3) := by decide +kernel
theorem dX12_lays_115 : decode cX12_lays 115 = .ok (.goto (-64), 3) := by decide +kernel
theorem dX12_lays_118 : decode cX12_lays 118 = .ok (.aload_n 0, 1) := by decide +kernel
theorem dX12_lays_119 : decode cX12_lays 119 = .ok (.iload_n 2, 1) := by decide +kernel
theorem dX12_lays_120 : decode cX12_lays 120 = .ok (.iconst 0, 1) := by decide +kernel
theorem dX12_lays_121 : decode cX12_lays 121 = .ok (.iload 4, 2) := by decide +kernel
theorem dX12_lays_123 : decode cX12_lays 123 = .ok (.invokevirtual 60, 3) := by decide +kernel
theorem dX12_lays_126 : decode cX12_lays 126 = .ok (.iload 4, 2) := by decide +kernel
theorem dX12_lays_128 : decode cX12_lays 128 = .ok (.ireturn, 1) := by decide +kernel
theorem dX12_book_0 : decode cX12_book 0 = .ok (.aload_n 0, 1) := by decide +kernel
theorem dX12_book_1 : decode cX12_book 1 = .ok (.iload_n 1, 1) := by decide +kernel
theorem dX12_book_2 : decode cX12_book 2 = .ok (.invokevirtual 236, 3) := by decide +kernel
theorem dX12_book_5 : decode cX12_book 5 = .ok (.istore_n 3, 1) := by decide +kernel
theorem dX12_book_6 : decode cX12_book 6 = .ok (.iload_n 3, 1) := by decide +kernel
theorem dX12_book_7 : decode cX12_book 7 = .ok (.ifCond .ge 13, 3) := by decide +kernel
theorem dX12_book_10 : decode cX12_book 10 = .ok (.aload_n 0, 1) := by decide +kernel
theorem dX12_book_11 : decode cX12_book 11 = .ok (.iload_n 2, 1) := by decide +kernel
theorem dX12_book_12 : decode cX12_book 12 = .ok (.invokevirtual 119, 3) := by decide +kernel
theorem dX12_book_15 : decode cX12_book 15 = .ok (.ifCond .ne 5, 3) := by decide +kernel
theorem dX12_book_18 : decode cX12_book 18 = .ok (.iconst 0, 1) := by decide +kernel
theorem dX12_book_19 : decode cX12_book 19 = .ok (.istore_n 3, 1) := by decide +kernel
theorem dX12_book_20 : decode cX12_book 20 = .ok (.iload_n 3, 1) := by decide +kernel
theorem dX12_book_21 : decode cX12_book 21 = .ok (.ifCond .lt 9, 3) := by decide +kernel
theorem dX12_book_24 : decode cX12_book 24 = .ok (.aload_n 0, 1) := by decide +kernel
theorem dX12_book_25 : decode cX12_book 25 = .ok (.iload_n 3, 1) := by decide +kernel
theorem dX12_book_26 : decode cX12_book 26 = .ok (.invokevirtual 112, 3) := by decide +kernel
theorem dX12_book_29 : decode cX12_book 29 = .ok (.ireturn, 1) := by decide +kernel
theorem dX12_book_30 : decode cX12_book 30 = .ok (.aload_n 0, 1) := by decide +kernel
theorem dX12_book_31 : decode cX12_book 31 = .ok (.invokevirtual 155, 3) := by decide +kernel
theorem dX12_book_34 : decode cX12_book 34 = .ok (.iconst 0, 1) := by decide +kernel
theorem dX12_book_35 : decode cX12_book 35 = .ok (.istore 4, 2) := by decide +kernel
theorem dX12_book_37 : decode cX12_book 37 = .ok (.iload 4, 2) := by decide +kernel
theorem dX12_book_39 : decode cX12_book 39 = .ok (.aload_n 0, 1) := by decide +kernel
theorem dX12_book_40 : decode cX12_book 40 = .ok (.getfield 41, 3) := by decide +kernel
theorem dX12_book_43 : decode cX12_book 43 = .ok (.iload_n 1, 1) := by decide +kernel
theorem dX12_book_44 : decode cX12_book 44 = .ok (.iaload, 1) := by decide +kernel
theorem dX12_book_45 : decode cX12_book 45 = .ok (.if_icmp .ge 27, 3) := by decide +kernel
theorem dX12_book_48 : decode cX12_book 48 = .ok (.aload_n 0, 1) := by decide +kernel
theorem dX12_book_49 : decode cX12_book 49 = .ok (.iload_n 1, 1) := by decide +kernel
theorem dX12_book_50 : decode cX12_book 50 = .ok (.iload 4, 2) := by decide +kernel
theorem dX12_book_52 : decode cX12_book 52 = .ok (.aload_n 0, 1) := by decide +kernel
theorem dX12_book_53 : decode cX12_book 53 = .ok (.iload_n 2, 1) := by decide +kernel
theorem dX12_book_54 : decode cX12_book 54 = .ok (.iconst 1, 1) := by decide +kernel
theorem dX12_book_55 : decode cX12_book 55 = .ok (.invokevirtual 64, 3) := by decide +kernel
theorem dX12_book_58 : decode cX12_book 58 = .ok (.i2l, 1) := by decide +kernel
theorem dX12_book_59 : decode cX12_book 59 = .ok (.invokevirtual 243, 3) := by decide +kernel
theorem dX12_book_62 : decode cX12_book 62 = .ok (.aload_n 0, 1) := by decide +kernel
theorem dX12_book_63 : decode cX12_book 63 = .ok (.invokevirtual 109, 3) := by decide +kernel
theorem dX12_book_66 : decode cX12_book 66 = .ok (.iinc 4 1, 3) := by decide +kernel
theorem dX12_book_69 : decode cX12_book 69 = .ok (.goto (-32), 3) := by decide +kernel
theorem dX12_book_72 : decode cX12_book 72 = .ok (.aload_n 0, 1) := by decide +kernel
theorem dX12_book_73 : decode cX12_book 73 = .ok (.invokevirtual 158, 3) := by decide +kernel
theorem dX12_book_76 : decode cX12_book 76 = .ok (.aload_n 0, 1) := by decide +kernel
theorem dX12_book_77 : decode cX12_book 77 = .ok (.getfield 41, 3) := by decide +kernel
theorem dX12_book_80 : decode cX12_book 80 = .ok (.iload_n 1, 1) := by decide +kernel
theorem dX12_book_81 : decode cX12_book 81 = .ok (.iaload, 1) := by decide +kernel
theorem dX12_book_82 : decode cX12_book 82 = .ok (.ireturn, 1) := by decide +kernel
theorem dX12_isSo_0 : decode cX12_isSo 0 = .ok (.iconst 1, 1) := by decide +kernel
theorem dX12_isSo_1 : decode cX12_isSo 1 = .ok (.istore_n 3, 1) := by decide +kernel
theorem dX12_isSo_2 : decode cX12_isSo 2 = .ok (.iconst 0, 1) := by decide +kernel
theorem dX12_isSo_3 : decode cX12_isSo 3 = .ok (.istore 4, 2) := by decide +kernel
theorem dX12_isSo_5 : decode cX12_isSo 5 = .ok (.iload 4, 2) := by decide +kernel
theorem dX12_isSo_7 : decode cX12_isSo 7 = .ok (.aload_n 0, 1) := by decide +kernel
theorem dX12_isSo_8 : decode cX12_isSo 8 = .ok (.getfield 41, 3) := by decide +kernel
theorem dX12_isSo_11 : decode cX12_isSo 11 = .ok (.iload_n 1, 1) := by decide +kernel
theorem dX12_isSo_12 : decode cX12_isSo 12 = .ok (.iaload, 1) := by decide +kernel
theorem dX12_isSo_13 : decode cX12_isSo 13 = .ok (.if_icmp .ge 41, 3) := by decide +kernel
theorem dX12_isSo_16 : decode cX12_isSo 16 = .ok (.iload_n 3, 1) := by decide +kernel
theorem dX12_isSo_17 : decode cX12_isSo 17 = .ok (.ifCond .eq 37, 3) := by decide +kernel
theorem dX12_isSo_20 : decode cX12_isSo 20 = .ok (.aload_n 0, 1) := by decide +kernel
theorem dX12_isSo_21 : decode cX12_isSo 21 = .ok (.iload_n 1, 1) := by decide +kernel
theorem dX12_isSo_22 : decode cX12_isSo 22 = .ok (.iload 4, 2) := by decide +kernel
theorem dX12_isSo_24 : decode cX12_isSo 24 = .ok (.invokevirtual 239, 3) := by decide +kernel
theorem dX12_isSo_27 : decode cX12_isSo 27 = .ok (.aload_n 0, 1) := by decide +kernel
theorem dX12_isSo_28 : decode cX12_isSo 28 = .ok (.iload_n 2, 1) := by decide +kernel
theorem dX12_isSo_29 : decode cX12_isSo 29 = .ok (.iconst 1, 1) := by decide +kernel
theorem dX12_isSo_30 : decode cX12_isSo 30 = .ok (.invokevirtual 64, 3) := by decide +kernel
theorem dX12_isSo_33 : decode cX12_isSo 33 = .ok (.i2l, 1) := by decide +kernel
theorem dX12_isSo_34 : decode cX12_isSo 34 = .ok (.lcmp, 1) := by decide +kernel
theorem dX12_isSo_35 : decode cX12_isSo 35 = .ok (.ifCond .ne 7, 3) := by decide +kernel
theorem dX12_isSo_38 : decode cX12_isSo 38 = .ok (.iconst 1, 1) := by decide +kernel
theorem dX12_isSo_39 : decode cX12_isSo 39 = .ok (.goto 4, 3) := by decide +kernel
theorem dX12_isSo_42 : decode cX12_isSo 42 = .ok (.iconst 0, 1) := by decide +kernel
theorem dX12_isSo_43 : decode cX12_isSo 43 = .ok (.istore_n 3, 1) := by decide +kernel
theorem dX12_isSo_44 : decode cX12_isSo 44 = .ok (.aload_n 0, 1) := by decide +kernel
theorem dX12_isSo_45 : decode cX12_isSo 45 = .ok (.invokevirtual 109, 3) := by decide +kernel
theorem dX12_isSo_48 : decode cX12_isSo 48 = .ok (.iinc 4 1, 3) := by decide +kernel
theorem dX12_isSo_51 : decode cX12_isSo 51 = .ok (.goto (-46), 3) := by decide +kernel
theorem dX12_isSo_54 : decode cX12_isSo 54 = .ok (.iload_n 3, 1) := by decide +kernel
theorem dX12_isSo_55 : decode cX12_isSo 55 = .ok (.ireturn, 1) := by decide +kernel
theorem dX12_read_0 : decode cX12_read 0 = .ok (.aload_n 0, 1) := by decide +kernel
theorem dX12_read_1 : decode cX12_read 1 = .ok (.iload_n 1, 1) := by decide +kernel
theorem dX12_read_2 : decode cX12_read 2 = .ok (.invokevirtual 236, 3) := by decide +kernel
theorem dX12_read_5 : decode cX12_read 5 = .ok (.istore 4, 2) := by decide +kernel
theorem dX12_read_7 : decode cX12_read 7 = .ok (.iload 4, 2) := by decide +kernel
theorem dX12_read_9 : decode cX12_read 9 = .ok (.ifCond .ge 22, 3) := by decide +kernel
theorem dX12_read_12 : decode cX12_read 12 = .ok (.aload_n 0, 1) := by decide +kernel
theorem dX12_read_13 : decode cX12_read 13 = .ok (.iload_n 2, 1) := by decide +kernel
theorem dX12_read_14 : decode cX12_read 14 = .ok (.invokevirtual 119, 3) := by decide +kernel
theorem dX12_read_17 : decode cX12_read 17 = .ok (.ifCond .eq 11, 3) := by decide +kernel
theorem dX12_read_20 : decode cX12_read 20 = .ok (.aload_n 0, 1) := by decide +kernel
theorem dX12_read_21 : decode cX12_read 21 = .ok (.iload_n 3, 1) := by decide +kernel
theorem dX12_read_22 : decode cX12_read 22 = .ok (.invokevirtual 127, 3) := by decide +kernel
theorem dX12_read_25 : decode cX12_read 25 = .ok (.ifCond .ne 6, 3) := by decide +kernel
theorem dX12_read_28 : decode cX12_read 28 = .ok (.iconst 0, 1) := by decide +kernel
theorem dX12_read_29 : decode cX12_read 29 = .ok (.istore 4, 2) := by decide +kernel
theorem dX12_read_31 : decode cX12_read 31 = .ok (.iload 4, 2) := by decide +kernel
theorem dX12_read_33 : decode cX12_read 33 = .ok (.ifCond .lt 10, 3) := by decide +kernel
theorem dX12_read_36 : decode cX12_read 36 = .ok (.aload_n 0, 1) := by decide +kernel
theorem dX12_read_37 : decode cX12_read 37 = .ok (.iload 4, 2) := by decide +kernel
theorem dX12_read_39 : decode cX12_read 39 = .ok (.invokevirtual 112, 3) := by decide +kernel
theorem dX12_read_42 : decode cX12_read 42 = .ok (.ireturn, 1) := by decide +kernel
theorem dX12_read_43 : decode cX12_read 43 = .ok (.iconst 0, 1) := by decide +kernel
theorem dX12_read_44 : decode cX12_read 44 = .ok (.istore 5, 2) := by decide +kernel
theorem dX12_read_46 : decode cX12_read 46 = .ok (.aload_n 0, 1) := by decide +kernel
theorem dX12_read_47 : decode cX12_read 47 = .ok (.invokevirtual 155, 3) := by decide +kernel
theorem dX12_read_50 : decode cX12_read 50 = .ok (.iconst 0, 1) := by decide +kernel
theorem dX12_read_51 : decode cX12_read 51 = .ok (.istore 6, 2) := by decide +kernel
theorem dX12_read_53 : decode cX12_read 53 = .ok (.iload 6, 2) := by decide +kernel
theorem dX12_read_55 : decode cX12_read 55 = .ok (.sipush 600, 3) := by decide +kernel
theorem dX12_read_58 : decode cX12_read 58 = .ok (.if_icmp .ge 54, 3) := by decide +kernel
theorem dX12_read_61 : decode cX12_read 61 = .ok (.aload_n 0, 1) := by decide +kernel
theorem dX12_read_62 : decode cX12_read 62 = .ok (.iload_n 2, 1) := by decide +kernel
theorem dX12_read_63 : decode cX12_read 63 = .ok (.iconst 0, 1) := by decide +kernel
theorem dX12_read_64 : decode cX12_read 64 = .ok (.iload 6, 2) := by decide +kernel
theorem dX12_read_66 : decode cX12_read 66 = .ok (.bipush 100, 2) := by decide +kernel
theorem dX12_read_68 : decode cX12_read 68 = .ok (.idiv, 1) := by decide +kernel
theorem dX12_read_69 : decode cX12_read 69 = .ok (.invokevirtual 74, 3) := by decide +kernel
theorem dX12_read_72 : decode cX12_read 72 = .ok (.aload_n 0, 1) := by decide +kernel
theorem dX12_read_73 : decode cX12_read 73 = .ok (.iload_n 3, 1) := by decide +kernel
theorem dX12_read_74 : decode cX12_read 74 = .ok (.iconst 1, 1) := by decide +kernel
theorem dX12_read_75 : decode cX12_read 75 = .ok (.iload 6, 2) := by decide +kernel
theorem dX12_read_77 : decode cX12_read 77 = .ok (.bipush 100, 2) := by decide +kernel
theorem dX12_read_79 : decode cX12_read 79 = .ok (.irem, 1) := by decide +kernel
theorem dX12_read_80 : decode cX12_read 80 = .ok (.invokevirtual 60, 3) := by decide +kernel
theorem dX12_read_83 : decode cX12_read 83 = .ok (.iload 5, 2) := by decide +kernel
theorem dX12_read_85 : decode cX12_read 85 = .ok (.aload_n 0, 1) := by decide +kernel
theorem dX12_read_86 : decode cX12_read 86 = .ok (.iload_n 1, 1) := by decide +kernel
theorem dX12_read_87 : decode cX12_read 87 = .ok (.iload_n 2, 1) := by decide +kernel
theorem dX12_read_88 : decode cX12_read 88 = .ok (.invokevirtual 249, 3) := by decide +kernel
theorem dX12_read_91 : decode cX12_read 91 = .ok (.ifCond .eq 7, 3) := by decide +kernel
theorem dX12_read_94 : decode cX12_read 94 = .ok (.iconst 1, 1) := by decide +kernel
theorem dX12_read_95 : decode cX12_read 95 = .ok (.goto 4, 3) := by decide +kernel
theorem dX12_read_98 : decode cX12_read 98 = .ok (.iconst 0, 1) := by decide +kernel
theorem dX12_read_99 : decode cX12_read 99 = .ok (.iadd, 1) := by decide +kernel
theorem dX12_read_100 : decode cX12_read 100 = .ok (.istore 5, 2) := by decide +kernel
theorem dX12_read_102 : decode cX12_read 102 = .ok (.aload_n 0, 1) := by decide +kernel
theorem dX12_read_103 : decode cX12_read 103 = .ok (.invokevirtual 158, 3) := by decide +kernel
theorem dX12_read_106 : decode cX12_read 106 = .ok (.iinc 6 1, 3) := by decide +kernel
theorem dX12_read_109 : decode cX12_read 109 = .ok (.goto (-56), 3) := by decide +kernel
theorem dX12_read_112 : decode cX12_read 112 = .ok (.iload 5, 2) := by decide +kernel
theorem dX12_read_114 : decode cX12_read 114 = .ok (.ireturn, 1) := by decide +kernel
theorem dX12_image_0 : decode cX12_image 0 = .ok (.iconst 0, 1) := by decide +kernel
theorem dX12_image_1 : decode cX12_image 1 = .ok (.istore_n 1, 1) := by decide +kernel
theorem dX12_image_2 : decode cX12_image 2 = .ok (.iload_n 1, 1) := by decide +kernel
theorem dX12_image_3 : decode cX12_image 3 = .ok (.bipush 96, 2) := by decide +kernel
theorem dX12_image_5 : decode cX12_image 5 = .ok (.if_icmp .ge 21, 3) := by decide +kernel
theorem dX12_image_8 : decode cX12_image 8 = .ok (.aload_n 0, 1) := by decide +kernel
theorem dX12_image_9 : decode cX12_image 9 = .ok (.getfield 13, 3) := by decide +kernel
theorem dX12_image_12 : decode cX12_image 12 = .ok (.iload_n 1, 1) := by decide +kernel
theorem dX12_image_13 : decode cX12_image 13 = .ok (.aload_n 0, 1) := by decide +kernel
theorem dX12_image_14 : decode cX12_image 14 = .ok (.getfield 9, 3) := by decide +kernel
theorem dX12_image_17 : decode cX12_image 17 = .ok (.iload_n 1, 1) := by decide +kernel
theorem dX12_image_18 : decode cX12_image 18 = .ok (.iaload, 1) := by decide +kernel
theorem dX12_image_19 : decode cX12_image 19 = .ok (.iastore, 1) := by decide +kernel
theorem dX12_image_20 : decode cX12_image 20 = .ok (.iinc 1 1, 3) := by decide +kernel
theorem dX12_image_23 : decode cX12_image 23 = .ok (.goto (-21), 3) := by decide +kernel
theorem dX12_image_26 : decode cX12_image 26 = .ok (.aload_n 0, 1) := by decide +kernel
theorem dX12_image_27 : decode cX12_image 27 = .ok (.iconst 1, 1) := by decide +kernel
theorem dX12_image_28 : decode cX12_image 28 = .ok (.putfield 252, 3) := by decide +kernel
theorem dX12_image_31 : decode cX12_image 31 = .ok (.iconst 1, 1) := by decide +kernel
theorem dX12_image_32 : decode cX12_image 32 = .ok (.ireturn, 1) := by decide +kernel
theorem dX12_undo_0 : decode cX12_undo 0 = .ok (.aload_n 0, 1) := by decide +kernel
theorem dX12_undo_1 : decode cX12_undo 1 = .ok (.getfield 252, 3) := by decide +kernel
theorem dX12_undo_4 : decode cX12_undo 4 = .ok (.ifCond .ne 9, 3) := by decide +kernel
theorem dX12_undo_7 : decode cX12_undo 7 = .ok (.aload_n 0, 1) := by decide +kernel
theorem dX12_undo_8 : decode cX12_undo 8 = .ok (.iconst 3, 1) := by decide +kernel
theorem dX12_undo_9 : decode cX12_undo 9 = .ok (.invokevirtual 112, 3) := by decide +kernel
theorem dX12_undo_12 : decode cX12_undo 12 = .ok (.ireturn, 1) := by decide +kernel
theorem dX12_undo_13 : decode cX12_undo 13 = .ok (.iconst 0, 1) := by decide +kernel
theorem dX12_undo_14 : decode cX12_undo 14 = .ok (.istore_n 1, 1) := by decide +kernel
theorem dX12_undo_15 : decode cX12_undo 15 = .ok (.iload_n 1, 1) := by decide +kernel
theorem dX12_undo_16 : decode cX12_undo 16 = .ok (.bipush 96, 2) := by decide +kernel
theorem dX12_undo_18 : decode cX12_undo 18 = .ok (.if_icmp .ge 21, 3) := by decide +kernel
theorem dX12_undo_21 : decode cX12_undo 21 = .ok (.aload_n 0, 1) := by decide +kernel
theorem dX12_undo_22 : decode cX12_undo 22 = .ok (.getfield 9, 3) := by decide +kernel
theorem dX12_undo_25 : decode cX12_undo 25 = .ok (.iload_n 1, 1) := by decide +kernel
theorem dX12_undo_26 : decode cX12_undo 26 = .ok (.aload_n 0, 1) := by decide +kernel
theorem dX12_undo_27 : decode cX12_undo 27 = .ok (.getfield 13, 3) := by decide +kernel
theorem dX12_undo_30 : decode cX12_undo 30 = .ok (.iload_n 1, 1) := by decide +kernel
theorem dX12_undo_31 : decode cX12_undo 31 = .ok (.iaload, 1) := by decide +kernel
theorem dX12_undo_32 : decode cX12_undo 32 = .ok (.iastore, 1) := by decide +kernel
theorem dX12_undo_33 : decode cX12_undo 33 = .ok (.iinc 1 1, 3) := by decide +kernel
theorem dX12_undo_36 : decode cX12_undo 36 = .ok (.goto (-21), 3) := by decide +kernel
theorem dX12_undo_39 : decode cX12_undo 39 = .ok (.aload_n 0, 1) := by decide +kernel
theorem dX12_undo_40 : decode cX12_undo 40 = .ok (.getfield 9, 3) := by decide +kernel
theorem dX12_undo_43 : decode cX12_undo 43 = .ok (.iconst 1, 1) := by decide +kernel
theorem dX12_undo_44 : decode cX12_undo 44 = .ok (.iaload, 1) := by decide +kernel
theorem dX12_undo_45 : decode cX12_undo 45 = .ok (.ireturn, 1) := by decide +kernel
theorem dX12_tear_0 : decode cX12_tear 0 = .ok (.aload_n 0, 1) := by decide +kernel
theorem dX12_tear_1 : decode cX12_tear 1 = .ok (.getfield 252, 3) := by decide +kernel
theorem dX12_tear_4 : decode cX12_tear 4 = .ok (.ifCond .eq 7, 3) := by decide +kernel
theorem dX12_tear_7 : decode cX12_tear 7 = .ok (.iconst 1, 1) := by decide +kernel
theorem dX12_tear_8 : decode cX12_tear 8 = .ok (.goto 4, 3) := by decide +kernel
theorem dX12_tear_11 : decode cX12_tear 11 = .ok (.iconst 0, 1) := by decide +kernel
theorem dX12_tear_12 : decode cX12_tear 12 = .ok (.istore_n 1, 1) := by decide +kernel
theorem dX12_tear_13 : decode cX12_tear 13 = .ok (.aload_n 0, 1) := by decide +kernel
theorem dX12_tear_14 : decode cX12_tear 14 = .ok (.iconst 0, 1) := by decide +kernel
theorem dX12_tear_15 : decode cX12_tear 15 = .ok (.putfield 252, 3) := by decide +kernel
theorem dX12_tear_18 : decode cX12_tear 18 = .ok (.iload_n 1, 1) := by decide +kernel
theorem dX12_tear_19 : decode cX12_tear 19 = .ok (.ireturn, 1) := by decide +kernel
theorem dX12_count_0 : decode cX12_count 0 = .ok (.iload_n 1, 1) := by decide +kernel
theorem dX12_count_1 : decode cX12_count 1 = .ok (.tableswitch 58 0 3 #[31, 38, 45, 50], 31) := by decide +kernel
theorem dX12_count_32 : decode cX12_count 32 = .ok (.aload_n 0, 1) := by decide +kernel
theorem dX12_count_33 : decode cX12_count 33 = .ok (.getfield 9, 3) := by decide +kernel
theorem dX12_count_36 : decode cX12_count 36 = .ok (.iconst 1, 1) := by decide +kernel
theorem dX12_count_37 : decode cX12_count 37 = .ok (.iaload, 1) := by decide +kernel
theorem dX12_count_38 : decode cX12_count 38 = .ok (.ireturn, 1) := by decide +kernel
theorem dX12_count_39 : decode cX12_count 39 = .ok (.aload_n 0, 1) := by decide +kernel
theorem dX12_count_40 : decode cX12_count 40 = .ok (.getfield 9, 3) := by decide +kernel
theorem dX12_count_43 : decode cX12_count 43 = .ok (.iconst 2, 1) := by decide +kernel
theorem dX12_count_44 : decode cX12_count 44 = .ok (.iaload, 1) := by decide +kernel
theorem dX12_count_45 : decode cX12_count 45 = .ok (.ireturn, 1) := by decide +kernel
theorem dX12_count_46 : decode cX12_count 46 = .ok (.aload_n 0, 1) := by decide +kernel
theorem dX12_count_47 : decode cX12_count 47 = .ok (.getfield 182, 3) := by decide +kernel
theorem dX12_count_50 : decode cX12_count 50 = .ok (.ireturn, 1) := by decide +kernel
theorem dX12_count_51 : decode cX12_count 51 = .ok (.aload_n 0, 1) := by decide +kernel
theorem dX12_count_52 : decode cX12_count 52 = .ok (.invokevirtual 142, 3) := by decide +kernel
theorem dX12_count_55 : decode cX12_count 55 = .ok (.invokestatic 256, 3) := by decide +kernel
theorem dX12_count_58 : decode cX12_count 58 = .ok (.ireturn, 1) := by decide +kernel
theorem dX12_count_59 : decode cX12_count 59 = .ok (.aload_n 0, 1) := by decide +kernel
theorem dX12_count_60 : decode cX12_count 60 = .ok (.iconst 0, 1) := by decide +kernel
theorem dX12_count_61 : decode cX12_count 61 = .ok (.invokevirtual 112, 3) := by decide +kernel
theorem dX12_count_64 : decode cX12_count 64 = .ok (.ireturn, 1) := by decide +kernel
theorem dX12_status_0 : decode cX12_status 0 = .ok (.iload_n 1, 1) := by decide +kernel
theorem dX12_status_1 : decode cX12_status 1 = .ok (.iconst (-1), 1) := by decide +kernel
theorem dX12_status_2 : decode cX12_status 2 = .ok (.bipush 6, 2) := by decide +kernel
theorem dX12_status_4 : decode cX12_status 4 = .ok (.invokestatic 52, 3) := by decide +kernel
theorem dX12_status_7 : decode cX12_status 7 = .ok (.ifCond .ne 9, 3) := by decide +kernel
theorem dX12_status_10 : decode cX12_status 10 = .ok (.aload_n 0, 1) := by decide +kernel
theorem dX12_status_11 : decode cX12_status 11 = .ok (.iconst 0, 1) := by decide +kernel
theorem dX12_status_12 : decode cX12_status 12 = .ok (.invokevirtual 112, 3) := by decide +kernel
theorem dX12_status_15 : decode cX12_status 15 = .ok (.ireturn, 1) := by decide +kernel
theorem dX12_status_16 : decode cX12_status 16 = .ok (.iconst 0, 1) := by decide +kernel
theorem dX12_status_17 : decode cX12_status 17 = .ok (.istore_n 2, 1) := by decide +kernel
theorem dX12_status_18 : decode cX12_status 18 = .ok (.iconst 0, 1) := by decide +kernel
theorem dX12_status_19 : decode cX12_status 19 = .ok (.istore_n 3, 1) := by decide +kernel
theorem dX12_status_20 : decode cX12_status 20 = .ok (.iload_n 3, 1) := by decide +kernel
theorem dX12_status_21 : decode cX12_status 21 = .ok (.bipush 7, 2) := by decide +kernel
theorem dX12_status_23 : decode cX12_status 23 = .ok (.if_icmp .ge 32, 3) := by decide +kernel
theorem dX12_status_26 : decode cX12_status 26 = .ok (.iload_n 2, 1) := by decide +kernel
theorem dX12_status_27 : decode cX12_status 27 = .ok (.iload_n 1, 1) := by decide +kernel
theorem dX12_status_28 : decode cX12_status 28 = .ok (.iconst (-1), 1) := by decide +kernel
theorem dX12_status_29 : decode cX12_status 29 = .ok (.if_icmp .eq 8, 3) := by decide +kernel
theorem dX12_status_32 : decode cX12_status 32 = .ok (.iload_n 1, 1) := by decide +kernel
theorem dX12_status_33 : decode cX12_status 33 = .ok (.iload_n 3, 1) := by decide +kernel
theorem dX12_status_34 : decode cX12_status 34 = .ok (.if_icmp .ne 12, 3) := by decide +kernel
theorem dX12_status_37 : decode cX12_status 37 = .ok (.aload_n 0, 1) := by decide +kernel
theorem dX12_status_38 : decode cX12_status 38 = .ok (.getfield 19, 3) := by decide +kernel
theorem dX12_status_41 : decode cX12_status 41 = .ok (.iload_n 3, 1) := by decide +kernel
theorem dX12_status_42 : decode cX12_status 42 = .ok (.iaload, 1) := by decide +kernel
theorem dX12_status_43 : decode cX12_status 43 = .ok (.goto 4, 3) := by decide +kernel
theorem dX12_status_46 : decode cX12_status 46 = .ok (.iconst 0, 1) := by decide +kernel
theorem dX12_status_47 : decode cX12_status 47 = .ok (.iadd, 1) := by decide +kernel
theorem dX12_status_48 : decode cX12_status 48 = .ok (.istore_n 2, 1) := by decide +kernel
theorem dX12_status_49 : decode cX12_status 49 = .ok (.iinc 3 1, 3) := by decide +kernel
theorem dX12_status_52 : decode cX12_status 52 = .ok (.goto (-32), 3) := by decide +kernel
theorem dX12_status_55 : decode cX12_status 55 = .ok (.iload_n 2, 1) := by decide +kernel
theorem dX12_status_56 : decode cX12_status 56 = .ok (.ireturn, 1) := by decide +kernel
theorem dJ6_bitCount_0f7a4_0 : decode cJ6_bitCount_0f7a4 0 = .ok (.iload_n 0, 1) := by decide +kernel
theorem dJ6_bitCount_0f7a4_1 : decode cJ6_bitCount_0f7a4 1 = .ok (.iload_n 0, 1) := by decide +kernel
theorem dJ6_bitCount_0f7a4_2 : decode cJ6_bitCount_0f7a4 2 = .ok (.iconst 1, 1) := by decide +kernel
theorem dJ6_bitCount_0f7a4_3 : decode cJ6_bitCount_0f7a4 3 = .ok (.iushr, 1) := by decide +kernel
theorem dJ6_bitCount_0f7a4_4 : decode cJ6_bitCount_0f7a4 4 = .ok (.ldc_w 265, 3) := by decide +kernel
theorem dJ6_bitCount_0f7a4_7 : decode cJ6_bitCount_0f7a4 7 = .ok (.iand, 1) := by decide +kernel
theorem dJ6_bitCount_0f7a4_8 : decode cJ6_bitCount_0f7a4 8 = .ok (.isub, 1) := by decide +kernel
theorem dJ6_bitCount_0f7a4_9 : decode cJ6_bitCount_0f7a4 9 = .ok (.istore_n 0, 1) := by decide +kernel
theorem dJ6_bitCount_0f7a4_10 : decode cJ6_bitCount_0f7a4 10 = .ok (.iload_n 0, 1) := by decide +kernel
theorem dJ6_bitCount_0f7a4_11 : decode cJ6_bitCount_0f7a4 11 = .ok (.ldc_w 266, 3) := by decide +kernel
theorem dJ6_bitCount_0f7a4_14 : decode cJ6_bitCount_0f7a4 14 = .ok (.iand, 1) := by decide +kernel
theorem dJ6_bitCount_0f7a4_15 : decode cJ6_bitCount_0f7a4 15 = .ok (.iload_n 0, 1) := by decide +kernel
theorem dJ6_bitCount_0f7a4_16 : decode cJ6_bitCount_0f7a4 16 = .ok (.iconst 2, 1) := by decide +kernel
theorem dJ6_bitCount_0f7a4_17 : decode cJ6_bitCount_0f7a4 17 = .ok (.iushr, 1) := by decide +kernel
theorem dJ6_bitCount_0f7a4_18 : decode cJ6_bitCount_0f7a4 18 = .ok (.ldc_w 266, 3) := by decide +kernel
theorem dJ6_bitCount_0f7a4_21 : decode cJ6_bitCount_0f7a4 21 = .ok (.iand, 1) := by decide +kernel
theorem dJ6_bitCount_0f7a4_22 : decode cJ6_bitCount_0f7a4 22 = .ok (.iadd, 1) := by decide +kernel
theorem dJ6_bitCount_0f7a4_23 : decode cJ6_bitCount_0f7a4 23 = .ok (.istore_n 0, 1) := by decide +kernel
theorem dJ6_bitCount_0f7a4_24 : decode cJ6_bitCount_0f7a4 24 = .ok (.iload_n 0, 1) := by decide +kernel
theorem dJ6_bitCount_0f7a4_25 : decode cJ6_bitCount_0f7a4 25 = .ok (.iload_n 0, 1) := by decide +kernel
theorem dJ6_bitCount_0f7a4_26 : decode cJ6_bitCount_0f7a4 26 = .ok (.iconst 4, 1) := by decide +kernel
theorem dJ6_bitCount_0f7a4_27 : decode cJ6_bitCount_0f7a4 27 = .ok (.iushr, 1) := by decide +kernel
theorem dJ6_bitCount_0f7a4_28 : decode cJ6_bitCount_0f7a4 28 = .ok (.iadd, 1) := by decide +kernel
theorem dJ6_bitCount_0f7a4_29 : decode cJ6_bitCount_0f7a4 29 = .ok (.ldc_w 267, 3) := by decide +kernel
theorem dJ6_bitCount_0f7a4_32 : decode cJ6_bitCount_0f7a4 32 = .ok (.iand, 1) := by decide +kernel
theorem dJ6_bitCount_0f7a4_33 : decode cJ6_bitCount_0f7a4 33 = .ok (.istore_n 0, 1) := by decide +kernel
theorem dJ6_bitCount_0f7a4_34 : decode cJ6_bitCount_0f7a4 34 = .ok (.iload_n 0, 1) := by decide +kernel
theorem dJ6_bitCount_0f7a4_35 : decode cJ6_bitCount_0f7a4 35 = .ok (.iload_n 0, 1) := by decide +kernel
theorem dJ6_bitCount_0f7a4_36 : decode cJ6_bitCount_0f7a4 36 = .ok (.bipush 8, 2) := by decide +kernel
theorem dJ6_bitCount_0f7a4_38 : decode cJ6_bitCount_0f7a4 38 = .ok (.iushr, 1) := by decide +kernel
theorem dJ6_bitCount_0f7a4_39 : decode cJ6_bitCount_0f7a4 39 = .ok (.iadd, 1) := by decide +kernel
theorem dJ6_bitCount_0f7a4_40 : decode cJ6_bitCount_0f7a4 40 = .ok (.istore_n 0, 1) := by decide +kernel
theorem dJ6_bitCount_0f7a4_41 : decode cJ6_bitCount_0f7a4 41 = .ok (.iload_n 0, 1) := by decide +kernel
theorem dJ6_bitCount_0f7a4_42 : decode cJ6_bitCount_0f7a4 42 = .ok (.iload_n 0, 1) := by decide +kernel
theorem dJ6_bitCount_0f7a4_43 : decode cJ6_bitCount_0f7a4 43 = .ok (.bipush 16, 2) := by decide +kernel
theorem dJ6_bitCount_0f7a4_45 : decode cJ6_bitCount_0f7a4 45 = .ok (.iushr, 1) := by decide +kernel
theorem dJ6_bitCount_0f7a4_46 : decode cJ6_bitCount_0f7a4 46 = .ok (.iadd, 1) := by decide +kernel
theorem dJ6_bitCount_0f7a4_47 : decode cJ6_bitCount_0f7a4 47 = .ok (.istore_n 0, 1) := by decide +kernel
theorem dJ6_bitCount_0f7a4_48 : decode cJ6_bitCount_0f7a4 48 = .ok (.iload_n 0, 1) := by decide +kernel
theorem dJ6_bitCount_0f7a4_49 : decode cJ6_bitCount_0f7a4 49 = .ok (.bipush 63, 2) := by decide +kernel
theorem dJ6_bitCount_0f7a4_51 : decode cJ6_bitCount_0f7a4 51 = .ok (.iand, 1) := by decide +kernel
theorem dJ6_bitCount_0f7a4_52 : decode cJ6_bitCount_0f7a4 52 = .ok (.ireturn, 1) := by decide +kernel
theorem dJ9_min_7cf53_0 : decode cJ9_min_7cf53 0 = .ok (.iload_n 0, 1) := by decide +kernel
theorem dJ9_min_7cf53_1 : decode cJ9_min_7cf53 1 = .ok (.iload_n 1, 1) := by decide +kernel
theorem dJ9_min_7cf53_2 : decode cJ9_min_7cf53 2 = .ok (.if_icmp .gt 7, 3) := by decide +kernel
theorem dJ9_min_7cf53_5 : decode cJ9_min_7cf53 5 = .ok (.iload_n 0, 1) := by decide +kernel
theorem dJ9_min_7cf53_6 : decode cJ9_min_7cf53 6 = .ok (.goto 4, 3) := by decide +kernel
theorem dJ9_min_7cf53_9 : decode cJ9_min_7cf53 9 = .ok (.iload_n 1, 1) := by decide +kernel
theorem dJ9_min_7cf53_10 : decode cJ9_min_7cf53 10 = .ok (.ireturn, 1) := by decide +kernel
theorem dJ0_length_8abf5_0 : decode cJ0_length_8abf5 0 = .ok (.aload_n 0, 1) := by decide +kernel
theorem dJ0_length_8abf5_1 : decode cJ0_length_8abf5 1 = .ok (.getfield 9, 3) := by decide +kernel
theorem dJ0_length_8abf5_4 : decode cJ0_length_8abf5 4 = .ok (.arraylength, 1) := by decide +kernel
theorem dJ0_length_8abf5_5 : decode cJ0_length_8abf5 5 = .ok (.aload_n 0, 1) := by decide +kernel
theorem dJ0_length_8abf5_6 : decode cJ0_length_8abf5 6 = .ok (.invokevirtual 335, 3) := by decide +kernel
theorem dJ0_length_8abf5_9 : decode cJ0_length_8abf5 9 = .ok (.ishr, 1) := by decide +kernel
theorem dJ0_length_8abf5_10 : decode cJ0_length_8abf5 10 = .ok (.ireturn, 1) := by decide +kernel
theorem dJ0_charAt_5068e_0 : decode cJ0_charAt_5068e 0 = .ok (.aload_n 0, 1) := by decide +kernel
theorem dJ0_charAt_5068e_1 : decode cJ0_charAt_5068e 1 = .ok (.invokevirtual 492, 3) := by decide +kernel
theorem dJ0_charAt_5068e_4 : decode cJ0_charAt_5068e 4 = .ok (.ifCond .eq 12, 3) := by decide +kernel
theorem dJ0_charAt_5068e_7 : decode cJ0_charAt_5068e 7 = .ok (.aload_n 0, 1) := by decide +kernel
theorem dJ0_charAt_5068e_8 : decode cJ0_charAt_5068e 8 = .ok (.getfield 9, 3) := by decide +kernel
theorem dJ0_charAt_5068e_11 : decode cJ0_charAt_5068e 11 = .ok (.iload_n 1, 1) := by decide +kernel
theorem dJ0_charAt_5068e_12 : decode cJ0_charAt_5068e 12 = .ok (.invokestatic 495, 3) := by decide +kernel
theorem dJ0_charAt_5068e_15 : decode cJ0_charAt_5068e 15 = .ok (.ireturn, 1) := by decide +kernel
theorem dJ0_charAt_5068e_16 : decode cJ0_charAt_5068e 16 = .ok (.aload_n 0, 1) := by decide +kernel
theorem dJ0_charAt_5068e_17 : decode cJ0_charAt_5068e 17 = .ok (.getfield 9, 3) := by decide +kernel
theorem dJ0_charAt_5068e_20 : decode cJ0_charAt_5068e 20 = .ok (.iload_n 1, 1) := by decide +kernel
theorem dJ0_charAt_5068e_21 : decode cJ0_charAt_5068e 21 = .ok (.invokestatic 498, 3) := by decide +kernel
theorem dJ0_charAt_5068e_24 : decode cJ0_charAt_5068e 24 = .ok (.ireturn, 1) := by decide +kernel
theorem dJ0_coder_7d493_0 : decode cJ0_coder_7d493 0 = .ok (.getstatic 38, 3) := by decide +kernel
theorem dJ0_coder_7d493_3 : decode cJ0_coder_7d493 3 = .ok (.ifCond .eq 10, 3) := by decide +kernel
theorem dJ0_coder_7d493_6 : decode cJ0_coder_7d493 6 = .ok (.aload_n 0, 1) := by decide +kernel
theorem dJ0_coder_7d493_7 : decode cJ0_coder_7d493 7 = .ok (.getfield 15, 3) := by decide +kernel
theorem dJ0_coder_7d493_10 : decode cJ0_coder_7d493 10 = .ok (.goto 4, 3) := by decide +kernel
theorem dJ0_coder_7d493_13 : decode cJ0_coder_7d493 13 = .ok (.iconst 1, 1) := by decide +kernel
theorem dJ0_coder_7d493_14 : decode cJ0_coder_7d493 14 = .ok (.ireturn, 1) := by decide +kernel
theorem dJ0_isLatin1_aae02_0 : decode cJ0_isLatin1_aae02 0 = .ok (.getstatic 38, 3) := by decide +kernel
theorem dJ0_isLatin1_aae02_3 : decode cJ0_isLatin1_aae02 3 = .ok (.ifCond .eq 14, 3) := by decide +kernel
theorem dJ0_isLatin1_aae02_6 : decode cJ0_isLatin1_aae02 6 = .ok (.aload_n 0, 1) := by decide +kernel
theorem dJ0_isLatin1_aae02_7 : decode cJ0_isLatin1_aae02 7 = .ok (.getfield 15, 3) := by decide +kernel
theorem dJ0_isLatin1_aae02_10 : decode cJ0_isLatin1_aae02 10 = .ok (.ifCond .ne 7, 3) := by decide +kernel
theorem dJ0_isLatin1_aae02_13 : decode cJ0_isLatin1_aae02 13 = .ok (.iconst 1, 1) := by decide +kernel
theorem dJ0_isLatin1_aae02_14 : decode cJ0_isLatin1_aae02 14 = .ok (.goto 4, 3) := by decide +kernel
theorem dJ0_isLatin1_aae02_17 : decode cJ0_isLatin1_aae02 17 = .ok (.iconst 0, 1) := by decide +kernel
theorem dJ0_isLatin1_aae02_18 : decode cJ0_isLatin1_aae02 18 = .ok (.ireturn, 1) := by decide +kernel
theorem dJ0_checkIndex_df160_0 : decode cJ0_checkIndex_df160 0 = .ok (.iload_n 0, 1) := by decide +kernel
theorem dJ0_checkIndex_df160_1 : decode cJ0_checkIndex_df160 1 = .ok (.iload_n 1, 1) := by decide +kernel
theorem dJ0_checkIndex_df160_2 : decode cJ0_checkIndex_df160 2 = .ok (.getstatic 1053, 3) := by decide +kernel
theorem dJ0_checkIndex_df160_5 : decode cJ0_checkIndex_df160 5 = .ok (.invokestatic 1059, 3) := by decide +kernel
theorem dJ0_checkIndex_df160_8 : decode cJ0_checkIndex_df160 8 = .ok (.pop, 1) := by decide +kernel
theorem dJ0_checkIndex_df160_9 : decode cJ0_checkIndex_df160 9 = .ok (.return_, 1) := by decide +kernel
theorem dJ1_charAt_3b067_0 : decode cJ1_charAt_3b067 0 = .ok (.iload_n 1, 1) := by decide +kernel
theorem dJ1_charAt_3b067_1 : decode cJ1_charAt_3b067 1 = .ok (.aload_n 0, 1) := by decide +kernel
theorem dJ1_charAt_3b067_2 : decode cJ1_charAt_3b067 2 = .ok (.arraylength, 1) := by decide +kernel
theorem dJ1_charAt_3b067_3 : decode cJ1_charAt_3b067 3 = .ok (.invokestatic 9, 3) := by decide +kernel
theorem dJ1_charAt_3b067_6 : decode cJ1_charAt_3b067 6 = .ok (.aload_n 0, 1) := by decide +kernel
theorem dJ1_charAt_3b067_7 : decode cJ1_charAt_3b067 7 = .ok (.iload_n 1, 1) := by decide +kernel
theorem dJ1_charAt_3b067_8 : decode cJ1_charAt_3b067 8 = .ok (.baload, 1) := by decide +kernel
theorem dJ1_charAt_3b067_9 : decode cJ1_charAt_3b067 9 = .ok (.sipush 255, 3) := by decide +kernel
theorem dJ1_charAt_3b067_12 : decode cJ1_charAt_3b067 12 = .ok (.iand, 1) := by decide +kernel
theorem dJ1_charAt_3b067_13 : decode cJ1_charAt_3b067 13 = .ok (.i2c, 1) := by decide +kernel
theorem dJ1_charAt_3b067_14 : decode cJ1_charAt_3b067 14 = .ok (.ireturn, 1) := by decide +kernel
theorem dJ2_getChar_3b067_0 : decode cJ2_getChar_3b067 0 = .ok (.getstatic 44, 3) := by decide +kernel
theorem dJ2_getChar_3b067_3 : decode cJ2_getChar_3b067 3 = .ok (.ifCond .ne 25, 3) := by decide +kernel
theorem dJ2_getChar_3b067_6 : decode cJ2_getChar_3b067 6 = .ok (.iload_n 1, 1) := by decide +kernel
theorem dJ2_getChar_3b067_7 : decode cJ2_getChar_3b067 7 = .ok (.ifCond .lt 11, 3) := by decide +kernel
theorem dJ2_getChar_3b067_10 : decode cJ2_getChar_3b067 10 = .ok (.iload_n 1, 1) := by decide +kernel
theorem dJ2_getChar_3b067_11 : decode cJ2_getChar_3b067 11 = .ok (.aload_n 0, 1) := by decide +kernel
theorem dJ2_getChar_3b067_12 : decode cJ2_getChar_3b067 12 = .ok (.invokestatic 48, 3) := by decide +kernel
theorem dJ2_getChar_3b067_15 : decode cJ2_getChar_3b067 15 = .ok (.if_icmp .lt 13, 3) := by decide +kernel
theorem dJ2_getChar_3b067_18 : decode cJ2_getChar_3b067 18 = .ok (.new 52, 3) := by decide +kernel
theorem dJ2_getChar_3b067_21 : decode cJ2_getChar_3b067 21 = .ok (.dup, 1) := by decide +kernel
theorem dJ2_getChar_3b067_22 : decode cJ2_getChar_3b067 22 = .ok (.ldc 54, 2) := by decide +kernel
theorem dJ2_getChar_3b067_24 : decode cJ2_getChar_3b067 24 = .ok (.invokespecial 56, 3) := by decide +kernel
theorem dJ2_getChar_3b067_27 : decode cJ2_getChar_3b067 27 = .ok (.athrow, 1) := by decide +kernel
theorem dJ2_getChar_3b067_28 : decode cJ2_getChar_3b067 28 = .ok (.iload_n 1, 1) := by decide +kernel
theorem dJ2_getChar_3b067_29 : decode cJ2_getChar_3b067 29 = .ok (.iconst 1, 1) := by decide +kernel
theorem dJ2_getChar_3b067_30 : decode cJ2_getChar_3b067 30 = .ok (.ishl, 1) := by decide +kernel
theorem dJ2_getChar_3b067_31 : decode cJ2_getChar_3b067 31 = .ok (.istore_n 1, 1) := by decide +kernel
theorem dJ2_getChar_3b067_32 : decode cJ2_getChar_3b067 32 = .ok (.aload_n 0, 1) := by decide +kernel
theorem dJ2_getChar_3b067_33 : decode cJ2_getChar_3b067 33 = .ok (.iload_n 1, 1) := by decide +kernel
theorem dJ2_getChar_3b067_34 : decode cJ2_getChar_3b067 34 = .ok (.iinc 1 1, 3) := by decide +kernel
theorem dJ2_getChar_3b067_37 : decode cJ2_getChar_3b067 37 = .ok (.baload, 1) := by decide +kernel
theorem dJ2_getChar_3b067_38 : decode cJ2_getChar_3b067 38 = .ok (.sipush 255, 3) := by decide +kernel
theorem dJ2_getChar_3b067_41 : decode cJ2_getChar_3b067 41 = .ok (.iand, 1) := by decide +kernel
theorem dJ2_getChar_3b067_42 : decode cJ2_getChar_3b067 42 = .ok (.getstatic 59, 3) := by decide +kernel
theorem dJ2_getChar_3b067_45 : decode cJ2_getChar_3b067 45 = .ok (.ishl, 1) := by decide +kernel
theorem dJ2_getChar_3b067_46 : decode cJ2_getChar_3b067 46 = .ok (.aload_n 0, 1) := by decide +kernel
theorem dJ2_getChar_3b067_47 : decode cJ2_getChar_3b067 47 = .ok (.iload_n 1, 1) := by decide +kernel
theorem dJ2_getChar_3b067_48 : decode cJ2_getChar_3b067 48 = .ok (.baload, 1) := by decide +kernel
theorem dJ2_getChar_3b067_49 : decode cJ2_getChar_3b067 49 = .ok (.sipush 255, 3) := by decide +kernel
theorem dJ2_getChar_3b067_52 : decode cJ2_getChar_3b067 52 = .ok (.iand, 1) := by decide +kernel
theorem dJ2_getChar_3b067_53 : decode cJ2_getChar_3b067 53 = .ok (.getstatic 63, 3) := by decide +kernel
theorem dJ2_getChar_3b067_56 : decode cJ2_getChar_3b067 56 = .ok (.ishl, 1) := by decide +kernel
theorem dJ2_getChar_3b067_57 : decode cJ2_getChar_3b067 57 = .ok (.ior, 1) := by decide +kernel
theorem dJ2_getChar_3b067_58 : decode cJ2_getChar_3b067 58 = .ok (.i2c, 1) := by decide +kernel
theorem dJ2_getChar_3b067_59 : decode cJ2_getChar_3b067 59 = .ok (.ireturn, 1) := by decide +kernel
theorem dJ2_length_9d52b_0 : decode cJ2_length_9d52b 0 = .ok (.aload_n 0, 1) := by decide +kernel
theorem dJ2_length_9d52b_1 : decode cJ2_length_9d52b 1 = .ok (.arraylength, 1) := by decide +kernel
theorem dJ2_length_9d52b_2 : decode cJ2_length_9d52b 2 = .ok (.iconst 1, 1) := by decide +kernel
theorem dJ2_length_9d52b_3 : decode cJ2_length_9d52b 3 = .ok (.ishr, 1) := by decide +kernel
theorem dJ2_length_9d52b_4 : decode cJ2_length_9d52b 4 = .ok (.ireturn, 1) := by decide +kernel
theorem dJ2_charAt_3b067_0 : decode cJ2_charAt_3b067 0 = .ok (.iload_n 1, 1) := by decide +kernel
theorem dJ2_charAt_3b067_1 : decode cJ2_charAt_3b067 1 = .ok (.aload_n 0, 1) := by decide +kernel
theorem dJ2_charAt_3b067_2 : decode cJ2_charAt_3b067 2 = .ok (.invokestatic 67, 3) := by decide +kernel
theorem dJ2_charAt_3b067_5 : decode cJ2_charAt_3b067 5 = .ok (.aload_n 0, 1) := by decide +kernel
theorem dJ2_charAt_3b067_6 : decode cJ2_charAt_3b067 6 = .ok (.iload_n 1, 1) := by decide +kernel
theorem dJ2_charAt_3b067_7 : decode cJ2_charAt_3b067 7 = .ok (.invokestatic 71, 3) := by decide +kernel
theorem dJ2_charAt_3b067_10 : decode cJ2_charAt_3b067 10 = .ok (.ireturn, 1) := by decide +kernel
theorem dJ2_checkIndex_2214a_0 : decode cJ2_checkIndex_2214a 0 = .ok (.iload_n 0, 1) := by decide +kernel
theorem dJ2_checkIndex_2214a_1 : decode cJ2_checkIndex_2214a 1 = .ok (.aload_n 1, 1) := by decide +kernel
theorem dJ2_checkIndex_2214a_2 : decode cJ2_checkIndex_2214a 2 = .ok (.invokestatic 48, 3) := by decide +kernel
theorem dJ2_checkIndex_2214a_5 : decode cJ2_checkIndex_2214a 5 = .ok (.invokestatic 414, 3) := by decide +kernel
theorem dJ2_checkIndex_2214a_8 : decode cJ2_checkIndex_2214a 8 = .ok (.return_, 1) := by decide +kernel
theorem dJ3_checkIndex_8e157_0 : decode cJ3_checkIndex_8e157 0 = .ok (.iload_n 0, 1) := by decide +kernel
theorem dJ3_checkIndex_8e157_1 : decode cJ3_checkIndex_8e157 1 = .ok (.ifCond .lt 8, 3) := by decide +kernel
theorem dJ3_checkIndex_8e157_4 : decode cJ3_checkIndex_8e157 4 = .ok (.iload_n 0, 1) := by decide +kernel
theorem dJ3_checkIndex_8e157_5 : decode cJ3_checkIndex_8e157 5 = .ok (.iload_n 1, 1) := by decide +kernel
theorem dJ3_checkIndex_8e157_6 : decode cJ3_checkIndex_8e157 6 = .ok (.if_icmp .lt 10, 3) := by decide +kernel
theorem dJ3_checkIndex_8e157_9 : decode cJ3_checkIndex_8e157 9 = .ok (.aload_n 2, 1) := by decide +kernel
theorem dJ3_checkIndex_8e157_10 : decode cJ3_checkIndex_8e157 10 = .ok (.iload_n 0, 1) := by decide +kernel
theorem dJ3_checkIndex_8e157_11 : decode cJ3_checkIndex_8e157 11 = .ok (.iload_n 1, 1) := by decide +kernel
theorem dJ3_checkIndex_8e157_12 : decode cJ3_checkIndex_8e157 12 = .ok (.invokestatic 95, 3) := by decide +kernel
theorem dJ3_checkIndex_8e157_15 : decode cJ3_checkIndex_8e157 15 = .ok (.athrow, 1) := by decide +kernel
theorem dJ3_checkIndex_8e157_16 : decode cJ3_checkIndex_8e157 16 = .ok (.iload_n 0, 1) := by decide +kernel
theorem dJ3_checkIndex_8e157_17 : decode cJ3_checkIndex_8e157 17 = .ok (.ireturn, 1) := by decide +kernel
theorem dL_law_0 : decode cL_law 0 = .ok (.new 7, 3) := by decide +kernel
theorem dL_law_3 : decode cL_law 3 = .ok (.dup, 1) := by decide +kernel
theorem dL_law_4 : decode cL_law 4 = .ok (.invokespecial 9, 3) := by decide +kernel
theorem dL_law_7 : decode cL_law 7 = .ok (.astore_n 1, 1) := by decide +kernel
theorem dL_law_8 : decode cL_law 8 = .ok (.new 10, 3) := by decide +kernel
theorem dL_law_11 : decode cL_law 11 = .ok (.dup, 1) := by decide +kernel
theorem dL_law_12 : decode cL_law 12 = .ok (.invokespecial 12, 3) := by decide +kernel
theorem dL_law_15 : decode cL_law 15 = .ok (.astore_n 2, 1) := by decide +kernel
theorem dL_law_16 : decode cL_law 16 = .ok (.iconst 0, 1) := by decide +kernel
theorem dL_law_17 : decode cL_law 17 = .ok (.istore_n 3, 1) := by decide +kernel
theorem dL_law_18 : decode cL_law 18 = .ok (.iload_n 3, 1) := by decide +kernel
theorem dL_law_19 : decode cL_law 19 = .ok (.aload_n 0, 1) := by decide +kernel
theorem dL_law_20 : decode cL_law 20 = .ok (.arraylength, 1) := by decide +kernel
theorem dL_law_21 : decode cL_law 21 = .ok (.bipush 6, 2) := by decide +kernel
theorem dL_law_23 : decode cL_law 23 = .ok (.isub, 1) := by decide +kernel
theorem dL_law_24 : decode cL_law 24 = .ok (.if_icmp .gt 1444, 3) := by decide +kernel
theorem dL_law_27 : decode cL_law 27 = .ok (.aload_n 0, 1) := by decide +kernel
theorem dL_law_28 : decode cL_law 28 = .ok (.iload_n 3, 1) := by decide +kernel
theorem dL_law_29 : decode cL_law 29 = .ok (.iaload, 1) := by decide +kernel
theorem dL_law_30 : decode cL_law 30 = .ok (.bipush 63, 2) := by decide +kernel
theorem dL_law_32 : decode cL_law 32 = .ok (.iand, 1) := by decide +kernel
theorem dL_law_33 : decode cL_law 33 = .ok (.tableswitch 1429 0 38 #[171, 194, 227, 270, 303, 336, 369, 402, 435, 468, 501, 524, 567, 590, 613, 656, 689, 712, 745, 778, 811, 844, 897, 930, 953, 996, 1029, 1042, 1055, 1098, 1172, 1235, 1268, 1301, 1344, 1357, 1370, 1383, 1406], 171) := by decide +kernel
theorem dL_law_204 : decode cL_law 204 = .ok (.aload_n 1, 1) := by decide +kernel
theorem dL_law_205 : decode cL_law 205 = .ok (.aload_n 0, 1) := by decide +kernel
theorem dL_law_206 : decode cL_law 206 = .ok (.iload_n 3, 1) := by decide +kernel
theorem dL_law_207 : decode cL_law 207 = .ok (.iconst 1, 1) := by decide +kernel
theorem dL_law_208 : decode cL_law 208 = .ok (.iadd, 1) := by decide +kernel
theorem dL_law_209 : decode cL_law 209 = .ok (.iaload, 1) := by decide +kernel
theorem dL_law_210 : decode cL_law 210 = .ok (.invokevirtual 13, 3) := by decide +kernel
theorem dL_law_213 : decode cL_law 213 = .ok (.aload_n 2, 1) := by decide +kernel
theorem dL_law_214 : decode cL_law 214 = .ok (.aload_n 0, 1) := by decide +kernel
theorem dL_law_215 : decode cL_law 215 = .ok (.iload_n 3, 1) := by decide +kernel
theorem dL_law_216 : decode cL_law 216 = .ok (.iconst 1, 1) := by decide +kernel
theorem dL_law_217 : decode cL_law 217 = .ok (.iadd, 1) := by decide +kernel
theorem dL_law_218 : decode cL_law 218 = .ok (.iaload, 1) := by decide +kernel
theorem dL_law_219 : decode cL_law 219 = .ok (.invokevirtual 17, 3) := by decide +kernel
theorem dL_law_222 : decode cL_law 222 = .ok (.if_icmp .eq 1240, 3) := by decide +kernel
theorem dL_law_225 : decode cL_law 225 = .ok (.iconst 0, 1) := by decide +kernel
theorem dL_law_226 : decode cL_law 226 = .ok (.ireturn, 1) := by decide +kernel
theorem dL_law_227 : decode cL_law 227 = .ok (.aload_n 1, 1) := by decide +kernel
theorem dL_law_228 : decode cL_law 228 = .ok (.aload_n 0, 1) := by decide +kernel
theorem dL_law_229 : decode cL_law 229 = .ok (.iload_n 3, 1) := by decide +kernel
theorem dL_law_230 : decode cL_law 230 = .ok (.iconst 1, 1) := by decide +kernel
theorem dL_law_231 : decode cL_law 231 = .ok (.iadd, 1) := by decide +kernel
theorem dL_law_232 : decode cL_law 232 = .ok (.iaload, 1) := by decide +kernel
theorem dL_law_233 : decode cL_law 233 = .ok (.aload_n 0, 1) := by decide +kernel
theorem dL_law_234 : decode cL_law 234 = .ok (.iload_n 3, 1) := by decide +kernel
theorem dL_law_235 : decode cL_law 235 = .ok (.iconst 2, 1) := by decide +kernel
theorem dL_law_236 : decode cL_law 236 = .ok (.iadd, 1) := by decide +kernel
theorem dL_law_237 : decode cL_law 237 = .ok (.iaload, 1) := by decide +kernel
theorem dL_law_238 : decode cL_law 238 = .ok (.invokevirtual 18, 3) := by decide +kernel
theorem dL_law_241 : decode cL_law 241 = .ok (.aload_n 2, 1) := by decide +kernel
theorem dL_law_242 : decode cL_law 242 = .ok (.aload_n 0, 1) := by decide +kernel
theorem dL_law_243 : decode cL_law 243 = .ok (.iload_n 3, 1) := by decide +kernel
theorem dL_law_244 : decode cL_law 244 = .ok (.iconst 1, 1) := by decide +kernel
theorem dL_law_245 : decode cL_law 245 = .ok (.iadd, 1) := by decide +kernel
theorem dL_law_246 : decode cL_law 246 = .ok (.iaload, 1) := by decide +kernel
theorem dL_law_247 : decode cL_law 247 = .ok (.aload_n 0, 1) := by decide +kernel
theorem dL_law_248 : decode cL_law 248 = .ok (.iload_n 3, 1) := by decide +kernel
theorem dL_law_249 : decode cL_law 249 = .ok (.iconst 2, 1) := by decide +kernel
theorem dL_law_250 : decode cL_law 250 = .ok (.iadd, 1) := by decide +kernel
theorem dL_law_251 : decode cL_law 251 = .ok (.iaload, 1) := by decide +kernel
theorem dL_law_252 : decode cL_law 252 = .ok (.invokevirtual 22, 3) := by decide +kernel
theorem dL_law_255 : decode cL_law 255 = .ok (.if_icmp .eq 1207, 3) := by decide +kernel
theorem dL_law_258 : decode cL_law 258 = .ok (.iconst 0, 1) := by decide +kernel
theorem dL_law_259 : decode cL_law 259 = .ok (.ireturn, 1) := by decide +kernel
theorem dL_law_260 : decode cL_law 260 = .ok (.aload_n 1, 1) := by decide +kernel
theorem dL_law_261 : decode cL_law 261 = .ok (.aload_n 0, 1) := by decide +kernel
theorem dL_law_262 : decode cL_law 262 = .ok (.iload_n 3, 1) := by decide +kernel
theorem dL_law_263 : decode cL_law 263 = .ok (.iconst 1, 1) := by decide +kernel
theorem dL_law_264 : decode cL_law 264 = .ok (.iadd, 1) := by decide +kernel
theorem dL_law_265 : decode cL_law 265 = .ok (.iaload, 1) := by decide +kernel
theorem dL_law_266 : decode cL_law 266 = .ok (.aload_n 0, 1) := by decide +kernel
theorem dL_law_267 : decode cL_law 267 = .ok (.iload_n 3, 1) := by decide +kernel
theorem dL_law_268 : decode cL_law 268 = .ok (.iconst 2, 1) := by decide +kernel
theorem dL_law_269 : decode cL_law 269 = .ok (.iadd, 1) := by decide +kernel
theorem dL_law_270 : decode cL_law 270 = .ok (.iaload, 1) := by decide +kernel
theorem dL_law_271 : decode cL_law 271 = .ok (.aload_n 0, 1) := by decide +kernel
theorem dL_law_272 : decode cL_law 272 = .ok (.iload_n 3, 1) := by decide +kernel
theorem dL_law_273 : decode cL_law 273 = .ok (.iconst 3, 1) := by decide +kernel
theorem dL_law_274 : decode cL_law 274 = .ok (.iadd, 1) := by decide +kernel
theorem dL_law_275 : decode cL_law 275 = .ok (.iaload, 1) := by decide +kernel
theorem dL_law_276 : decode cL_law 276 = .ok (.invokevirtual 23, 3) := by decide +kernel
theorem dL_law_279 : decode cL_law 279 = .ok (.aload_n 2, 1) := by decide +kernel
theorem dL_law_280 : decode cL_law 280 = .ok (.aload_n 0, 1) := by decide +kernel
theorem dL_law_281 : decode cL_law 281 = .ok (.iload_n 3, 1) := by decide +kernel
theorem dL_law_282 : decode cL_law 282 = .ok (.iconst 1, 1) := by decide +kernel
theorem dL_law_283 : decode cL_law 283 = .ok (.iadd, 1) := by decide +kernel
theorem dL_law_284 : decode cL_law 284 = .ok (.iaload, 1) := by decide +kernel
theorem dL_law_285 : decode cL_law 285 = .ok (.aload_n 0, 1) := by decide +kernel
theorem dL_law_286 : decode cL_law 286 = .ok (.iload_n 3, 1) := by decide +kernel
theorem dL_law_287 : decode cL_law 287 = .ok (.iconst 2, 1) := by decide +kernel
theorem dL_law_288 : decode cL_law 288 = .ok (.iadd, 1) := by decide +kernel
theorem dL_law_289 : decode cL_law 289 = .ok (.iaload, 1) := by decide +kernel
theorem dL_law_290 : decode cL_law 290 = .ok (.aload_n 0, 1) := by decide +kernel
theorem dL_law_291 : decode cL_law 291 = .ok (.iload_n 3, 1) := by decide +kernel
theorem dL_law_292 : decode cL_law 292 = .ok (.iconst 3, 1) := by decide +kernel
theorem dL_law_293 : decode cL_law 293 = .ok (.iadd, 1) := by decide +kernel
theorem dL_law_294 : decode cL_law 294 = .ok (.iaload, 1) := by decide +kernel
theorem dL_law_295 : decode cL_law 295 = .ok (.invokevirtual 27, 3) := by decide +kernel
theorem dL_law_298 : decode cL_law 298 = .ok (.if_icmp .eq 1164, 3) := by decide +kernel
theorem dL_law_301 : decode cL_law 301 = .ok (.iconst 0, 1) := by decide +kernel
theorem dL_law_302 : decode cL_law 302 = .ok (.ireturn, 1) := by decide +kernel
theorem dL_law_303 : decode cL_law 303 = .ok (.aload_n 1, 1) := by decide +kernel
theorem dL_law_304 : decode cL_law 304 = .ok (.aload_n 0, 1) := by decide +kernel
theorem dL_law_305 : decode cL_law 305 = .ok (.iload_n 3, 1) := by decide +kernel
theorem dL_law_306 : decode cL_law 306 = .ok (.iconst 1, 1) := by decide +kernel
theorem dL_law_307 : decode cL_law 307 = .ok (.iadd, 1) := by decide +kernel
theorem dL_law_308 : decode cL_law 308 = .ok (.iaload, 1) := by decide +kernel
theorem dL_law_309 : decode cL_law 309 = .ok (.aload_n 0, 1) := by decide +kernel
theorem dL_law_310 : decode cL_law 310 = .ok (.iload_n 3, 1) := by decide +kernel
theorem dL_law_311 : decode cL_law 311 = .ok (.iconst 2, 1) := by decide +kernel
theorem dL_law_312 : decode cL_law 312 = .ok (.iadd, 1) := by decide +kernel
theorem dL_law_313 : decode cL_law 313 = .ok (.iaload, 1) := by decide +kernel
theorem dL_law_314 : decode cL_law 314 = .ok (.invokevirtual 28, 3) := by decide +kernel
theorem dL_law_317 : decode cL_law 317 = .ok (.aload_n 2, 1) := by decide +kernel
theorem dL_law_318 : decode cL_law 318 = .ok (.aload_n 0, 1) := by decide +kernel
theorem dL_law_319 : decode cL_law 319 = .ok (.iload_n 3, 1) := by decide +kernel
theorem dL_law_320 : decode cL_law 320 = .ok (.iconst 1, 1) := by decide +kernel
theorem dL_law_321 : decode cL_law 321 = .ok (.iadd, 1) := by decide +kernel
theorem dL_law_322 : decode cL_law 322 = .ok (.iaload, 1) := by decide +kernel
theorem dL_law_323 : decode cL_law 323 = .ok (.aload_n 0, 1) := by decide +kernel
theorem dL_law_324 : decode cL_law 324 = .ok (.iload_n 3, 1) := by decide +kernel
theorem dL_law_325 : decode cL_law 325 = .ok (.iconst 2, 1) := by decide +kernel
theorem dL_law_326 : decode cL_law 326 = .ok (.iadd, 1) := by decide +kernel
theorem dL_law_327 : decode cL_law 327 = .ok (.iaload, 1) := by decide +kernel
theorem dL_law_328 : decode cL_law 328 = .ok (.invokevirtual 31, 3) := by decide +kernel
theorem dL_law_331 : decode cL_law 331 = .ok (.if_icmp .eq 1131, 3) := by decide +kernel
theorem dL_law_334 : decode cL_law 334 = .ok (.iconst 0, 1) := by decide +kernel
theorem dL_law_335 : decode cL_law 335 = .ok (.ireturn, 1) := by decide +kernel
theorem dL_law_336 : decode cL_law 336 = .ok (.aload_n 1, 1) := by decide +kernel
theorem dL_law_337 : decode cL_law 337 = .ok (.aload_n 0, 1) := by decide +kernel
theorem dL_law_338 : decode cL_law 338 = .ok (.iload_n 3, 1) := by decide +kernel
theorem dL_law_339 : decode cL_law 339 = .ok (.iconst 1, 1) := by decide +kernel
theorem dL_law_340 : decode cL_law 340 = .ok (.iadd, 1) := by decide +kernel
theorem dL_law_341 : decode cL_law 341 = .ok (.iaload, 1) := by decide +kernel
theorem dL_law_342 : decode cL_law 342 = .ok (.aload_n 0, 1) := by decide +kernel
theorem dL_law_343 : decode cL_law 343 = .ok (.iload_n 3, 1) := by decide +kernel
theorem dL_law_344 : decode cL_law 344 = .ok (.iconst 2, 1) := by decide +kernel
theorem dL_law_345 : decode cL_law 345 = .ok (.iadd, 1) := by decide +kernel
theorem dL_law_346 : decode cL_law 346 = .ok (.iaload, 1) := by decide +kernel
theorem dL_law_347 : decode cL_law 347 = .ok (.invokevirtual 32, 3) := by decide +kernel
theorem dL_law_350 : decode cL_law 350 = .ok (.aload_n 2, 1) := by decide +kernel
theorem dL_law_351 : decode cL_law 351 = .ok (.aload_n 0, 1) := by decide +kernel
theorem dL_law_352 : decode cL_law 352 = .ok (.iload_n 3, 1) := by decide +kernel
theorem dL_law_353 : decode cL_law 353 = .ok (.iconst 1, 1) := by decide +kernel
theorem dL_law_354 : decode cL_law 354 = .ok (.iadd, 1) := by decide +kernel
theorem dL_law_355 : decode cL_law 355 = .ok (.iaload, 1) := by decide +kernel
theorem dL_law_356 : decode cL_law 356 = .ok (.aload_n 0, 1) := by decide +kernel
theorem dL_law_357 : decode cL_law 357 = .ok (.iload_n 3, 1) := by decide +kernel
theorem dL_law_358 : decode cL_law 358 = .ok (.iconst 2, 1) := by decide +kernel
theorem dL_law_359 : decode cL_law 359 = .ok (.iadd, 1) := by decide +kernel
theorem dL_law_360 : decode cL_law 360 = .ok (.iaload, 1) := by decide +kernel
theorem dL_law_361 : decode cL_law 361 = .ok (.invokevirtual 35, 3) := by decide +kernel
theorem dL_law_364 : decode cL_law 364 = .ok (.if_icmp .eq 1098, 3) := by decide +kernel
theorem dL_law_367 : decode cL_law 367 = .ok (.iconst 0, 1) := by decide +kernel
theorem dL_law_368 : decode cL_law 368 = .ok (.ireturn, 1) := by decide +kernel
theorem dL_law_369 : decode cL_law 369 = .ok (.aload_n 1, 1) := by decide +kernel
theorem dL_law_370 : decode cL_law 370 = .ok (.aload_n 0, 1) := by decide +kernel
theorem dL_law_371 : decode cL_law 371 = .ok (.iload_n 3, 1) := by decide +kernel
theorem dL_law_372 : decode cL_law 372 = .ok (.iconst 1, 1) := by decide +kernel
theorem dL_law_373 : decode cL_law 373 = .ok (.iadd, 1) := by decide +kernel
theorem dL_law_374 : decode cL_law 374 = .ok (.iaload, 1) := by decide +kernel
theorem dL_law_375 : decode cL_law 375 = .ok (.aload_n 0, 1) := by decide +kernel
theorem dL_law_376 : decode cL_law 376 = .ok (.iload_n 3, 1) := by decide +kernel
theorem dL_law_377 : decode cL_law 377 = .ok (.iconst 2, 1) := by decide +kernel
theorem dL_law_378 : decode cL_law 378 = .ok (.iadd, 1) := by decide +kernel
theorem dL_law_379 : decode cL_law 379 = .ok (.iaload, 1) := by decide +kernel
theorem dL_law_380 : decode cL_law 380 = .ok (.invokevirtual 36, 3) := by decide +kernel
theorem dL_law_383 : decode cL_law 383 = .ok (.aload_n 2, 1) := by decide +kernel
theorem dL_law_384 : decode cL_law 384 = .ok (.aload_n 0, 1) := by decide +kernel
theorem dL_law_385 : decode cL_law 385 = .ok (.iload_n 3, 1) := by decide +kernel
theorem dL_law_386 : decode cL_law 386 = .ok (.iconst 1, 1) := by decide +kernel
theorem dL_law_387 : decode cL_law 387 = .ok (.iadd, 1) := by decide +kernel
theorem dL_law_388 : decode cL_law 388 = .ok (.iaload, 1) := by decide +kernel
theorem dL_law_389 : decode cL_law 389 = .ok (.aload_n 0, 1) := by decide +kernel
theorem dL_law_390 : decode cL_law 390 = .ok (.iload_n 3, 1) := by decide +kernel
theorem dL_law_391 : decode cL_law 391 = .ok (.iconst 2, 1) := by decide +kernel
theorem dL_law_392 : decode cL_law 392 = .ok (.iadd, 1) := by decide +kernel
theorem dL_law_393 : decode cL_law 393 = .ok (.iaload, 1) := by decide +kernel
theorem dL_law_394 : decode cL_law 394 = .ok (.invokevirtual 39, 3) := by decide +kernel
theorem dL_law_397 : decode cL_law 397 = .ok (.if_icmp .eq 1065, 3) := by decide +kernel
theorem dL_law_400 : decode cL_law 400 = .ok (.iconst 0, 1) := by decide +kernel
theorem dL_law_401 : decode cL_law 401 = .ok (.ireturn, 1) := by decide +kernel
theorem dL_law_402 : decode cL_law 402 = .ok (.aload_n 1, 1) := by decide +kernel
theorem dL_law_403 : decode cL_law 403 = .ok (.aload_n 0, 1) := by decide +kernel
theorem dL_law_404 : decode cL_law 404 = .ok (.iload_n 3, 1) := by decide +kernel
theorem dL_law_405 : decode cL_law 405 = .ok (.iconst 1, 1) := by decide +kernel
theorem dL_law_406 : decode cL_law 406 = .ok (.iadd, 1) := by decide +kernel
theorem dL_law_407 : decode cL_law 407 = .ok (.iaload, 1) := by decide +kernel
theorem dL_law_408 : decode cL_law 408 = .ok (.aload_n 0, 1) := by decide +kernel
theorem dL_law_409 : decode cL_law 409 = .ok (.iload_n 3, 1) := by decide +kernel
theorem dL_law_410 : decode cL_law 410 = .ok (.iconst 2, 1) := by decide +kernel
theorem dL_law_411 : decode cL_law 411 = .ok (.iadd, 1) := by decide +kernel
theorem dL_law_412 : decode cL_law 412 = .ok (.iaload, 1) := by decide +kernel
theorem dL_law_413 : decode cL_law 413 = .ok (.invokevirtual 40, 3) := by decide +kernel
theorem dL_law_416 : decode cL_law 416 = .ok (.aload_n 2, 1) := by decide +kernel
theorem dL_law_417 : decode cL_law 417 = .ok (.aload_n 0, 1) := by decide +kernel
theorem dL_law_418 : decode cL_law 418 = .ok (.iload_n 3, 1) := by decide +kernel
theorem dL_law_419 : decode cL_law 419 = .ok (.iconst 1, 1) := by decide +kernel
theorem dL_law_420 : decode cL_law 420 = .ok (.iadd, 1) := by decide +kernel
theorem dL_law_421 : decode cL_law 421 = .ok (.iaload, 1) := by decide +kernel
theorem dL_law_422 : decode cL_law 422 = .ok (.aload_n 0, 1) := by decide +kernel
theorem dL_law_423 : decode cL_law 423 = .ok (.iload_n 3, 1) := by decide +kernel
theorem dL_law_424 : decode cL_law 424 = .ok (.iconst 2, 1) := by decide +kernel
theorem dL_law_425 : decode cL_law 425 = .ok (.iadd, 1) := by decide +kernel
theorem dL_law_426 : decode cL_law 426 = .ok (.iaload, 1) := by decide +kernel
theorem dL_law_427 : decode cL_law 427 = .ok (.invokevirtual 43, 3) := by decide +kernel
theorem dL_law_430 : decode cL_law 430 = .ok (.if_icmp .eq 1032, 3) := by decide +kernel
theorem dL_law_433 : decode cL_law 433 = .ok (.iconst 0, 1) := by decide +kernel
theorem dL_law_434 : decode cL_law 434 = .ok (.ireturn, 1) := by decide +kernel
theorem dL_law_435 : decode cL_law 435 = .ok (.aload_n 1, 1) := by decide +kernel
theorem dL_law_436 : decode cL_law 436 = .ok (.aload_n 0, 1) := by decide +kernel
theorem dL_law_437 : decode cL_law 437 = .ok (.iload_n 3, 1) := by decide +kernel
theorem dL_law_438 : decode cL_law 438 = .ok (.iconst 1, 1) := by decide +kernel
theorem dL_law_439 : decode cL_law 439 = .ok (.iadd, 1) := by decide +kernel
theorem dL_law_440 : decode cL_law 440 = .ok (.iaload, 1) := by decide +kernel
theorem dL_law_441 : decode cL_law 441 = .ok (.aload_n 0, 1) := by decide +kernel
theorem dL_law_442 : decode cL_law 442 = .ok (.iload_n 3, 1) := by decide +kernel
theorem dL_law_443 : decode cL_law 443 = .ok (.iconst 2, 1) := by decide +kernel
theorem dL_law_444 : decode cL_law 444 = .ok (.iadd, 1) := by decide +kernel
theorem dL_law_445 : decode cL_law 445 = .ok (.iaload, 1) := by decide +kernel
theorem dL_law_446 : decode cL_law 446 = .ok (.invokevirtual 44, 3) := by decide +kernel
theorem dL_law_449 : decode cL_law 449 = .ok (.aload_n 2, 1) := by decide +kernel
theorem dL_law_450 : decode cL_law 450 = .ok (.aload_n 0, 1) := by decide +kernel
theorem dL_law_451 : decode cL_law 451 = .ok (.iload_n 3, 1) := by decide +kernel
theorem dL_law_452 : decode cL_law 452 = .ok (.iconst 1, 1) := by decide +kernel
theorem dL_law_453 : decode cL_law 453 = .ok (.iadd, 1) := by decide +kernel
theorem dL_law_454 : decode cL_law 454 = .ok (.iaload, 1) := by decide +kernel
theorem dL_law_455 : decode cL_law 455 = .ok (.aload_n 0, 1) := by decide +kernel
theorem dL_law_456 : decode cL_law 456 = .ok (.iload_n 3, 1) := by decide +kernel
theorem dL_law_457 : decode cL_law 457 = .ok (.iconst 2, 1) := by decide +kernel
theorem dL_law_458 : decode cL_law 458 = .ok (.iadd, 1) := by decide +kernel
theorem dL_law_459 : decode cL_law 459 = .ok (.iaload, 1) := by decide +kernel
theorem dL_law_460 : decode cL_law 460 = .ok (.invokevirtual 47, 3) := by decide +kernel
theorem dL_law_463 : decode cL_law 463 = .ok (.if_icmp .eq 999, 3) := by decide +kernel
theorem dL_law_466 : decode cL_law 466 = .ok (.iconst 0, 1) := by decide +kernel
theorem dL_law_467 : decode cL_law 467 = .ok (.ireturn, 1) := by decide +kernel
theorem dL_law_468 : decode cL_law 468 = .ok (.aload_n 1, 1) := by decide +kernel
theorem dL_law_469 : decode cL_law 469 = .ok (.aload_n 0, 1) := by decide +kernel
theorem dL_law_470 : decode cL_law 470 = .ok (.iload_n 3, 1) := by decide +kernel
theorem dL_law_471 : decode cL_law 471 = .ok (.iconst 1, 1) := by decide +kernel
theorem dL_law_472 : decode cL_law 472 = .ok (.iadd, 1) := by decide +kernel
theorem dL_law_473 : decode cL_law 473 = .ok (.iaload, 1) := by decide +kernel
theorem dL_law_474 : decode cL_law 474 = .ok (.aload_n 0, 1) := by decide +kernel
theorem dL_law_475 : decode cL_law 475 = .ok (.iload_n 3, 1) := by decide +kernel
theorem dL_law_476 : decode cL_law 476 = .ok (.iconst 2, 1) := by decide +kernel
theorem dL_law_477 : decode cL_law 477 = .ok (.iadd, 1) := by decide +kernel
theorem dL_law_478 : decode cL_law 478 = .ok (.iaload, 1) := by decide +kernel
theorem dL_law_479 : decode cL_law 479 = .ok (.invokevirtual 48, 3) := by decide +kernel
theorem dL_law_482 : decode cL_law 482 = .ok (.aload_n 2, 1) := by decide +kernel
theorem dL_law_483 : decode cL_law 483 = .ok (.aload_n 0, 1) := by decide +kernel
theorem dL_law_484 : decode cL_law 484 = .ok (.iload_n 3, 1) := by decide +kernel
theorem dL_law_485 : decode cL_law 485 = .ok (.iconst 1, 1) := by decide +kernel
theorem dL_law_486 : decode cL_law 486 = .ok (.iadd, 1) := by decide +kernel
theorem dL_law_487 : decode cL_law 487 = .ok (.iaload, 1) := by decide +kernel
theorem dL_law_488 : decode cL_law 488 = .ok (.aload_n 0, 1) := by decide +kernel
theorem dL_law_489 : decode cL_law 489 = .ok (.iload_n 3, 1) := by decide +kernel
theorem dL_law_490 : decode cL_law 490 = .ok (.iconst 2, 1) := by decide +kernel
theorem dL_law_491 : decode cL_law 491 = .ok (.iadd, 1) := by decide +kernel
theorem dL_law_492 : decode cL_law 492 = .ok (.iaload, 1) := by decide +kernel
theorem dL_law_493 : decode cL_law 493 = .ok (.invokevirtual 51, 3) := by decide +kernel
theorem dL_law_496 : decode cL_law 496 = .ok (.if_icmp .eq 966, 3) := by decide +kernel
theorem dL_law_499 : decode cL_law 499 = .ok (.iconst 0, 1) := by decide +kernel
theorem dL_law_500 : decode cL_law 500 = .ok (.ireturn, 1) := by decide +kernel
theorem dL_law_501 : decode cL_law 501 = .ok (.aload_n 1, 1) := by decide +kernel
theorem dL_law_502 : decode cL_law 502 = .ok (.aload_n 0, 1) := by decide +kernel
theorem dL_law_503 : decode cL_law 503 = .ok (.iload_n 3, 1) := by decide +kernel
theorem dL_law_504 : decode cL_law 504 = .ok (.iconst 1, 1) := by decide +kernel
theorem dL_law_505 : decode cL_law 505 = .ok (.iadd, 1) := by decide +kernel
theorem dL_law_506 : decode cL_law 506 = .ok (.iaload, 1) := by decide +kernel
theorem dL_law_507 : decode cL_law 507 = .ok (.aload_n 0, 1) := by decide +kernel
theorem dL_law_508 : decode cL_law 508 = .ok (.iload_n 3, 1) := by decide +kernel
theorem dL_law_509 : decode cL_law 509 = .ok (.iconst 2, 1) := by decide +kernel
theorem dL_law_510 : decode cL_law 510 = .ok (.iadd, 1) := by decide +kernel
theorem dL_law_511 : decode cL_law 511 = .ok (.iaload, 1) := by decide +kernel
theorem dL_law_512 : decode cL_law 512 = .ok (.invokevirtual 52, 3) := by decide +kernel
theorem dL_law_515 : decode cL_law 515 = .ok (.aload_n 2, 1) := by decide +kernel
theorem dL_law_516 : decode cL_law 516 = .ok (.aload_n 0, 1) := by decide +kernel
theorem dL_law_517 : decode cL_law 517 = .ok (.iload_n 3, 1) := by decide +kernel
theorem dL_law_518 : decode cL_law 518 = .ok (.iconst 1, 1) := by decide +kernel
theorem dL_law_519 : decode cL_law 519 = .ok (.iadd, 1) := by decide +kernel
theorem dL_law_520 : decode cL_law 520 = .ok (.iaload, 1) := by decide +kernel
theorem dL_law_521 : decode cL_law 521 = .ok (.aload_n 0, 1) := by decide +kernel
theorem dL_law_522 : decode cL_law 522 = .ok (.iload_n 3, 1) := by decide +kernel
theorem dL_law_523 : decode cL_law 523 = .ok (.iconst 2, 1) := by decide +kernel
theorem dL_law_524 : decode cL_law 524 = .ok (.iadd, 1) := by decide +kernel
theorem dL_law_525 : decode cL_law 525 = .ok (.iaload, 1) := by decide +kernel
theorem dL_law_526 : decode cL_law 526 = .ok (.invokevirtual 55, 3) := by decide +kernel
theorem dL_law_529 : decode cL_law 529 = .ok (.if_icmp .eq 933, 3) := by decide +kernel
theorem dL_law_532 : decode cL_law 532 = .ok (.iconst 0, 1) := by decide +kernel
theorem dL_law_533 : decode cL_law 533 = .ok (.ireturn, 1) := by decide +kernel
theorem dL_law_534 : decode cL_law 534 = .ok (.aload_n 1, 1) := by decide +kernel
theorem dL_law_535 : decode cL_law 535 = .ok (.aload_n 0, 1) := by decide +kernel
theorem dL_law_536 : decode cL_law 536 = .ok (.iload_n 3, 1) := by decide +kernel
theorem dL_law_537 : decode cL_law 537 = .ok (.iconst 1, 1) := by decide +kernel
theorem dL_law_538 : decode cL_law 538 = .ok (.iadd, 1) := by decide +kernel
theorem dL_law_539 : decode cL_law 539 = .ok (.iaload, 1) := by decide +kernel
theorem dL_law_540 : decode cL_law 540 = .ok (.invokevirtual 56, 3) := by decide +kernel
theorem dL_law_543 : decode cL_law 543 = .ok (.aload_n 2, 1) := by decide +kernel
theorem dL_law_544 : decode cL_law 544 = .ok (.aload_n 0, 1) := by decide +kernel
theorem dL_law_545 : decode cL_law 545 = .ok (.iload_n 3, 1) := by decide +kernel
theorem dL_law_546 : decode cL_law 546 = .ok (.iconst 1, 1) := by decide +kernel
theorem dL_law_547 : decode cL_law 547 = .ok (.iadd, 1) := by decide +kernel
theorem dL_law_548 : decode cL_law 548 = .ok (.iaload, 1) := by decide +kernel
theorem dL_law_549 : decode cL_law 549 = .ok (.invokevirtual 59, 3) := by decide +kernel
theorem dL_law_552 : decode cL_law 552 = .ok (.if_icmp .eq 910, 3) := by decide +kernel
theorem dL_law_555 : decode cL_law 555 = .ok (.iconst 0, 1) := by decide +kernel
theorem dL_law_556 : decode cL_law 556 = .ok (.ireturn, 1) := by decide +kernel
theorem dL_law_557 : decode cL_law 557 = .ok (.aload_n 1, 1) := by decide +kernel
theorem dL_law_558 : decode cL_law 558 = .ok (.aload_n 0, 1) := by decide +kernel
theorem dL_law_559 : decode cL_law 559 = .ok (.iload_n 3, 1) := by decide +kernel
theorem dL_law_560 : decode cL_law 560 = .ok (.iconst 1, 1) := by decide +kernel
theorem dL_law_561 : decode cL_law 561 = .ok (.iadd, 1) := by decide +kernel
theorem dL_law_562 : decode cL_law 562 = .ok (.iaload, 1) := by decide +kernel
theorem dL_law_563 : decode cL_law 563 = .ok (.aload_n 0, 1) := by decide +kernel
theorem dL_law_564 : decode cL_law 564 = .ok (.iload_n 3, 1) := by decide +kernel
theorem dL_law_565 : decode cL_law 565 = .ok (.iconst 2, 1) := by decide +kernel
theorem dL_law_566 : decode cL_law 566 = .ok (.iadd, 1) := by decide +kernel
theorem dL_law_567 : decode cL_law 567 = .ok (.iaload, 1) := by decide +kernel
theorem dL_law_568 : decode cL_law 568 = .ok (.aload_n 0, 1) := by decide +kernel
theorem dL_law_569 : decode cL_law 569 = .ok (.iload_n 3, 1) := by decide +kernel
theorem dL_law_570 : decode cL_law 570 = .ok (.iconst 3, 1) := by decide +kernel
theorem dL_law_571 : decode cL_law 571 = .ok (.iadd, 1) := by decide +kernel
theorem dL_law_572 : decode cL_law 572 = .ok (.iaload, 1) := by decide +kernel
theorem dL_law_573 : decode cL_law 573 = .ok (.invokevirtual 60, 3) := by decide +kernel
theorem dL_law_576 : decode cL_law 576 = .ok (.aload_n 2, 1) := by decide +kernel
theorem dL_law_577 : decode cL_law 577 = .ok (.aload_n 0, 1) := by decide +kernel
theorem dL_law_578 : decode cL_law 578 = .ok (.iload_n 3, 1) := by decide +kernel
theorem dL_law_579 : decode cL_law 579 = .ok (.iconst 1, 1) := by decide +kernel
theorem dL_law_580 : decode cL_law 580 = .ok (.iadd, 1) := by decide +kernel
theorem dL_law_581 : decode cL_law 581 = .ok (.iaload, 1) := by decide +kernel
theorem dL_law_582 : decode cL_law 582 = .ok (.aload_n 0, 1) := by decide +kernel
theorem dL_law_583 : decode cL_law 583 = .ok (.iload_n 3, 1) := by decide +kernel
theorem dL_law_584 : decode cL_law 584 = .ok (.iconst 2, 1) := by decide +kernel
theorem dL_law_585 : decode cL_law 585 = .ok (.iadd, 1) := by decide +kernel
theorem dL_law_586 : decode cL_law 586 = .ok (.iaload, 1) := by decide +kernel
theorem dL_law_587 : decode cL_law 587 = .ok (.aload_n 0, 1) := by decide +kernel
theorem dL_law_588 : decode cL_law 588 = .ok (.iload_n 3, 1) := by decide +kernel
theorem dL_law_589 : decode cL_law 589 = .ok (.iconst 3, 1) := by decide +kernel
theorem dL_law_590 : decode cL_law 590 = .ok (.iadd, 1) := by decide +kernel
theorem dL_law_591 : decode cL_law 591 = .ok (.iaload, 1) := by decide +kernel
theorem dL_law_592 : decode cL_law 592 = .ok (.invokevirtual 63, 3) := by decide +kernel
theorem dL_law_595 : decode cL_law 595 = .ok (.if_icmp .eq 867, 3) := by decide +kernel
theorem dL_law_598 : decode cL_law 598 = .ok (.iconst 0, 1) := by decide +kernel
theorem dL_law_599 : decode cL_law 599 = .ok (.ireturn, 1) := by decide +kernel
theorem dL_law_600 : decode cL_law 600 = .ok (.aload_n 1, 1) := by decide +kernel
theorem dL_law_601 : decode cL_law 601 = .ok (.aload_n 0, 1) := by decide +kernel
theorem dL_law_602 : decode cL_law 602 = .ok (.iload_n 3, 1) := by decide +kernel
theorem dL_law_603 : decode cL_law 603 = .ok (.iconst 1, 1) := by decide +kernel
theorem dL_law_604 : decode cL_law 604 = .ok (.iadd, 1) := by decide +kernel
theorem dL_law_605 : decode cL_law 605 = .ok (.iaload, 1) := by decide +kernel
theorem dL_law_606 : decode cL_law 606 = .ok (.invokevirtual 64, 3) := by decide +kernel
theorem dL_law_609 : decode cL_law 609 = .ok (.aload_n 2, 1) := by decide +kernel
theorem dL_law_610 : decode cL_law 610 = .ok (.aload_n 0, 1) := by decide +kernel
theorem dL_law_611 : decode cL_law 611 = .ok (.iload_n 3, 1) := by decide +kernel
theorem dL_law_612 : decode cL_law 612 = .ok (.iconst 1, 1) := by decide +kernel
theorem dL_law_613 : decode cL_law 613 = .ok (.iadd, 1) := by decide +kernel
theorem dL_law_614 : decode cL_law 614 = .ok (.iaload, 1) := by decide +kernel
theorem dL_law_615 : decode cL_law 615 = .ok (.invokevirtual 67, 3) := by decide +kernel
theorem dL_law_618 : decode cL_law 618 = .ok (.if_icmp .eq 844, 3) := by decide +kernel
theorem dL_law_621 : decode cL_law 621 = .ok (.iconst 0, 1) := by decide +kernel
theorem dL_law_622 : decode cL_law 622 = .ok (.ireturn, 1) := by decide +kernel
theorem dL_law_623 : decode cL_law 623 = .ok (.aload_n 1, 1) := by decide +kernel
theorem dL_law_624 : decode cL_law 624 = .ok (.aload_n 0, 1) := by decide +kernel
theorem dL_law_625 : decode cL_law 625 = .ok (.iload_n 3, 1) := by decide +kernel
theorem dL_law_626 : decode cL_law 626 = .ok (.iconst 1, 1) := by decide +kernel
theorem dL_law_627 : decode cL_law 627 = .ok (.iadd, 1) := by decide +kernel
theorem dL_law_628 : decode cL_law 628 = .ok (.iaload, 1) := by decide +kernel
theorem dL_law_629 : decode cL_law 629 = .ok (.invokevirtual 68, 3) := by decide +kernel
theorem dL_law_632 : decode cL_law 632 = .ok (.aload_n 2, 1) := by decide +kernel
theorem dL_law_633 : decode cL_law 633 = .ok (.aload_n 0, 1) := by decide +kernel
theorem dL_law_634 : decode cL_law 634 = .ok (.iload_n 3, 1) := by decide +kernel
theorem dL_law_635 : decode cL_law 635 = .ok (.iconst 1, 1) := by decide +kernel
theorem dL_law_636 : decode cL_law 636 = .ok (.iadd, 1) := by decide +kernel
theorem dL_law_637 : decode cL_law 637 = .ok (.iaload, 1) := by decide +kernel
theorem dL_law_638 : decode cL_law 638 = .ok (.invokevirtual 71, 3) := by decide +kernel
theorem dL_law_641 : decode cL_law 641 = .ok (.if_icmp .eq 821, 3) := by decide +kernel
theorem dL_law_644 : decode cL_law 644 = .ok (.iconst 0, 1) := by decide +kernel
theorem dL_law_645 : decode cL_law 645 = .ok (.ireturn, 1) := by decide +kernel
theorem dL_law_646 : decode cL_law 646 = .ok (.aload_n 1, 1) := by decide +kernel
theorem dL_law_647 : decode cL_law 647 = .ok (.aload_n 0, 1) := by decide +kernel
theorem dL_law_648 : decode cL_law 648 = .ok (.iload_n 3, 1) := by decide +kernel
theorem dL_law_649 : decode cL_law 649 = .ok (.iconst 1, 1) := by decide +kernel
theorem dL_law_650 : decode cL_law 650 = .ok (.iadd, 1) := by decide +kernel
theorem dL_law_651 : decode cL_law 651 = .ok (.iaload, 1) := by decide +kernel
theorem dL_law_652 : decode cL_law 652 = .ok (.aload_n 0, 1) := by decide +kernel
theorem dL_law_653 : decode cL_law 653 = .ok (.iload_n 3, 1) := by decide +kernel
theorem dL_law_654 : decode cL_law 654 = .ok (.iconst 2, 1) := by decide +kernel
theorem dL_law_655 : decode cL_law 655 = .ok (.iadd, 1) := by decide +kernel
theorem dL_law_656 : decode cL_law 656 = .ok (.iaload, 1) := by decide +kernel
theorem dL_law_657 : decode cL_law 657 = .ok (.aload_n 0, 1) := by decide +kernel
theorem dL_law_658 : decode cL_law 658 = .ok (.iload_n 3, 1) := by decide +kernel
theorem dL_law_659 : decode cL_law 659 = .ok (.iconst 3, 1) := by decide +kernel
theorem dL_law_660 : decode cL_law 660 = .ok (.iadd, 1) := by decide +kernel
theorem dL_law_661 : decode cL_law 661 = .ok (.iaload, 1) := by decide +kernel
theorem dL_law_662 : decode cL_law 662 = .ok (.invokevirtual 72, 3) := by decide +kernel
theorem dL_law_665 : decode cL_law 665 = .ok (.aload_n 2, 1) := by decide +kernel
theorem dL_law_666 : decode cL_law 666 = .ok (.aload_n 0, 1) := by decide +kernel
theorem dL_law_667 : decode cL_law 667 = .ok (.iload_n 3, 1) := by decide +kernel
theorem dL_law_668 : decode cL_law 668 = .ok (.iconst 1, 1) := by decide +kernel
theorem dL_law_669 : decode cL_law 669 = .ok (.iadd, 1) := by decide +kernel
theorem dL_law_670 : decode cL_law 670 = .ok (.iaload, 1) := by decide +kernel
theorem dL_law_671 : decode cL_law 671 = .ok (.aload_n 0, 1) := by decide +kernel
theorem dL_law_672 : decode cL_law 672 = .ok (.iload_n 3, 1) := by decide +kernel
theorem dL_law_673 : decode cL_law 673 = .ok (.iconst 2, 1) := by decide +kernel
theorem dL_law_674 : decode cL_law 674 = .ok (.iadd, 1) := by decide +kernel
theorem dL_law_675 : decode cL_law 675 = .ok (.iaload, 1) := by decide +kernel
theorem dL_law_676 : decode cL_law 676 = .ok (.aload_n 0, 1) := by decide +kernel
theorem dL_law_677 : decode cL_law 677 = .ok (.iload_n 3, 1) := by decide +kernel
theorem dL_law_678 : decode cL_law 678 = .ok (.iconst 3, 1) := by decide +kernel
theorem dL_law_679 : decode cL_law 679 = .ok (.iadd, 1) := by decide +kernel
theorem dL_law_680 : decode cL_law 680 = .ok (.iaload, 1) := by decide +kernel
theorem dL_law_681 : decode cL_law 681 = .ok (.invokevirtual 75, 3) := by decide +kernel
theorem dL_law_684 : decode cL_law 684 = .ok (.if_icmp .eq 778, 3) := by decide +kernel
theorem dL_law_687 : decode cL_law 687 = .ok (.iconst 0, 1) := by decide +kernel
theorem dL_law_688 : decode cL_law 688 = .ok (.ireturn, 1) := by decide +kernel
theorem dL_law_689 : decode cL_law 689 = .ok (.aload_n 1, 1) := by decide +kernel
theorem dL_law_690 : decode cL_law 690 = .ok (.aload_n 0, 1) := by decide +kernel
theorem dL_law_691 : decode cL_law 691 = .ok (.iload_n 3, 1) := by decide +kernel
theorem dL_law_692 : decode cL_law 692 = .ok (.iconst 1, 1) := by decide +kernel
theorem dL_law_693 : decode cL_law 693 = .ok (.iadd, 1) := by decide +kernel
theorem dL_law_694 : decode cL_law 694 = .ok (.iaload, 1) := by decide +kernel
theorem dL_law_695 : decode cL_law 695 = .ok (.aload_n 0, 1) := by decide +kernel
theorem dL_law_696 : decode cL_law 696 = .ok (.iload_n 3, 1) := by decide +kernel
theorem dL_law_697 : decode cL_law 697 = .ok (.iconst 2, 1) := by decide +kernel
theorem dL_law_698 : decode cL_law 698 = .ok (.iadd, 1) := by decide +kernel
theorem dL_law_699 : decode cL_law 699 = .ok (.iaload, 1) := by decide +kernel
theorem dL_law_700 : decode cL_law 700 = .ok (.invokevirtual 76, 3) := by decide +kernel
theorem dL_law_703 : decode cL_law 703 = .ok (.aload_n 2, 1) := by decide +kernel
theorem dL_law_704 : decode cL_law 704 = .ok (.aload_n 0, 1) := by decide +kernel
theorem dL_law_705 : decode cL_law 705 = .ok (.iload_n 3, 1) := by decide +kernel
theorem dL_law_706 : decode cL_law 706 = .ok (.iconst 1, 1) := by decide +kernel
theorem dL_law_707 : decode cL_law 707 = .ok (.iadd, 1) := by decide +kernel
theorem dL_law_708 : decode cL_law 708 = .ok (.iaload, 1) := by decide +kernel
theorem dL_law_709 : decode cL_law 709 = .ok (.aload_n 0, 1) := by decide +kernel
theorem dL_law_710 : decode cL_law 710 = .ok (.iload_n 3, 1) := by decide +kernel
theorem dL_law_711 : decode cL_law 711 = .ok (.iconst 2, 1) := by decide +kernel
theorem dL_law_712 : decode cL_law 712 = .ok (.iadd, 1) := by decide +kernel
theorem dL_law_713 : decode cL_law 713 = .ok (.iaload, 1) := by decide +kernel
theorem dL_law_714 : decode cL_law 714 = .ok (.invokevirtual 79, 3) := by decide +kernel
theorem dL_law_717 : decode cL_law 717 = .ok (.if_icmp .eq 745, 3) := by decide +kernel
theorem dL_law_720 : decode cL_law 720 = .ok (.iconst 0, 1) := by decide +kernel
theorem dL_law_721 : decode cL_law 721 = .ok (.ireturn, 1) := by decide +kernel
theorem dL_law_722 : decode cL_law 722 = .ok (.aload_n 1, 1) := by decide +kernel
theorem dL_law_723 : decode cL_law 723 = .ok (.aload_n 0, 1) := by decide +kernel
theorem dL_law_724 : decode cL_law 724 = .ok (.iload_n 3, 1) := by decide +kernel
theorem dL_law_725 : decode cL_law 725 = .ok (.iconst 1, 1) := by decide +kernel
theorem dL_law_726 : decode cL_law 726 = .ok (.iadd, 1) := by decide +kernel
theorem dL_law_727 : decode cL_law 727 = .ok (.iaload, 1) := by decide +kernel
theorem dL_law_728 : decode cL_law 728 = .ok (.invokevirtual 80, 3) := by decide +kernel
theorem dL_law_731 : decode cL_law 731 = .ok (.aload_n 2, 1) := by decide +kernel
theorem dL_law_732 : decode cL_law 732 = .ok (.aload_n 0, 1) := by decide +kernel
theorem dL_law_733 : decode cL_law 733 = .ok (.iload_n 3, 1) := by decide +kernel
theorem dL_law_734 : decode cL_law 734 = .ok (.iconst 1, 1) := by decide +kernel
theorem dL_law_735 : decode cL_law 735 = .ok (.iadd, 1) := by decide +kernel
theorem dL_law_736 : decode cL_law 736 = .ok (.iaload, 1) := by decide +kernel
theorem dL_law_737 : decode cL_law 737 = .ok (.invokevirtual 83, 3) := by decide +kernel
theorem dL_law_740 : decode cL_law 740 = .ok (.if_icmp .eq 722, 3) := by decide +kernel
theorem dL_law_743 : decode cL_law 743 = .ok (.iconst 0, 1) := by decide +kernel
theorem dL_law_744 : decode cL_law 744 = .ok (.ireturn, 1) := by decide +kernel
theorem dL_law_745 : decode cL_law 745 = .ok (.aload_n 1, 1) := by decide +kernel
theorem dL_law_746 : decode cL_law 746 = .ok (.aload_n 0, 1) := by decide +kernel
theorem dL_law_747 : decode cL_law 747 = .ok (.iload_n 3, 1) := by decide +kernel
theorem dL_law_748 : decode cL_law 748 = .ok (.iconst 1, 1) := by decide +kernel
theorem dL_law_749 : decode cL_law 749 = .ok (.iadd, 1) := by decide +kernel
theorem dL_law_750 : decode cL_law 750 = .ok (.iaload, 1) := by decide +kernel
theorem dL_law_751 : decode cL_law 751 = .ok (.aload_n 0, 1) := by decide +kernel
theorem dL_law_752 : decode cL_law 752 = .ok (.iload_n 3, 1) := by decide +kernel
theorem dL_law_753 : decode cL_law 753 = .ok (.iconst 2, 1) := by decide +kernel
theorem dL_law_754 : decode cL_law 754 = .ok (.iadd, 1) := by decide +kernel
theorem dL_law_755 : decode cL_law 755 = .ok (.iaload, 1) := by decide +kernel
theorem dL_law_756 : decode cL_law 756 = .ok (.invokevirtual 84, 3) := by decide +kernel
theorem dL_law_759 : decode cL_law 759 = .ok (.aload_n 2, 1) := by decide +kernel
theorem dL_law_760 : decode cL_law 760 = .ok (.aload_n 0, 1) := by decide +kernel
theorem dL_law_761 : decode cL_law 761 = .ok (.iload_n 3, 1) := by decide +kernel
theorem dL_law_762 : decode cL_law 762 = .ok (.iconst 1, 1) := by decide +kernel
theorem dL_law_763 : decode cL_law 763 = .ok (.iadd, 1) := by decide +kernel
theorem dL_law_764 : decode cL_law 764 = .ok (.iaload, 1) := by decide +kernel
theorem dL_law_765 : decode cL_law 765 = .ok (.aload_n 0, 1) := by decide +kernel
theorem dL_law_766 : decode cL_law 766 = .ok (.iload_n 3, 1) := by decide +kernel
theorem dL_law_767 : decode cL_law 767 = .ok (.iconst 2, 1) := by decide +kernel
theorem dL_law_768 : decode cL_law 768 = .ok (.iadd, 1) := by decide +kernel
theorem dL_law_769 : decode cL_law 769 = .ok (.iaload, 1) := by decide +kernel
theorem dL_law_770 : decode cL_law 770 = .ok (.invokevirtual 87, 3) := by decide +kernel
theorem dL_law_773 : decode cL_law 773 = .ok (.if_icmp .eq 689, 3) := by decide +kernel
theorem dL_law_776 : decode cL_law 776 = .ok (.iconst 0, 1) := by decide +kernel
theorem dL_law_777 : decode cL_law 777 = .ok (.ireturn, 1) := by decide +kernel
theorem dL_law_778 : decode cL_law 778 = .ok (.aload_n 1, 1) := by decide +kernel
theorem dL_law_779 : decode cL_law 779 = .ok (.aload_n 0, 1) := by decide +kernel
theorem dL_law_780 : decode cL_law 780 = .ok (.iload_n 3, 1) := by decide +kernel
theorem dL_law_781 : decode cL_law 781 = .ok (.iconst 1, 1) := by decide +kernel
theorem dL_law_782 : decode cL_law 782 = .ok (.iadd, 1) := by decide +kernel
theorem dL_law_783 : decode cL_law 783 = .ok (.iaload, 1) := by decide +kernel
theorem dL_law_784 : decode cL_law 784 = .ok (.aload_n 0, 1) := by decide +kernel
theorem dL_law_785 : decode cL_law 785 = .ok (.iload_n 3, 1) := by decide +kernel
theorem dL_law_786 : decode cL_law 786 = .ok (.iconst 2, 1) := by decide +kernel
theorem dL_law_787 : decode cL_law 787 = .ok (.iadd, 1) := by decide +kernel
theorem dL_law_788 : decode cL_law 788 = .ok (.iaload, 1) := by decide +kernel
theorem dL_law_789 : decode cL_law 789 = .ok (.invokevirtual 88, 3) := by decide +kernel
theorem dL_law_792 : decode cL_law 792 = .ok (.aload_n 2, 1) := by decide +kernel
theorem dL_law_793 : decode cL_law 793 = .ok (.aload_n 0, 1) := by decide +kernel
theorem dL_law_794 : decode cL_law 794 = .ok (.iload_n 3, 1) := by decide +kernel
theorem dL_law_795 : decode cL_law 795 = .ok (.iconst 1, 1) := by decide +kernel
theorem dL_law_796 : decode cL_law 796 = .ok (.iadd, 1) := by decide +kernel
theorem dL_law_797 : decode cL_law 797 = .ok (.iaload, 1) := by decide +kernel
theorem dL_law_798 : decode cL_law 798 = .ok (.aload_n 0, 1) := by decide +kernel
theorem dL_law_799 : decode cL_law 799 = .ok (.iload_n 3, 1) := by decide +kernel
theorem dL_law_800 : decode cL_law 800 = .ok (.iconst 2, 1) := by decide +kernel
theorem dL_law_801 : decode cL_law 801 = .ok (.iadd, 1) := by decide +kernel
theorem dL_law_802 : decode cL_law 802 = .ok (.iaload, 1) := by decide +kernel
theorem dL_law_803 : decode cL_law 803 = .ok (.invokevirtual 91, 3) := by decide +kernel
theorem dL_law_806 : decode cL_law 806 = .ok (.if_icmp .eq 656, 3) := by decide +kernel
theorem dL_law_809 : decode cL_law 809 = .ok (.iconst 0, 1) := by decide +kernel
theorem dL_law_810 : decode cL_law 810 = .ok (.ireturn, 1) := by decide +kernel
theorem dL_law_811 : decode cL_law 811 = .ok (.aload_n 1, 1) := by decide +kernel
theorem dL_law_812 : decode cL_law 812 = .ok (.aload_n 0, 1) := by decide +kernel
theorem dL_law_813 : decode cL_law 813 = .ok (.iload_n 3, 1) := by decide +kernel
theorem dL_law_814 : decode cL_law 814 = .ok (.iconst 1, 1) := by decide +kernel
theorem dL_law_815 : decode cL_law 815 = .ok (.iadd, 1) := by decide +kernel
theorem dL_law_816 : decode cL_law 816 = .ok (.iaload, 1) := by decide +kernel
theorem dL_law_817 : decode cL_law 817 = .ok (.aload_n 0, 1) := by decide +kernel
theorem dL_law_818 : decode cL_law 818 = .ok (.iload_n 3, 1) := by decide +kernel
theorem dL_law_819 : decode cL_law 819 = .ok (.iconst 2, 1) := by decide +kernel
theorem dL_law_820 : decode cL_law 820 = .ok (.iadd, 1) := by decide +kernel
theorem dL_law_821 : decode cL_law 821 = .ok (.iaload, 1) := by decide +kernel
theorem dL_law_822 : decode cL_law 822 = .ok (.invokevirtual 92, 3) := by decide +kernel
theorem dL_law_825 : decode cL_law 825 = .ok (.aload_n 2, 1) := by decide +kernel
theorem dL_law_826 : decode cL_law 826 = .ok (.aload_n 0, 1) := by decide +kernel
theorem dL_law_827 : decode cL_law 827 = .ok (.iload_n 3, 1) := by decide +kernel
theorem dL_law_828 : decode cL_law 828 = .ok (.iconst 1, 1) := by decide +kernel
theorem dL_law_829 : decode cL_law 829 = .ok (.iadd, 1) := by decide +kernel
theorem dL_law_830 : decode cL_law 830 = .ok (.iaload, 1) := by decide +kernel
theorem dL_law_831 : decode cL_law 831 = .ok (.aload_n 0, 1) := by decide +kernel
theorem dL_law_832 : decode cL_law 832 = .ok (.iload_n 3, 1) := by decide +kernel
theorem dL_law_833 : decode cL_law 833 = .ok (.iconst 2, 1) := by decide +kernel
theorem dL_law_834 : decode cL_law 834 = .ok (.iadd, 1) := by decide +kernel
theorem dL_law_835 : decode cL_law 835 = .ok (.iaload, 1) := by decide +kernel
theorem dL_law_836 : decode cL_law 836 = .ok (.invokevirtual 95, 3) := by decide +kernel
theorem dL_law_839 : decode cL_law 839 = .ok (.if_icmp .eq 623, 3) := by decide +kernel
theorem dL_law_842 : decode cL_law 842 = .ok (.iconst 0, 1) := by decide +kernel
theorem dL_law_843 : decode cL_law 843 = .ok (.ireturn, 1) := by decide +kernel
theorem dL_law_844 : decode cL_law 844 = .ok (.aload_n 1, 1) := by decide +kernel
theorem dL_law_845 : decode cL_law 845 = .ok (.aload_n 0, 1) := by decide +kernel
theorem dL_law_846 : decode cL_law 846 = .ok (.iload_n 3, 1) := by decide +kernel
theorem dL_law_847 : decode cL_law 847 = .ok (.iconst 1, 1) := by decide +kernel
theorem dL_law_848 : decode cL_law 848 = .ok (.iadd, 1) := by decide +kernel
theorem dL_law_849 : decode cL_law 849 = .ok (.iaload, 1) := by decide +kernel
theorem dL_law_850 : decode cL_law 850 = .ok (.aload_n 0, 1) := by decide +kernel
theorem dL_law_851 : decode cL_law 851 = .ok (.iload_n 3, 1) := by decide +kernel
theorem dL_law_852 : decode cL_law 852 = .ok (.iconst 2, 1) := by decide +kernel
theorem dL_law_853 : decode cL_law 853 = .ok (.iadd, 1) := by decide +kernel
theorem dL_law_854 : decode cL_law 854 = .ok (.iaload, 1) := by decide +kernel
theorem dL_law_855 : decode cL_law 855 = .ok (.invokevirtual 96, 3) := by decide +kernel
theorem dL_law_858 : decode cL_law 858 = .ok (.aload_n 2, 1) := by decide +kernel
theorem dL_law_859 : decode cL_law 859 = .ok (.aload_n 0, 1) := by decide +kernel
theorem dL_law_860 : decode cL_law 860 = .ok (.iload_n 3, 1) := by decide +kernel
theorem dL_law_861 : decode cL_law 861 = .ok (.iconst 1, 1) := by decide +kernel
theorem dL_law_862 : decode cL_law 862 = .ok (.iadd, 1) := by decide +kernel
theorem dL_law_863 : decode cL_law 863 = .ok (.iaload, 1) := by decide +kernel
theorem dL_law_864 : decode cL_law 864 = .ok (.aload_n 0, 1) := by decide +kernel
theorem dL_law_865 : decode cL_law 865 = .ok (.iload_n 3, 1) := by decide +kernel
theorem dL_law_866 : decode cL_law 866 = .ok (.iconst 2, 1) := by decide +kernel
theorem dL_law_867 : decode cL_law 867 = .ok (.iadd, 1) := by decide +kernel
theorem dL_law_868 : decode cL_law 868 = .ok (.iaload, 1) := by decide +kernel
theorem dL_law_869 : decode cL_law 869 = .ok (.invokevirtual 99, 3) := by decide +kernel
theorem dL_law_872 : decode cL_law 872 = .ok (.if_icmp .eq 590, 3) := by decide +kernel
theorem dL_law_875 : decode cL_law 875 = .ok (.iconst 0, 1) := by decide +kernel
theorem dL_law_876 : decode cL_law 876 = .ok (.ireturn, 1) := by decide +kernel
theorem dL_law_877 : decode cL_law 877 = .ok (.aload_n 1, 1) := by decide +kernel
theorem dL_law_878 : decode cL_law 878 = .ok (.aload_n 0, 1) := by decide +kernel
theorem dL_law_879 : decode cL_law 879 = .ok (.iload_n 3, 1) := by decide +kernel
theorem dL_law_880 : decode cL_law 880 = .ok (.iconst 1, 1) := by decide +kernel
theorem dL_law_881 : decode cL_law 881 = .ok (.iadd, 1) := by decide +kernel
theorem dL_law_882 : decode cL_law 882 = .ok (.iaload, 1) := by decide +kernel
theorem dL_law_883 : decode cL_law 883 = .ok (.aload_n 0, 1) := by decide +kernel
theorem dL_law_884 : decode cL_law 884 = .ok (.iload_n 3, 1) := by decide +kernel
theorem dL_law_885 : decode cL_law 885 = .ok (.iconst 2, 1) := by decide +kernel
theorem dL_law_886 : decode cL_law 886 = .ok (.iadd, 1) := by decide +kernel
theorem dL_law_887 : decode cL_law 887 = .ok (.iaload, 1) := by decide +kernel
theorem dL_law_888 : decode cL_law 888 = .ok (.aload_n 0, 1) := by decide +kernel
theorem dL_law_889 : decode cL_law 889 = .ok (.iload_n 3, 1) := by decide +kernel
theorem dL_law_890 : decode cL_law 890 = .ok (.iconst 3, 1) := by decide +kernel
theorem dL_law_891 : decode cL_law 891 = .ok (.iadd, 1) := by decide +kernel
theorem dL_law_892 : decode cL_law 892 = .ok (.iaload, 1) := by decide +kernel
theorem dL_law_893 : decode cL_law 893 = .ok (.aload_n 0, 1) := by decide +kernel
theorem dL_law_894 : decode cL_law 894 = .ok (.iload_n 3, 1) := by decide +kernel
theorem dL_law_895 : decode cL_law 895 = .ok (.iconst 4, 1) := by decide +kernel
theorem dL_law_896 : decode cL_law 896 = .ok (.iadd, 1) := by decide +kernel
theorem dL_law_897 : decode cL_law 897 = .ok (.iaload, 1) := by decide +kernel
theorem dL_law_898 : decode cL_law 898 = .ok (.invokevirtual 100, 3) := by decide +kernel
theorem dL_law_901 : decode cL_law 901 = .ok (.aload_n 2, 1) := by decide +kernel
theorem dL_law_902 : decode cL_law 902 = .ok (.aload_n 0, 1) := by decide +kernel
theorem dL_law_903 : decode cL_law 903 = .ok (.iload_n 3, 1) := by decide +kernel
theorem dL_law_904 : decode cL_law 904 = .ok (.iconst 1, 1) := by decide +kernel
theorem dL_law_905 : decode cL_law 905 = .ok (.iadd, 1) := by decide +kernel
theorem dL_law_906 : decode cL_law 906 = .ok (.iaload, 1) := by decide +kernel
theorem dL_law_907 : decode cL_law 907 = .ok (.aload_n 0, 1) := by decide +kernel
theorem dL_law_908 : decode cL_law 908 = .ok (.iload_n 3, 1) := by decide +kernel
theorem dL_law_909 : decode cL_law 909 = .ok (.iconst 2, 1) := by decide +kernel
theorem dL_law_910 : decode cL_law 910 = .ok (.iadd, 1) := by decide +kernel
theorem dL_law_911 : decode cL_law 911 = .ok (.iaload, 1) := by decide +kernel
theorem dL_law_912 : decode cL_law 912 = .ok (.aload_n 0, 1) := by decide +kernel
theorem dL_law_913 : decode cL_law 913 = .ok (.iload_n 3, 1) := by decide +kernel
theorem dL_law_914 : decode cL_law 914 = .ok (.iconst 3, 1) := by decide +kernel
theorem dL_law_915 : decode cL_law 915 = .ok (.iadd, 1) := by decide +kernel
theorem dL_law_916 : decode cL_law 916 = .ok (.iaload, 1) := by decide +kernel
theorem dL_law_917 : decode cL_law 917 = .ok (.aload_n 0, 1) := by decide +kernel
theorem dL_law_918 : decode cL_law 918 = .ok (.iload_n 3, 1) := by decide +kernel
theorem dL_law_919 : decode cL_law 919 = .ok (.iconst 4, 1) := by decide +kernel
theorem dL_law_920 : decode cL_law 920 = .ok (.iadd, 1) := by decide +kernel
theorem dL_law_921 : decode cL_law 921 = .ok (.iaload, 1) := by decide +kernel
theorem dL_law_922 : decode cL_law 922 = .ok (.invokevirtual 104, 3) := by decide +kernel
theorem dL_law_925 : decode cL_law 925 = .ok (.if_icmp .eq 537, 3) := by decide +kernel
theorem dL_law_928 : decode cL_law 928 = .ok (.iconst 0, 1) := by decide +kernel
theorem dL_law_929 : decode cL_law 929 = .ok (.ireturn, 1) := by decide +kernel
theorem dL_law_930 : decode cL_law 930 = .ok (.aload_n 1, 1) := by decide +kernel
theorem dL_law_931 : decode cL_law 931 = .ok (.aload_n 0, 1) := by decide +kernel
theorem dL_law_932 : decode cL_law 932 = .ok (.iload_n 3, 1) := by decide +kernel
theorem dL_law_933 : decode cL_law 933 = .ok (.iconst 1, 1) := by decide +kernel
theorem dL_law_934 : decode cL_law 934 = .ok (.iadd, 1) := by decide +kernel
theorem dL_law_935 : decode cL_law 935 = .ok (.iaload, 1) := by decide +kernel
theorem dL_law_936 : decode cL_law 936 = .ok (.aload_n 0, 1) := by decide +kernel
theorem dL_law_937 : decode cL_law 937 = .ok (.iload_n 3, 1) := by decide +kernel
theorem dL_law_938 : decode cL_law 938 = .ok (.iconst 2, 1) := by decide +kernel
theorem dL_law_939 : decode cL_law 939 = .ok (.iadd, 1) := by decide +kernel
theorem dL_law_940 : decode cL_law 940 = .ok (.iaload, 1) := by decide +kernel
theorem dL_law_941 : decode cL_law 941 = .ok (.invokevirtual 105, 3) := by decide +kernel
theorem dL_law_944 : decode cL_law 944 = .ok (.aload_n 2, 1) := by decide +kernel
theorem dL_law_945 : decode cL_law 945 = .ok (.aload_n 0, 1) := by decide +kernel
theorem dL_law_946 : decode cL_law 946 = .ok (.iload_n 3, 1) := by decide +kernel
theorem dL_law_947 : decode cL_law 947 = .ok (.iconst 1, 1) := by decide +kernel
theorem dL_law_948 : decode cL_law 948 = .ok (.iadd, 1) := by decide +kernel
theorem dL_law_949 : decode cL_law 949 = .ok (.iaload, 1) := by decide +kernel
theorem dL_law_950 : decode cL_law 950 = .ok (.aload_n 0, 1) := by decide +kernel
theorem dL_law_951 : decode cL_law 951 = .ok (.iload_n 3, 1) := by decide +kernel
theorem dL_law_952 : decode cL_law 952 = .ok (.iconst 2, 1) := by decide +kernel
theorem dL_law_953 : decode cL_law 953 = .ok (.iadd, 1) := by decide +kernel
theorem dL_law_954 : decode cL_law 954 = .ok (.iaload, 1) := by decide +kernel
theorem dL_law_955 : decode cL_law 955 = .ok (.invokevirtual 108, 3) := by decide +kernel
theorem dL_law_958 : decode cL_law 958 = .ok (.if_icmp .eq 504, 3) := by decide +kernel
theorem dL_law_961 : decode cL_law 961 = .ok (.iconst 0, 1) := by decide +kernel
theorem dL_law_962 : decode cL_law 962 = .ok (.ireturn, 1) := by decide +kernel
theorem dL_law_963 : decode cL_law 963 = .ok (.aload_n 1, 1) := by decide +kernel
theorem dL_law_964 : decode cL_law 964 = .ok (.aload_n 0, 1) := by decide +kernel
theorem dL_law_965 : decode cL_law 965 = .ok (.iload_n 3, 1) := by decide +kernel
theorem dL_law_966 : decode cL_law 966 = .ok (.iconst 1, 1) := by decide +kernel
theorem dL_law_967 : decode cL_law 967 = .ok (.iadd, 1) := by decide +kernel
theorem dL_law_968 : decode cL_law 968 = .ok (.iaload, 1) := by decide +kernel
theorem dL_law_969 : decode cL_law 969 = .ok (.invokevirtual 109, 3) := by decide +kernel
theorem dL_law_972 : decode cL_law 972 = .ok (.aload_n 2, 1) := by decide +kernel
theorem dL_law_973 : decode cL_law 973 = .ok (.aload_n 0, 1) := by decide +kernel
theorem dL_law_974 : decode cL_law 974 = .ok (.iload_n 3, 1) := by decide +kernel
theorem dL_law_975 : decode cL_law 975 = .ok (.iconst 1, 1) := by decide +kernel
theorem dL_law_976 : decode cL_law 976 = .ok (.iadd, 1) := by decide +kernel
theorem dL_law_977 : decode cL_law 977 = .ok (.iaload, 1) := by decide +kernel
theorem dL_law_978 : decode cL_law 978 = .ok (.invokevirtual 112, 3) := by decide +kernel
theorem dL_law_981 : decode cL_law 981 = .ok (.if_icmp .eq 481, 3) := by decide +kernel
theorem dL_law_984 : decode cL_law 984 = .ok (.iconst 0, 1) := by decide +kernel
theorem dL_law_985 : decode cL_law 985 = .ok (.ireturn, 1) := by decide +kernel
theorem dL_law_986 : decode cL_law 986 = .ok (.aload_n 1, 1) := by decide +kernel
theorem dL_law_987 : decode cL_law 987 = .ok (.aload_n 0, 1) := by decide +kernel
theorem dL_law_988 : decode cL_law 988 = .ok (.iload_n 3, 1) := by decide +kernel
theorem dL_law_989 : decode cL_law 989 = .ok (.iconst 1, 1) := by decide +kernel
theorem dL_law_990 : decode cL_law 990 = .ok (.iadd, 1) := by decide +kernel
theorem dL_law_991 : decode cL_law 991 = .ok (.iaload, 1) := by decide +kernel
theorem dL_law_992 : decode cL_law 992 = .ok (.aload_n 0, 1) := by decide +kernel
theorem dL_law_993 : decode cL_law 993 = .ok (.iload_n 3, 1) := by decide +kernel
theorem dL_law_994 : decode cL_law 994 = .ok (.iconst 2, 1) := by decide +kernel
theorem dL_law_995 : decode cL_law 995 = .ok (.iadd, 1) := by decide +kernel
theorem dL_law_996 : decode cL_law 996 = .ok (.iaload, 1) := by decide +kernel
theorem dL_law_997 : decode cL_law 997 = .ok (.aload_n 0, 1) := by decide +kernel
theorem dL_law_998 : decode cL_law 998 = .ok (.iload_n 3, 1) := by decide +kernel
theorem dL_law_999 : decode cL_law 999 = .ok (.iconst 3, 1) := by decide +kernel
theorem dL_law_1000 : decode cL_law 1000 = .ok (.iadd, 1) := by decide +kernel
theorem dL_law_1001 : decode cL_law 1001 = .ok (.iaload, 1) := by decide +kernel
theorem dL_law_1002 : decode cL_law 1002 = .ok (.invokevirtual 113, 3) := by decide +kernel
theorem dL_law_1005 : decode cL_law 1005 = .ok (.aload_n 2, 1) := by decide +kernel
theorem dL_law_1006 : decode cL_law 1006 = .ok (.aload_n 0, 1) := by decide +kernel
theorem dL_law_1007 : decode cL_law 1007 = .ok (.iload_n 3, 1) := by decide +kernel
theorem dL_law_1008 : decode cL_law 1008 = .ok (.iconst 1, 1) := by decide +kernel
theorem dL_law_1009 : decode cL_law 1009 = .ok (.iadd, 1) := by decide +kernel
theorem dL_law_1010 : decode cL_law 1010 = .ok (.iaload, 1) := by decide +kernel
theorem dL_law_1011 : decode cL_law 1011 = .ok (.aload_n 0, 1) := by decide +kernel
theorem dL_law_1012 : decode cL_law 1012 = .ok (.iload_n 3, 1) := by decide +kernel
theorem dL_law_1013 : decode cL_law 1013 = .ok (.iconst 2, 1) := by decide +kernel
theorem dL_law_1014 : decode cL_law 1014 = .ok (.iadd, 1) := by decide +kernel
theorem dL_law_1015 : decode cL_law 1015 = .ok (.iaload, 1) := by decide +kernel
theorem dL_law_1016 : decode cL_law 1016 = .ok (.aload_n 0, 1) := by decide +kernel
theorem dL_law_1017 : decode cL_law 1017 = .ok (.iload_n 3, 1) := by decide +kernel
theorem dL_law_1018 : decode cL_law 1018 = .ok (.iconst 3, 1) := by decide +kernel
theorem dL_law_1019 : decode cL_law 1019 = .ok (.iadd, 1) := by decide +kernel
theorem dL_law_1020 : decode cL_law 1020 = .ok (.iaload, 1) := by decide +kernel
theorem dL_law_1021 : decode cL_law 1021 = .ok (.invokevirtual 116, 3) := by decide +kernel
theorem dL_law_1024 : decode cL_law 1024 = .ok (.if_icmp .eq 438, 3) := by decide +kernel
theorem dL_law_1027 : decode cL_law 1027 = .ok (.iconst 0, 1) := by decide +kernel
theorem dL_law_1028 : decode cL_law 1028 = .ok (.ireturn, 1) := by decide +kernel
theorem dL_law_1029 : decode cL_law 1029 = .ok (.aload_n 1, 1) := by decide +kernel
theorem dL_law_1030 : decode cL_law 1030 = .ok (.aload_n 0, 1) := by decide +kernel
theorem dL_law_1031 : decode cL_law 1031 = .ok (.iload_n 3, 1) := by decide +kernel
theorem dL_law_1032 : decode cL_law 1032 = .ok (.iconst 1, 1) := by decide +kernel
theorem dL_law_1033 : decode cL_law 1033 = .ok (.iadd, 1) := by decide +kernel
theorem dL_law_1034 : decode cL_law 1034 = .ok (.iaload, 1) := by decide +kernel
theorem dL_law_1035 : decode cL_law 1035 = .ok (.aload_n 0, 1) := by decide +kernel
theorem dL_law_1036 : decode cL_law 1036 = .ok (.iload_n 3, 1) := by decide +kernel
theorem dL_law_1037 : decode cL_law 1037 = .ok (.iconst 2, 1) := by decide +kernel
theorem dL_law_1038 : decode cL_law 1038 = .ok (.iadd, 1) := by decide +kernel
theorem dL_law_1039 : decode cL_law 1039 = .ok (.iaload, 1) := by decide +kernel
theorem dL_law_1040 : decode cL_law 1040 = .ok (.invokevirtual 117, 3) := by decide +kernel
theorem dL_law_1043 : decode cL_law 1043 = .ok (.aload_n 2, 1) := by decide +kernel
theorem dL_law_1044 : decode cL_law 1044 = .ok (.aload_n 0, 1) := by decide +kernel
theorem dL_law_1045 : decode cL_law 1045 = .ok (.iload_n 3, 1) := by decide +kernel
theorem dL_law_1046 : decode cL_law 1046 = .ok (.iconst 1, 1) := by decide +kernel
theorem dL_law_1047 : decode cL_law 1047 = .ok (.iadd, 1) := by decide +kernel
theorem dL_law_1048 : decode cL_law 1048 = .ok (.iaload, 1) := by decide +kernel
theorem dL_law_1049 : decode cL_law 1049 = .ok (.aload_n 0, 1) := by decide +kernel
theorem dL_law_1050 : decode cL_law 1050 = .ok (.iload_n 3, 1) := by decide +kernel
theorem dL_law_1051 : decode cL_law 1051 = .ok (.iconst 2, 1) := by decide +kernel
theorem dL_law_1052 : decode cL_law 1052 = .ok (.iadd, 1) := by decide +kernel
theorem dL_law_1053 : decode cL_law 1053 = .ok (.iaload, 1) := by decide +kernel
theorem dL_law_1054 : decode cL_law 1054 = .ok (.invokevirtual 120, 3) := by decide +kernel
theorem dL_law_1057 : decode cL_law 1057 = .ok (.if_icmp .eq 405, 3) := by decide +kernel
theorem dL_law_1060 : decode cL_law 1060 = .ok (.iconst 0, 1) := by decide +kernel
theorem dL_law_1061 : decode cL_law 1061 = .ok (.ireturn, 1) := by decide +kernel
theorem dL_law_1062 : decode cL_law 1062 = .ok (.aload_n 1, 1) := by decide +kernel
theorem dL_law_1063 : decode cL_law 1063 = .ok (.invokevirtual 121, 3) := by decide +kernel
theorem dL_law_1066 : decode cL_law 1066 = .ok (.aload_n 2, 1) := by decide +kernel
theorem dL_law_1067 : decode cL_law 1067 = .ok (.invokevirtual 125, 3) := by decide +kernel
theorem dL_law_1070 : decode cL_law 1070 = .ok (.if_icmp .eq 392, 3) := by decide +kernel
theorem dL_law_1073 : decode cL_law 1073 = .ok (.iconst 0, 1) := by decide +kernel
theorem dL_law_1074 : decode cL_law 1074 = .ok (.ireturn, 1) := by decide +kernel
theorem dL_law_1075 : decode cL_law 1075 = .ok (.aload_n 1, 1) := by decide +kernel
theorem dL_law_1076 : decode cL_law 1076 = .ok (.invokevirtual 126, 3) := by decide +kernel
theorem dL_law_1079 : decode cL_law 1079 = .ok (.aload_n 2, 1) := by decide +kernel
theorem dL_law_1080 : decode cL_law 1080 = .ok (.invokevirtual 129, 3) := by decide +kernel
theorem dL_law_1083 : decode cL_law 1083 = .ok (.if_icmp .eq 379, 3) := by decide +kernel
theorem dL_law_1086 : decode cL_law 1086 = .ok (.iconst 0, 1) := by decide +kernel
theorem dL_law_1087 : decode cL_law 1087 = .ok (.ireturn, 1) := by decide +kernel
theorem dL_law_1088 : decode cL_law 1088 = .ok (.aload_n 1, 1) := by decide +kernel
theorem dL_law_1089 : decode cL_law 1089 = .ok (.aload_n 0, 1) := by decide +kernel
theorem dL_law_1090 : decode cL_law 1090 = .ok (.iload_n 3, 1) := by decide +kernel
theorem dL_law_1091 : decode cL_law 1091 = .ok (.iconst 1, 1) := by decide +kernel
theorem dL_law_1092 : decode cL_law 1092 = .ok (.iadd, 1) := by decide +kernel
theorem dL_law_1093 : decode cL_law 1093 = .ok (.iaload, 1) := by decide +kernel
theorem dL_law_1094 : decode cL_law 1094 = .ok (.aload_n 0, 1) := by decide +kernel
theorem dL_law_1095 : decode cL_law 1095 = .ok (.iload_n 3, 1) := by decide +kernel
theorem dL_law_1096 : decode cL_law 1096 = .ok (.iconst 2, 1) := by decide +kernel
theorem dL_law_1097 : decode cL_law 1097 = .ok (.iadd, 1) := by decide +kernel
theorem dL_law_1098 : decode cL_law 1098 = .ok (.iaload, 1) := by decide +kernel
theorem dL_law_1099 : decode cL_law 1099 = .ok (.aload_n 0, 1) := by decide +kernel
theorem dL_law_1100 : decode cL_law 1100 = .ok (.iload_n 3, 1) := by decide +kernel
theorem dL_law_1101 : decode cL_law 1101 = .ok (.iconst 3, 1) := by decide +kernel
theorem dL_law_1102 : decode cL_law 1102 = .ok (.iadd, 1) := by decide +kernel
theorem dL_law_1103 : decode cL_law 1103 = .ok (.iaload, 1) := by decide +kernel
theorem dL_law_1104 : decode cL_law 1104 = .ok (.invokevirtual 130, 3) := by decide +kernel
theorem dL_law_1107 : decode cL_law 1107 = .ok (.aload_n 2, 1) := by decide +kernel
theorem dL_law_1108 : decode cL_law 1108 = .ok (.aload_n 0, 1) := by decide +kernel
theorem dL_law_1109 : decode cL_law 1109 = .ok (.iload_n 3, 1) := by decide +kernel
theorem dL_law_1110 : decode cL_law 1110 = .ok (.iconst 1, 1) := by decide +kernel
theorem dL_law_1111 : decode cL_law 1111 = .ok (.iadd, 1) := by decide +kernel
theorem dL_law_1112 : decode cL_law 1112 = .ok (.iaload, 1) := by decide +kernel
theorem dL_law_1113 : decode cL_law 1113 = .ok (.aload_n 0, 1) := by decide +kernel
theorem dL_law_1114 : decode cL_law 1114 = .ok (.iload_n 3, 1) := by decide +kernel
theorem dL_law_1115 : decode cL_law 1115 = .ok (.iconst 2, 1) := by decide +kernel
theorem dL_law_1116 : decode cL_law 1116 = .ok (.iadd, 1) := by decide +kernel
theorem dL_law_1117 : decode cL_law 1117 = .ok (.iaload, 1) := by decide +kernel
theorem dL_law_1118 : decode cL_law 1118 = .ok (.aload_n 0, 1) := by decide +kernel
theorem dL_law_1119 : decode cL_law 1119 = .ok (.iload_n 3, 1) := by decide +kernel
theorem dL_law_1120 : decode cL_law 1120 = .ok (.iconst 3, 1) := by decide +kernel
theorem dL_law_1121 : decode cL_law 1121 = .ok (.iadd, 1) := by decide +kernel
theorem dL_law_1122 : decode cL_law 1122 = .ok (.iaload, 1) := by decide +kernel
theorem dL_law_1123 : decode cL_law 1123 = .ok (.invokevirtual 133, 3) := by decide +kernel
theorem dL_law_1126 : decode cL_law 1126 = .ok (.if_icmp .eq 336, 3) := by decide +kernel
theorem dL_law_1129 : decode cL_law 1129 = .ok (.iconst 0, 1) := by decide +kernel
theorem dL_law_1130 : decode cL_law 1130 = .ok (.ireturn, 1) := by decide +kernel
theorem dL_law_1131 : decode cL_law 1131 = .ok (.aload_n 1, 1) := by decide +kernel
theorem dL_law_1132 : decode cL_law 1132 = .ok (.aload_n 0, 1) := by decide +kernel
theorem dL_law_1133 : decode cL_law 1133 = .ok (.iload_n 3, 1) := by decide +kernel
theorem dL_law_1134 : decode cL_law 1134 = .ok (.iconst 1, 1) := by decide +kernel
theorem dL_law_1135 : decode cL_law 1135 = .ok (.iadd, 1) := by decide +kernel
theorem dL_law_1136 : decode cL_law 1136 = .ok (.iaload, 1) := by decide +kernel
theorem dL_law_1137 : decode cL_law 1137 = .ok (.aload_n 0, 1) := by decide +kernel
theorem dL_law_1138 : decode cL_law 1138 = .ok (.iload_n 3, 1) := by decide +kernel
theorem dL_law_1139 : decode cL_law 1139 = .ok (.iconst 2, 1) := by decide +kernel
theorem dL_law_1140 : decode cL_law 1140 = .ok (.iadd, 1) := by decide +kernel
theorem dL_law_1141 : decode cL_law 1141 = .ok (.iaload, 1) := by decide +kernel
theorem dL_law_1142 : decode cL_law 1142 = .ok (.aload_n 0, 1) := by decide +kernel
theorem dL_law_1143 : decode cL_law 1143 = .ok (.iload_n 3, 1) := by decide +kernel
theorem dL_law_1144 : decode cL_law 1144 = .ok (.iconst 3, 1) := by decide +kernel
theorem dL_law_1145 : decode cL_law 1145 = .ok (.iadd, 1) := by decide +kernel
theorem dL_law_1146 : decode cL_law 1146 = .ok (.iaload, 1) := by decide +kernel
theorem dL_law_1147 : decode cL_law 1147 = .ok (.i2l, 1) := by decide +kernel
theorem dL_law_1148 : decode cL_law 1148 = .ok (.bipush 32, 2) := by decide +kernel
theorem dL_law_1150 : decode cL_law 1150 = .ok (.lshl, 1) := by decide +kernel
theorem dL_law_1151 : decode cL_law 1151 = .ok (.aload_n 0, 1) := by decide +kernel
theorem dL_law_1152 : decode cL_law 1152 = .ok (.iload_n 3, 1) := by decide +kernel
theorem dL_law_1153 : decode cL_law 1153 = .ok (.iconst 4, 1) := by decide +kernel
theorem dL_law_1154 : decode cL_law 1154 = .ok (.iadd, 1) := by decide +kernel
theorem dL_law_1155 : decode cL_law 1155 = .ok (.iaload, 1) := by decide +kernel
theorem dL_law_1156 : decode cL_law 1156 = .ok (.i2l, 1) := by decide +kernel
theorem dL_law_1157 : decode cL_law 1157 = .ok (.ldc2_w 134, 3) := by decide +kernel
theorem dL_law_1160 : decode cL_law 1160 = .ok (.land, 1) := by decide +kernel
theorem dL_law_1161 : decode cL_law 1161 = .ok (.lor, 1) := by decide +kernel
theorem dL_law_1162 : decode cL_law 1162 = .ok (.invokevirtual 136, 3) := by decide +kernel
theorem dL_law_1165 : decode cL_law 1165 = .ok (.aload_n 2, 1) := by decide +kernel
theorem dL_law_1166 : decode cL_law 1166 = .ok (.aload_n 0, 1) := by decide +kernel
theorem dL_law_1167 : decode cL_law 1167 = .ok (.iload_n 3, 1) := by decide +kernel
theorem dL_law_1168 : decode cL_law 1168 = .ok (.iconst 1, 1) := by decide +kernel
theorem dL_law_1169 : decode cL_law 1169 = .ok (.iadd, 1) := by decide +kernel
theorem dL_law_1170 : decode cL_law 1170 = .ok (.iaload, 1) := by decide +kernel
theorem dL_law_1171 : decode cL_law 1171 = .ok (.aload_n 0, 1) := by decide +kernel
theorem dL_law_1172 : decode cL_law 1172 = .ok (.iload_n 3, 1) := by decide +kernel
theorem dL_law_1173 : decode cL_law 1173 = .ok (.iconst 2, 1) := by decide +kernel
theorem dL_law_1174 : decode cL_law 1174 = .ok (.iadd, 1) := by decide +kernel
theorem dL_law_1175 : decode cL_law 1175 = .ok (.iaload, 1) := by decide +kernel
theorem dL_law_1176 : decode cL_law 1176 = .ok (.aload_n 0, 1) := by decide +kernel
theorem dL_law_1177 : decode cL_law 1177 = .ok (.iload_n 3, 1) := by decide +kernel
theorem dL_law_1178 : decode cL_law 1178 = .ok (.iconst 3, 1) := by decide +kernel
theorem dL_law_1179 : decode cL_law 1179 = .ok (.iadd, 1) := by decide +kernel
theorem dL_law_1180 : decode cL_law 1180 = .ok (.iaload, 1) := by decide +kernel
theorem dL_law_1181 : decode cL_law 1181 = .ok (.i2l, 1) := by decide +kernel
theorem dL_law_1182 : decode cL_law 1182 = .ok (.bipush 32, 2) := by decide +kernel
theorem dL_law_1184 : decode cL_law 1184 = .ok (.lshl, 1) := by decide +kernel
theorem dL_law_1185 : decode cL_law 1185 = .ok (.aload_n 0, 1) := by decide +kernel
theorem dL_law_1186 : decode cL_law 1186 = .ok (.iload_n 3, 1) := by decide +kernel
theorem dL_law_1187 : decode cL_law 1187 = .ok (.iconst 4, 1) := by decide +kernel
theorem dL_law_1188 : decode cL_law 1188 = .ok (.iadd, 1) := by decide +kernel
theorem dL_law_1189 : decode cL_law 1189 = .ok (.iaload, 1) := by decide +kernel
theorem dL_law_1190 : decode cL_law 1190 = .ok (.i2l, 1) := by decide +kernel
theorem dL_law_1191 : decode cL_law 1191 = .ok (.ldc2_w 134, 3) := by decide +kernel
theorem dL_law_1194 : decode cL_law 1194 = .ok (.land, 1) := by decide +kernel
theorem dL_law_1195 : decode cL_law 1195 = .ok (.lor, 1) := by decide +kernel
theorem dL_law_1196 : decode cL_law 1196 = .ok (.invokevirtual 140, 3) := by decide +kernel
theorem dL_law_1199 : decode cL_law 1199 = .ok (.lcmp, 1) := by decide +kernel
theorem dL_law_1200 : decode cL_law 1200 = .ok (.ifCond .eq 262, 3) := by decide +kernel
theorem dL_law_1203 : decode cL_law 1203 = .ok (.iconst 0, 1) := by decide +kernel
theorem dL_law_1204 : decode cL_law 1204 = .ok (.ireturn, 1) := by decide +kernel
theorem dL_law_1205 : decode cL_law 1205 = .ok (.aload_n 1, 1) := by decide +kernel
theorem dL_law_1206 : decode cL_law 1206 = .ok (.aload_n 0, 1) := by decide +kernel
theorem dL_law_1207 : decode cL_law 1207 = .ok (.iload_n 3, 1) := by decide +kernel
theorem dL_law_1208 : decode cL_law 1208 = .ok (.iconst 1, 1) := by decide +kernel
theorem dL_law_1209 : decode cL_law 1209 = .ok (.iadd, 1) := by decide +kernel
theorem dL_law_1210 : decode cL_law 1210 = .ok (.iaload, 1) := by decide +kernel
theorem dL_law_1211 : decode cL_law 1211 = .ok (.aload_n 0, 1) := by decide +kernel
theorem dL_law_1212 : decode cL_law 1212 = .ok (.iload_n 3, 1) := by decide +kernel
theorem dL_law_1213 : decode cL_law 1213 = .ok (.iconst 2, 1) := by decide +kernel
theorem dL_law_1214 : decode cL_law 1214 = .ok (.iadd, 1) := by decide +kernel
theorem dL_law_1215 : decode cL_law 1215 = .ok (.iaload, 1) := by decide +kernel
theorem dL_law_1216 : decode cL_law 1216 = .ok (.aload_n 0, 1) := by decide +kernel
theorem dL_law_1217 : decode cL_law 1217 = .ok (.iload_n 3, 1) := by decide +kernel
theorem dL_law_1218 : decode cL_law 1218 = .ok (.iconst 3, 1) := by decide +kernel
theorem dL_law_1219 : decode cL_law 1219 = .ok (.iadd, 1) := by decide +kernel
theorem dL_law_1220 : decode cL_law 1220 = .ok (.iaload, 1) := by decide +kernel
theorem dL_law_1221 : decode cL_law 1221 = .ok (.aload_n 0, 1) := by decide +kernel
theorem dL_law_1222 : decode cL_law 1222 = .ok (.iload_n 3, 1) := by decide +kernel
theorem dL_law_1223 : decode cL_law 1223 = .ok (.iconst 4, 1) := by decide +kernel
theorem dL_law_1224 : decode cL_law 1224 = .ok (.iadd, 1) := by decide +kernel
theorem dL_law_1225 : decode cL_law 1225 = .ok (.iaload, 1) := by decide +kernel
theorem dL_law_1226 : decode cL_law 1226 = .ok (.aload_n 0, 1) := by decide +kernel
theorem dL_law_1227 : decode cL_law 1227 = .ok (.iload_n 3, 1) := by decide +kernel
theorem dL_law_1228 : decode cL_law 1228 = .ok (.iconst 5, 1) := by decide +kernel
theorem dL_law_1229 : decode cL_law 1229 = .ok (.iadd, 1) := by decide +kernel
theorem dL_law_1230 : decode cL_law 1230 = .ok (.iaload, 1) := by decide +kernel
theorem dL_law_1231 : decode cL_law 1231 = .ok (.invokevirtual 141, 3) := by decide +kernel
theorem dL_law_1234 : decode cL_law 1234 = .ok (.aload_n 2, 1) := by decide +kernel
theorem dL_law_1235 : decode cL_law 1235 = .ok (.aload_n 0, 1) := by decide +kernel
theorem dL_law_1236 : decode cL_law 1236 = .ok (.iload_n 3, 1) := by decide +kernel
theorem dL_law_1237 : decode cL_law 1237 = .ok (.iconst 1, 1) := by decide +kernel
theorem dL_law_1238 : decode cL_law 1238 = .ok (.iadd, 1) := by decide +kernel
theorem dL_law_1239 : decode cL_law 1239 = .ok (.iaload, 1) := by decide +kernel
theorem dL_law_1240 : decode cL_law 1240 = .ok (.aload_n 0, 1) := by decide +kernel
theorem dL_law_1241 : decode cL_law 1241 = .ok (.iload_n 3, 1) := by decide +kernel
theorem dL_law_1242 : decode cL_law 1242 = .ok (.iconst 2, 1) := by decide +kernel
theorem dL_law_1243 : decode cL_law 1243 = .ok (.iadd, 1) := by decide +kernel
theorem dL_law_1244 : decode cL_law 1244 = .ok (.iaload, 1) := by decide +kernel
theorem dL_law_1245 : decode cL_law 1245 = .ok (.aload_n 0, 1) := by decide +kernel
theorem dL_law_1246 : decode cL_law 1246 = .ok (.iload_n 3, 1) := by decide +kernel
theorem dL_law_1247 : decode cL_law 1247 = .ok (.iconst 3, 1) := by decide +kernel
theorem dL_law_1248 : decode cL_law 1248 = .ok (.iadd, 1) := by decide +kernel
theorem dL_law_1249 : decode cL_law 1249 = .ok (.iaload, 1) := by decide +kernel
theorem dL_law_1250 : decode cL_law 1250 = .ok (.aload_n 0, 1) := by decide +kernel
theorem dL_law_1251 : decode cL_law 1251 = .ok (.iload_n 3, 1) := by decide +kernel
theorem dL_law_1252 : decode cL_law 1252 = .ok (.iconst 4, 1) := by decide +kernel
theorem dL_law_1253 : decode cL_law 1253 = .ok (.iadd, 1) := by decide +kernel
theorem dL_law_1254 : decode cL_law 1254 = .ok (.iaload, 1) := by decide +kernel
theorem dL_law_1255 : decode cL_law 1255 = .ok (.aload_n 0, 1) := by decide +kernel
theorem dL_law_1256 : decode cL_law 1256 = .ok (.iload_n 3, 1) := by decide +kernel
theorem dL_law_1257 : decode cL_law 1257 = .ok (.iconst 5, 1) := by decide +kernel
theorem dL_law_1258 : decode cL_law 1258 = .ok (.iadd, 1) := by decide +kernel
theorem dL_law_1259 : decode cL_law 1259 = .ok (.iaload, 1) := by decide +kernel
theorem dL_law_1260 : decode cL_law 1260 = .ok (.invokevirtual 145, 3) := by decide +kernel
theorem dL_law_1263 : decode cL_law 1263 = .ok (.if_icmp .eq 199, 3) := by decide +kernel
theorem dL_law_1266 : decode cL_law 1266 = .ok (.iconst 0, 1) := by decide +kernel
theorem dL_law_1267 : decode cL_law 1267 = .ok (.ireturn, 1) := by decide +kernel
theorem dL_law_1268 : decode cL_law 1268 = .ok (.aload_n 1, 1) := by decide +kernel
theorem dL_law_1269 : decode cL_law 1269 = .ok (.aload_n 0, 1) := by decide +kernel
theorem dL_law_1270 : decode cL_law 1270 = .ok (.iload_n 3, 1) := by decide +kernel
theorem dL_law_1271 : decode cL_law 1271 = .ok (.iconst 1, 1) := by decide +kernel
theorem dL_law_1272 : decode cL_law 1272 = .ok (.iadd, 1) := by decide +kernel
theorem dL_law_1273 : decode cL_law 1273 = .ok (.iaload, 1) := by decide +kernel
theorem dL_law_1274 : decode cL_law 1274 = .ok (.aload_n 0, 1) := by decide +kernel
theorem dL_law_1275 : decode cL_law 1275 = .ok (.iload_n 3, 1) := by decide +kernel
theorem dL_law_1276 : decode cL_law 1276 = .ok (.iconst 2, 1) := by decide +kernel
theorem dL_law_1277 : decode cL_law 1277 = .ok (.iadd, 1) := by decide +kernel
theorem dL_law_1278 : decode cL_law 1278 = .ok (.iaload, 1) := by decide +kernel
theorem dL_law_1279 : decode cL_law 1279 = .ok (.invokevirtual 146, 3) := by decide +kernel
theorem dL_law_1282 : decode cL_law 1282 = .ok (.aload_n 2, 1) := by decide +kernel
theorem dL_law_1283 : decode cL_law 1283 = .ok (.aload_n 0, 1) := by decide +kernel
theorem dL_law_1284 : decode cL_law 1284 = .ok (.iload_n 3, 1) := by decide +kernel
theorem dL_law_1285 : decode cL_law 1285 = .ok (.iconst 1, 1) := by decide +kernel
theorem dL_law_1286 : decode cL_law 1286 = .ok (.iadd, 1) := by decide +kernel
theorem dL_law_1287 : decode cL_law 1287 = .ok (.iaload, 1) := by decide +kernel
theorem dL_law_1288 : decode cL_law 1288 = .ok (.aload_n 0, 1) := by decide +kernel
theorem dL_law_1289 : decode cL_law 1289 = .ok (.iload_n 3, 1) := by decide +kernel
theorem dL_law_1290 : decode cL_law 1290 = .ok (.iconst 2, 1) := by decide +kernel
theorem dL_law_1291 : decode cL_law 1291 = .ok (.iadd, 1) := by decide +kernel
theorem dL_law_1292 : decode cL_law 1292 = .ok (.iaload, 1) := by decide +kernel
theorem dL_law_1293 : decode cL_law 1293 = .ok (.invokevirtual 149, 3) := by decide +kernel
theorem dL_law_1296 : decode cL_law 1296 = .ok (.if_icmp .eq 166, 3) := by decide +kernel
theorem dL_law_1299 : decode cL_law 1299 = .ok (.iconst 0, 1) := by decide +kernel
theorem dL_law_1300 : decode cL_law 1300 = .ok (.ireturn, 1) := by decide +kernel
theorem dL_law_1301 : decode cL_law 1301 = .ok (.aload_n 1, 1) := by decide +kernel
theorem dL_law_1302 : decode cL_law 1302 = .ok (.aload_n 0, 1) := by decide +kernel
theorem dL_law_1303 : decode cL_law 1303 = .ok (.iload_n 3, 1) := by decide +kernel
theorem dL_law_1304 : decode cL_law 1304 = .ok (.iconst 1, 1) := by decide +kernel
theorem dL_law_1305 : decode cL_law 1305 = .ok (.iadd, 1) := by decide +kernel
theorem dL_law_1306 : decode cL_law 1306 = .ok (.iaload, 1) := by decide +kernel
theorem dL_law_1307 : decode cL_law 1307 = .ok (.aload_n 0, 1) := by decide +kernel
theorem dL_law_1308 : decode cL_law 1308 = .ok (.iload_n 3, 1) := by decide +kernel
theorem dL_law_1309 : decode cL_law 1309 = .ok (.iconst 2, 1) := by decide +kernel
theorem dL_law_1310 : decode cL_law 1310 = .ok (.iadd, 1) := by decide +kernel
theorem dL_law_1311 : decode cL_law 1311 = .ok (.iaload, 1) := by decide +kernel
theorem dL_law_1312 : decode cL_law 1312 = .ok (.invokevirtual 150, 3) := by decide +kernel
theorem dL_law_1315 : decode cL_law 1315 = .ok (.aload_n 2, 1) := by decide +kernel
theorem dL_law_1316 : decode cL_law 1316 = .ok (.aload_n 0, 1) := by decide +kernel
theorem dL_law_1317 : decode cL_law 1317 = .ok (.iload_n 3, 1) := by decide +kernel
theorem dL_law_1318 : decode cL_law 1318 = .ok (.iconst 1, 1) := by decide +kernel
theorem dL_law_1319 : decode cL_law 1319 = .ok (.iadd, 1) := by decide +kernel
theorem dL_law_1320 : decode cL_law 1320 = .ok (.iaload, 1) := by decide +kernel
theorem dL_law_1321 : decode cL_law 1321 = .ok (.aload_n 0, 1) := by decide +kernel
theorem dL_law_1322 : decode cL_law 1322 = .ok (.iload_n 3, 1) := by decide +kernel
theorem dL_law_1323 : decode cL_law 1323 = .ok (.iconst 2, 1) := by decide +kernel
theorem dL_law_1324 : decode cL_law 1324 = .ok (.iadd, 1) := by decide +kernel
theorem dL_law_1325 : decode cL_law 1325 = .ok (.iaload, 1) := by decide +kernel
theorem dL_law_1326 : decode cL_law 1326 = .ok (.invokevirtual 153, 3) := by decide +kernel
theorem dL_law_1329 : decode cL_law 1329 = .ok (.if_icmp .eq 133, 3) := by decide +kernel
theorem dL_law_1332 : decode cL_law 1332 = .ok (.iconst 0, 1) := by decide +kernel
theorem dL_law_1333 : decode cL_law 1333 = .ok (.ireturn, 1) := by decide +kernel
theorem dL_law_1334 : decode cL_law 1334 = .ok (.aload_n 1, 1) := by decide +kernel
theorem dL_law_1335 : decode cL_law 1335 = .ok (.aload_n 0, 1) := by decide +kernel
theorem dL_law_1336 : decode cL_law 1336 = .ok (.iload_n 3, 1) := by decide +kernel
theorem dL_law_1337 : decode cL_law 1337 = .ok (.iconst 1, 1) := by decide +kernel
theorem dL_law_1338 : decode cL_law 1338 = .ok (.iadd, 1) := by decide +kernel
theorem dL_law_1339 : decode cL_law 1339 = .ok (.iaload, 1) := by decide +kernel
theorem dL_law_1340 : decode cL_law 1340 = .ok (.aload_n 0, 1) := by decide +kernel
theorem dL_law_1341 : decode cL_law 1341 = .ok (.iload_n 3, 1) := by decide +kernel
theorem dL_law_1342 : decode cL_law 1342 = .ok (.iconst 2, 1) := by decide +kernel
theorem dL_law_1343 : decode cL_law 1343 = .ok (.iadd, 1) := by decide +kernel
theorem dL_law_1344 : decode cL_law 1344 = .ok (.iaload, 1) := by decide +kernel
theorem dL_law_1345 : decode cL_law 1345 = .ok (.aload_n 0, 1) := by decide +kernel
theorem dL_law_1346 : decode cL_law 1346 = .ok (.iload_n 3, 1) := by decide +kernel
theorem dL_law_1347 : decode cL_law 1347 = .ok (.iconst 3, 1) := by decide +kernel
theorem dL_law_1348 : decode cL_law 1348 = .ok (.iadd, 1) := by decide +kernel
theorem dL_law_1349 : decode cL_law 1349 = .ok (.iaload, 1) := by decide +kernel
theorem dL_law_1350 : decode cL_law 1350 = .ok (.invokevirtual 154, 3) := by decide +kernel
theorem dL_law_1353 : decode cL_law 1353 = .ok (.aload_n 2, 1) := by decide +kernel
theorem dL_law_1354 : decode cL_law 1354 = .ok (.aload_n 0, 1) := by decide +kernel
theorem dL_law_1355 : decode cL_law 1355 = .ok (.iload_n 3, 1) := by decide +kernel
theorem dL_law_1356 : decode cL_law 1356 = .ok (.iconst 1, 1) := by decide +kernel
theorem dL_law_1357 : decode cL_law 1357 = .ok (.iadd, 1) := by decide +kernel
theorem dL_law_1358 : decode cL_law 1358 = .ok (.iaload, 1) := by decide +kernel
theorem dL_law_1359 : decode cL_law 1359 = .ok (.aload_n 0, 1) := by decide +kernel
theorem dL_law_1360 : decode cL_law 1360 = .ok (.iload_n 3, 1) := by decide +kernel
theorem dL_law_1361 : decode cL_law 1361 = .ok (.iconst 2, 1) := by decide +kernel
theorem dL_law_1362 : decode cL_law 1362 = .ok (.iadd, 1) := by decide +kernel
theorem dL_law_1363 : decode cL_law 1363 = .ok (.iaload, 1) := by decide +kernel
theorem dL_law_1364 : decode cL_law 1364 = .ok (.aload_n 0, 1) := by decide +kernel
theorem dL_law_1365 : decode cL_law 1365 = .ok (.iload_n 3, 1) := by decide +kernel
theorem dL_law_1366 : decode cL_law 1366 = .ok (.iconst 3, 1) := by decide +kernel
theorem dL_law_1367 : decode cL_law 1367 = .ok (.iadd, 1) := by decide +kernel
theorem dL_law_1368 : decode cL_law 1368 = .ok (.iaload, 1) := by decide +kernel
theorem dL_law_1369 : decode cL_law 1369 = .ok (.invokevirtual 157, 3) := by decide +kernel
theorem dL_law_1372 : decode cL_law 1372 = .ok (.if_icmp .eq 90, 3) := by decide +kernel
theorem dL_law_1375 : decode cL_law 1375 = .ok (.iconst 0, 1) := by decide +kernel
theorem dL_law_1376 : decode cL_law 1376 = .ok (.ireturn, 1) := by decide +kernel
theorem dL_law_1377 : decode cL_law 1377 = .ok (.aload_n 1, 1) := by decide +kernel
theorem dL_law_1378 : decode cL_law 1378 = .ok (.invokevirtual 158, 3) := by decide +kernel
theorem dL_law_1381 : decode cL_law 1381 = .ok (.aload_n 2, 1) := by decide +kernel
theorem dL_law_1382 : decode cL_law 1382 = .ok (.invokevirtual 161, 3) := by decide +kernel
theorem dL_law_1385 : decode cL_law 1385 = .ok (.if_icmp .eq 77, 3) := by decide +kernel
theorem dL_law_1388 : decode cL_law 1388 = .ok (.iconst 0, 1) := by decide +kernel
theorem dL_law_1389 : decode cL_law 1389 = .ok (.ireturn, 1) := by decide +kernel
theorem dL_law_1390 : decode cL_law 1390 = .ok (.aload_n 1, 1) := by decide +kernel
theorem dL_law_1391 : decode cL_law 1391 = .ok (.invokevirtual 162, 3) := by decide +kernel
theorem dL_law_1394 : decode cL_law 1394 = .ok (.aload_n 2, 1) := by decide +kernel
theorem dL_law_1395 : decode cL_law 1395 = .ok (.invokevirtual 165, 3) := by decide +kernel
theorem dL_law_1398 : decode cL_law 1398 = .ok (.if_icmp .eq 64, 3) := by decide +kernel
theorem dL_law_1401 : decode cL_law 1401 = .ok (.iconst 0, 1) := by decide +kernel
theorem dL_law_1402 : decode cL_law 1402 = .ok (.ireturn, 1) := by decide +kernel
theorem dL_law_1403 : decode cL_law 1403 = .ok (.aload_n 1, 1) := by decide +kernel
theorem dL_law_1404 : decode cL_law 1404 = .ok (.invokevirtual 166, 3) := by decide +kernel
theorem dL_law_1407 : decode cL_law 1407 = .ok (.aload_n 2, 1) := by decide +kernel
theorem dL_law_1408 : decode cL_law 1408 = .ok (.invokevirtual 169, 3) := by decide +kernel
theorem dL_law_1411 : decode cL_law 1411 = .ok (.if_icmp .eq 51, 3) := by decide +kernel
theorem dL_law_1414 : decode cL_law 1414 = .ok (.iconst 0, 1) := by decide +kernel
theorem dL_law_1415 : decode cL_law 1415 = .ok (.ireturn, 1) := by decide +kernel
theorem dL_law_1416 : decode cL_law 1416 = .ok (.aload_n 1, 1) := by decide +kernel
theorem dL_law_1417 : decode cL_law 1417 = .ok (.aload_n 0, 1) := by decide +kernel
theorem dL_law_1418 : decode cL_law 1418 = .ok (.iload_n 3, 1) := by decide +kernel
theorem dL_law_1419 : decode cL_law 1419 = .ok (.iconst 1, 1) := by decide +kernel
theorem dL_law_1420 : decode cL_law 1420 = .ok (.iadd, 1) := by decide +kernel
theorem dL_law_1421 : decode cL_law 1421 = .ok (.iaload, 1) := by decide +kernel
theorem dL_law_1422 : decode cL_law 1422 = .ok (.invokevirtual 170, 3) := by decide +kernel
theorem dL_law_1425 : decode cL_law 1425 = .ok (.aload_n 2, 1) := by decide +kernel
theorem dL_law_1426 : decode cL_law 1426 = .ok (.aload_n 0, 1) := by decide +kernel
theorem dL_law_1427 : decode cL_law 1427 = .ok (.iload_n 3, 1) := by decide +kernel
theorem dL_law_1428 : decode cL_law 1428 = .ok (.iconst 1, 1) := by decide +kernel
theorem dL_law_1429 : decode cL_law 1429 = .ok (.iadd, 1) := by decide +kernel
theorem dL_law_1430 : decode cL_law 1430 = .ok (.iaload, 1) := by decide +kernel
theorem dL_law_1431 : decode cL_law 1431 = .ok (.invokevirtual 173, 3) := by decide +kernel
theorem dL_law_1434 : decode cL_law 1434 = .ok (.if_icmp .eq 28, 3) := by decide +kernel
theorem dL_law_1437 : decode cL_law 1437 = .ok (.iconst 0, 1) := by decide +kernel
theorem dL_law_1438 : decode cL_law 1438 = .ok (.ireturn, 1) := by decide +kernel
theorem dL_law_1439 : decode cL_law 1439 = .ok (.aload_n 1, 1) := by decide +kernel
theorem dL_law_1440 : decode cL_law 1440 = .ok (.aload_n 0, 1) := by decide +kernel
theorem dL_law_1441 : decode cL_law 1441 = .ok (.iload_n 3, 1) := by decide +kernel
theorem dL_law_1442 : decode cL_law 1442 = .ok (.iconst 1, 1) := by decide +kernel
theorem dL_law_1443 : decode cL_law 1443 = .ok (.iadd, 1) := by decide +kernel
theorem dL_law_1444 : decode cL_law 1444 = .ok (.iaload, 1) := by decide +kernel
theorem dL_law_1445 : decode cL_law 1445 = .ok (.invokevirtual 174, 3) := by decide +kernel
theorem dL_law_1448 : decode cL_law 1448 = .ok (.aload_n 2, 1) := by decide +kernel
theorem dL_law_1449 : decode cL_law 1449 = .ok (.aload_n 0, 1) := by decide +kernel
theorem dL_law_1450 : decode cL_law 1450 = .ok (.iload_n 3, 1) := by decide +kernel
theorem dL_law_1451 : decode cL_law 1451 = .ok (.iconst 1, 1) := by decide +kernel
theorem dL_law_1452 : decode cL_law 1452 = .ok (.iadd, 1) := by decide +kernel
theorem dL_law_1453 : decode cL_law 1453 = .ok (.iaload, 1) := by decide +kernel
theorem dL_law_1454 : decode cL_law 1454 = .ok (.invokevirtual 177, 3) := by decide +kernel
theorem dL_law_1457 : decode cL_law 1457 = .ok (.if_icmp .eq 5, 3) := by decide +kernel
theorem dL_law_1460 : decode cL_law 1460 = .ok (.iconst 0, 1) := by decide +kernel
theorem dL_law_1461 : decode cL_law 1461 = .ok (.ireturn, 1) := by decide +kernel
theorem dL_law_1462 : decode cL_law 1462 = .ok (.iinc 3 6, 3) := by decide +kernel
theorem dL_law_1465 : decode cL_law 1465 = .ok (.goto (-1447), 3) := by decide +kernel
theorem dL_law_1468 : decode cL_law 1468 = .ok (.iconst 1, 1) := by decide +kernel
theorem dL_law_1469 : decode cL_law 1469 = .ok (.ireturn, 1) := by decide +kernel
end
section
/-! THE FLAT MEMORY: behind the two constructors the heap has one fixed shape of 110 cells; what changes is ints and longs, told by (cell, place). -/
abbrev fm_M : Type := (Nat → Nat → Int32) × (Nat → Nat → Int64)
abbrev fm_G : Type := va_G × (Nat → Nat) × (Nat → ClassId) × (Nat → Nat) × (Nat → Nat)
def fm_sI (σ : fm_M) (i k : Nat) (v : Int32) : fm_M := (fun a => if a = i then upd (σ.1 a) k v else σ.1 a, σ.2)
def fm_sL (σ : fm_M) (i k : Nat) (v : Int64) : fm_M := (σ.1, fun a => if a = i then vp_updL (σ.2 a) k v else σ.2 a)
-- the kind of each cell: below 13 an object of that class of vwCl; 13 char[], 14 int[], 15 long[], 16 Man[], 17 Person[], 18 Present[], 19 Sheet[]
def fm_town : List Nat := [10, 17, 5, 5, 5, 5, 5, 5, 18, 7, 14, 7, 14, 7, 14, 7, 14, 7, 14, 7, 14, 7, 14, 7, 14]
def fm_ctL : List Nat := [11, 16, 4, 0, 1, 6, 3, 2] ++ (fm_town ++ (fm_town ++ (fm_town ++ [19, 8, 15, 8, 15, 8, 15, 8, 15, 9, 14, 14, 14, 12, 14, 14, 14, 14, 14, 14, 13, 13, 13, 14, 14, 15, 15])))
def fm_ct (i : Nat) : Nat := fm_ctL.getD i 99
def fm_lnT : List Nat := [0, 6, 0, 0, 0, 0, 0, 0, 8, 0, 6, 0, 6, 0, 6, 0, 6, 0, 6, 0, 6, 0, 6, 0, 6]
def fm_lnL : List Nat := [0, 6, 0, 0, 0, 0, 0, 0] ++ (fm_lnT ++ (fm_lnT ++ (fm_lnT ++ [4, 0, 40, 0, 40, 0, 40, 0, 40, 0, 120, 7, 6, 0, 96, 96, 96, 7, 5, 120, 48, 16, 32, 4, 4, 160, 40])))
def fm_ln (i : Nat) : Nat := fm_lnL.getD i 0
/-- the cell that a place of a cell names: it never changes -/
def fm_rf (i k : Nat) : Nat :=
  if fm_ct i = 16 then 2 + k else if fm_ct i = 17 then i + 1 + k else if fm_ct i = 18 then i + 1 + 2 * k else if fm_ct i = 19 then i + 1 + 2 * k
  else if fm_ct i = 7 then i + 1 else if fm_ct i = 8 then i + 1 else if fm_ct i = 9 then i + 1
  else if fm_ct i = 10 then (if k = 0 then 1 else if k = 1 then i + 1 else i + 8)
  else if fm_ct i = 11 then [8, 33, 58, 0, 83, 92, 94, 95].getD k 0
  else [97, 98, 99, 0, 100, 0, 101, 102, 0, 0, 0, 0, 0, 103, 104, 105, 106, 107, 108, 109].getD k 0
/-- the kinds of a class's fields: 0 int, 1 long, 2 a cell -/
def fm_fk (c : Nat) : List Nat :=
  if c = 5 then [0, 0] else if c = 7 then [2, 0, 0, 0, 0] else if c = 8 then [2, 0, 0] else if c = 9 then [2, 0, 0, 0, 0, 0] else if c = 10 then [2, 2, 2, 0, 0, 0]
  else if c = 11 then [2, 2, 2, 0, 2, 2, 2, 2] else if c = 12 then [2, 2, 2, 0, 2, 0, 2, 2, 0, 0, 0, 0, 1, 2, 2, 2, 2, 2, 2, 2] else []
def fm_fv (G : fm_G) (fi : Nat → Int32) (fl : Nat → Int64) (i t k : Nat) : Value := if t = 0 then .int (fi k) else if t = 1 then .long (fl k) else .ref (G.2.1 (fm_rf i k))
def fm_fs (G : fm_G) (fi : Nat → Int32) (fl : Nat → Int64) (i c : Nat) : List Value := (List.range (fm_fk c).length).map (fun k => fm_fv G fi fl i ((fm_fk c).getD k 9) k)
def fm_cx (G : fm_G) (fi : Nat → Int32) (fl : Nat → Int64) (i c : Nat) : va_E :=
  if c < 13 then .inr (c, fm_fs G fi fl i c) else if c < 15 then .inl (G.2.2.1 c, fm_ln i, .inl fi) else if c = 15 then .inl (G.2.2.1 c, fm_ln i, .inr (.inl fl))
  else .inl (G.2.2.1 c, fm_ln i, .inr (.inr (.inr (.inr (fun j => some (G.2.1 (fm_rf i j)))))))
def fm_ce (G : fm_G) (σ : fm_M) (i : Nat) : va_E := fm_cx G (σ.1 i) (σ.2 i) i (fm_ct i)
def fm_wl (G : fm_G) (σ : fm_M) : va_W := (List.range 110).map (fun i => (G.2.1 i, fm_ce G σ i))
def fm_ty (G : fm_G) : List (ClassId × FieldType) := [(G.2.2.1 13, .char), (G.2.2.1 14, .int), (G.2.2.1 15, .long), (G.2.2.1 16, .object "WrapGifts$Man"), (G.2.2.1 17, .object "WrapGifts$Person"), (G.2.2.1 18, .object "WrapGifts$Present"), (G.2.2.1 19, .object "WrapGifts$Sheet")]
def fm_A (G : fm_G) : Nat → Prop := fun q => ∃ i, i < 110 ∧ q = G.2.1 i
def fm_J (G : fm_G) : Prop := ∀ i j, i < 110 → j < 110 → G.2.1 i = G.2.1 j → i = j
-- the words: all of the tables that a call may carry
def fm_tb : List Cond := lw_tbl.filter goodWord
theorem fm_in {w : Cond} (n : Nat) (h : tables_1[n]? = some w) (hg : goodWord w = true) : w ∈ fm_tb := List.mem_filter.mpr ⟨List.mem_append_right _ (List.mem_of_getElem? h), hg⟩
theorem fm_inS {w : Cond} (n : Nat) (h : (k2_sels lw_privs)[n]? = some w) (hg : goodWord w = true) : w ∈ fm_tb := List.mem_filter.mpr ⟨List.mem_append_left _ (List.mem_of_getElem? h), hg⟩
theorem fm_good : GoodIn fm_tb fm_tb := fun w h => ⟨h, good_of_word (List.mem_filter.mp h).2⟩
-- the world as a list
theorem fm_at {G : fm_G} {σ : fm_M} {i : Nat} (h : i < 110) : (fm_wl G σ)[i]? = some (G.2.1 i, fm_ce G σ i) := by
  unfold fm_wl
  rw [List.getElem?_map, List.getElem?_range h]
  rfl
theorem fm_len {G : fm_G} {σ : fm_M} : (fm_wl G σ).length = 110 := by simp [fm_wl]
theorem fm_set {G : fm_G} {σ σ' : fm_M} {i : Nat} (hi : i < 110) {e : va_E} (h1 : fm_ce G σ' i = e) (h2 : ∀ j, j ≠ i → fm_ce G σ' j = fm_ce G σ j) : (fm_wl G σ).set i (G.2.1 i, e) = fm_wl G σ' := by
  apply List.ext_getElem?
  intro j
  rw [List.getElem?_set, fm_len]
  by_cases hj : j < 110
  · rw [fm_at (σ := σ') hj]
    by_cases h : i = j
    · subst h; rw [if_pos rfl, if_pos hj, h1]
    · rw [if_neg h, fm_at hj, h2 j (fun z => h z.symm)]
  · rw [if_neg (by omega), List.getElem?_eq_none (by rw [fm_len]; omega), List.getElem?_eq_none (by rw [fm_len]; omega)]
theorem fm_D {G : fm_G} (hJ : fm_J G) (σ : fm_M) : va_D (fm_A G) (fm_wl G σ) := by
  have hlt : ∀ (i : Nat) (q : Nat × va_E), (fm_wl G σ)[i]? = some q → i < 110 := fun i q h => by
    have := (List.getElem?_eq_some_iff.mp h).1
    rwa [fm_len] at this
  refine ⟨fun i j x y hx hy hxy => ?_, fun k q hq => ?_⟩
  · have h1 := hlt i x hx
    have h2 := hlt j y hy
    rw [fm_at h1] at hx
    rw [fm_at h2] at hy
    cases hx; cases hy
    exact hJ i j h1 h2 hxy
  · have h1 := hlt k q hq
    rw [fm_at h1] at hq
    cases hq
    exact ⟨k, h1, rfl⟩
theorem fm_oI {G : fm_G} {σ : fm_M} {i k : Nat} {v : Int32} : ∀ j, j ≠ i → fm_ce G (fm_sI σ i k v) j = fm_ce G σ j := fun j h => by
  unfold fm_ce fm_sI
  simp only [if_neg h]
theorem fm_oL {G : fm_G} {σ : fm_M} {i k : Nat} {v : Int64} : ∀ j, j ≠ i → fm_ce G (fm_sL σ i k v) j = fm_ce G σ j := fun j h => by
  unfold fm_ce fm_sL
  simp only [if_neg h]
theorem fm_sI_self {σ : fm_M} {i k : Nat} {v : Int32} : (fm_sI σ i k v).1 i = upd (σ.1 i) k v := by simp [fm_sI]
theorem fm_sL_self {σ : fm_M} {i k : Nat} {v : Int64} : (fm_sL σ i k v).2 i = vp_updL (σ.2 i) k v := by simp [fm_sL]
theorem fm_obj {G : fm_G} {σ : fm_M} {i c : Nat} (hc : fm_ct i = c) (h : c < 13) : fm_ce G σ i = .inr (c, fm_fs G (σ.1 i) (σ.2 i) i c) := by
  unfold fm_ce fm_cx
  rw [hc, if_pos h]
theorem fm_fs_at {G : fm_G} {fi : Nat → Int32} {fl : Nat → Int64} {i c k t : Nat} (h : (fm_fk c)[k]? = some t) : (fm_fs G fi fl i c)[k]? = some (fm_fv G fi fl i t k) := by
  unfold fm_fs
  have hk : k < (fm_fk c).length := (List.getElem?_eq_some_iff.mp h).1
  rw [List.getElem?_map, List.getElem?_range hk]
  simp [List.getD, h]
theorem fm_fs_len {G : fm_G} {fi : Nat → Int32} {fl : Nat → Int64} {i c : Nat} : (fm_fs G fi fl i c).length = (fm_fk c).length := by simp [fm_fs]
theorem fm_fs_setI {G : fm_G} {fi : Nat → Int32} {fl : Nat → Int64} {i c k : Nat} {v : Int32} (h : (fm_fk c)[k]? = some 0) : (fm_fs G fi fl i c).set k (.int v) = fm_fs G (upd fi k v) fl i c := by
  apply List.ext_getElem?
  intro j
  rw [List.getElem?_set, fm_fs_len]
  have hk : k < (fm_fk c).length := (List.getElem?_eq_some_iff.mp h).1
  by_cases hj : k = j
  · subst hj
    rw [if_pos rfl, if_pos hk, fm_fs_at h]
    simp [fm_fv, upd]
  · rw [if_neg hj]
    by_cases hl : j < (fm_fk c).length
    · have h1 : (fm_fk c)[j]? = some (fm_fk c)[j] := List.getElem?_eq_getElem hl
      rw [fm_fs_at h1, fm_fs_at h1]
      simp [fm_fv, upd, show ¬ j = k from fun z => hj z.symm]
    · rw [List.getElem?_eq_none (by rw [fm_fs_len]; omega), List.getElem?_eq_none (by rw [fm_fs_len]; omega)]
theorem fm_fs_setL {G : fm_G} {fi : Nat → Int32} {fl : Nat → Int64} {i c k : Nat} {v : Int64} (h : (fm_fk c)[k]? = some 1) : (fm_fs G fi fl i c).set k (.long v) = fm_fs G fi (vp_updL fl k v) i c := by
  apply List.ext_getElem?
  intro j
  rw [List.getElem?_set, fm_fs_len]
  have hk : k < (fm_fk c).length := (List.getElem?_eq_some_iff.mp h).1
  by_cases hj : k = j
  · subst hj
    rw [if_pos rfl, if_pos hk, fm_fs_at h]
    simp [fm_fv, vp_updL]
  · rw [if_neg hj]
    by_cases hl : j < (fm_fk c).length
    · have h1 : (fm_fk c)[j]? = some (fm_fk c)[j] := List.getElem?_eq_getElem hl
      rw [fm_fs_at h1, fm_fs_at h1]
      simp [fm_fv, vp_updL, show ¬ j = k from fun z => hj z.symm]
    · rw [List.getElem?_eq_none (by rw [fm_fs_len]; omega), List.getElem?_eq_none (by rw [fm_fs_len]; omega)]
theorem fm_arI {G : fm_G} {σ : fm_M} {i c : Nat} (hc : fm_ct i = c) (h1 : ¬ c < 13) (h2 : c < 15) : fm_ce G σ i = .inl (G.2.2.1 c, fm_ln i, .inl (σ.1 i)) := by
  unfold fm_ce fm_cx
  rw [hc, if_neg h1, if_pos h2]
theorem fm_arL {G : fm_G} {σ : fm_M} {i : Nat} (hc : fm_ct i = 15) : fm_ce G σ i = .inl (G.2.2.1 15, fm_ln i, .inr (.inl (σ.2 i))) := by
  unfold fm_ce fm_cx
  rw [hc]; rfl
theorem fm_arR {G : fm_G} {σ : fm_M} {i c : Nat} (hc : fm_ct i = c) (h : 15 < c) : fm_ce G σ i = .inl (G.2.2.1 c, fm_ln i, .inr (.inr (.inr (.inr (fun j => some (G.2.1 (fm_rf i j))))))) := by
  unfold fm_ce fm_cx
  rw [hc, if_neg (by omega), if_neg (by omega), if_neg (by omega)]
-- the words of a mirrored function
def fm_b {α β : Type} (o : Option (α × fm_M)) (f : α → fm_M → Option β) : Option β := o.bind fun q => f q.1 q.2
def fm_g {β : Type} (b : Bool) (x : Option β) : Option β := if b then x else none
def fm_let {α β : Type} (x : α) (f : α → Option β) : Option β := f x
def fm_j {κ β : Type} (K : κ) (f : κ → Option β) : Option β := f K
def fm_in1 (i : Int32) (n : Nat) : Bool := decide (¬ (i < 0 ∨ n ≤ i.toNatClampNeg))
def fm_bz (v : Int32) : Bool := v == 0 || v == 1
theorem fm_bE {α β : Type} {o : Option (α × fm_M)} {f : α → fm_M → Option β} {z : β} (h : fm_b o f = some z) : ∃ (r : α) (σ : fm_M), o = some (r, σ) ∧ f r σ = some z := by
  cases o with
  | none => cases h
  | some q => exact ⟨q.1, q.2, rfl, h⟩
theorem fm_gE {β : Type} {b : Bool} {x : Option β} {z : β} (h : fm_g b x = some z) : b = true ∧ x = some z := by
  cases b with
  | false => cases h
  | true => exact ⟨rfl, h⟩
theorem fm_letE {α β : Type} {x : α} {f : α → Option β} {z : β} (h : fm_let x f = some z) : ∃ y, y = x ∧ f y = some z := ⟨x, rfl, h⟩
theorem fm_inE {i : Int32} {n : Nat} (h : fm_in1 i n = true) : vp_in i n := of_decide_eq_true (p := ¬ (i < 0 ∨ n ≤ i.toNatClampNeg)) h
theorem fm_pT {β : Type} {c : Prop} [Decidable c] {x y : Option β} {z : β} (h : (if c then x else y) = some z) (hc : c) : x = some z := by rwa [if_pos hc] at h
theorem fm_pF {β : Type} {c : Prop} [Decidable c] {x y : Option β} {z : β} (h : (if c then x else y) = some z) (hc : ¬ c) : y = some z := by rwa [if_neg hc] at h
theorem fm_bz_nar {v : Int32} (h : fm_bz v = true) : narrow .boolean (.int v) = .int v ∧ fits .boolean (.int v) = true := by
  simp [fm_bz] at h
  rcases h with rfl | rfl <;> exact ⟨rfl, rfl⟩
def fm_cz (v : Int32) : Bool := decide (v.toUInt32.toUInt16.toUInt32.toInt32 = v)
theorem fm_cz_nar {v : Int32} (h : fm_cz v = true) : narrow .char (.int v) = .int v := by
  have h1 : v.toUInt32.toUInt16.toUInt32.toInt32 = v := of_decide_eq_true h
  show Value.int (v.toUInt32.toUInt16.toUInt32.toInt32) = .int v
  rw [h1]
/-- how many turns a loop may take: far above what any needs -/
def fm_fu : Nat := 100000
theorem fm_jE {κ β : Type} {K : κ} {f : κ → Option β} {z : β} (h : fm_j K f = some z) : ∃ J, J = K ∧ f J = some z := ⟨K, rfl, h⟩
theorem fm_inL {ws : List Cond} (ps : List Nat) (h : ws = ps.filterMap (fun i => tables_1[i]?)) (hg : ws.all goodWord = true) : ∀ w ∈ ws, w ∈ fm_tb := by
  intro w hw
  have h1 := List.all_eq_true.mp hg w hw
  rw [h] at hw
  obtain ⟨i, -, hi⟩ := List.mem_filterMap.mp hw
  exact fm_in i hi h1
-- the shape, by its kinds
def fm_man (a : Nat) : Prop := 2 ≤ a ∧ a < 8
theorem fm_lt6 {x : Int32} {n : Nat} (h : fm_in1 x n = true) : x.toNatClampNeg < n := Nat.not_le.mp fun q => (fm_inE h) (Or.inr q)
theorem fm_shT : ∀ b, b < 110 → fm_ct b = 10 → fm_rf b 0 = 1 ∧ (fm_ct (b + 1) = 17 ∧ fm_rf b 1 = b + 1 ∧ fm_ln (b + 1) = 6) ∧ (fm_ct (b + 8) = 18 ∧ fm_rf b 2 = b + 8 ∧ fm_ln (b + 8) = 8) ∧ (∀ n, n < 6 → fm_ct (b + 2 + n) = 5 ∧ fm_rf (b + 1) n = b + 2 + n) ∧ (∀ n, n < 8 → fm_ct (b + 9 + 2 * n) = 7 ∧ fm_rf (b + 8) n = b + 9 + 2 * n) := by decide +kernel
theorem fm_shP : ∀ a, a < 110 → fm_ct a = 7 → fm_ct (a + 1) = 14 ∧ fm_rf a 0 = a + 1 ∧ fm_ln (a + 1) = 6 := by decide +kernel
theorem fm_shS : ∀ a, a < 110 → fm_ct a = 8 → fm_ct (a + 1) = 15 ∧ fm_rf a 0 = a + 1 ∧ fm_ln (a + 1) = 40 := by decide +kernel
theorem fm_shV : ∀ n, n < 4 → fm_ct (84 + 2 * n) = 8 ∧ fm_rf 83 n = 84 + 2 * n := by decide +kernel
theorem fm_shM : ∀ n, n < 6 → fm_rf 1 n = 2 + n := by decide +kernel
-- the texts: the places of the names in the class's pool, and their bytes
def fm_tk : List Nat := [106, 108, 110, 112, 114, 116, 118, 120, 122, 124, 126, 128]
def fm_tx : List String := ["man", "aunt", "child", "poor", "girl", "clerk", "news", "brown", "tissue", "marbled", "present", "thing"]
def fm_tby : List (List Int32) := [[109, 97, 110], [97, 117, 110, 116], [99, 104, 105, 108, 100], [112, 111, 111, 114], [103, 105, 114, 108], [99, 108, 101, 114, 107], [110, 101, 119, 115], [98, 114, 111, 119, 110], [116, 105, 115, 115, 117, 101], [109, 97, 114, 98, 108, 101, 100], [112, 114, 101, 115, 101, 110, 116], [116, 104, 105, 110, 103]]
def fm_tl : List Nat := [3, 4, 5, 4, 4, 5, 4, 5, 6, 7, 7, 5]
def fm_nc : List (String × String) := [("WrapGifts$Man", "WrapGifts$Aunt"), ("WrapGifts$Man", "WrapGifts$Child"), ("WrapGifts$Man", "WrapGifts$Poor"), ("WrapGifts$Man", "WrapGifts$Girl"), ("WrapGifts$Man", "WrapGifts$Clerk"), ("WrapGifts$Aunt", "WrapGifts$Child"), ("WrapGifts$Aunt", "WrapGifts$Poor"), ("WrapGifts$Aunt", "WrapGifts$Girl"), ("WrapGifts$Aunt", "WrapGifts$Clerk"), ("WrapGifts$Child", "WrapGifts$Aunt"), ("WrapGifts$Child", "WrapGifts$Poor"), ("WrapGifts$Child", "WrapGifts$Girl"), ("WrapGifts$Child", "WrapGifts$Clerk"), ("WrapGifts$Poor", "WrapGifts$Aunt"), ("WrapGifts$Poor", "WrapGifts$Child"), ("WrapGifts$Poor", "WrapGifts$Girl"), ("WrapGifts$Poor", "WrapGifts$Clerk"), ("WrapGifts$Girl", "WrapGifts$Aunt"), ("WrapGifts$Girl", "WrapGifts$Poor"), ("WrapGifts$Girl", "WrapGifts$Clerk"), ("WrapGifts$Clerk", "WrapGifts$Child"), ("WrapGifts$Clerk", "WrapGifts$Poor"), ("WrapGifts$Clerk", "WrapGifts$Girl")]
def fm_X (G : fm_G) (U : State) : Prop := vk_S 12 fm_tl fm_tby G.2.2.2.1 G.2.2.2.2 (fm_A G) U U.heap ∧ (∀ i, i < 12 → vk_R "WrapGifts$Tape" (fm_tk.getD i 0) (fm_tx.getD i "") (G.2.2.2.1 i) U) ∧ va_Z "java/lang/String" "COMPACT_STRINGS" "Z" (.int 1) (fm_A G) U U.heap ∧ va_Zq "jdk/internal/util/Preconditions" "SIOOBE_FORMATTER" "Ljava/util/function/BiFunction;" (fm_A G) U U.heap ∧ ∀ q ∈ fm_nc, va_Nc q.1 q.2 U
theorem fm_X.to {G : fm_G} {s U : State} {H : Heap} {locs : List Loc} (h : fm_X G s) (hS : va_S (fm_A G) s.heap H locs) (hU : U.heap = H) (hW : s.WarmedH U.vm) : fm_X G U := by
  subst hU
  have hq := hS.2.1
  exact ⟨vk_S.moved hW.alike (h.1.kept hq), fun i hi => vk_R.warm hW (h.2.1 i hi), va_Z.moved hW.alike (h.2.2.1.kept hq), va_Zq.moved hW.alike (h.2.2.2.1.kept hq), fun q hm => va_Nc.moved hW.alike (h.2.2.2.2 q hm)⟩
theorem fm_X.blind {G : fm_G} {U V : State} (h : fm_X G U) (hv : V.vm = U.vm) (hh : V.heap = U.heap) : fm_X G V := by
  have ha : U.vm.Alike V.vm := by rw [hv]; exact Vm.Alike.refl U.vm
  unfold fm_X
  rw [hh]
  exact ⟨vk_S.moved ha h.1, fun i hi => vk_R.same hv (h.2.1 i hi), va_Z.moved ha h.2.2.1, va_Zq.moved ha h.2.2.2.1, fun q hm => va_Nc.moved ha (h.2.2.2.2 q hm)⟩
end
section
/-! ROWS over the flat memory: an instruction, a row -/
def fm_st (G : fm_G) (σ : fm_M) (U : State) : Prop := va_P G.1 vwCl (fm_wl G σ) U.heap ∧ va_K G.1 vwCl (fm_ty G) U ∧ fm_X G U
def fm_en (G : fm_G) (σ : fm_M) (U : State) : Prop := va_P G.1 vwCl (fm_wl G σ) U.heap
def fm_Qi (G : fm_G) (o : Int32 × fm_M) : Array Value → State → Outcome → State → Prop := va_Qi (fun (r : Int32) (_ : Unit) => r = o.1) (fun _ t => fm_en G o.2 t) (fm_A G)
def fm_Ql (G : fm_G) (o : Int64 × fm_M) : Array Value → State → Outcome → State → Prop := va_Ql (fun (r : Int64) (_ : Unit) => r = o.1) (fun _ t => fm_en G o.2 t) (fm_A G)
def fm_Qv (G : fm_G) (o : Unit × fm_M) : Array Value → State → Outcome → State → Prop := va_Qv (fun (_ : Unit) => True) (fun _ t => fm_en G o.2 t) (fm_A G)
def fm_Qt (G : fm_G) (o : Nat × fm_M) : Array Value → State → Outcome → State → Prop := va_Qr (fun (_ : Unit) => True) (fun _ a t => a = G.2.2.2.1 o.1 ∧ fm_en G o.2 t) (fm_A G)
def fm_Qr (G : fm_G) (o : Nat × fm_M) : Array Value → State → Outcome → State → Prop := va_Qr (fun (_ : Unit) => True) (fun _ a t => a = G.2.1 o.1 ∧ fm_en G o.2 t) (fm_A G)
abbrev fm_w (y : MethodName) (bytes : ByteArray) (maxL : Nat) (ret : Option FieldType) : List Cond := Cond.code y bytes maxL ret :: fm_tb
/-- a field that is read: its class's tables -/
def fm_fd (C : String) (T : u_T) (N ci k t : Nat) : Prop := vwCl[ci]? = some (C, T, N) ∧ (∀ w ∈ u_ws C T N, w ∈ fm_tb) ∧ k < N ∧ (fm_fk ci)[k]? = some t ∧ ci < 13
/-- a field that is written -/
def fm_fp (C : String) (T : u_T) (N ci k t : Nat) (ty0 : Nat → FieldType) (ty : FieldType) : Prop := fm_fd C T N ci k t ∧ (∀ k, k < N → parseFieldDescriptor (T k).2.2.1 = some (ty0 k)) ∧ (∀ a, a < N → ∀ b, b < N → a ≠ b → (T a).2.1 ≠ (T b).2.1) ∧ (T k).2.2.2 = false ∧ parseFieldDescriptor (T k).2.2.1 = some ty
/-- a method that is called on an object of its own class; a static one -/
def fm_mV (C : String) (y : MethodName) (bytes : ByteArray) (maxL : Nat) (ret : Option FieldType) (n : Nat) : Prop := Cond.instanceMethod y ∈ fm_tb ∧ Cond.selects C y y ∈ fm_tb ∧ Cond.initialized C ∈ fm_tb ∧ Cond.code y bytes maxL ret ∈ fm_tb ∧ (y.cls = C ∧ y.cls ≠ "java/lang/invoke/MethodHandle" ∧ y.cls ≠ "java/lang/invoke/VarHandle" ∧ (parseMethodDescriptor y.desc).map (fun d => d.parameters.length) = some n)
def fm_mS (y : MethodName) (bytes : ByteArray) (maxL : Nat) (ret : Option FieldType) (n : Nat) : Prop := Cond.static y ∈ fm_tb ∧ Cond.initialized y.cls ∈ fm_tb ∧ Cond.code y bytes maxL ret ∈ fm_tb ∧ (y.cls ≠ "java/lang/invoke/MethodHandle" ∧ y.cls ≠ "java/lang/invoke/VarHandle" ∧ (parseMethodDescriptor y.desc).map (fun d => d.parameters.length) = some n)
theorem fm_goodW {own C : String} {index : Nat} {y : MethodName} {bytes : ByteArray} {maxL n : Nat} {ret : Option FieldType} (hm : fm_mV C y bytes maxL ret n) (hl : Cond.methodLink own index y ∈ fm_tb) : GoodIn fm_tb (wsV own index C y (fm_w y bytes maxL ret)) := by
  intro w hw
  unfold wsV at hw
  rcases List.mem_append.mp hw with h | h
  · simp only [List.mem_cons, List.not_mem_nil, or_false] at h
    rcases h with rfl | rfl | rfl | rfl
    · exact fm_good _ hl
    · exact fm_good _ hm.1
    · exact fm_good _ hm.2.1
    · exact fm_good _ hm.2.2.1
  · rcases List.mem_cons.mp h with rfl | h
    · exact fm_good _ hm.2.2.2.1
    · exact fm_good _ h
theorem fm_goodC {y : MethodName} {bytes : ByteArray} {maxL : Nat} {ret : Option FieldType} (hc : Cond.code y bytes maxL ret ∈ fm_tb) : GoodIn fm_tb (fm_w y bytes maxL ret) := fun w h => (List.mem_cons.mp h).elim (fun e => by rw [e]; exact fm_good _ hc) (fun h => fm_good _ h)
theorem fm_lt {i c : Nat} (h : fm_ct i = c) (hc : c < 99) : i < 110 := by
  rcases Nat.lt_or_ge i 110 with h1 | h1
  · exact h1
  · exfalso
    have h2 : fm_ct i = 99 := by
      unfold fm_ct
      rw [List.getD_eq_getElem?_getD, List.getElem?_eq_none (Nat.le_trans (show fm_ctL.length ≤ 110 by decide +kernel) h1)]
      rfl
    omega
section FM
variable {p : Program} {l : Launch} {e : Env} {R : Room} {s : State} {m : MethodId} {args : Array Value} {below : List Frame} {meth : Method} {c : Code} {H : Heap} {locs : List Loc} {cells slots : Nat} {Q : State → Prop}
variable {cc : ByteArray} {pc nL : Nat} {ls : Array Slot} {rest : List Value} {G : fm_G} {σ : fm_M} {own : String}
/-- what stays fixed in a method's walk -/
def fm_C (G : fm_G) (p : Program) (m : MethodId) (c : Code) (cc : ByteArray) (nL : Nat) (s : State) (args : Array Value) (own : String) : Prop := CallFix p m c cc nL s args fm_tb own ∧ va_K G.1 vwCl (fm_ty G) s ∧ fm_J G ∧ fm_X G s
/-- what moves: the memory, and what has been written since the method's entry -/
def fm_I (G : fm_G) (σ : fm_M) (s : State) (H : Heap) (locs : List Loc) : Prop := va_P G.1 vwCl (fm_wl G σ) H ∧ va_S (fm_A G) s.heap H locs
theorem fm_get {C : String} {T : u_T} {N ci index i k t : Nat} (hC : fm_C G p m c cc nL s args own) (hI : fm_I G σ s H locs) (hf : fm_fd C T N ci k t) (hc : fm_ct i = ci) (hl : Cond.fieldLink own index (T k).1 (T k).2.1 (T k).2.2.1 ∈ fm_tb) (hdg : decode cc pc = .ok (.getfield index, 3))
    (kk : W p l e R s m args below meth c H locs cells slots Q (F0 m (pc + 3) ls (fm_fv G (σ.1 i) (σ.2 i) i t k :: rest))) : W p l e R s m args below meth c H locs cells slots Q (F0 m pc ls (.ref (G.2.1 i) :: rest)) := by
  obtain ⟨⟨hx, hb, hml, hown, hts⟩, hK, hJ, hXX⟩ := hC
  obtain ⟨h1, h2, h3, h4, h5⟩ := hf
  have hi : i < 110 := fm_lt hc (by omega)
  exact va_get hx hb hts h2 hown hK hI.1 i (by rw [fm_at hi, fm_obj hc h5]) h1 k h3 (hts _ hl) (fun _ h9 => h9) (fm_fs_at h4) hdg kk
theorem fm_gi {C : String} {T : u_T} {N ci index i k : Nat} (hC : fm_C G p m c cc nL s args own) (hI : fm_I G σ s H locs) (hf : fm_fd C T N ci k 0) (hc : fm_ct i = ci) (hl : Cond.fieldLink own index (T k).1 (T k).2.1 (T k).2.2.1 ∈ fm_tb) (hdg : decode cc pc = .ok (.getfield index, 3))
    (kk : W p l e R s m args below meth c H locs cells slots Q (F0 m (pc + 3) ls (.int (σ.1 i k) :: rest))) : W p l e R s m args below meth c H locs cells slots Q (F0 m pc ls (.ref (G.2.1 i) :: rest)) := fm_get hC hI hf hc hl hdg kk
theorem fm_gl {C : String} {T : u_T} {N ci index i k : Nat} (hC : fm_C G p m c cc nL s args own) (hI : fm_I G σ s H locs) (hf : fm_fd C T N ci k 1) (hc : fm_ct i = ci) (hl : Cond.fieldLink own index (T k).1 (T k).2.1 (T k).2.2.1 ∈ fm_tb) (hdg : decode cc pc = .ok (.getfield index, 3))
    (kk : W p l e R s m args below meth c H locs cells slots Q (F0 m (pc + 3) ls (.long (σ.2 i k) :: rest))) : W p l e R s m args below meth c H locs cells slots Q (F0 m pc ls (.ref (G.2.1 i) :: rest)) := fm_get hC hI hf hc hl hdg kk
theorem fm_gr {C : String} {T : u_T} {N ci index i k j : Nat} (hC : fm_C G p m c cc nL s args own) (hI : fm_I G σ s H locs) (hf : fm_fd C T N ci k 2) (hc : fm_ct i = ci) (hj : fm_rf i k = j) (hl : Cond.fieldLink own index (T k).1 (T k).2.1 (T k).2.2.1 ∈ fm_tb) (hdg : decode cc pc = .ok (.getfield index, 3))
    (kk : W p l e R s m args below meth c H locs cells slots Q (F0 m (pc + 3) ls (.ref (G.2.1 j) :: rest))) : W p l e R s m args below meth c H locs cells slots Q (F0 m pc ls (.ref (G.2.1 i) :: rest)) := by
  subst hj
  exact fm_get hC hI hf hc hl hdg kk
theorem fm_pi {C : String} {T : u_T} {N ci index i k : Nat} {ty0 : Nat → FieldType} {ty : FieldType} {v : Int32} {σ' : fm_M} (hC : fm_C G p m c cc nL s args own) (hI : fm_I G σ s H locs) (hf : fm_fp C T N ci k 0 ty0 ty) (hc : fm_ct i = ci) (hn : narrow ty (.int v) = .int v ∧ fits ty (.int v) = true) (he : σ' = fm_sI σ i k v) (hl : Cond.fieldLink own index (T k).1 (T k).2.1 (T k).2.2.1 ∈ fm_tb) (hdg : decode cc pc = .ok (.putfield index, 3))
    (kk : ∀ (H1 : Heap) (locs1 : List Loc), fm_I G σ' s H1 locs1 → W p l e R s m args below meth c H1 locs1 cells slots Q (F0 m (pc + 3) ls rest)) : W p l e R s m args below meth c H locs cells slots Q (F0 m pc ls (.int v :: .ref (G.2.1 i) :: rest)) := by
  obtain ⟨⟨hx, hb, hml, hown, hts⟩, hK, hJ, hXX⟩ := hC
  obtain ⟨⟨h1, h2, h3, h4, h5⟩, h6, h7, h8, h9⟩ := hf
  have hi : i < 110 := fm_lt hc (by omega)
  refine va_put hx hb hts h2 ty0 h6 h7 hown hK hI.1 (fm_D hJ σ) hI.2 i (by rw [fm_at hi, fm_obj hc h5]) h1 k h3 (hts _ hl) (fun _ h => h) h8 h9 hn.1 hn.2 (by rw [fm_fs_len]; exact (List.getElem?_eq_some_iff.mp h4).1) hdg (fun H1 locs1 hP _ hS => kk H1 locs1 ⟨?_, hS⟩)
  rw [fm_fs_setI h4, fm_set (σ' := σ') hi (by rw [he, fm_obj hc h5, fm_sI_self]; rfl) (by rw [he]; exact fm_oI)] at hP
  exact hP
theorem fm_pl {C : String} {T : u_T} {N ci index i k : Nat} {ty0 : Nat → FieldType} {v : Int64} {σ' : fm_M} (hC : fm_C G p m c cc nL s args own) (hI : fm_I G σ s H locs) (hf : fm_fp C T N ci k 1 ty0 .long) (hc : fm_ct i = ci) (he : σ' = fm_sL σ i k v) (hl : Cond.fieldLink own index (T k).1 (T k).2.1 (T k).2.2.1 ∈ fm_tb) (hdg : decode cc pc = .ok (.putfield index, 3))
    (kk : ∀ (H1 : Heap) (locs1 : List Loc), fm_I G σ' s H1 locs1 → W p l e R s m args below meth c H1 locs1 cells slots Q (F0 m (pc + 3) ls rest)) : W p l e R s m args below meth c H locs cells slots Q (F0 m pc ls (.long v :: .ref (G.2.1 i) :: rest)) := by
  obtain ⟨⟨hx, hb, hml, hown, hts⟩, hK, hJ, hXX⟩ := hC
  obtain ⟨⟨h1, h2, h3, h4, h5⟩, h6, h7, h8, h9⟩ := hf
  have hi : i < 110 := fm_lt hc (by omega)
  refine va_put hx hb hts h2 ty0 h6 h7 hown hK hI.1 (fm_D hJ σ) hI.2 i (by rw [fm_at hi, fm_obj hc h5]) h1 k h3 (hts _ hl) (fun _ h => h) h8 h9 rfl rfl (by rw [fm_fs_len]; exact (List.getElem?_eq_some_iff.mp h4).1) hdg (fun H1 locs1 hP _ hS => kk H1 locs1 ⟨?_, hS⟩)
  rw [fm_fs_setL h4, fm_set (σ' := σ') hi (by rw [he, fm_obj hc h5, fm_sL_self]; rfl) (by rw [he]; exact fm_oL)] at hP
  exact hP
theorem fm_iald {i n : Nat} {x : Int32} (hC : fm_C G p m c cc nL s args own) (hI : fm_I G σ s H locs) (hc : fm_ct i = 14) (hn : fm_ln i = n) (hin : fm_in1 x n = true) (hdg : decode cc pc = .ok (.iaload, 1))
    (kk : W p l e R s m args below meth c H locs cells slots Q (F0 m (pc + 1) ls (.int (σ.1 i x.toNatClampNeg) :: rest))) : W p l e R s m args below meth c H locs cells slots Q (F0 m pc ls (.int x :: .ref (G.2.1 i) :: rest)) := by
  obtain ⟨⟨hx, hb, hml, hown, hts⟩, hK, hJ, hXX⟩ := hC
  subst hn
  have hi : i < 110 := fm_lt hc (by omega)
  exact va_iald hx hb hK hI.1 i 1 (by rw [fm_at hi, fm_arI hc (by decide) (by decide)]) rfl (fm_inE hin) hdg kk
theorem fm_cald {i n : Nat} {x : Int32} (hC : fm_C G p m c cc nL s args own) (hI : fm_I G σ s H locs) (hc : fm_ct i = 13) (hn : fm_ln i = n) (hin : fm_in1 x n = true) (hdg : decode cc pc = .ok (.caload, 1))
    (kk : W p l e R s m args below meth c H locs cells slots Q (F0 m (pc + 1) ls (.int (σ.1 i x.toNatClampNeg) :: rest))) : W p l e R s m args below meth c H locs cells slots Q (F0 m pc ls (.int x :: .ref (G.2.1 i) :: rest)) := by
  obtain ⟨⟨hx, hb, hml, hown, hts⟩, hK, hJ, hXX⟩ := hC
  subst hn
  have hi : i < 110 := fm_lt hc (by omega)
  exact va_cald hx hb hK hI.1 i 0 (by rw [fm_at hi, fm_arI hc (by decide) (by decide)]) rfl (fm_inE hin) hdg kk
theorem fm_lald {i n : Nat} {x : Int32} (hC : fm_C G p m c cc nL s args own) (hI : fm_I G σ s H locs) (hc : fm_ct i = 15) (hn : fm_ln i = n) (hin : fm_in1 x n = true) (hdg : decode cc pc = .ok (.laload, 1))
    (kk : W p l e R s m args below meth c H locs cells slots Q (F0 m (pc + 1) ls (.long (σ.2 i x.toNatClampNeg) :: rest))) : W p l e R s m args below meth c H locs cells slots Q (F0 m pc ls (.int x :: .ref (G.2.1 i) :: rest)) := by
  obtain ⟨⟨hx, hb, hml, hown, hts⟩, hK, hJ, hXX⟩ := hC
  subst hn
  have hi : i < 110 := fm_lt hc (by omega)
  exact va_lald hx hb hK hI.1 i 2 (by rw [fm_at hi, fm_arL hc]) rfl (fm_inE hin) hdg kk
theorem fm_aald {i j n ci t0 : Nat} {C : String} {x : Int32} (hC : fm_C G p m c cc nL s args own) (hI : fm_I G σ s H locs) (hc : fm_ct i = ci) (h15 : 15 < ci) (h20 : ci < 20) (ht : (fm_ty G)[t0]? = some (G.2.2.1 ci, .object C)) (hn : fm_ln i = n) (hin : fm_in1 x n = true) (hj : fm_rf i x.toNatClampNeg = j) (hdg : decode cc pc = .ok (.aaload, 1))
    (kk : W p l e R s m args below meth c H locs cells slots Q (F0 m (pc + 1) ls (.ref (G.2.1 j) :: rest))) : W p l e R s m args below meth c H locs cells slots Q (F0 m pc ls (.int x :: .ref (G.2.1 i) :: rest)) := by
  obtain ⟨⟨hx, hb, hml, hown, hts⟩, hK, hJ, hXX⟩ := hC
  subst hn; subst hj
  have hi : i < 110 := fm_lt hc (by omega)
  exact va_aldq (f := fun j => some (G.2.1 (fm_rf i j))) hx hb hK hI.1 i t0 (by rw [fm_at hi, fm_arR hc h15]) ht (fm_inE hin) hdg kk
theorem fm_iast {i n : Nat} {x v : Int32} {σ' : fm_M} (hC : fm_C G p m c cc nL s args own) (hI : fm_I G σ s H locs) (hc : fm_ct i = 14) (hn : fm_ln i = n) (hin : fm_in1 x n = true) (he : σ' = fm_sI σ i x.toNatClampNeg v) (hdg : decode cc pc = .ok (.iastore, 1))
    (kk : ∀ (H1 : Heap) (locs1 : List Loc), fm_I G σ' s H1 locs1 → W p l e R s m args below meth c H1 locs1 cells slots Q (F0 m (pc + 1) ls rest)) : W p l e R s m args below meth c H locs cells slots Q (F0 m pc ls (.int v :: .int x :: .ref (G.2.1 i) :: rest)) := by
  obtain ⟨⟨hx, hb, hml, hown, hts⟩, hK, hJ, hXX⟩ := hC
  subst hn
  have hi : i < 110 := fm_lt hc (by omega)
  refine va_iast hx hb hK hI.1 (fm_D hJ σ) hI.2 i 1 (by rw [fm_at hi, fm_arI hc (by decide) (by decide)]) rfl (fm_inE hin) hdg (fun H1 locs1 hP _ hS => kk H1 locs1 ⟨?_, hS⟩)
  rw [fm_set (σ' := σ') hi (by rw [he, fm_arI hc (by decide) (by decide), fm_sI_self]) (by rw [he]; exact fm_oI)] at hP
  exact hP
theorem fm_last {i n : Nat} {x : Int32} {v : Int64} {σ' : fm_M} (hC : fm_C G p m c cc nL s args own) (hI : fm_I G σ s H locs) (hc : fm_ct i = 15) (hn : fm_ln i = n) (hin : fm_in1 x n = true) (he : σ' = fm_sL σ i x.toNatClampNeg v) (hdg : decode cc pc = .ok (.lastore, 1))
    (kk : ∀ (H1 : Heap) (locs1 : List Loc), fm_I G σ' s H1 locs1 → W p l e R s m args below meth c H1 locs1 cells slots Q (F0 m (pc + 1) ls rest)) : W p l e R s m args below meth c H locs cells slots Q (F0 m pc ls (.long v :: .int x :: .ref (G.2.1 i) :: rest)) := by
  obtain ⟨⟨hx, hb, hml, hown, hts⟩, hK, hJ, hXX⟩ := hC
  subst hn
  have hi : i < 110 := fm_lt hc (by omega)
  refine va_last hx hb hK hI.1 (fm_D hJ σ) hI.2 i 2 (by rw [fm_at hi, fm_arL hc]) rfl (fm_inE hin) hdg (fun H1 locs1 hP _ hS => kk H1 locs1 ⟨?_, hS⟩)
  rw [fm_set (σ' := σ') hi (by rw [he, fm_arL hc, fm_sL_self]) (by rw [he]; exact fm_oL)] at hP
  exact hP
theorem fm_alenI {i n ci : Nat} {v : Int32} (hC : fm_C G p m c cc nL s args own) (hI : fm_I G σ s H locs) (hc : fm_ct i = ci) (h1 : ¬ ci < 13) (h2 : ci < 15) (hn : fm_ln i = n) (hv : Int32.ofNat n = v) (hdg : decode cc pc = .ok (.arraylength, 1))
    (kk : W p l e R s m args below meth c H locs cells slots Q (F0 m (pc + 1) ls (.int v :: rest))) : W p l e R s m args below meth c H locs cells slots Q (F0 m pc ls (.ref (G.2.1 i) :: rest)) := by
  obtain ⟨⟨hx, hb, hml, hown, hts⟩, hK, hJ, hXX⟩ := hC
  subst hn
  have hi : i < 110 := fm_lt hc (by omega)
  have h3 : ci = 13 ∨ ci = 14 := by omega
  rcases h3 with rfl | rfl
  · exact va_alen hx hb hK hI.1 i 0 (by rw [fm_at hi, fm_arI hc h1 h2]) (ty := .char) rfl hv hdg kk
  · exact va_alen hx hb hK hI.1 i 1 (by rw [fm_at hi, fm_arI hc h1 h2]) (ty := .int) rfl hv hdg kk
-- calls
theorem fm_blind {av : List Value} : FrameBlind (va_Pc av (fm_st G σ)) := fun a U g mk q => ⟨q.1, q.2.1, va_K.moved (u := U) (U := U.calling g mk a) (Vm.Alike.refl U.vm) q.2.2.1, q.2.2.2.blind rfl rfl⟩
theorem fm_pre {av : List Value} (hK : va_K G.1 vwCl (fm_ty G) s) (hXX : fm_X G s) (hI : fm_I G σ s H locs) : ∀ U : State, U.heap = H → s.WarmedH U.vm → va_Pc av (fm_st G σ) av.toArray U := fun U hU hW => ⟨rfl, by rw [hU]; exact hI.1, va_K.moved hW.alike hK, hXX.to hI.2 hU hW⟩
variable {y : MethodName} {bytes : ByteArray} {maxL n index i ci N : Nat} {ret : Option FieldType} {rm : Room} {As st0 : List Value} {C : String} {T : u_T}
theorem fm_runV {Qc : Array Value → State → Outcome → State → Prop} (hC : fm_C G p m c cc nL s args own) (hI : fm_I G σ s H locs) (hM : Met l y (fm_w y bytes maxL ret) rm (va_Pc (.ref (G.2.1 i) :: As) (fm_st G σ)) Qc 0 0 (fm_A G)) (hm : fm_mV C y bytes maxL ret n) (hl : Cond.methodLink own index y ∈ fm_tb) (hrm : rm.cells = 0 ∧ rm.slots = 0) (hR : rm.frames + 1 ≤ R.frames ∧ 8 + (maxL + 11) + rm.locals ≤ R.locals) (hc : fm_ct i = ci) (hcl : vwCl[ci]? = some (C, T, N)) (hci : ci < 13)
    (hn : As.length = n) (hsz : ls.size = nL) (hst : st0 = As.reverse ++ .ref (G.2.1 i) :: rest) (hW : (rest.map fun v => v.category).sum ≤ 8) (hdg : decode cc pc = .ok (.invokevirtual index, 3)) (hf : cells ≤ R.cells ∧ slots ≤ R.slots) :
    va_Run p l e R s m args below meth c H locs cells slots 0 0 (F0 m pc ls st0) rest (Qc (Value.ref (G.2.1 i) :: As).toArray) (fm_A G) := by
  obtain ⟨hC1, hK, hJ, hXX⟩ := hC
  have hts := hC1.2.2.2.2
  have hi : i < 110 := fm_lt hc (by omega)
  exact va_runV hC1 hM (cwV n hts (fm_goodW hm hl) rfl hrm.1 hrm.2 hm.2.2.2.2 hR) ⟨fm_blind, va_recv hK hI.1 hcl (by rw [fm_at hi, fm_obj hc hci]), fm_pre hK hXX hI⟩ rfl hn hsz hst (lv_room hW) hdg hf
theorem fm_runS {Qc : Array Value → State → Outcome → State → Prop} (hC : fm_C G p m c cc nL s args own) (hI : fm_I G σ s H locs) (hM : Met l y (fm_w y bytes maxL ret) rm (va_Pc As (fm_st G σ)) Qc 0 0 (fm_A G)) (hm : fm_mS y bytes maxL ret n) (hl : Cond.methodLink own index y ∈ fm_tb) (hrm : rm.cells = 0 ∧ rm.slots = 0) (hR : rm.frames + 1 ≤ R.frames ∧ 8 + (maxL + 11) + rm.locals ≤ R.locals)
    (hn : As.length = n) (hsz : ls.size = nL) (hst : st0 = As.reverse ++ rest) (hW : (rest.map fun v => v.category).sum ≤ 8) (hdg : decode cc pc = .ok (.invokestatic index, 3)) (hf : cells ≤ R.cells ∧ slots ≤ R.slots) :
    va_Run p l e R s m args below meth c H locs cells slots 0 0 (F0 m pc ls st0) rest (Qc As.toArray) (fm_A G) := by
  obtain ⟨hC1, hK, hJ, hXX⟩ := hC
  have hts := hC1.2.2.2.2
  exact va_runS hC1 hM ⟨callB_of n hts (fm_goodC hm.2.2.1) rfl hrm.1 hrm.2 (hts _ hm.2.1) (hts _ hl) hm.2.2.2 hR, hts _ hm.1⟩ ⟨fm_blind, fm_pre hK hXX hI⟩ rfl hn hsz hst (lv_room hW) hdg hf
variable {a : Array Value}
theorem fm_ci {z : Int32} {σ' : fm_M} (hI : fm_I G σ s H locs) (hr : va_Run p l e R s m args below meth c H locs cells slots 0 0 (F0 m pc ls st0) rest (fm_Qi G (z, σ') a) (fm_A G)) (kk : ∀ (H1 : Heap) (locs1 : List Loc), fm_I G σ' s H1 locs1 → W p l e R s m args below meth c H1 locs1 cells slots Q (F0 m (pc + 3) ls (.int z :: rest))) : W p l e R s m args below meth c H locs cells slots Q (F0 m pc ls st0) :=
  va_calli hr hI.2 (fun _ _ h => h) (fun _ h => h) (fun r u t H1 locs1 ht hvm hp hB hz hk hS => by
    cases hp
    exact kk H1 locs1 ⟨by rw [← ht]; exact hB, hS⟩)
theorem fm_cl {z : Int64} {σ' : fm_M} (hI : fm_I G σ s H locs) (hr : va_Run p l e R s m args below meth c H locs cells slots 0 0 (F0 m pc ls st0) rest (fm_Ql G (z, σ') a) (fm_A G)) (kk : ∀ (H1 : Heap) (locs1 : List Loc), fm_I G σ' s H1 locs1 → W p l e R s m args below meth c H1 locs1 cells slots Q (F0 m (pc + 3) ls (.long z :: rest))) : W p l e R s m args below meth c H locs cells slots Q (F0 m pc ls st0) :=
  va_calll hr hI.2 (fun _ _ h => h) (fun _ h => h) (fun r u t H1 locs1 ht hvm hp hB hz hk hS => by
    cases hp
    exact kk H1 locs1 ⟨by rw [← ht]; exact hB, hS⟩)
theorem fm_cv {z : Unit} {σ' : fm_M} (hI : fm_I G σ s H locs) (hr : va_Run p l e R s m args below meth c H locs cells slots 0 0 (F0 m pc ls st0) rest (fm_Qv G (z, σ') a) (fm_A G)) (kk : ∀ (H1 : Heap) (locs1 : List Loc), fm_I G σ' s H1 locs1 → W p l e R s m args below meth c H1 locs1 cells slots Q (F0 m (pc + 3) ls rest)) : W p l e R s m args below meth c H locs cells slots Q (F0 m pc ls st0) :=
  va_callv hr hI.2 (fun _ _ h => h) (fun _ h => h) (fun u t H1 locs1 ht hvm hp hB hz hk hS => kk H1 locs1 ⟨by rw [← ht]; exact hB, hS⟩)
theorem fm_cr {z : Nat} {σ' : fm_M} (hI : fm_I G σ s H locs) (hr : va_Run p l e R s m args below meth c H locs cells slots 0 0 (F0 m pc ls st0) rest (fm_Qr G (z, σ') a) (fm_A G)) (kk : ∀ (H1 : Heap) (locs1 : List Loc), fm_I G σ' s H1 locs1 → W p l e R s m args below meth c H1 locs1 cells slots Q (F0 m (pc + 3) ls (.ref (G.2.1 z) :: rest))) : W p l e R s m args below meth c H locs cells slots Q (F0 m pc ls st0) :=
  va_callr hr hI.2 (fun _ _ h => h) (fun _ h => h) (fun u ra t H1 locs1 ht hvm hp hB hz hk hS => by
    obtain ⟨rfl, hB⟩ := hB
    exact kk H1 locs1 ⟨by rw [← ht]; exact hB, hS⟩)
-- ends
variable {r : Int32}
theorem fm_ri {o : Int32 × fm_M} (hC : fm_C G p m c cc nL s args own) (hI : fm_I G σ s H locs) (hr : meth.sig.returnType = some .int) (hlk : meth.locks = false) (hf : some (r, σ) = some o) (hdg : decode cc pc = .ok (.ireturn, 1)) : W p l e R s m args below meth c H locs 0 0 (MQ below (fm_Qi G o) args s 0 0 (fm_A G)) (F0 m pc ls [.int r]) := by
  cases hf
  exact W.iret hC.1.1 hC.1.2.1 hr (fun t ht hW => ⟨⟨r, (), rfl, rfl, show va_P _ _ _ _ by rw [ht]; exact hI.1⟩, hI.2.F ht⟩) hI.2.2.2 hdg hlk
theorem fm_rz {o : Int32 × fm_M} (hC : fm_C G p m c cc nL s args own) (hI : fm_I G σ s H locs) (hr : meth.sig.returnType = some .boolean) (hlk : meth.locks = false) (hz : fm_bz r = true) (hf : some (r, σ) = some o) (hdg : decode cc pc = .ok (.ireturn, 1)) : W p l e R s m args below meth c H locs 0 0 (MQ below (fm_Qi G o) args s 0 0 (fm_A G)) (F0 m pc ls [.int r]) := by
  cases hf
  exact W.zret hC.1.1 hC.1.2.1 hr (fm_bz_nar hz).1 (fun t ht hW => ⟨⟨r, (), rfl, rfl, show va_P _ _ _ _ by rw [ht]; exact hI.1⟩, hI.2.F ht⟩) hI.2.2.2 hdg hlk
theorem fm_rl {o : Int64 × fm_M} {r : Int64} (hC : fm_C G p m c cc nL s args own) (hI : fm_I G σ s H locs) (hr : meth.sig.returnType = some .long) (hlk : meth.locks = false) (hf : some (r, σ) = some o) (hdg : decode cc pc = .ok (.lreturn, 1)) : W p l e R s m args below meth c H locs 0 0 (MQ below (fm_Ql G o) args s 0 0 (fm_A G)) (F0 m pc ls [.long r]) := by
  cases hf
  exact W.lret hC.1.1 hC.1.2.1 hr (fun t ht hW => ⟨⟨r, (), rfl, rfl, show va_P _ _ _ _ by rw [ht]; exact hI.1⟩, hI.2.F ht⟩) hI.2.2.2 hdg hlk
theorem fm_rv {o : Unit × fm_M} (hC : fm_C G p m c cc nL s args own) (hI : fm_I G σ s H locs) (hr : meth.sig.returnType = none) (hlk : meth.locks = false) (hf : some ((), σ) = some o) (hdg : decode cc pc = .ok (.return_, 1)) : W p l e R s m args below meth c H locs 0 0 (MQ below (fm_Qv G o) args s 0 0 (fm_A G)) (F0 m pc ls []) := by
  cases hf
  exact W.vret hC.1.1 hC.1.2.1 hr (fun t ht hW => ⟨⟨(), rfl, trivial, show va_P _ _ _ _ by rw [ht]; exact hI.1⟩, hI.2.F ht⟩) hI.2.2.2 hdg hlk
theorem fm_ra {o : Nat × fm_M} {j : Nat} {nm : String} (hC : fm_C G p m c cc nL s args own) (hI : fm_I G σ s H locs) (hr : meth.sig.returnType = some (.object nm)) (hlk : meth.locks = false) (hf : some (j, σ) = some o) (hdg : decode cc pc = .ok (.areturn, 1)) : W p l e R s m args below meth c H locs 0 0 (MQ below (fm_Qr G o) args s 0 0 (fm_A G)) (F0 m pc ls [.ref (G.2.1 j)]) := by
  cases hf
  exact W.aret hC.1.1 hC.1.2.1 hr (Or.inl ⟨nm, rfl⟩) (Or.inr ⟨_, rfl⟩) (fun t ht hW => ⟨⟨(), _, rfl, trivial, rfl, show va_P _ _ _ _ by rw [ht]; exact hI.1⟩, hI.2.F ht⟩) hI.2.2.2 hdg hlk
theorem fm_rt {o : Nat × fm_M} {j : Nat} {nm : String} (hC : fm_C G p m c cc nL s args own) (hI : fm_I G σ s H locs) (hr : meth.sig.returnType = some (.object nm)) (hlk : meth.locks = false) (hf : some (j, σ) = some o) (hdg : decode cc pc = .ok (.areturn, 1)) : W p l e R s m args below meth c H locs 0 0 (MQ below (fm_Qt G o) args s 0 0 (fm_A G)) (F0 m pc ls [.ref (G.2.2.2.1 j)]) := by
  cases hf
  exact W.aret hC.1.1 hC.1.2.1 hr (Or.inl ⟨nm, rfl⟩) (Or.inr ⟨_, rfl⟩) (fun t ht hW => ⟨⟨(), _, rfl, trivial, rfl, show va_P _ _ _ _ by rw [ht]; exact hI.1⟩, hI.2.F ht⟩) hI.2.2.2 hdg hlk
theorem fm_rn {o : Int32 × fm_M} {ty : FieldType} (hC : fm_C G p m c cc nL s args own) (hI : fm_I G σ s H locs) (hr : meth.sig.returnType = some ty) (hlk : meth.locks = false) (hn : narrow ty (.int r) = .int r) (hf : some (r, σ) = some o) (hdg : decode cc pc = .ok (.ireturn, 1)) : W p l e R s m args below meth c H locs 0 0 (MQ below (fm_Qi G o) args s 0 0 (fm_A G)) (F0 m pc ls [.int r]) := by
  cases hf
  exact W.zret hC.1.1 hC.1.2.1 hr hn (fun t ht hW => ⟨⟨r, (), rfl, rfl, show va_P _ _ _ _ by rw [ht]; exact hI.1⟩, hI.2.F ht⟩) hI.2.2.2 hdg hlk
theorem fm_cT {z : Nat} {σ' : fm_M} (hI : fm_I G σ s H locs) (hr : va_Run p l e R s m args below meth c H locs cells slots 0 0 (F0 m pc ls st0) rest (fm_Qt G (z, σ') a) (fm_A G)) (kk : ∀ (H1 : Heap) (locs1 : List Loc), fm_I G σ' s H1 locs1 → W p l e R s m args below meth c H1 locs1 cells slots Q (F0 m (pc + 3) ls (.ref (G.2.2.2.1 z) :: rest))) : W p l e R s m args below meth c H locs cells slots Q (F0 m pc ls st0) :=
  va_callr hr hI.2 (fun _ _ h => h) (fun _ h => h) (fun u ra t H1 locs1 ht hvm hp hB hz hk hS => by
    obtain ⟨rfl, hB⟩ := hB
    exact kk H1 locs1 ⟨by rw [← ht]; exact hB, hS⟩)
-- a call of an overriding or inherited method; of the method above
def fm_mU (C : String) (x y : MethodName) (bytes : ByteArray) (maxL : Nat) (ret : Option FieldType) (n : Nat) : Prop := Cond.sameMethod x.cls x.cls x.name x.desc ∈ fm_tb ∧ Cond.instanceMethod x ∈ fm_tb ∧ Cond.selects C x y ∈ fm_tb ∧ Cond.instanceMethod y ∈ fm_tb ∧ Cond.initialized y.cls ∈ fm_tb ∧ Cond.code y bytes maxL ret ∈ fm_tb ∧ (∃ (b0 : ByteArray) (m0 : Nat) (r0 : Option FieldType), Cond.code ⟨x.cls, x.name, x.desc⟩ b0 m0 r0 ∈ fm_tb) ∧ (x.cls ≠ "java/lang/invoke/MethodHandle" ∧ x.cls ≠ "java/lang/invoke/VarHandle" ∧ (parseMethodDescriptor x.desc).map (fun d => d.parameters.length) = some n)
theorem fm_runU {x : MethodName} {Qc : Array Value → State → Outcome → State → Prop} (hC : fm_C G p m c cc nL s args own) (hI : fm_I G σ s H locs) (hM : Met l y (fm_w y bytes maxL ret) rm (va_Pc (.ref (G.2.1 i) :: As) (fm_st G σ)) Qc 0 0 (fm_A G)) (hm : fm_mU C x y bytes maxL ret n) (hl : Cond.methodLink own index x ∈ fm_tb) (hrm : rm.cells = 0 ∧ rm.slots = 0) (hR : rm.frames + 1 ≤ R.frames ∧ 8 + (maxL + 11) + rm.locals ≤ R.locals) (hc : fm_ct i = ci) (hcl : vwCl[ci]? = some (C, T, N)) (hci : ci < 13)
    (hn : As.length = n) (hsz : ls.size = nL) (hst : st0 = As.reverse ++ .ref (G.2.1 i) :: rest) (hW : (rest.map fun v => v.category).sum ≤ 8) (hdg : decode cc pc = .ok (.invokevirtual index, 3)) (hf : cells ≤ R.cells ∧ slots ≤ R.slots) :
    va_Run p l e R s m args below meth c H locs cells slots 0 0 (F0 m pc ls st0) rest (Qc (Value.ref (G.2.1 i) :: As).toArray) (fm_A G) := by
  obtain ⟨hC1, hK, hJ, hXX⟩ := hC
  obtain ⟨m1, m2, m3, m4, m5, m6, ⟨b0, m0, r0, m7⟩, m8⟩ := hm
  have hts := hC1.2.2.2.2
  have hi : i < 110 := fm_lt hc (by omega)
  have hg : GoodIn fm_tb (va_wsO own index C x.cls x y (fm_w y bytes maxL ret)) := by
    intro w hw
    unfold va_wsO at hw
    rcases List.mem_append.mp hw with h | h
    · simp only [List.mem_cons, List.not_mem_nil, or_false] at h
      rcases h with rfl | rfl | rfl | rfl | rfl | rfl
      · exact fm_good _ hl
      · exact fm_good _ m1
      · exact fm_good _ m2
      · exact fm_good _ m3
      · exact fm_good _ m4
      · exact fm_good _ m5
    · exact fm_goodC m6 w h
  exact va_runU (x := x) (owner := x.cls) hC1 hM (va_cwO n hts hg rfl hrm.1 hrm.2 m7 m8 hR) ⟨fm_blind, va_recv hK hI.1 hcl (by rw [fm_at hi, fm_obj hc hci]), fm_pre hK hXX hI⟩ rfl hn hsz hst (lv_room hW) hdg hf
def fm_mP (own : String) (y : MethodName) (bytes : ByteArray) (maxL : Nat) (ret : Option FieldType) (n : Nat) : Prop := Cond.sameMethod y.cls y.cls y.name y.desc ∈ fm_tb ∧ Cond.superclass own y.cls ∈ fm_tb ∧ Cond.instanceMethod y ∈ fm_tb ∧ Cond.initialized y.cls ∈ fm_tb ∧ Cond.code y bytes maxL ret ∈ fm_tb ∧ (y.name ≠ "<init>" ∧ (parseMethodDescriptor y.desc).map (fun d => d.parameters.length) = some n)
theorem fm_manC {i : Nat} (h : fm_man i) : ∃ (ci : Nat) (C : String) (T : u_T) (N : Nat), fm_ct i = ci ∧ vwCl[ci]? = some (C, T, N) ∧ ci < 13 := by
  obtain ⟨h1, h2⟩ := h
  have h3 : i = 2 ∨ i = 3 ∨ i = 4 ∨ i = 5 ∨ i = 6 ∨ i = 7 := by omega
  rcases h3 with rfl | rfl | rfl | rfl | rfl | rfl
  · exact ⟨4, _, _, _, by decide +kernel, rfl, by decide⟩
  · exact ⟨0, _, _, _, by decide +kernel, rfl, by decide⟩
  · exact ⟨1, _, _, _, by decide +kernel, rfl, by decide⟩
  · exact ⟨6, _, _, _, by decide +kernel, rfl, by decide⟩
  · exact ⟨3, _, _, _, by decide +kernel, rfl, by decide⟩
  · exact ⟨2, _, _, _, by decide +kernel, rfl, by decide⟩
theorem fm_runP {Qc : Array Value → State → Outcome → State → Prop} (hC : fm_C G p m c cc nL s args own) (hI : fm_I G σ s H locs) (hM : Met l y (fm_w y bytes maxL ret) rm (va_Pc (.ref (G.2.1 i) :: As) (fm_st G σ)) Qc 0 0 (fm_A G)) (hm : fm_mP own y bytes maxL ret n) (hl : Cond.methodLink own index y ∈ fm_tb) (hrm : rm.cells = 0 ∧ rm.slots = 0) (hR : rm.frames + 1 ≤ R.frames ∧ 8 + (maxL + 11) + rm.locals ≤ R.locals) (hman : fm_man i)
    (hn : As.length = n) (hsz : ls.size = nL) (hst : st0 = As.reverse ++ .ref (G.2.1 i) :: rest) (hW : (rest.map fun v => v.category).sum ≤ 8) (hdg : decode cc pc = .ok (.invokespecial index, 3)) (hf : cells ≤ R.cells ∧ slots ≤ R.slots) :
    va_Run p l e R s m args below meth c H locs cells slots 0 0 (F0 m pc ls st0) rest (Qc (Value.ref (G.2.1 i) :: As).toArray) (fm_A G) := by
  obtain ⟨hC1, hK, hJ, hXX⟩ := hC
  obtain ⟨m1, m2, m3, m4, m5, m6⟩ := hm
  obtain ⟨ci, C, T, N, hc, hcl, hci⟩ := fm_manC hman
  have hts := hC1.2.2.2.2
  have hi : i < 110 := fm_lt hc (by omega)
  have hg : GoodIn fm_tb (va_wsSU own index y (fm_w y bytes maxL ret)) := by
    intro w hw
    unfold va_wsSU at hw
    rcases List.mem_append.mp hw with h | h
    · simp only [List.mem_cons, List.not_mem_nil, or_false] at h
      rcases h with rfl | rfl | rfl | rfl | rfl
      · exact fm_good _ hl
      · exact fm_good _ m1
      · exact fm_good _ m2
      · exact fm_good _ m3
      · exact fm_good _ m4
    · exact fm_goodC m5 w h
  exact va_runSU (C := C) (cC := G.1.1 ci) (hK.1 ci _ hcl).2 hC1 hM (va_cwSU n hts hg rfl hrm.1 hrm.2 m6 hR) ⟨fm_blind, va_recv hK hI.1 hcl (by rw [fm_at hi, fm_obj hc hci]), fm_pre hK hXX hI⟩ rfl hn hsz hst (lv_room hW) hdg hf
end FM
/-- a method's contract out of its walk -/
theorem fm_mth {l : Launch} {G : fm_G} {σ : fm_M} {y : MethodName} {bytes : ByteArray} {maxL : Nat} {ret : Option FieldType} {rm : Room} {av : List Value} {own : String} {Qc : Array Value → State → Outcome → State → Prop} (hJ : fm_J G) (ho : y.cls = own) (hy : plainName y.cls = true) (hL : (lg_sl av).length ≤ maxL)
    (K : ∀ (p : Program) (e : Env) (s : State) (m : MethodId) (below : List Frame) (meth : Method) (c : Code) (ls : Array Slot), fm_C G p m c bytes maxL s av.toArray own → meth.sig.returnType = ret → meth.locks = false → fm_I G σ s s.heap [] → lv_has ls maxL (lv_args 0 av) → W p l e rm s m av.toArray below meth c s.heap [] 0 0 (MQ below Qc av.toArray s 0 0 (fm_A G)) (F0 m 0 ls [])) :
    Met l y (fm_w y bytes maxL ret) rm (va_Pc av (fm_st G σ)) Qc 0 0 (fm_A G) := by
  refine Met.ofW (cc := bytes) (maxL := maxL) (ret := ret) hy rfl ?_
  intro p e s m args below meth c s₁ B hml hv
  obtain ⟨rfl, hP, hK, hXX⟩ := hv
  have hts := atoms_spec (ws := fm_w y bytes maxL ret) B.pre
  have hown : s.vm.findClass y.cls = some m.cls := findClass_of_methodNamed B.named
  rw [ho] at hown
  have hl := lv_entry av (n := maxL) hL
  rw [lg_entry_eq]
  exact K p e s m below meth c _ ⟨⟨B.exec, B.bytes, hml, hown, fun w h => hts w (List.mem_cons_of_mem _ h)⟩, hK, hJ, hXX⟩ B.returns B.notSynchronized ⟨hP, va_S.rf⟩ hl
theorem fm_T0 {b : Nat} (h : fm_ct b = 10) : fm_rf b 0 = 1 := (fm_shT b (fm_lt h (by decide)) h).1
theorem fm_T1 {b : Nat} (h : fm_ct b = 10) : fm_ct (b + 1) = 17 ∧ fm_rf b 1 = b + 1 ∧ fm_ln (b + 1) = 6 := (fm_shT b (fm_lt h (by decide)) h).2.1
theorem fm_T2 {b : Nat} (h : fm_ct b = 10) : fm_ct (b + 8) = 18 ∧ fm_rf b 2 = b + 8 ∧ fm_ln (b + 8) = 8 := (fm_shT b (fm_lt h (by decide)) h).2.2.1
theorem fm_T3 {b : Nat} {x : Int32} (h : fm_ct b = 10) (hx : fm_in1 x 6 = true) : fm_ct (b + 2 + x.toNatClampNeg) = 5 ∧ fm_rf (b + 1) x.toNatClampNeg = b + 2 + x.toNatClampNeg := (fm_shT b (fm_lt h (by decide)) h).2.2.2.1 _ (fm_lt6 hx)
theorem fm_T4 {b : Nat} {x : Int32} (h : fm_ct b = 10) (hx : fm_in1 x 8 = true) : fm_ct (b + 9 + 2 * x.toNatClampNeg) = 7 ∧ fm_rf (b + 8) x.toNatClampNeg = b + 9 + 2 * x.toNatClampNeg := (fm_shT b (fm_lt h (by decide)) h).2.2.2.2 _ (fm_lt6 hx)
theorem fm_P0 {a : Nat} (h : fm_ct a = 7) : fm_ct (a + 1) = 14 ∧ fm_rf a 0 = a + 1 ∧ fm_ln (a + 1) = 6 := fm_shP a (fm_lt h (by decide)) h
theorem fm_S0 {a : Nat} (h : fm_ct a = 8) : fm_ct (a + 1) = 15 ∧ fm_rf a 0 = a + 1 ∧ fm_ln (a + 1) = 40 := fm_shS a (fm_lt h (by decide)) h
theorem fm_V0 {x : Int32} (hx : fm_in1 x 4 = true) : fm_ct (84 + 2 * x.toNatClampNeg) = 8 ∧ fm_rf 83 x.toNatClampNeg = 84 + 2 * x.toNatClampNeg := fm_shV _ (fm_lt6 hx)
theorem fm_M0 {x : Int32} (hx : fm_in1 x 6 = true) : fm_man (2 + x.toNatClampNeg) ∧ fm_rf 1 x.toNatClampNeg = 2 + x.toNatClampNeg := ⟨⟨by omega, by have := fm_lt6 hx; omega⟩, fm_shM _ (fm_lt6 hx)⟩
theorem fm_neI {x v : Int32} (h : ¬ x = v) : x.toInt ≠ v.toInt := fun z => h (Int32.toInt_inj.mp z)
section FMT
variable {p : Program} {l : Launch} {e : Env} {R : Room} {s : State} {m : MethodId} {args : Array Value} {below : List Frame} {meth : Method} {c : Code} {H : Heap} {locs : List Loc} {cells slots : Nat} {Q : State → Prop}
variable {cc : ByteArray} {pc nL : Nat} {ls : Array Slot} {rest : List Value} {G : fm_G} {σ : fm_M} {own : String}
variable {y : MethodName} {bytes : ByteArray} {maxL n index i ci N : Nat} {ret : Option FieldType} {rm : Room} {As st0 : List Value} {C : String} {T : u_T}
/-- a call on a text -/
theorem fm_runT {Qc : Array Value → State → Outcome → State → Prop} (hC : fm_C G p m c cc nL s args own) (hI : fm_I G σ s H locs) (hM : Met l y (fm_w y bytes maxL ret) rm (va_Pc (.ref (G.2.2.2.1 i) :: As) (fm_st G σ)) Qc 0 0 (fm_A G)) (hm : fm_mV "java/lang/String" y bytes maxL ret n) (hl : Cond.methodLink own index y ∈ fm_tb) (hrm : rm.cells = 0 ∧ rm.slots = 0) (hR : rm.frames + 1 ≤ R.frames ∧ 8 + (maxL + 11) + rm.locals ≤ R.locals) (hi : i < 12)
    (hn : As.length = n) (hsz : ls.size = nL) (hst : st0 = As.reverse ++ .ref (G.2.2.2.1 i) :: rest) (hW : (rest.map fun v => v.category).sum ≤ 8) (hdg : decode cc pc = .ok (.invokevirtual index, 3)) (hf : cells ≤ R.cells ∧ slots ≤ R.slots) :
    va_Run p l e R s m args below meth c H locs cells slots 0 0 (F0 m pc ls st0) rest (Qc (Value.ref (G.2.2.2.1 i) :: As).toArray) (fm_A G) := by
  obtain ⟨hC1, hK, hJ, hXX⟩ := hC
  have hts := hC1.2.2.2.2
  exact va_runV hC1 hM (cwV n hts (fm_goodW hm hl) rfl hrm.1 hrm.2 hm.2.2.2.2 hR) ⟨fm_blind, vk_recv hXX.1 hi hI.2, fm_pre hK hXX hI⟩ rfl hn hsz hst (lv_room hW) hdg hf
/-- whether one of the six is of a kind, or of one under it -/
theorem fm_inst {nm : String} (ps : List Nat) (hC : fm_C G p m c cc nL s args own) (hI : fm_I G σ s H locs) (hm : fm_man i) (hl : Cond.classLink own index nm ∈ fm_tb)
    (hy : ∀ (ci : Nat) (C : String) (T : u_T) (N : Nat), fm_ct i = ci → vwCl[ci]? = some (C, T, N) → (i ∈ ps → C = nm ∨ Cond.castable C nm ∈ fm_tb) ∧ (¬ i ∈ ps → (C, nm) ∈ fm_nc)) (hdg : decode cc pc = .ok (.instanceof index, 3))
    (kk : W p l e R s m args below meth c H locs cells slots Q (F0 m (pc + 3) ls (.int (if i ∈ ps then 1 else 0) :: rest))) : W p l e R s m args below meth c H locs cells slots Q (F0 m pc ls (.ref (G.2.1 i) :: rest)) := by
  obtain ⟨⟨hx, hb, hml, hown, hts⟩, hK, hJ, hXX⟩ := hC
  obtain ⟨ci, C, T, N, hc, hcl, hci⟩ := fm_manC hm
  have hi : i < 110 := fm_lt hc (by omega)
  have hr := va_recv hK hI.1 hcl (show (fm_wl G σ)[i]? = some (G.2.1 i, .inr (ci, fm_fs G (σ.1 i) (σ.2 i) i ci)) by rw [fm_at hi, fm_obj hc hci])
  obtain ⟨h1, h2⟩ := hy ci C T N hc hcl
  by_cases hp : i ∈ ps
  · rw [if_pos hp] at kk
    rcases h1 hp with rfl | h
    · exact va_instE hx hb hown (hts _ hl) hr hdg kk
    · exact va_instY (C := C) hx hb hown (hts _ hl) (va_Nw.of rfl (hts _ h)) hr hdg kk
  · rw [if_neg hp] at kk
    exact va_instNo (C := C) hx hb hown (hts _ hl) (hXX.2.2.2.2 _ (h2 hp)) hr hdg kk
end FMT
/-- one array's numbers come to another's -/
def fm_cpL (σ : fm_M) (i j sp dp n : Nat) : fm_M := (σ.1, fun a => if a = j then va_cpy (σ.2 i) (σ.2 j) sp dp n else σ.2 a)
def fm_cpk (sp dp n : Int32) (n0 n1 : Nat) : Bool := decide (¬ sp < 0) && (decide (¬ dp < 0) && (decide (¬ n < 0) && (decide (sp.toNatClampNeg + n.toNatClampNeg ≤ n0) && decide (dp.toNatClampNeg + n.toNatClampNeg ≤ n1))))
section FMC
variable {p : Program} {l : Launch} {e : Env} {R : Room} {s : State} {m : MethodId} {args : Array Value} {below : List Frame} {meth : Method} {c : Code} {H : Heap} {locs : List Loc} {cells slots : Nat} {Q : State → Prop}
variable {cc : ByteArray} {pc nL : Nat} {ls : Array Slot} {rest : List Value} {G : fm_G} {σ : fm_M} {own : String}
theorem fm_copyl {i j index n0 n1 : Nat} {sp dp n : Int32} {σ' : fm_M} (hC : fm_C G p m c cc nL s args own) (hI : fm_I G σ s H locs) (hsz : ls.size = nL) (hl : Cond.methodLink own index arraycopyName ∈ fm_tb) (h1 : Cond.native arraycopyName ∈ fm_tb) (h2 : Cond.static arraycopyName ∈ fm_tb) (h3 : Cond.initialized "java/lang/System" ∈ fm_tb) (hc : fm_ct i = 15) (hc2 : fm_ct j = 15) (hn0 : fm_ln i = n0) (hn1 : fm_ln j = n1) (hk : fm_cpk sp dp n n0 n1 = true) (he : σ' = fm_cpL σ i j sp.toNatClampNeg dp.toNatClampNeg n.toNatClampNeg)
    (hframes : 1 ≤ R.frames) (hlocals : (rest.map fun v => v.category).sum + (nativeFrameWords "java/lang/System" "arraycopy" 5 + 11) ≤ R.locals) (hdg : decode cc pc = .ok (.invokestatic index, 3))
    (kk : ∀ (H1 : Heap) (locs1 : List Loc), fm_I G σ' s H1 locs1 → W p l e R s m args below meth c H1 locs1 cells slots Q (F0 m (pc + 3) ls rest)) : W p l e R s m args below meth c H locs cells slots Q (F0 m pc ls (.int n :: .int dp :: .ref (G.2.1 j) :: .int sp :: .ref (G.2.1 i) :: rest)) := by
  obtain ⟨⟨hx, hb, hml, hown, hts⟩, hK, hJ, hXX⟩ := hC
  subst hn0; subst hn1
  have hi : i < 110 := fm_lt hc (by omega)
  have hj : j < 110 := fm_lt hc2 (by omega)
  simp only [fm_cpk, Bool.and_eq_true, decide_eq_true_eq] at hk
  obtain ⟨k1, k2, k3, k4, k5⟩ := hk
  refine va_copyl hx hb (hml.trans hsz.symm) hown (hts _ hl) (hts _ h1) (hts _ h2) (hts _ h3) hK hI.1 (fm_D hJ σ) hI.2 i j 2 2 (by rw [fm_at hi, fm_arL hc]) (by rw [fm_at hj, fm_arL hc2]) rfl rfl rfl k1 k2 k3 k4 k5 (fun _ _ => rfl) hframes hlocals hdg (fun H1 locs1 hP _ hS => kk H1 locs1 ⟨?_, hS⟩)
  rw [fm_set (σ' := σ') hj (by rw [he, fm_arL hc2]; simp [fm_cpL]) (by
    intro q hq
    rw [he]
    unfold fm_ce fm_cpL
    simp only [if_neg hq])] at hP
  exact hP
end FMC
end
