theorem dX12_enjoysOf_52 : decode cX12_enjoysOf 52 = .ok (.bipush 6, 2) := by decide +kernel
theorem dX12_enjoysOf_54 : decode cX12_enjoysOf 54 = .ok (.goto 6, 3) := by decide +kernel
theorem dX12_enjoysOf_57 : decode cX12_enjoysOf 57 = .ok (.iload_n 2, 1) := by decide +kernel
theorem dX12_enjoysOf_58 : decode cX12_enjoysOf 58 = .ok (.iconst 1, 1) := by decide +kernel
theorem dX12_enjoysOf_59 : decode cX12_enjoysOf 59 = .ok (.iadd, 1) := by decide +kernel
theorem dX12_enjoysOf_60 : decode cX12_enjoysOf 60 = .ok (.ireturn, 1) := by decide +kernel
theorem dX12_enjoysOf_61 : decode cX12_enjoysOf 61 = .ok (.iconst 0, 1) := by decide +kernel
theorem dX12_enjoysOf_62 : decode cX12_enjoysOf 62 = .ok (.ireturn, 1) := by decide +kernel
theorem dX12_enjoysOf_63 : decode cX12_enjoysOf 63 = .ok (.iconst 2, 1) := by decide +kernel
theorem dX12_enjoysOf_64 : decode cX12_enjoysOf 64 = .ok (.iload_n 2, 1) := by decide +kernel
theorem dX12_enjoysOf_65 : decode cX12_enjoysOf 65 = .ok (.imul, 1) := by decide +kernel
theorem dX12_enjoysOf_66 : decode cX12_enjoysOf 66 = .ok (.iconst 1, 1) := by decide +kernel
theorem dX12_enjoysOf_67 : decode cX12_enjoysOf 67 = .ok (.iadd, 1) := by decide +kernel
theorem dX12_enjoysOf_68 : decode cX12_enjoysOf 68 = .ok (.ireturn, 1) := by decide +kernel
theorem dX12_enjoysOf_69 : decode cX12_enjoysOf 69 = .ok (.iload_n 2, 1) := by decide +kernel
theorem dX12_enjoysOf_70 : decode cX12_enjoysOf 70 = .ok (.iconst 1, 1) := by decide +kernel
theorem dX12_enjoysOf_71 : decode cX12_enjoysOf 71 = .ok (.iadd, 1) := by decide +kernel
theorem dX12_enjoysOf_72 : decode cX12_enjoysOf 72 = .ok (.ireturn, 1) := by decide +kernel
theorem dX12_struckOf_0 : decode cX12_struckOf 0 = .ok (.iload_n 2, 1) := by decide +kernel
theorem dX12_struckOf_1 : decode cX12_struckOf 1 = .ok (.ifCond .le 7, 3) := by decide +kernel
theorem dX12_struckOf_4 : decode cX12_struckOf 4 = .ok (.iconst 0, 1) := by decide +kernel
theorem dX12_struckOf_5 : decode cX12_struckOf 5 = .ok (.goto 4, 3) := by decide +kernel
theorem dX12_struckOf_8 : decode cX12_struckOf 8 = .ok (.iconst 5, 1) := by decide +kernel
theorem dX12_struckOf_9 : decode cX12_struckOf 9 = .ok (.istore_n 3, 1) := by decide +kernel
theorem dX12_struckOf_10 : decode cX12_struckOf 10 = .ok (.aload_n 0, 1) := by decide +kernel
theorem dX12_struckOf_11 : decode cX12_struckOf 11 = .ok (.iload_n 1, 1) := by decide +kernel
theorem dX12_struckOf_12 : decode cX12_struckOf 12 = .ok (.iconst 0, 1) := by decide +kernel
theorem dX12_struckOf_13 : decode cX12_struckOf 13 = .ok (.invokevirtual 64, 3) := by decide +kernel
theorem dX12_struckOf_16 : decode cX12_struckOf 16 = .ok (.tableswitch 55 1 5 #[36, 38, 55, 42, 49], 36) := by decide +kernel
theorem dX12_struckOf_52 : decode cX12_struckOf 52 = .ok (.iload_n 3, 1) := by decide +kernel
theorem dX12_struckOf_53 : decode cX12_struckOf 53 = .ok (.ireturn, 1) := by decide +kernel
theorem dX12_struckOf_54 : decode cX12_struckOf 54 = .ok (.iconst 2, 1) := by decide +kernel
theorem dX12_struckOf_55 : decode cX12_struckOf 55 = .ok (.iload_n 2, 1) := by decide +kernel
theorem dX12_struckOf_56 : decode cX12_struckOf 56 = .ok (.imul, 1) := by decide +kernel
theorem dX12_struckOf_57 : decode cX12_struckOf 57 = .ok (.ireturn, 1) := by decide +kernel
theorem dX12_struckOf_58 : decode cX12_struckOf 58 = .ok (.iconst 2, 1) := by decide +kernel
theorem dX12_struckOf_59 : decode cX12_struckOf 59 = .ok (.iload_n 2, 1) := by decide +kernel
theorem dX12_struckOf_60 : decode cX12_struckOf 60 = .ok (.imul, 1) := by decide +kernel
theorem dX12_struckOf_61 : decode cX12_struckOf 61 = .ok (.bipush 10, 2) := by decide +kernel
theorem dX12_struckOf_63 : decode cX12_struckOf 63 = .ok (.iadd, 1) := by decide +kernel
theorem dX12_struckOf_64 : decode cX12_struckOf 64 = .ok (.ireturn, 1) := by decide +kernel
theorem dX12_struckOf_65 : decode cX12_struckOf 65 = .ok (.iload_n 3, 1) := by decide +kernel
theorem dX12_struckOf_66 : decode cX12_struckOf 66 = .ok (.iload_n 2, 1) := by decide +kernel
theorem dX12_struckOf_67 : decode cX12_struckOf 67 = .ok (.iconst 2, 1) := by decide +kernel
theorem dX12_struckOf_68 : decode cX12_struckOf 68 = .ok (.idiv, 1) := by decide +kernel
theorem dX12_struckOf_69 : decode cX12_struckOf 69 = .ok (.iadd, 1) := by decide +kernel
theorem dX12_struckOf_70 : decode cX12_struckOf 70 = .ok (.ireturn, 1) := by decide +kernel
theorem dX12_struckOf_71 : decode cX12_struckOf 71 = .ok (.iload_n 2, 1) := by decide +kernel
theorem dX12_struckOf_72 : decode cX12_struckOf 72 = .ok (.ireturn, 1) := by decide +kernel
theorem dX12_passesOf_0 : decode cX12_passesOf 0 = .ok (.aload_n 0, 1) := by decide +kernel
theorem dX12_passesOf_1 : decode cX12_passesOf 1 = .ok (.getfield 9, 3) := by decide +kernel
theorem dX12_passesOf_4 : decode cX12_passesOf 4 = .ok (.iconst 0, 1) := by decide +kernel
theorem dX12_passesOf_5 : decode cX12_passesOf 5 = .ok (.iaload, 1) := by decide +kernel
theorem dX12_passesOf_6 : decode cX12_passesOf 6 = .ok (.iconst 4, 1) := by decide +kernel
theorem dX12_passesOf_7 : decode cX12_passesOf 7 = .ok (.irem, 1) := by decide +kernel
theorem dX12_passesOf_8 : decode cX12_passesOf 8 = .ok (.istore_n 3, 1) := by decide +kernel
theorem dX12_passesOf_9 : decode cX12_passesOf 9 = .ok (.aload_n 0, 1) := by decide +kernel
theorem dX12_passesOf_10 : decode cX12_passesOf 10 = .ok (.iload_n 1, 1) := by decide +kernel
theorem dX12_passesOf_11 : decode cX12_passesOf 11 = .ok (.iconst 0, 1) := by decide +kernel
theorem dX12_passesOf_12 : decode cX12_passesOf 12 = .ok (.invokevirtual 64, 3) := by decide +kernel
theorem dX12_passesOf_15 : decode cX12_passesOf 15 = .ok (.tableswitch 86 0 5 #[37, 48, 86, 60, 86, 75], 37) := by decide +kernel
theorem dX12_passesOf_52 : decode cX12_passesOf 52 = .ok (.iload_n 2, 1) := by decide +kernel
theorem dX12_passesOf_53 : decode cX12_passesOf 53 = .ok (.iconst 4, 1) := by decide +kernel
theorem dX12_passesOf_54 : decode cX12_passesOf 54 = .ok (.if_icmp .lt 7, 3) := by decide +kernel
theorem dX12_passesOf_57 : decode cX12_passesOf 57 = .ok (.iload_n 3, 1) := by decide +kernel
theorem dX12_passesOf_58 : decode cX12_passesOf 58 = .ok (.goto 4, 3) := by decide +kernel
theorem dX12_passesOf_61 : decode cX12_passesOf 61 = .ok (.iconst (-1), 1) := by decide +kernel
theorem dX12_passesOf_62 : decode cX12_passesOf 62 = .ok (.ireturn, 1) := by decide +kernel
theorem dX12_passesOf_63 : decode cX12_passesOf 63 = .ok (.iload_n 2, 1) := by decide +kernel
theorem dX12_passesOf_64 : decode cX12_passesOf 64 = .ok (.bipush 6, 2) := by decide +kernel
theorem dX12_passesOf_66 : decode cX12_passesOf 66 = .ok (.if_icmp .ne 7, 3) := by decide +kernel
theorem dX12_passesOf_69 : decode cX12_passesOf 69 = .ok (.iload_n 3, 1) := by decide +kernel
theorem dX12_passesOf_70 : decode cX12_passesOf 70 = .ok (.goto 4, 3) := by decide +kernel
theorem dX12_passesOf_73 : decode cX12_passesOf 73 = .ok (.iconst (-1), 1) := by decide +kernel
theorem dX12_passesOf_74 : decode cX12_passesOf 74 = .ok (.ireturn, 1) := by decide +kernel
theorem dX12_passesOf_75 : decode cX12_passesOf 75 = .ok (.iload_n 2, 1) := by decide +kernel
theorem dX12_passesOf_76 : decode cX12_passesOf 76 = .ok (.iconst 1, 1) := by decide +kernel
theorem dX12_passesOf_77 : decode cX12_passesOf 77 = .ok (.iconst 3, 1) := by decide +kernel
theorem dX12_passesOf_78 : decode cX12_passesOf 78 = .ok (.invokestatic 52, 3) := by decide +kernel
theorem dX12_passesOf_81 : decode cX12_passesOf 81 = .ok (.ifCond .eq 7, 3) := by decide +kernel
theorem dX12_passesOf_84 : decode cX12_passesOf 84 = .ok (.iconst 0, 1) := by decide +kernel
theorem dX12_passesOf_85 : decode cX12_passesOf 85 = .ok (.goto 4, 3) := by decide +kernel
theorem dX12_passesOf_88 : decode cX12_passesOf 88 = .ok (.iconst (-1), 1) := by decide +kernel
theorem dX12_passesOf_89 : decode cX12_passesOf 89 = .ok (.ireturn, 1) := by decide +kernel
theorem dX12_passesOf_90 : decode cX12_passesOf 90 = .ok (.iload_n 2, 1) := by decide +kernel
theorem dX12_passesOf_91 : decode cX12_passesOf 91 = .ok (.iconst 2, 1) := by decide +kernel
theorem dX12_passesOf_92 : decode cX12_passesOf 92 = .ok (.if_icmp .lt 7, 3) := by decide +kernel
theorem dX12_passesOf_95 : decode cX12_passesOf 95 = .ok (.iload_n 3, 1) := by decide +kernel
theorem dX12_passesOf_96 : decode cX12_passesOf 96 = .ok (.goto 4, 3) := by decide +kernel
theorem dX12_passesOf_99 : decode cX12_passesOf 99 = .ok (.iconst (-1), 1) := by decide +kernel
theorem dX12_passesOf_100 : decode cX12_passesOf 100 = .ok (.ireturn, 1) := by decide +kernel
theorem dX12_passesOf_101 : decode cX12_passesOf 101 = .ok (.iconst (-1), 1) := by decide +kernel
theorem dX12_passesOf_102 : decode cX12_passesOf 102 = .ok (.ireturn, 1) := by decide +kernel
theorem dX12_presentFor_0 : decode cX12_presentFor 0 = .ok (.iconst 0, 1) := by decide +kernel
theorem dX12_presentFor_1 : decode cX12_presentFor 1 = .ok (.istore_n 2, 1) := by decide +kernel
theorem dX12_presentFor_2 : decode cX12_presentFor 2 = .ok (.iload_n 2, 1) := by decide +kernel
theorem dX12_presentFor_3 : decode cX12_presentFor 3 = .ok (.aload_n 0, 1) := by decide +kernel
theorem dX12_presentFor_4 : decode cX12_presentFor 4 = .ok (.getfield 9, 3) := by decide +kernel
theorem dX12_presentFor_7 : decode cX12_presentFor 7 = .ok (.iconst 2, 1) := by decide +kernel
theorem dX12_presentFor_8 : decode cX12_presentFor 8 = .ok (.iaload, 1) := by decide +kernel
theorem dX12_presentFor_9 : decode cX12_presentFor 9 = .ok (.if_icmp .ge 41, 3) := by decide +kernel
theorem dX12_presentFor_12 : decode cX12_presentFor 12 = .ok (.aload_n 0, 1) := by decide +kernel
theorem dX12_presentFor_13 : decode cX12_presentFor 13 = .ok (.iload_n 2, 1) := by decide +kernel
theorem dX12_presentFor_14 : decode cX12_presentFor 14 = .ok (.iconst 2, 1) := by decide +kernel
theorem dX12_presentFor_15 : decode cX12_presentFor 15 = .ok (.invokevirtual 56, 3) := by decide +kernel
theorem dX12_presentFor_18 : decode cX12_presentFor 18 = .ok (.iload_n 1, 1) := by decide +kernel
theorem dX12_presentFor_19 : decode cX12_presentFor 19 = .ok (.if_icmp .ne 25, 3) := by decide +kernel
theorem dX12_presentFor_22 : decode cX12_presentFor 22 = .ok (.aload_n 0, 1) := by decide +kernel
theorem dX12_presentFor_23 : decode cX12_presentFor 23 = .ok (.iload_n 2, 1) := by decide +kernel
theorem dX12_presentFor_24 : decode cX12_presentFor 24 = .ok (.iconst 3, 1) := by decide +kernel
theorem dX12_presentFor_25 : decode cX12_presentFor 25 = .ok (.invokevirtual 56, 3) := by decide +kernel
theorem dX12_presentFor_28 : decode cX12_presentFor 28 = .ok (.iconst 1, 1) := by decide +kernel
theorem dX12_presentFor_29 : decode cX12_presentFor 29 = .ok (.if_icmp .eq 15, 3) := by decide +kernel
theorem dX12_presentFor_32 : decode cX12_presentFor 32 = .ok (.aload_n 0, 1) := by decide +kernel
theorem dX12_presentFor_33 : decode cX12_presentFor 33 = .ok (.getfield 70, 3) := by decide +kernel
theorem dX12_presentFor_36 : decode cX12_presentFor 36 = .ok (.iload_n 2, 1) := by decide +kernel
theorem dX12_presentFor_37 : decode cX12_presentFor 37 = .ok (.ishr, 1) := by decide +kernel
theorem dX12_presentFor_38 : decode cX12_presentFor 38 = .ok (.iconst 1, 1) := by decide +kernel
theorem dX12_presentFor_39 : decode cX12_presentFor 39 = .ok (.iand, 1) := by decide +kernel
theorem dX12_presentFor_40 : decode cX12_presentFor 40 = .ok (.iconst 1, 1) := by decide +kernel
theorem dX12_presentFor_41 : decode cX12_presentFor 41 = .ok (.if_icmp .ne 9, 3) := by decide +kernel
theorem dX12_presentFor_44 : decode cX12_presentFor 44 = .ok (.iinc 2 1, 3) := by decide +kernel
theorem dX12_presentFor_47 : decode cX12_presentFor 47 = .ok (.goto (-45), 3) := by decide +kernel
theorem dX12_presentFor_50 : decode cX12_presentFor 50 = .ok (.iload_n 2, 1) := by decide +kernel
theorem dX12_presentFor_51 : decode cX12_presentFor 51 = .ok (.ireturn, 1) := by decide +kernel
theorem dX12_enjoys_0 : decode cX12_enjoys 0 = .ok (.aload_n 0, 1) := by decide +kernel
theorem dX12_enjoys_1 : decode cX12_enjoys 1 = .ok (.iload_n 1, 1) := by decide +kernel
theorem dX12_enjoys_2 : decode cX12_enjoys 2 = .ok (.iconst 1, 1) := by decide +kernel
theorem dX12_enjoys_3 : decode cX12_enjoys 3 = .ok (.sipush 9999, 3) := by decide +kernel
theorem dX12_enjoys_6 : decode cX12_enjoys 6 = .ok (.aload_n 0, 1) := by decide +kernel
theorem dX12_enjoys_7 : decode cX12_enjoys 7 = .ok (.iload_n 1, 1) := by decide +kernel
theorem dX12_enjoys_8 : decode cX12_enjoys 8 = .ok (.iconst 1, 1) := by decide +kernel
theorem dX12_enjoys_9 : decode cX12_enjoys 9 = .ok (.invokevirtual 64, 3) := by decide +kernel
theorem dX12_enjoys_12 : decode cX12_enjoys 12 = .ok (.iload_n 2, 1) := by decide +kernel
theorem dX12_enjoys_13 : decode cX12_enjoys 13 = .ok (.iadd, 1) := by decide +kernel
theorem dX12_enjoys_14 : decode cX12_enjoys 14 = .ok (.invokestatic 67, 3) := by decide +kernel
theorem dX12_enjoys_17 : decode cX12_enjoys 17 = .ok (.invokevirtual 74, 3) := by decide +kernel
theorem dX12_enjoys_20 : decode cX12_enjoys 20 = .ok (.return_, 1) := by decide +kernel
theorem dX12_opens_0 : decode cX12_opens 0 = .ok (.aload_n 0, 1) := by decide +kernel
theorem dX12_opens_1 : decode cX12_opens 1 = .ok (.iload_n 1, 1) := by decide +kernel
theorem dX12_opens_2 : decode cX12_opens 2 = .ok (.iload_n 2, 1) := by decide +kernel
theorem dX12_opens_3 : decode cX12_opens 3 = .ok (.invokevirtual 77, 3) := by decide +kernel
theorem dX12_opens_6 : decode cX12_opens 6 = .ok (.istore_n 3, 1) := by decide +kernel
theorem dX12_opens_7 : decode cX12_opens 7 = .ok (.iload_n 3, 1) := by decide +kernel
theorem dX12_opens_8 : decode cX12_opens 8 = .ok (.ifCond .le 24, 3) := by decide +kernel
theorem dX12_opens_11 : decode cX12_opens 11 = .ok (.aload_n 0, 1) := by decide +kernel
theorem dX12_opens_12 : decode cX12_opens 12 = .ok (.iload_n 1, 1) := by decide +kernel
theorem dX12_opens_13 : decode cX12_opens 13 = .ok (.aload_n 0, 1) := by decide +kernel
theorem dX12_opens_14 : decode cX12_opens 14 = .ok (.iload_n 1, 1) := by decide +kernel
theorem dX12_opens_15 : decode cX12_opens 15 = .ok (.aload_n 0, 1) := by decide +kernel
theorem dX12_opens_16 : decode cX12_opens 16 = .ok (.iload_n 2, 1) := by decide +kernel
theorem dX12_opens_17 : decode cX12_opens 17 = .ok (.invokevirtual 80, 3) := by decide +kernel
theorem dX12_opens_20 : decode cX12_opens 20 = .ok (.invokevirtual 84, 3) := by decide +kernel
theorem dX12_opens_23 : decode cX12_opens 23 = .ok (.invokevirtual 87, 3) := by decide +kernel
theorem dX12_opens_26 : decode cX12_opens 26 = .ok (.iinc 3 (-1), 3) := by decide +kernel
theorem dX12_opens_29 : decode cX12_opens 29 = .ok (.goto (-22), 3) := by decide +kernel
theorem dX12_opens_32 : decode cX12_opens 32 = .ok (.aload_n 0, 1) := by decide +kernel
theorem dX12_opens_33 : decode cX12_opens 33 = .ok (.iload_n 2, 1) := by decide +kernel
theorem dX12_opens_34 : decode cX12_opens 34 = .ok (.iconst 0, 1) := by decide +kernel
theorem dX12_opens_35 : decode cX12_opens 35 = .ok (.invokevirtual 56, 3) := by decide +kernel
theorem dX12_opens_38 : decode cX12_opens 38 = .ok (.ifCond .ne 26, 3) := by decide +kernel
theorem dX12_opens_41 : decode cX12_opens 41 = .ok (.aload_n 0, 1) := by decide +kernel
theorem dX12_opens_42 : decode cX12_opens 42 = .ok (.iload_n 2, 1) := by decide +kernel
theorem dX12_opens_43 : decode cX12_opens 43 = .ok (.iconst 3, 1) := by decide +kernel
theorem dX12_opens_44 : decode cX12_opens 44 = .ok (.iconst 1, 1) := by decide +kernel
theorem dX12_opens_45 : decode cX12_opens 45 = .ok (.invokevirtual 60, 3) := by decide +kernel
theorem dX12_opens_48 : decode cX12_opens 48 = .ok (.aload_n 0, 1) := by decide +kernel
theorem dX12_opens_49 : decode cX12_opens 49 = .ok (.iload_n 1, 1) := by decide +kernel
theorem dX12_opens_50 : decode cX12_opens 50 = .ok (.aload_n 0, 1) := by decide +kernel
theorem dX12_opens_51 : decode cX12_opens 51 = .ok (.iload_n 1, 1) := by decide +kernel
theorem dX12_opens_52 : decode cX12_opens 52 = .ok (.aload_n 0, 1) := by decide +kernel
theorem dX12_opens_53 : decode cX12_opens 53 = .ok (.iload_n 2, 1) := by decide +kernel
theorem dX12_opens_54 : decode cX12_opens 54 = .ok (.iconst 1, 1) := by decide +kernel
theorem dX12_opens_55 : decode cX12_opens 55 = .ok (.invokevirtual 56, 3) := by decide +kernel
theorem dX12_opens_58 : decode cX12_opens 58 = .ok (.invokevirtual 91, 3) := by decide +kernel
theorem dX12_opens_61 : decode cX12_opens 61 = .ok (.invokevirtual 87, 3) := by decide +kernel
theorem dX12_opens_64 : decode cX12_opens 64 = .ok (.return_, 1) := by decide +kernel
theorem dX12_takesTurn_0 : decode cX12_takesTurn 0 = .ok (.aload_n 0, 1) := by decide +kernel
theorem dX12_takesTurn_1 : decode cX12_takesTurn 1 = .ok (.iload_n 1, 1) := by decide +kernel
theorem dX12_takesTurn_2 : decode cX12_takesTurn 2 = .ok (.aload_n 0, 1) := by decide +kernel
theorem dX12_takesTurn_3 : decode cX12_takesTurn 3 = .ok (.iload_n 2, 1) := by decide +kernel
theorem dX12_takesTurn_4 : decode cX12_takesTurn 4 = .ok (.iconst 0, 1) := by decide +kernel
theorem dX12_takesTurn_5 : decode cX12_takesTurn 5 = .ok (.invokevirtual 56, 3) := by decide +kernel
theorem dX12_takesTurn_8 : decode cX12_takesTurn 8 = .ok (.invokevirtual 94, 3) := by decide +kernel
theorem dX12_takesTurn_11 : decode cX12_takesTurn 11 = .ok (.istore_n 3, 1) := by decide +kernel
theorem dX12_takesTurn_12 : decode cX12_takesTurn 12 = .ok (.iload_n 3, 1) := by decide +kernel
theorem dX12_takesTurn_13 : decode cX12_takesTurn 13 = .ok (.ifCond .lt 13, 3) := by decide +kernel
theorem dX12_takesTurn_16 : decode cX12_takesTurn 16 = .ok (.aload_n 0, 1) := by decide +kernel
theorem dX12_takesTurn_17 : decode cX12_takesTurn 17 = .ok (.getfield 9, 3) := by decide +kernel
theorem dX12_takesTurn_20 : decode cX12_takesTurn 20 = .ok (.iconst 1, 1) := by decide +kernel
theorem dX12_takesTurn_21 : decode cX12_takesTurn 21 = .ok (.iaload, 1) := by decide +kernel
theorem dX12_takesTurn_22 : decode cX12_takesTurn 22 = .ok (.iconst 1, 1) := by decide +kernel
theorem dX12_takesTurn_23 : decode cX12_takesTurn 23 = .ok (.if_icmp .ne 10, 3) := by decide +kernel
theorem dX12_takesTurn_26 : decode cX12_takesTurn 26 = .ok (.aload_n 0, 1) := by decide +kernel
theorem dX12_takesTurn_27 : decode cX12_takesTurn 27 = .ok (.iload_n 1, 1) := by decide +kernel
theorem dX12_takesTurn_28 : decode cX12_takesTurn 28 = .ok (.iload_n 2, 1) := by decide +kernel
theorem dX12_takesTurn_29 : decode cX12_takesTurn 29 = .ok (.invokevirtual 97, 3) := by decide +kernel
theorem dX12_takesTurn_32 : decode cX12_takesTurn 32 = .ok (.return_, 1) := by decide +kernel
theorem dX12_takesTurn_33 : decode cX12_takesTurn 33 = .ok (.aload_n 0, 1) := by decide +kernel
theorem dX12_takesTurn_34 : decode cX12_takesTurn 34 = .ok (.iload_n 2, 1) := by decide +kernel
theorem dX12_takesTurn_35 : decode cX12_takesTurn 35 = .ok (.iconst 0, 1) := by decide +kernel
theorem dX12_takesTurn_36 : decode cX12_takesTurn 36 = .ok (.invokevirtual 56, 3) := by decide +kernel
theorem dX12_takesTurn_39 : decode cX12_takesTurn 39 = .ok (.bipush 6, 2) := by decide +kernel
theorem dX12_takesTurn_41 : decode cX12_takesTurn 41 = .ok (.if_icmp .ge 9, 3) := by decide +kernel
theorem dX12_takesTurn_44 : decode cX12_takesTurn 44 = .ok (.aload_n 0, 1) := by decide +kernel
theorem dX12_takesTurn_45 : decode cX12_takesTurn 45 = .ok (.iload_n 2, 1) := by decide +kernel
theorem dX12_takesTurn_46 : decode cX12_takesTurn 46 = .ok (.iload_n 3, 1) := by decide +kernel
theorem dX12_takesTurn_47 : decode cX12_takesTurn 47 = .ok (.invokevirtual 100, 3) := by decide +kernel
theorem dX12_takesTurn_50 : decode cX12_takesTurn 50 = .ok (.aload_n 0, 1) := by decide +kernel
theorem dX12_takesTurn_51 : decode cX12_takesTurn 51 = .ok (.iload_n 2, 1) := by decide +kernel
theorem dX12_takesTurn_52 : decode cX12_takesTurn 52 = .ok (.iconst 2, 1) := by decide +kernel
theorem dX12_takesTurn_53 : decode cX12_takesTurn 53 = .ok (.iload_n 1, 1) := by decide +kernel
theorem dX12_takesTurn_54 : decode cX12_takesTurn 54 = .ok (.iconst 1, 1) := by decide +kernel
theorem dX12_takesTurn_55 : decode cX12_takesTurn 55 = .ok (.iadd, 1) := by decide +kernel
theorem dX12_takesTurn_56 : decode cX12_takesTurn 56 = .ok (.aload_n 0, 1) := by decide +kernel
theorem dX12_takesTurn_57 : decode cX12_takesTurn 57 = .ok (.getfield 9, 3) := by decide +kernel
theorem dX12_takesTurn_60 : decode cX12_takesTurn 60 = .ok (.iconst 1, 1) := by decide +kernel
theorem dX12_takesTurn_61 : decode cX12_takesTurn 61 = .ok (.iaload, 1) := by decide +kernel
theorem dX12_takesTurn_62 : decode cX12_takesTurn 62 = .ok (.irem, 1) := by decide +kernel
theorem dX12_takesTurn_63 : decode cX12_takesTurn 63 = .ok (.invokevirtual 60, 3) := by decide +kernel
theorem dX12_takesTurn_66 : decode cX12_takesTurn 66 = .ok (.aload_n 0, 1) := by decide +kernel
theorem dX12_takesTurn_67 : decode cX12_takesTurn 67 = .ok (.dup, 1) := by decide +kernel
theorem dX12_takesTurn_68 : decode cX12_takesTurn 68 = .ok (.getfield 70, 3) := by decide +kernel
theorem dX12_takesTurn_71 : decode cX12_takesTurn 71 = .ok (.iconst 1, 1) := by decide +kernel
theorem dX12_takesTurn_72 : decode cX12_takesTurn 72 = .ok (.iload_n 2, 1) := by decide +kernel
theorem dX12_takesTurn_73 : decode cX12_takesTurn 73 = .ok (.ishl, 1) := by decide +kernel
theorem dX12_takesTurn_74 : decode cX12_takesTurn 74 = .ok (.ior, 1) := by decide +kernel
theorem dX12_takesTurn_75 : decode cX12_takesTurn 75 = .ok (.putfield 70, 3) := by decide +kernel
theorem dX12_takesTurn_78 : decode cX12_takesTurn 78 = .ok (.return_, 1) := by decide +kernel
theorem dX12_day_0 : decode cX12_day 0 = .ok (.aload_n 0, 1) := by decide +kernel
theorem dX12_day_1 : decode cX12_day 1 = .ok (.iconst 0, 1) := by decide +kernel
theorem dX12_day_2 : decode cX12_day 2 = .ok (.putfield 70, 3) := by decide +kernel
theorem dX12_day_5 : decode cX12_day 5 = .ok (.iconst 0, 1) := by decide +kernel
theorem dX12_day_6 : decode cX12_day 6 = .ok (.istore_n 1, 1) := by decide +kernel
theorem dX12_day_7 : decode cX12_day 7 = .ok (.iload_n 1, 1) := by decide +kernel
theorem dX12_day_8 : decode cX12_day 8 = .ok (.aload_n 0, 1) := by decide +kernel
theorem dX12_day_9 : decode cX12_day 9 = .ok (.getfield 9, 3) := by decide +kernel
theorem dX12_day_12 : decode cX12_day 12 = .ok (.iconst 1, 1) := by decide +kernel
theorem dX12_day_13 : decode cX12_day 13 = .ok (.iaload, 1) := by decide +kernel
theorem dX12_day_14 : decode cX12_day 14 = .ok (.if_icmp .ge 31, 3) := by decide +kernel
theorem dX12_day_17 : decode cX12_day 17 = .ok (.aload_n 0, 1) := by decide +kernel
theorem dX12_day_18 : decode cX12_day 18 = .ok (.iload_n 1, 1) := by decide +kernel
theorem dX12_day_19 : decode cX12_day 19 = .ok (.invokevirtual 103, 3) := by decide +kernel
theorem dX12_day_22 : decode cX12_day 22 = .ok (.istore_n 2, 1) := by decide +kernel
theorem dX12_day_23 : decode cX12_day 23 = .ok (.iload_n 2, 1) := by decide +kernel
theorem dX12_day_24 : decode cX12_day 24 = .ok (.aload_n 0, 1) := by decide +kernel
theorem dX12_day_25 : decode cX12_day 25 = .ok (.getfield 9, 3) := by decide +kernel
theorem dX12_day_28 : decode cX12_day 28 = .ok (.iconst 2, 1) := by decide +kernel
theorem dX12_day_29 : decode cX12_day 29 = .ok (.iaload, 1) := by decide +kernel
theorem dX12_day_30 : decode cX12_day 30 = .ok (.if_icmp .ge 9, 3) := by decide +kernel
theorem dX12_day_33 : decode cX12_day 33 = .ok (.aload_n 0, 1) := by decide +kernel
theorem dX12_day_34 : decode cX12_day 34 = .ok (.iload_n 1, 1) := by decide +kernel
theorem dX12_day_35 : decode cX12_day 35 = .ok (.iload_n 2, 1) := by decide +kernel
theorem dX12_day_36 : decode cX12_day 36 = .ok (.invokevirtual 106, 3) := by decide +kernel
theorem dX12_day_39 : decode cX12_day 39 = .ok (.iinc 1 1, 3) := by decide +kernel
theorem dX12_day_42 : decode cX12_day 42 = .ok (.goto (-35), 3) := by decide +kernel
theorem dX12_day_45 : decode cX12_day 45 = .ok (.aload_n 0, 1) := by decide +kernel
theorem dX12_day_46 : decode cX12_day 46 = .ok (.getfield 9, 3) := by decide +kernel
theorem dX12_day_49 : decode cX12_day 49 = .ok (.iconst 0, 1) := by decide +kernel
theorem dX12_day_50 : decode cX12_day 50 = .ok (.dup2, 1) := by decide +kernel
theorem dX12_day_51 : decode cX12_day 51 = .ok (.iaload, 1) := by decide +kernel
theorem dX12_day_52 : decode cX12_day 52 = .ok (.iconst 1, 1) := by decide +kernel
theorem dX12_day_53 : decode cX12_day 53 = .ok (.iadd, 1) := by decide +kernel
theorem dX12_day_54 : decode cX12_day 54 = .ok (.iastore, 1) := by decide +kernel
theorem dX12_day_55 : decode cX12_day 55 = .ok (.return_, 1) := by decide +kernel
theorem dX12_goes_0 : decode cX12_goes 0 = .ok (.iconst 0, 1) := by decide +kernel
theorem dX12_goes_1 : decode cX12_goes 1 = .ok (.istore_n 2, 1) := by decide +kernel
theorem dX12_goes_2 : decode cX12_goes 2 = .ok (.iload_n 2, 1) := by decide +kernel
theorem dX12_goes_3 : decode cX12_goes 3 = .ok (.iload_n 1, 1) := by decide +kernel
theorem dX12_goes_4 : decode cX12_goes 4 = .ok (.if_icmp .ge 13, 3) := by decide +kernel
theorem dX12_goes_7 : decode cX12_goes 7 = .ok (.aload_n 0, 1) := by decide +kernel
theorem dX12_goes_8 : decode cX12_goes 8 = .ok (.invokevirtual 109, 3) := by decide +kernel
theorem dX12_goes_11 : decode cX12_goes 11 = .ok (.iinc 2 1, 3) := by decide +kernel
theorem dX12_goes_14 : decode cX12_goes 14 = .ok (.goto (-12), 3) := by decide +kernel
theorem dX12_goes_17 : decode cX12_goes 17 = .ok (.return_, 1) := by decide +kernel
theorem dX12_addsPerson_0 : decode cX12_addsPerson 0 = .ok (.aload_n 0, 1) := by decide +kernel
theorem dX12_addsPerson_1 : decode cX12_addsPerson 1 = .ok (.aload_n 0, 1) := by decide +kernel
theorem dX12_addsPerson_2 : decode cX12_addsPerson 2 = .ok (.getfield 9, 3) := by decide +kernel
theorem dX12_addsPerson_5 : decode cX12_addsPerson 5 = .ok (.iconst 1, 1) := by decide +kernel
theorem dX12_addsPerson_6 : decode cX12_addsPerson 6 = .ok (.iaload, 1) := by decide +kernel
theorem dX12_addsPerson_7 : decode cX12_addsPerson 7 = .ok (.iconst 0, 1) := by decide +kernel
theorem dX12_addsPerson_8 : decode cX12_addsPerson 8 = .ok (.iload_n 1, 1) := by decide +kernel
theorem dX12_addsPerson_9 : decode cX12_addsPerson 9 = .ok (.invokevirtual 74, 3) := by decide +kernel
theorem dX12_addsPerson_12 : decode cX12_addsPerson 12 = .ok (.aload_n 0, 1) := by decide +kernel
theorem dX12_addsPerson_13 : decode cX12_addsPerson 13 = .ok (.aload_n 0, 1) := by decide +kernel
theorem dX12_addsPerson_14 : decode cX12_addsPerson 14 = .ok (.getfield 9, 3) := by decide +kernel
theorem dX12_addsPerson_17 : decode cX12_addsPerson 17 = .ok (.iconst 1, 1) := by decide +kernel
theorem dX12_addsPerson_18 : decode cX12_addsPerson 18 = .ok (.iaload, 1) := by decide +kernel
theorem dX12_addsPerson_19 : decode cX12_addsPerson 19 = .ok (.iconst 1, 1) := by decide +kernel
theorem dX12_addsPerson_20 : decode cX12_addsPerson 20 = .ok (.iconst 0, 1) := by decide +kernel
theorem dX12_addsPerson_21 : decode cX12_addsPerson 21 = .ok (.invokevirtual 74, 3) := by decide +kernel
theorem dX12_addsPerson_24 : decode cX12_addsPerson 24 = .ok (.aload_n 0, 1) := by decide +kernel
theorem dX12_addsPerson_25 : decode cX12_addsPerson 25 = .ok (.getfield 9, 3) := by decide +kernel
theorem dX12_addsPerson_28 : decode cX12_addsPerson 28 = .ok (.iconst 1, 1) := by decide +kernel
theorem dX12_addsPerson_29 : decode cX12_addsPerson 29 = .ok (.dup2, 1) := by decide +kernel
theorem dX12_addsPerson_30 : decode cX12_addsPerson 30 = .ok (.iaload, 1) := by decide +kernel
theorem dX12_addsPerson_31 : decode cX12_addsPerson 31 = .ok (.iconst 1, 1) := by decide +kernel
theorem dX12_addsPerson_32 : decode cX12_addsPerson 32 = .ok (.iadd, 1) := by decide +kernel
theorem dX12_addsPerson_33 : decode cX12_addsPerson 33 = .ok (.iastore, 1) := by decide +kernel
theorem dX12_addsPerson_34 : decode cX12_addsPerson 34 = .ok (.return_, 1) := by decide +kernel
theorem dX12_person_0 : decode cX12_person 0 = .ok (.iload_n 1, 1) := by decide +kernel
theorem dX12_person_1 : decode cX12_person 1 = .ok (.iconst 0, 1) := by decide +kernel
theorem dX12_person_2 : decode cX12_person 2 = .ok (.iconst 5, 1) := by decide +kernel
theorem dX12_person_3 : decode cX12_person 3 = .ok (.invokestatic 52, 3) := by decide +kernel
theorem dX12_person_6 : decode cX12_person 6 = .ok (.ifCond .ne 9, 3) := by decide +kernel
theorem dX12_person_9 : decode cX12_person 9 = .ok (.aload_n 0, 1) := by decide +kernel
theorem dX12_person_10 : decode cX12_person 10 = .ok (.iconst 0, 1) := by decide +kernel
theorem dX12_person_11 : decode cX12_person 11 = .ok (.invokevirtual 112, 3) := by decide +kernel
theorem dX12_person_14 : decode cX12_person 14 = .ok (.ireturn, 1) := by decide +kernel
theorem dX12_person_15 : decode cX12_person 15 = .ok (.aload_n 0, 1) := by decide +kernel
theorem dX12_person_16 : decode cX12_person 16 = .ok (.getfield 9, 3) := by decide +kernel
theorem dX12_person_19 : decode cX12_person 19 = .ok (.iconst 1, 1) := by decide +kernel
theorem dX12_person_20 : decode cX12_person 20 = .ok (.iaload, 1) := by decide +kernel
theorem dX12_person_21 : decode cX12_person 21 = .ok (.bipush 6, 2) := by decide +kernel
theorem dX12_person_23 : decode cX12_person 23 = .ok (.if_icmp .ne 9, 3) := by decide +kernel
theorem dX12_person_26 : decode cX12_person 26 = .ok (.aload_n 0, 1) := by decide +kernel
theorem dX12_person_27 : decode cX12_person 27 = .ok (.iconst 1, 1) := by decide +kernel
theorem dX12_person_28 : decode cX12_person 28 = .ok (.invokevirtual 112, 3) := by decide +kernel
theorem dX12_person_31 : decode cX12_person 31 = .ok (.ireturn, 1) := by decide +kernel
theorem dX12_person_32 : decode cX12_person 32 = .ok (.aload_n 0, 1) := by decide +kernel
theorem dX12_person_33 : decode cX12_person 33 = .ok (.iload_n 1, 1) := by decide +kernel
theorem dX12_person_34 : decode cX12_person 34 = .ok (.invokevirtual 115, 3) := by decide +kernel
theorem dX12_person_37 : decode cX12_person 37 = .ok (.aload_n 0, 1) := by decide +kernel
theorem dX12_person_38 : decode cX12_person 38 = .ok (.getfield 9, 3) := by decide +kernel
theorem dX12_person_41 : decode cX12_person 41 = .ok (.iconst 1, 1) := by decide +kernel
theorem dX12_person_42 : decode cX12_person 42 = .ok (.iaload, 1) := by decide +kernel
theorem dX12_person_43 : decode cX12_person 43 = .ok (.iconst 1, 1) := by decide +kernel
theorem dX12_person_44 : decode cX12_person 44 = .ok (.isub, 1) := by decide +kernel
theorem dX12_person_45 : decode cX12_person 45 = .ok (.ireturn, 1) := by decide +kernel
theorem dX12_presentsWith_0 : decode cX12_presentsWith 0 = .ok (.iconst 0, 1) := by decide +kernel
theorem dX12_presentsWith_1 : decode cX12_presentsWith 1 = .ok (.istore_n 3, 1) := by decide +kernel
theorem dX12_presentsWith_2 : decode cX12_presentsWith 2 = .ok (.iconst 0, 1) := by decide +kernel
theorem dX12_presentsWith_3 : decode cX12_presentsWith 3 = .ok (.istore 4, 2) := by decide +kernel
theorem dX12_presentsWith_5 : decode cX12_presentsWith 5 = .ok (.iload 4, 2) := by decide +kernel
theorem dX12_presentsWith_7 : decode cX12_presentsWith 7 = .ok (.aload_n 0, 1) := by decide +kernel
theorem dX12_presentsWith_8 : decode cX12_presentsWith 8 = .ok (.getfield 9, 3) := by decide +kernel
theorem dX12_presentsWith_11 : decode cX12_presentsWith 11 = .ok (.iconst 2, 1) := by decide +kernel
theorem dX12_presentsWith_12 : decode cX12_presentsWith 12 = .ok (.iaload, 1) := by decide +kernel
theorem dX12_presentsWith_13 : decode cX12_presentsWith 13 = .ok (.if_icmp .ge 45, 3) := by decide +kernel
theorem dX12_presentsWith_16 : decode cX12_presentsWith 16 = .ok (.iload_n 3, 1) := by decide +kernel
theorem dX12_presentsWith_17 : decode cX12_presentsWith 17 = .ok (.aload_n 0, 1) := by decide +kernel
theorem dX12_presentsWith_18 : decode cX12_presentsWith 18 = .ok (.iload 4, 2) := by decide +kernel
theorem dX12_presentsWith_20 : decode cX12_presentsWith 20 = .ok (.iconst 2, 1) := by decide +kernel
theorem dX12_presentsWith_21 : decode cX12_presentsWith 21 = .ok (.invokevirtual 56, 3) := by decide +kernel
theorem dX12_presentsWith_24 : decode cX12_presentsWith 24 = .ok (.iload_n 1, 1) := by decide +kernel
theorem dX12_presentsWith_25 : decode cX12_presentsWith 25 = .ok (.if_icmp .ne 24, 3) := by decide +kernel
theorem dX12_presentsWith_28 : decode cX12_presentsWith 28 = .ok (.iload_n 2, 1) := by decide +kernel
theorem dX12_presentsWith_29 : decode cX12_presentsWith 29 = .ok (.ifCond .eq 13, 3) := by decide +kernel
theorem dX12_presentsWith_32 : decode cX12_presentsWith 32 = .ok (.aload_n 0, 1) := by decide +kernel
theorem dX12_presentsWith_33 : decode cX12_presentsWith 33 = .ok (.iload 4, 2) := by decide +kernel
theorem dX12_presentsWith_35 : decode cX12_presentsWith 35 = .ok (.iconst 3, 1) := by decide +kernel
theorem dX12_presentsWith_36 : decode cX12_presentsWith 36 = .ok (.invokevirtual 56, 3) := by decide +kernel
theorem dX12_presentsWith_39 : decode cX12_presentsWith 39 = .ok (.ifCond .ne 10, 3) := by decide +kernel
theorem dX12_presentsWith_42 : decode cX12_presentsWith 42 = .ok (.iconst 1, 1) := by decide +kernel
theorem dX12_presentsWith_43 : decode cX12_presentsWith 43 = .ok (.iload 4, 2) := by decide +kernel
theorem dX12_presentsWith_45 : decode cX12_presentsWith 45 = .ok (.ishl, 1) := by decide +kernel
theorem dX12_presentsWith_46 : decode cX12_presentsWith 46 = .ok (.goto 4, 3) := by decide +kernel
theorem dX12_presentsWith_49 : decode cX12_presentsWith 49 = .ok (.iconst 0, 1) := by decide +kernel
theorem dX12_presentsWith_50 : decode cX12_presentsWith 50 = .ok (.ior, 1) := by decide +kernel
theorem dX12_presentsWith_51 : decode cX12_presentsWith 51 = .ok (.istore_n 3, 1) := by decide +kernel
theorem dX12_presentsWith_52 : decode cX12_presentsWith 52 = .ok (.iinc 4 1, 3) := by decide +kernel
theorem dX12_presentsWith_55 : decode cX12_presentsWith 55 = .ok (.goto (-50), 3) := by decide +kernel
theorem dX12_presentsWith_58 : decode cX12_presentsWith 58 = .ok (.iload_n 3, 1) := by decide +kernel
theorem dX12_presentsWith_59 : decode cX12_presentsWith 59 = .ok (.ireturn, 1) := by decide +kernel
theorem dX12_of_0 : decode cX12_of 0 = .ok (.aload_n 0, 1) := by decide +kernel
theorem dX12_of_1 : decode cX12_of 1 = .ok (.iload_n 1, 1) := by decide +kernel
theorem dX12_of_2 : decode cX12_of 2 = .ok (.invokevirtual 119, 3) := by decide +kernel
theorem dX12_of_5 : decode cX12_of 5 = .ok (.ifCond .eq 12, 3) := by decide +kernel
theorem dX12_of_8 : decode cX12_of 8 = .ok (.iload_n 2, 1) := by decide +kernel
theorem dX12_of_9 : decode cX12_of 9 = .ok (.iconst 0, 1) := by decide +kernel
theorem dX12_of_10 : decode cX12_of 10 = .ok (.iconst 3, 1) := by decide +kernel
theorem dX12_of_11 : decode cX12_of 11 = .ok (.invokestatic 52, 3) := by decide +kernel
theorem dX12_of_14 : decode cX12_of 14 = .ok (.ifCond .ne 9, 3) := by decide +kernel
theorem dX12_of_17 : decode cX12_of 17 = .ok (.aload_n 0, 1) := by decide +kernel
theorem dX12_of_18 : decode cX12_of 18 = .ok (.iconst 0, 1) := by decide +kernel
theorem dX12_of_19 : decode cX12_of 19 = .ok (.invokevirtual 112, 3) := by decide +kernel
theorem dX12_of_22 : decode cX12_of 22 = .ok (.ireturn, 1) := by decide +kernel
theorem dX12_of_23 : decode cX12_of 23 = .ok (.iload_n 2, 1) := by decide +kernel
theorem dX12_of_24 : decode cX12_of 24 = .ok (.iconst 2, 1) := by decide +kernel
theorem dX12_of_25 : decode cX12_of 25 = .ok (.if_icmp .ge 12, 3) := by decide +kernel
theorem dX12_of_28 : decode cX12_of 28 = .ok (.aload_n 0, 1) := by decide +kernel
theorem dX12_of_29 : decode cX12_of 29 = .ok (.iload_n 1, 1) := by decide +kernel
theorem dX12_of_30 : decode cX12_of 30 = .ok (.iload_n 2, 1) := by decide +kernel
theorem dX12_of_31 : decode cX12_of 31 = .ok (.invokevirtual 64, 3) := by decide +kernel
theorem dX12_of_34 : decode cX12_of 34 = .ok (.goto 18, 3) := by decide +kernel
theorem dX12_of_37 : decode cX12_of 37 = .ok (.aload_n 0, 1) := by decide +kernel
theorem dX12_of_38 : decode cX12_of 38 = .ok (.iload_n 1, 1) := by decide +kernel
theorem dX12_of_39 : decode cX12_of 39 = .ok (.iload_n 2, 1) := by decide +kernel
theorem dX12_of_40 : decode cX12_of 40 = .ok (.iconst 3, 1) := by decide +kernel
theorem dX12_of_41 : decode cX12_of 41 = .ok (.if_icmp .ne 7, 3) := by decide +kernel
theorem dX12_of_44 : decode cX12_of 44 = .ok (.iconst 1, 1) := by decide +kernel
theorem dX12_of_45 : decode cX12_of 45 = .ok (.goto 4, 3) := by decide +kernel
theorem dX12_of_48 : decode cX12_of 48 = .ok (.iconst 0, 1) := by decide +kernel
theorem dX12_of_49 : decode cX12_of 49 = .ok (.invokevirtual 123, 3) := by decide +kernel
theorem dX12_of_52 : decode cX12_of 52 = .ok (.ireturn, 1) := by decide +kernel
theorem dX12_does_0 : decode cX12_does 0 = .ok (.aload_n 0, 1) := by decide +kernel
theorem dX12_does_1 : decode cX12_does 1 = .ok (.iload_n 1, 1) := by decide +kernel
theorem dX12_does_2 : decode cX12_does 2 = .ok (.invokevirtual 119, 3) := by decide +kernel
theorem dX12_does_5 : decode cX12_does 5 = .ok (.ifCond .eq 20, 3) := by decide +kernel
theorem dX12_does_8 : decode cX12_does 8 = .ok (.iload_n 2, 1) := by decide +kernel
theorem dX12_does_9 : decode cX12_does 9 = .ok (.iconst 0, 1) := by decide +kernel
theorem dX12_does_10 : decode cX12_does 10 = .ok (.iconst 3, 1) := by decide +kernel
theorem dX12_does_11 : decode cX12_does 11 = .ok (.invokestatic 52, 3) := by decide +kernel
theorem dX12_does_14 : decode cX12_does 14 = .ok (.ifCond .eq 11, 3) := by decide +kernel
theorem dX12_does_17 : decode cX12_does 17 = .ok (.aload_n 0, 1) := by decide +kernel
theorem dX12_does_18 : decode cX12_does 18 = .ok (.iload_n 3, 1) := by decide +kernel
theorem dX12_does_19 : decode cX12_does 19 = .ok (.invokevirtual 127, 3) := by decide +kernel
theorem dX12_does_22 : decode cX12_does 22 = .ok (.ifCond .ne 9, 3) := by decide +kernel
theorem dX12_does_25 : decode cX12_does 25 = .ok (.aload_n 0, 1) := by decide +kernel
theorem dX12_does_26 : decode cX12_does 26 = .ok (.iconst 0, 1) := by decide +kernel
theorem dX12_does_27 : decode cX12_does 27 = .ok (.invokevirtual 112, 3) := by decide +kernel
theorem dX12_does_30 : decode cX12_does 30 = .ok (.ireturn, 1) := by decide +kernel
theorem dX12_does_31 : decode cX12_does 31 = .ok (.aload_n 0, 1) := by decide +kernel
theorem dX12_does_32 : decode cX12_does 32 = .ok (.iload_n 3, 1) := by decide +kernel
theorem dX12_does_33 : decode cX12_does 33 = .ok (.iconst 0, 1) := by decide +kernel
theorem dX12_does_34 : decode cX12_does 34 = .ok (.invokevirtual 56, 3) := by decide +kernel
theorem dX12_does_37 : decode cX12_does 37 = .ok (.istore 4, 2) := by decide +kernel
theorem dX12_does_39 : decode cX12_does 39 = .ok (.iload_n 2, 1) := by decide +kernel
theorem dX12_does_40 : decode cX12_does 40 = .ok (.iconst 2, 1) := by decide +kernel
theorem dX12_does_41 : decode cX12_does 41 = .ok (.if_icmp .ge 14, 3) := by decide +kernel
theorem dX12_does_44 : decode cX12_does 44 = .ok (.iload 4, 2) := by decide +kernel
theorem dX12_does_46 : decode cX12_does 46 = .ok (.ifCond .ne 9, 3) := by decide +kernel
theorem dX12_does_49 : decode cX12_does 49 = .ok (.aload_n 0, 1) := by decide +kernel
theorem dX12_does_50 : decode cX12_does 50 = .ok (.iconst 3, 1) := by decide +kernel
theorem dX12_does_51 : decode cX12_does 51 = .ok (.invokevirtual 112, 3) := by decide +kernel
theorem dX12_does_54 : decode cX12_does 54 = .ok (.ireturn, 1) := by decide +kernel
theorem dX12_does_55 : decode cX12_does 55 = .ok (.iload_n 2, 1) := by decide +kernel
theorem dX12_does_56 : decode cX12_does 56 = .ok (.ifCond .ne 12, 3) := by decide +kernel
theorem dX12_does_59 : decode cX12_does 59 = .ok (.aload_n 0, 1) := by decide +kernel
theorem dX12_does_60 : decode cX12_does 60 = .ok (.iload_n 1, 1) := by decide +kernel
theorem dX12_does_61 : decode cX12_does 61 = .ok (.iload_n 3, 1) := by decide +kernel
theorem dX12_does_62 : decode cX12_does 62 = .ok (.invokevirtual 77, 3) := by decide +kernel
theorem dX12_does_65 : decode cX12_does 65 = .ok (.goto 50, 3) := by decide +kernel
theorem dX12_does_68 : decode cX12_does 68 = .ok (.iload_n 2, 1) := by decide +kernel
theorem dX12_does_69 : decode cX12_does 69 = .ok (.iconst 1, 1) := by decide +kernel
theorem dX12_does_70 : decode cX12_does 70 = .ok (.if_icmp .ne 17, 3) := by decide +kernel
theorem dX12_does_73 : decode cX12_does 73 = .ok (.aload_n 0, 1) := by decide +kernel
theorem dX12_does_74 : decode cX12_does 74 = .ok (.iload_n 1, 1) := by decide +kernel
theorem dX12_does_75 : decode cX12_does 75 = .ok (.aload_n 0, 1) := by decide +kernel
theorem dX12_does_76 : decode cX12_does 76 = .ok (.iload_n 3, 1) := by decide +kernel
theorem dX12_does_77 : decode cX12_does 77 = .ok (.iconst 4, 1) := by decide +kernel
theorem dX12_does_78 : decode cX12_does 78 = .ok (.invokevirtual 56, 3) := by decide +kernel
theorem dX12_does_81 : decode cX12_does 81 = .ok (.invokevirtual 84, 3) := by decide +kernel
theorem dX12_does_84 : decode cX12_does 84 = .ok (.goto 31, 3) := by decide +kernel
theorem dX12_does_87 : decode cX12_does 87 = .ok (.iload_n 2, 1) := by decide +kernel
theorem dX12_does_88 : decode cX12_does 88 = .ok (.iconst 2, 1) := by decide +kernel
theorem dX12_does_89 : decode cX12_does 89 = .ok (.if_icmp .ne 17, 3) := by decide +kernel
theorem dX12_does_92 : decode cX12_does 92 = .ok (.aload_n 0, 1) := by decide +kernel
theorem dX12_does_93 : decode cX12_does 93 = .ok (.iload_n 1, 1) := by decide +kernel
theorem dX12_does_94 : decode cX12_does 94 = .ok (.aload_n 0, 1) := by decide +kernel
theorem dX12_does_95 : decode cX12_does 95 = .ok (.iload_n 3, 1) := by decide +kernel
theorem dX12_does_96 : decode cX12_does 96 = .ok (.iconst 1, 1) := by decide +kernel
theorem dX12_does_97 : decode cX12_does 97 = .ok (.invokevirtual 56, 3) := by decide +kernel
theorem dX12_does_100 : decode cX12_does 100 = .ok (.invokevirtual 91, 3) := by decide +kernel
theorem dX12_does_103 : decode cX12_does 103 = .ok (.goto 12, 3) := by decide +kernel
theorem dX12_does_106 : decode cX12_does 106 = .ok (.iconst 1, 1) := by decide +kernel
theorem dX12_does_107 : decode cX12_does 107 = .ok (.aload_n 0, 1) := by decide +kernel
theorem dX12_does_108 : decode cX12_does 108 = .ok (.iload_n 1, 1) := by decide +kernel
theorem dX12_does_109 : decode cX12_does 109 = .ok (.iload 4, 2) := by decide +kernel
theorem dX12_does_111 : decode cX12_does 111 = .ok (.invokevirtual 94, 3) := by decide +kernel
theorem dX12_does_114 : decode cX12_does 114 = .ok (.iadd, 1) := by decide +kernel
theorem dX12_does_115 : decode cX12_does 115 = .ok (.ireturn, 1) := by decide +kernel
theorem dX12_joy_0 : decode cX12_joy 0 = .ok (.aload_n 0, 1) := by decide +kernel
theorem dX12_joy_1 : decode cX12_joy 1 = .ok (.iload_n 1, 1) := by decide +kernel
theorem dX12_joy_2 : decode cX12_joy 2 = .ok (.invokevirtual 119, 3) := by decide +kernel
theorem dX12_joy_5 : decode cX12_joy 5 = .ok (.ifCond .eq 14, 3) := by decide +kernel
theorem dX12_joy_8 : decode cX12_joy 8 = .ok (.iload_n 2, 1) := by decide +kernel
theorem dX12_joy_9 : decode cX12_joy 9 = .ok (.iconst 0, 1) := by decide +kernel
theorem dX12_joy_10 : decode cX12_joy 10 = .ok (.sipush 9999, 3) := by decide +kernel
theorem dX12_joy_13 : decode cX12_joy 13 = .ok (.invokestatic 52, 3) := by decide +kernel
theorem dX12_joy_16 : decode cX12_joy 16 = .ok (.ifCond .ne 9, 3) := by decide +kernel
theorem dX12_joy_19 : decode cX12_joy 19 = .ok (.aload_n 0, 1) := by decide +kernel
theorem dX12_joy_20 : decode cX12_joy 20 = .ok (.iconst 0, 1) := by decide +kernel
theorem dX12_joy_21 : decode cX12_joy 21 = .ok (.invokevirtual 112, 3) := by decide +kernel
theorem dX12_joy_24 : decode cX12_joy 24 = .ok (.ireturn, 1) := by decide +kernel
theorem dX12_joy_25 : decode cX12_joy 25 = .ok (.aload_n 0, 1) := by decide +kernel
theorem dX12_joy_26 : decode cX12_joy 26 = .ok (.iload_n 1, 1) := by decide +kernel
theorem dX12_joy_27 : decode cX12_joy 27 = .ok (.iconst 1, 1) := by decide +kernel
theorem dX12_joy_28 : decode cX12_joy 28 = .ok (.invokevirtual 64, 3) := by decide +kernel
theorem dX12_joy_31 : decode cX12_joy 31 = .ok (.istore_n 3, 1) := by decide +kernel
theorem dX12_joy_32 : decode cX12_joy 32 = .ok (.aload_n 0, 1) := by decide +kernel
theorem dX12_joy_33 : decode cX12_joy 33 = .ok (.iload_n 1, 1) := by decide +kernel
theorem dX12_joy_34 : decode cX12_joy 34 = .ok (.iconst 1, 1) := by decide +kernel
theorem dX12_joy_35 : decode cX12_joy 35 = .ok (.iload_n 2, 1) := by decide +kernel
theorem dX12_joy_36 : decode cX12_joy 36 = .ok (.invokevirtual 74, 3) := by decide +kernel
theorem dX12_joy_39 : decode cX12_joy 39 = .ok (.iload_n 3, 1) := by decide +kernel
theorem dX12_joy_40 : decode cX12_joy 40 = .ok (.ireturn, 1) := by decide +kernel
theorem dX12_turn_0 : decode cX12_turn 0 = .ok (.aload_n 0, 1) := by decide +kernel
theorem dX12_turn_1 : decode cX12_turn 1 = .ok (.iload_n 1, 1) := by decide +kernel
theorem dX12_turn_2 : decode cX12_turn 2 = .ok (.invokevirtual 119, 3) := by decide +kernel
theorem dX12_turn_5 : decode cX12_turn 5 = .ok (.ifCond .eq 12, 3) := by decide +kernel
theorem dX12_turn_8 : decode cX12_turn 8 = .ok (.iload_n 2, 1) := by decide +kernel
theorem dX12_turn_9 : decode cX12_turn 9 = .ok (.iconst 0, 1) := by decide +kernel
theorem dX12_turn_10 : decode cX12_turn 10 = .ok (.iconst 5, 1) := by decide +kernel
theorem dX12_turn_11 : decode cX12_turn 11 = .ok (.invokestatic 52, 3) := by decide +kernel
theorem dX12_turn_14 : decode cX12_turn 14 = .ok (.ifCond .ne 9, 3) := by decide +kernel
theorem dX12_turn_17 : decode cX12_turn 17 = .ok (.aload_n 0, 1) := by decide +kernel
theorem dX12_turn_18 : decode cX12_turn 18 = .ok (.iconst 0, 1) := by decide +kernel
theorem dX12_turn_19 : decode cX12_turn 19 = .ok (.invokevirtual 112, 3) := by decide +kernel
theorem dX12_turn_22 : decode cX12_turn 22 = .ok (.ireturn, 1) := by decide +kernel
theorem dX12_turn_23 : decode cX12_turn 23 = .ok (.aload_n 0, 1) := by decide +kernel
theorem dX12_turn_24 : decode cX12_turn 24 = .ok (.iload_n 1, 1) := by decide +kernel
theorem dX12_turn_25 : decode cX12_turn 25 = .ok (.iconst 0, 1) := by decide +kernel
theorem dX12_turn_26 : decode cX12_turn 26 = .ok (.invokevirtual 64, 3) := by decide +kernel
theorem dX12_turn_29 : decode cX12_turn 29 = .ok (.istore_n 3, 1) := by decide +kernel
theorem dX12_turn_30 : decode cX12_turn 30 = .ok (.aload_n 0, 1) := by decide +kernel
theorem dX12_turn_31 : decode cX12_turn 31 = .ok (.iload_n 1, 1) := by decide +kernel
theorem dX12_turn_32 : decode cX12_turn 32 = .ok (.iconst 0, 1) := by decide +kernel
theorem dX12_turn_33 : decode cX12_turn 33 = .ok (.iload_n 2, 1) := by decide +kernel
theorem dX12_turn_34 : decode cX12_turn 34 = .ok (.invokevirtual 74, 3) := by decide +kernel
theorem dX12_turn_37 : decode cX12_turn 37 = .ok (.iload_n 3, 1) := by decide +kernel
theorem dX12_turn_38 : decode cX12_turn 38 = .ok (.ireturn, 1) := by decide +kernel
theorem dX12_as_0 : decode cX12_as 0 = .ok (.aload_n 0, 1) := by decide +kernel
theorem dX12_as_1 : decode cX12_as 1 = .ok (.iload_n 1, 1) := by decide +kernel
theorem dX12_as_2 : decode cX12_as 2 = .ok (.invokevirtual 119, 3) := by decide +kernel
theorem dX12_as_5 : decode cX12_as 5 = .ok (.ifCond .eq 12, 3) := by decide +kernel
theorem dX12_as_8 : decode cX12_as 8 = .ok (.iload_n 2, 1) := by decide +kernel
theorem dX12_as_9 : decode cX12_as 9 = .ok (.iconst 0, 1) := by decide +kernel
theorem dX12_as_10 : decode cX12_as 10 = .ok (.iconst 5, 1) := by decide +kernel
theorem dX12_as_11 : decode cX12_as 11 = .ok (.invokestatic 52, 3) := by decide +kernel
theorem dX12_as_14 : decode cX12_as 14 = .ok (.ifCond .ne 9, 3) := by decide +kernel
theorem dX12_as_17 : decode cX12_as 17 = .ok (.aload_n 0, 1) := by decide +kernel
theorem dX12_as_18 : decode cX12_as 18 = .ok (.iconst 0, 1) := by decide +kernel
theorem dX12_as_19 : decode cX12_as 19 = .ok (.invokevirtual 112, 3) := by decide +kernel
theorem dX12_as_22 : decode cX12_as 22 = .ok (.ireturn, 1) := by decide +kernel
theorem dX12_as_23 : decode cX12_as 23 = .ok (.aload_n 0, 1) := by decide +kernel
theorem dX12_as_24 : decode cX12_as 24 = .ok (.iload_n 1, 1) := by decide +kernel
theorem dX12_as_25 : decode cX12_as 25 = .ok (.iconst 0, 1) := by decide +kernel
theorem dX12_as_26 : decode cX12_as 26 = .ok (.invokevirtual 64, 3) := by decide +kernel
theorem dX12_as_29 : decode cX12_as 29 = .ok (.istore_n 3, 1) := by decide +kernel
theorem dX12_as_30 : decode cX12_as 30 = .ok (.iload_n 3, 1) := by decide +kernel
theorem dX12_as_31 : decode cX12_as 31 = .ok (.iload_n 2, 1) := by decide +kernel
theorem dX12_as_32 : decode cX12_as 32 = .ok (.if_icmp .eq 30, 3) := by decide +kernel
theorem dX12_as_35 : decode cX12_as 35 = .ok (.iload_n 3, 1) := by decide +kernel
theorem dX12_as_36 : decode cX12_as 36 = .ok (.ifCond .eq 26, 3) := by decide +kernel
theorem dX12_as_39 : decode cX12_as 39 = .ok (.iload_n 3, 1) := by decide +kernel
theorem dX12_as_40 : decode cX12_as 40 = .ok (.iconst 4, 1) := by decide +kernel
theorem dX12_as_41 : decode cX12_as 41 = .ok (.if_icmp .ne 7, 3) := by decide +kernel
theorem dX12_as_44 : decode cX12_as 44 = .ok (.iconst 2, 1) := by decide +kernel
theorem dX12_as_45 : decode cX12_as 45 = .ok (.goto 13, 3) := by decide +kernel
theorem dX12_as_48 : decode cX12_as 48 = .ok (.iload_n 3, 1) := by decide +kernel
theorem dX12_as_49 : decode cX12_as 49 = .ok (.iconst 5, 1) := by decide +kernel
theorem dX12_as_50 : decode cX12_as 50 = .ok (.if_icmp .ne 7, 3) := by decide +kernel
theorem dX12_as_53 : decode cX12_as 53 = .ok (.iconst 1, 1) := by decide +kernel
theorem dX12_as_54 : decode cX12_as 54 = .ok (.goto 4, 3) := by decide +kernel
theorem dX12_as_57 : decode cX12_as 57 = .ok (.iconst 0, 1) := by decide +kernel
theorem dX12_as_58 : decode cX12_as 58 = .ok (.istore_n 3, 1) := by decide +kernel
theorem dX12_as_59 : decode cX12_as 59 = .ok (.goto (-29), 3) := by decide +kernel
theorem dX12_as_62 : decode cX12_as 62 = .ok (.iload_n 3, 1) := by decide +kernel
theorem dX12_as_63 : decode cX12_as 63 = .ok (.iload_n 2, 1) := by decide +kernel
theorem dX12_as_64 : decode cX12_as 64 = .ok (.if_icmp .ne 12, 3) := by decide +kernel
theorem dX12_as_67 : decode cX12_as 67 = .ok (.aload_n 0, 1) := by decide +kernel
theorem dX12_as_68 : decode cX12_as 68 = .ok (.iload_n 1, 1) := by decide +kernel
theorem dX12_as_69 : decode cX12_as 69 = .ok (.iconst 1, 1) := by decide +kernel
theorem dX12_as_70 : decode cX12_as 70 = .ok (.invokevirtual 64, 3) := by decide +kernel
theorem dX12_as_73 : decode cX12_as 73 = .ok (.goto 8, 3) := by decide +kernel
theorem dX12_as_76 : decode cX12_as 76 = .ok (.aload_n 0, 1) := by decide +kernel
theorem dX12_as_77 : decode cX12_as 77 = .ok (.iconst 2, 1) := by decide +kernel
theorem dX12_as_78 : decode cX12_as 78 = .ok (.invokevirtual 112, 3) := by decide +kernel
theorem dX12_as_81 : decode cX12_as 81 = .ok (.ireturn, 1) := by decide +kernel
theorem dX12_addsPresent_0 : decode cX12_addsPresent 0 = .ok (.aload_n 0, 1) := by decide +kernel
theorem dX12_addsPresent_1 : decode cX12_addsPresent 1 = .ok (.getfield 9, 3) := by decide +kernel
theorem dX12_addsPresent_4 : decode cX12_addsPresent 4 = .ok (.iconst 2, 1) := by decide +kernel
theorem dX12_addsPresent_5 : decode cX12_addsPresent 5 = .ok (.iaload, 1) := by decide +kernel
theorem dX12_addsPresent_6 : decode cX12_addsPresent 6 = .ok (.istore_n 3, 1) := by decide +kernel
theorem dX12_addsPresent_7 : decode cX12_addsPresent 7 = .ok (.aload_n 0, 1) := by decide +kernel
theorem dX12_addsPresent_8 : decode cX12_addsPresent 8 = .ok (.iload_n 3, 1) := by decide +kernel
theorem dX12_addsPresent_9 : decode cX12_addsPresent 9 = .ok (.iconst 0, 1) := by decide +kernel
theorem dX12_addsPresent_10 : decode cX12_addsPresent 10 = .ok (.iconst 0, 1) := by decide +kernel
theorem dX12_addsPresent_11 : decode cX12_addsPresent 11 = .ok (.invokevirtual 60, 3) := by decide +kernel
theorem dX12_addsPresent_14 : decode cX12_addsPresent 14 = .ok (.aload_n 0, 1) := by decide +kernel
theorem dX12_addsPresent_15 : decode cX12_addsPresent 15 = .ok (.iload_n 3, 1) := by decide +kernel
theorem dX12_addsPresent_16 : decode cX12_addsPresent 16 = .ok (.iconst 1, 1) := by decide +kernel
theorem dX12_addsPresent_17 : decode cX12_addsPresent 17 = .ok (.iload_n 2, 1) := by decide +kernel
theorem dX12_addsPresent_18 : decode cX12_addsPresent 18 = .ok (.invokevirtual 60, 3) := by decide +kernel
theorem dX12_addsPresent_21 : decode cX12_addsPresent 21 = .ok (.aload_n 0, 1) := by decide +kernel
theorem dX12_addsPresent_22 : decode cX12_addsPresent 22 = .ok (.iload_n 3, 1) := by decide +kernel
theorem dX12_addsPresent_23 : decode cX12_addsPresent 23 = .ok (.iconst 2, 1) := by decide +kernel
theorem dX12_addsPresent_24 : decode cX12_addsPresent 24 = .ok (.iload_n 1, 1) := by decide +kernel
theorem dX12_addsPresent_25 : decode cX12_addsPresent 25 = .ok (.invokevirtual 60, 3) := by decide +kernel
theorem dX12_addsPresent_28 : decode cX12_addsPresent 28 = .ok (.aload_n 0, 1) := by decide +kernel
theorem dX12_addsPresent_29 : decode cX12_addsPresent 29 = .ok (.iload_n 3, 1) := by decide +kernel
theorem dX12_addsPresent_30 : decode cX12_addsPresent 30 = .ok (.iconst 3, 1) := by decide +kernel
theorem dX12_addsPresent_31 : decode cX12_addsPresent 31 = .ok (.iconst 0, 1) := by decide +kernel
theorem dX12_addsPresent_32 : decode cX12_addsPresent 32 = .ok (.invokevirtual 60, 3) := by decide +kernel
theorem dX12_addsPresent_35 : decode cX12_addsPresent 35 = .ok (.aload_n 0, 1) := by decide +kernel
theorem dX12_addsPresent_36 : decode cX12_addsPresent 36 = .ok (.getfield 9, 3) := by decide +kernel
theorem dX12_addsPresent_39 : decode cX12_addsPresent 39 = .ok (.iconst 2, 1) := by decide +kernel
theorem dX12_addsPresent_40 : decode cX12_addsPresent 40 = .ok (.dup2, 1) := by decide +kernel
theorem dX12_addsPresent_41 : decode cX12_addsPresent 41 = .ok (.iaload, 1) := by decide +kernel
theorem dX12_addsPresent_42 : decode cX12_addsPresent 42 = .ok (.iconst 1, 1) := by decide +kernel
theorem dX12_addsPresent_43 : decode cX12_addsPresent 43 = .ok (.iadd, 1) := by decide +kernel
theorem dX12_addsPresent_44 : decode cX12_addsPresent 44 = .ok (.iastore, 1) := by decide +kernel
theorem dX12_addsPresent_45 : decode cX12_addsPresent 45 = .ok (.return_, 1) := by decide +kernel
theorem dX12_present_0 : decode cX12_present 0 = .ok (.aload_n 0, 1) := by decide +kernel
theorem dX12_present_1 : decode cX12_present 1 = .ok (.iload_n 1, 1) := by decide +kernel
theorem dX12_present_2 : decode cX12_present 2 = .ok (.invokevirtual 119, 3) := by decide +kernel
theorem dX12_present_5 : decode cX12_present 5 = .ok (.ifCond .eq 13, 3) := by decide +kernel
theorem dX12_present_8 : decode cX12_present 8 = .ok (.iload_n 2, 1) := by decide +kernel
theorem dX12_present_9 : decode cX12_present 9 = .ok (.iconst 0, 1) := by decide +kernel
theorem dX12_present_10 : decode cX12_present 10 = .ok (.bipush 99, 2) := by decide +kernel
theorem dX12_present_12 : decode cX12_present 12 = .ok (.invokestatic 52, 3) := by decide +kernel
theorem dX12_present_15 : decode cX12_present 15 = .ok (.ifCond .ne 9, 3) := by decide +kernel
theorem dX12_present_18 : decode cX12_present 18 = .ok (.aload_n 0, 1) := by decide +kernel
theorem dX12_present_19 : decode cX12_present 19 = .ok (.iconst 0, 1) := by decide +kernel
theorem dX12_present_20 : decode cX12_present 20 = .ok (.invokevirtual 112, 3) := by decide +kernel
theorem dX12_present_23 : decode cX12_present 23 = .ok (.ireturn, 1) := by decide +kernel
theorem dX12_present_24 : decode cX12_present 24 = .ok (.aload_n 0, 1) := by decide +kernel
theorem dX12_present_25 : decode cX12_present 25 = .ok (.getfield 9, 3) := by decide +kernel
theorem dX12_present_28 : decode cX12_present 28 = .ok (.iconst 2, 1) := by decide +kernel
theorem dX12_present_29 : decode cX12_present 29 = .ok (.iaload, 1) := by decide +kernel
theorem dX12_present_30 : decode cX12_present 30 = .ok (.bipush 8, 2) := by decide +kernel
theorem dX12_present_32 : decode cX12_present 32 = .ok (.if_icmp .ne 9, 3) := by decide +kernel
theorem dX12_present_35 : decode cX12_present 35 = .ok (.aload_n 0, 1) := by decide +kernel
theorem dX12_present_36 : decode cX12_present 36 = .ok (.iconst 1, 1) := by decide +kernel
theorem dX12_present_37 : decode cX12_present 37 = .ok (.invokevirtual 112, 3) := by decide +kernel
theorem dX12_present_40 : decode cX12_present 40 = .ok (.ireturn, 1) := by decide +kernel
theorem dX12_present_41 : decode cX12_present 41 = .ok (.aload_n 0, 1) := by decide +kernel
theorem dX12_present_42 : decode cX12_present 42 = .ok (.iload_n 1, 1) := by decide +kernel
theorem dX12_present_43 : decode cX12_present 43 = .ok (.iload_n 2, 1) := by decide +kernel
theorem dX12_present_44 : decode cX12_present 44 = .ok (.invokevirtual 130, 3) := by decide +kernel
theorem dX12_present_47 : decode cX12_present 47 = .ok (.aload_n 0, 1) := by decide +kernel
theorem dX12_present_48 : decode cX12_present 48 = .ok (.getfield 9, 3) := by decide +kernel
theorem dX12_present_51 : decode cX12_present 51 = .ok (.iconst 2, 1) := by decide +kernel
theorem dX12_present_52 : decode cX12_present 52 = .ok (.iaload, 1) := by decide +kernel
theorem dX12_present_53 : decode cX12_present 53 = .ok (.iconst 1, 1) := by decide +kernel
theorem dX12_present_54 : decode cX12_present 54 = .ok (.isub, 1) := by decide +kernel
theorem dX12_present_55 : decode cX12_present 55 = .ok (.ireturn, 1) := by decide +kernel
theorem dX12_presentOf_0 : decode cX12_presentOf 0 = .ok (.aload_n 0, 1) := by decide +kernel
theorem dX12_presentOf_1 : decode cX12_presentOf 1 = .ok (.iload_n 1, 1) := by decide +kernel
theorem dX12_presentOf_2 : decode cX12_presentOf 2 = .ok (.invokevirtual 127, 3) := by decide +kernel
theorem dX12_presentOf_5 : decode cX12_presentOf 5 = .ok (.ifCond .eq 21, 3) := by decide +kernel
theorem dX12_presentOf_8 : decode cX12_presentOf 8 = .ok (.iload_n 2, 1) := by decide +kernel
theorem dX12_presentOf_9 : decode cX12_presentOf 9 = .ok (.iconst 0, 1) := by decide +kernel
theorem dX12_presentOf_10 : decode cX12_presentOf 10 = .ok (.iconst 3, 1) := by decide +kernel
theorem dX12_presentOf_11 : decode cX12_presentOf 11 = .ok (.invokestatic 52, 3) := by decide +kernel
theorem dX12_presentOf_14 : decode cX12_presentOf 14 = .ok (.ifCond .eq 12, 3) := by decide +kernel
theorem dX12_presentOf_17 : decode cX12_presentOf 17 = .ok (.aload_n 0, 1) := by decide +kernel
theorem dX12_presentOf_18 : decode cX12_presentOf 18 = .ok (.iload_n 1, 1) := by decide +kernel
theorem dX12_presentOf_19 : decode cX12_presentOf 19 = .ok (.iload_n 2, 1) := by decide +kernel
theorem dX12_presentOf_20 : decode cX12_presentOf 20 = .ok (.invokevirtual 56, 3) := by decide +kernel
theorem dX12_presentOf_23 : decode cX12_presentOf 23 = .ok (.goto 8, 3) := by decide +kernel
theorem dX12_presentOf_26 : decode cX12_presentOf 26 = .ok (.aload_n 0, 1) := by decide +kernel
theorem dX12_presentOf_27 : decode cX12_presentOf 27 = .ok (.iconst 0, 1) := by decide +kernel
theorem dX12_presentOf_28 : decode cX12_presentOf 28 = .ok (.invokevirtual 112, 3) := by decide +kernel
theorem dX12_presentOf_31 : decode cX12_presentOf 31 = .ok (.ireturn, 1) := by decide +kernel
theorem dX12_paper_0 : decode cX12_paper 0 = .ok (.aload_n 0, 1) := by decide +kernel
theorem dX12_paper_1 : decode cX12_paper 1 = .ok (.iload_n 1, 1) := by decide +kernel
theorem dX12_paper_2 : decode cX12_paper 2 = .ok (.invokevirtual 127, 3) := by decide +kernel
theorem dX12_paper_5 : decode cX12_paper 5 = .ok (.ifCond .eq 7, 3) := by decide +kernel
theorem dX12_paper_8 : decode cX12_paper 8 = .ok (.iload_n 2, 1) := by decide +kernel
theorem dX12_paper_9 : decode cX12_paper 9 = .ok (.ifCond .ge 9, 3) := by decide +kernel
theorem dX12_paper_12 : decode cX12_paper 12 = .ok (.aload_n 0, 1) := by decide +kernel
theorem dX12_paper_13 : decode cX12_paper 13 = .ok (.iconst 0, 1) := by decide +kernel
theorem dX12_paper_14 : decode cX12_paper 14 = .ok (.invokevirtual 112, 3) := by decide +kernel
theorem dX12_paper_17 : decode cX12_paper 17 = .ok (.ireturn, 1) := by decide +kernel
theorem dX12_paper_18 : decode cX12_paper 18 = .ok (.iload_n 2, 1) := by decide +kernel
theorem dX12_paper_19 : decode cX12_paper 19 = .ok (.aload_n 0, 1) := by decide +kernel
theorem dX12_paper_20 : decode cX12_paper 20 = .ok (.iload_n 1, 1) := by decide +kernel
theorem dX12_paper_21 : decode cX12_paper 21 = .ok (.iconst 0, 1) := by decide +kernel
theorem dX12_paper_22 : decode cX12_paper 22 = .ok (.invokevirtual 56, 3) := by decide +kernel
theorem dX12_paper_25 : decode cX12_paper 25 = .ok (.if_icmp .ge 14, 3) := by decide +kernel
theorem dX12_paper_28 : decode cX12_paper 28 = .ok (.aload_n 0, 1) := by decide +kernel
theorem dX12_paper_29 : decode cX12_paper 29 = .ok (.iload_n 1, 1) := by decide +kernel
theorem dX12_paper_30 : decode cX12_paper 30 = .ok (.iconst 4, 1) := by decide +kernel
theorem dX12_paper_31 : decode cX12_paper 31 = .ok (.iload_n 2, 1) := by decide +kernel
theorem dX12_paper_32 : decode cX12_paper 32 = .ok (.iadd, 1) := by decide +kernel
theorem dX12_paper_33 : decode cX12_paper 33 = .ok (.invokevirtual 56, 3) := by decide +kernel
theorem dX12_paper_36 : decode cX12_paper 36 = .ok (.goto 8, 3) := by decide +kernel
theorem dX12_paper_39 : decode cX12_paper 39 = .ok (.aload_n 0, 1) := by decide +kernel
theorem dX12_paper_40 : decode cX12_paper 40 = .ok (.iconst 3, 1) := by decide +kernel
theorem dX12_paper_41 : decode cX12_paper 41 = .ok (.invokevirtual 112, 3) := by decide +kernel
theorem dX12_paper_44 : decode cX12_paper 44 = .ok (.ireturn, 1) := by decide +kernel
theorem dX12_isPaper_0 : decode cX12_isPaper 0 = .ok (.iload_n 0, 1) := by decide +kernel
theorem dX12_isPaper_1 : decode cX12_isPaper 1 = .ok (.iconst 0, 1) := by decide +kernel
theorem dX12_isPaper_2 : decode cX12_isPaper 2 = .ok (.iconst 3, 1) := by decide +kernel
theorem dX12_isPaper_3 : decode cX12_isPaper 3 = .ok (.invokestatic 52, 3) := by decide +kernel
theorem dX12_isPaper_6 : decode cX12_isPaper 6 = .ok (.ireturn, 1) := by decide +kernel
theorem dX12_whyNoLayer_0 : decode cX12_whyNoLayer 0 = .ok (.aload_n 0, 1) := by decide +kernel
theorem dX12_whyNoLayer_1 : decode cX12_whyNoLayer 1 = .ok (.iload_n 1, 1) := by decide +kernel
theorem dX12_whyNoLayer_2 : decode cX12_whyNoLayer 2 = .ok (.iconst 0, 1) := by decide +kernel
theorem dX12_whyNoLayer_3 : decode cX12_whyNoLayer 3 = .ok (.invokevirtual 56, 3) := by decide +kernel
theorem dX12_whyNoLayer_6 : decode cX12_whyNoLayer 6 = .ok (.bipush 6, 2) := by decide +kernel
theorem dX12_whyNoLayer_8 : decode cX12_whyNoLayer 8 = .ok (.if_icmp .ne 7, 3) := by decide +kernel
theorem dX12_whyNoLayer_11 : decode cX12_whyNoLayer 11 = .ok (.iconst 1, 1) := by decide +kernel
theorem dX12_whyNoLayer_12 : decode cX12_whyNoLayer 12 = .ok (.goto 18, 3) := by decide +kernel
theorem dX12_whyNoLayer_15 : decode cX12_whyNoLayer 15 = .ok (.aload_n 0, 1) := by decide +kernel
theorem dX12_whyNoLayer_16 : decode cX12_whyNoLayer 16 = .ok (.iload_n 1, 1) := by decide +kernel
theorem dX12_whyNoLayer_17 : decode cX12_whyNoLayer 17 = .ok (.iconst 3, 1) := by decide +kernel
theorem dX12_whyNoLayer_18 : decode cX12_whyNoLayer 18 = .ok (.invokevirtual 56, 3) := by decide +kernel
theorem dX12_whyNoLayer_21 : decode cX12_whyNoLayer 21 = .ok (.iconst 1, 1) := by decide +kernel
theorem dX12_whyNoLayer_22 : decode cX12_whyNoLayer 22 = .ok (.if_icmp .ne 7, 3) := by decide +kernel
theorem dX12_whyNoLayer_25 : decode cX12_whyNoLayer 25 = .ok (.iconst 4, 1) := by decide +kernel
theorem dX12_whyNoLayer_26 : decode cX12_whyNoLayer 26 = .ok (.goto 4, 3) := by decide +kernel
theorem dX12_whyNoLayer_29 : decode cX12_whyNoLayer 29 = .ok (.iconst (-1), 1) := by decide +kernel
theorem dX12_whyNoLayer_30 : decode cX12_whyNoLayer 30 = .ok (.ireturn, 1) := by decide +kernel
theorem dX12_wrap_0 : decode cX12_wrap 0 = .ok (.aload_n 0, 1) := by decide +kernel
theorem dX12_wrap_1 : decode cX12_wrap 1 = .ok (.iload_n 1, 1) := by decide +kernel
theorem dX12_wrap_2 : decode cX12_wrap 2 = .ok (.invokevirtual 127, 3) := by decide +kernel
theorem dX12_wrap_5 : decode cX12_wrap 5 = .ok (.ifCond .eq 18, 3) := by decide +kernel
theorem dX12_wrap_8 : decode cX12_wrap 8 = .ok (.iload_n 2, 1) := by decide +kernel
theorem dX12_wrap_9 : decode cX12_wrap 9 = .ok (.invokestatic 133, 3) := by decide +kernel
theorem dX12_wrap_12 : decode cX12_wrap 12 = .ok (.ifCond .eq 11, 3) := by decide +kernel
theorem dX12_wrap_15 : decode cX12_wrap 15 = .ok (.aload_n 0, 1) := by decide +kernel
theorem dX12_wrap_16 : decode cX12_wrap 16 = .ok (.iload_n 1, 1) := by decide +kernel
theorem dX12_wrap_17 : decode cX12_wrap 17 = .ok (.invokevirtual 136, 3) := by decide +kernel
theorem dX12_wrap_20 : decode cX12_wrap 20 = .ok (.goto 4, 3) := by decide +kernel
theorem dX12_wrap_23 : decode cX12_wrap 23 = .ok (.iconst 0, 1) := by decide +kernel
theorem dX12_wrap_24 : decode cX12_wrap 24 = .ok (.istore_n 3, 1) := by decide +kernel
theorem dX12_wrap_25 : decode cX12_wrap 25 = .ok (.iload_n 3, 1) := by decide +kernel
theorem dX12_wrap_26 : decode cX12_wrap 26 = .ok (.ifCond .lt 9, 3) := by decide +kernel
theorem dX12_wrap_29 : decode cX12_wrap 29 = .ok (.aload_n 0, 1) := by decide +kernel
theorem dX12_wrap_30 : decode cX12_wrap 30 = .ok (.iload_n 3, 1) := by decide +kernel
theorem dX12_wrap_31 : decode cX12_wrap 31 = .ok (.invokevirtual 112, 3) := by decide +kernel
theorem dX12_wrap_34 : decode cX12_wrap 34 = .ok (.ireturn, 1) := by decide +kernel
theorem dX12_wrap_35 : decode cX12_wrap 35 = .ok (.aload_n 0, 1) := by decide +kernel
theorem dX12_wrap_36 : decode cX12_wrap 36 = .ok (.iload_n 1, 1) := by decide +kernel
theorem dX12_wrap_37 : decode cX12_wrap 37 = .ok (.iload_n 2, 1) := by decide +kernel
theorem dX12_wrap_38 : decode cX12_wrap 38 = .ok (.invokevirtual 100, 3) := by decide +kernel
theorem dX12_wrap_41 : decode cX12_wrap 41 = .ok (.aload_n 0, 1) := by decide +kernel
theorem dX12_wrap_42 : decode cX12_wrap 42 = .ok (.iload_n 1, 1) := by decide +kernel
theorem dX12_wrap_43 : decode cX12_wrap 43 = .ok (.iconst 0, 1) := by decide +kernel
theorem dX12_wrap_44 : decode cX12_wrap 44 = .ok (.invokevirtual 56, 3) := by decide +kernel
theorem dX12_wrap_47 : decode cX12_wrap 47 = .ok (.ireturn, 1) := by decide +kernel
theorem dX12_unwrap_0 : decode cX12_unwrap 0 = .ok (.aload_n 0, 1) := by decide +kernel
theorem dX12_unwrap_1 : decode cX12_unwrap 1 = .ok (.iload_n 1, 1) := by decide +kernel
theorem dX12_unwrap_2 : decode cX12_unwrap 2 = .ok (.invokevirtual 127, 3) := by decide +kernel
theorem dX12_unwrap_5 : decode cX12_unwrap 5 = .ok (.ifCond .ne 9, 3) := by decide +kernel
theorem dX12_unwrap_8 : decode cX12_unwrap 8 = .ok (.aload_n 0, 1) := by decide +kernel
theorem dX12_unwrap_9 : decode cX12_unwrap 9 = .ok (.iconst 0, 1) := by decide +kernel
theorem dX12_unwrap_10 : decode cX12_unwrap 10 = .ok (.invokevirtual 112, 3) := by decide +kernel
theorem dX12_unwrap_13 : decode cX12_unwrap 13 = .ok (.ireturn, 1) := by decide +kernel
theorem dX12_unwrap_14 : decode cX12_unwrap 14 = .ok (.aload_n 0, 1) := by decide +kernel
theorem dX12_unwrap_15 : decode cX12_unwrap 15 = .ok (.iload_n 1, 1) := by decide +kernel
theorem dX12_unwrap_16 : decode cX12_unwrap 16 = .ok (.iconst 0, 1) := by decide +kernel
theorem dX12_unwrap_17 : decode cX12_unwrap 17 = .ok (.invokevirtual 56, 3) := by decide +kernel
theorem dX12_unwrap_20 : decode cX12_unwrap 20 = .ok (.ifCond .ne 11, 3) := by decide +kernel
theorem dX12_unwrap_23 : decode cX12_unwrap 23 = .ok (.aload_n 0, 1) := by decide +kernel
theorem dX12_unwrap_24 : decode cX12_unwrap 24 = .ok (.iconst 3, 1) := by decide +kernel
theorem dX12_unwrap_25 : decode cX12_unwrap 25 = .ok (.invokevirtual 112, 3) := by decide +kernel
theorem dX12_unwrap_28 : decode cX12_unwrap 28 = .ok (.goto 8, 3) := by decide +kernel
theorem dX12_unwrap_31 : decode cX12_unwrap 31 = .ok (.aload_n 0, 1) := by decide +kernel
theorem dX12_unwrap_32 : decode cX12_unwrap 32 = .ok (.iload_n 1, 1) := by decide +kernel
theorem dX12_unwrap_33 : decode cX12_unwrap 33 = .ok (.invokevirtual 80, 3) := by decide +kernel
theorem dX12_unwrap_36 : decode cX12_unwrap 36 = .ok (.ireturn, 1) := by decide +kernel
theorem dX12_set_0 : decode cX12_set 0 = .ok (.aload_n 0, 1) := by decide +kernel
theorem dX12_set_1 : decode cX12_set 1 = .ok (.iload_n 1, 1) := by decide +kernel
theorem dX12_set_2 : decode cX12_set 2 = .ok (.invokevirtual 127, 3) := by decide +kernel
theorem dX12_set_5 : decode cX12_set 5 = .ok (.ifCond .eq 38, 3) := by decide +kernel
theorem dX12_set_8 : decode cX12_set 8 = .ok (.iload_n 2, 1) := by decide +kernel
theorem dX12_set_9 : decode cX12_set 9 = .ok (.iconst 1, 1) := by decide +kernel
theorem dX12_set_10 : decode cX12_set 10 = .ok (.iconst 2, 1) := by decide +kernel
theorem dX12_set_11 : decode cX12_set 11 = .ok (.invokestatic 52, 3) := by decide +kernel
theorem dX12_set_14 : decode cX12_set 14 = .ok (.ifCond .eq 29, 3) := by decide +kernel
theorem dX12_set_17 : decode cX12_set 17 = .ok (.iload_n 3, 1) := by decide +kernel
theorem dX12_set_18 : decode cX12_set 18 = .ok (.iconst 0, 1) := by decide +kernel
theorem dX12_set_19 : decode cX12_set 19 = .ok (.iload_n 2, 1) := by decide +kernel
theorem dX12_set_20 : decode cX12_set 20 = .ok (.iconst 1, 1) := by decide +kernel
theorem dX12_set_21 : decode cX12_set 21 = .ok (.if_icmp .ne 8, 3) := by decide +kernel
theorem dX12_set_24 : decode cX12_set 24 = .ok (.bipush 99, 2) := by decide +kernel
theorem dX12_set_26 : decode cX12_set 26 = .ok (.goto 11, 3) := by decide +kernel
theorem dX12_set_29 : decode cX12_set 29 = .ok (.aload_n 0, 1) := by decide +kernel
theorem dX12_set_30 : decode cX12_set 30 = .ok (.getfield 9, 3) := by decide +kernel
theorem dX12_set_33 : decode cX12_set 33 = .ok (.iconst 1, 1) := by decide +kernel
theorem dX12_set_34 : decode cX12_set 34 = .ok (.iaload, 1) := by decide +kernel
theorem dX12_set_35 : decode cX12_set 35 = .ok (.iconst 1, 1) := by decide +kernel
theorem dX12_set_36 : decode cX12_set 36 = .ok (.isub, 1) := by decide +kernel
theorem dX12_set_37 : decode cX12_set 37 = .ok (.invokestatic 52, 3) := by decide +kernel
theorem dX12_set_40 : decode cX12_set 40 = .ok (.ifCond .ne 9, 3) := by decide +kernel
theorem dX12_set_43 : decode cX12_set 43 = .ok (.aload_n 0, 1) := by decide +kernel
theorem dX12_set_44 : decode cX12_set 44 = .ok (.iconst 0, 1) := by decide +kernel
theorem dX12_set_45 : decode cX12_set 45 = .ok (.invokevirtual 112, 3) := by decide +kernel
theorem dX12_set_48 : decode cX12_set 48 = .ok (.ireturn, 1) := by decide +kernel
theorem dX12_set_49 : decode cX12_set 49 = .ok (.aload_n 0, 1) := by decide +kernel
theorem dX12_set_50 : decode cX12_set 50 = .ok (.iload_n 1, 1) := by decide +kernel
theorem dX12_set_51 : decode cX12_set 51 = .ok (.iload_n 2, 1) := by decide +kernel
theorem dX12_set_52 : decode cX12_set 52 = .ok (.invokevirtual 56, 3) := by decide +kernel
theorem dX12_set_55 : decode cX12_set 55 = .ok (.istore 4, 2) := by decide +kernel
theorem dX12_set_57 : decode cX12_set 57 = .ok (.aload_n 0, 1) := by decide +kernel
theorem dX12_set_58 : decode cX12_set 58 = .ok (.iload_n 1, 1) := by decide +kernel
theorem dX12_set_59 : decode cX12_set 59 = .ok (.iload_n 2, 1) := by decide +kernel
theorem dX12_set_60 : decode cX12_set 60 = .ok (.iload_n 3, 1) := by decide +kernel
theorem dX12_set_61 : decode cX12_set 61 = .ok (.invokevirtual 60, 3) := by decide +kernel
theorem dX12_set_64 : decode cX12_set 64 = .ok (.iload 4, 2) := by decide +kernel
theorem dX12_set_66 : decode cX12_set 66 = .ok (.ireturn, 1) := by decide +kernel
theorem dX12_foundOnes_0 : decode cX12_foundOnes 0 = .ok (.iconst 0, 1) := by decide +kernel
theorem dX12_foundOnes_1 : decode cX12_foundOnes 1 = .ok (.istore_n 1, 1) := by decide +kernel
theorem dX12_foundOnes_2 : decode cX12_foundOnes 2 = .ok (.iconst 0, 1) := by decide +kernel
theorem dX12_foundOnes_3 : decode cX12_foundOnes 3 = .ok (.istore_n 2, 1) := by decide +kernel
theorem dX12_foundOnes_4 : decode cX12_foundOnes 4 = .ok (.iload_n 2, 1) := by decide +kernel
theorem dX12_foundOnes_5 : decode cX12_foundOnes 5 = .ok (.aload_n 0, 1) := by decide +kernel
theorem dX12_foundOnes_6 : decode cX12_foundOnes 6 = .ok (.getfield 9, 3) := by decide +kernel
theorem dX12_foundOnes_9 : decode cX12_foundOnes 9 = .ok (.iconst 2, 1) := by decide +kernel
theorem dX12_foundOnes_10 : decode cX12_foundOnes 10 = .ok (.iaload, 1) := by decide +kernel
theorem dX12_foundOnes_11 : decode cX12_foundOnes 11 = .ok (.if_icmp .ge 20, 3) := by decide +kernel
theorem dX12_foundOnes_14 : decode cX12_foundOnes 14 = .ok (.iload_n 1, 1) := by decide +kernel
theorem dX12_foundOnes_15 : decode cX12_foundOnes 15 = .ok (.aload_n 0, 1) := by decide +kernel
theorem dX12_foundOnes_16 : decode cX12_foundOnes 16 = .ok (.iload_n 2, 1) := by decide +kernel
theorem dX12_foundOnes_17 : decode cX12_foundOnes 17 = .ok (.iconst 3, 1) := by decide +kernel
theorem dX12_foundOnes_18 : decode cX12_foundOnes 18 = .ok (.invokevirtual 56, 3) := by decide +kernel
theorem dX12_foundOnes_21 : decode cX12_foundOnes 21 = .ok (.iload_n 2, 1) := by decide +kernel
theorem dX12_foundOnes_22 : decode cX12_foundOnes 22 = .ok (.ishl, 1) := by decide +kernel
theorem dX12_foundOnes_23 : decode cX12_foundOnes 23 = .ok (.ior, 1) := by decide +kernel
theorem dX12_foundOnes_24 : decode cX12_foundOnes 24 = .ok (.istore_n 1, 1) := by decide +kernel
theorem dX12_foundOnes_25 : decode cX12_foundOnes 25 = .ok (.iinc 2 1, 3) := by decide +kernel
theorem dX12_foundOnes_28 : decode cX12_foundOnes 28 = .ok (.goto (-24), 3) := by decide +kernel
theorem dX12_foundOnes_31 : decode cX12_foundOnes 31 = .ok (.iload_n 1, 1) := by decide +kernel
theorem dX12_foundOnes_32 : decode cX12_foundOnes 32 = .ok (.ireturn, 1) := by decide +kernel
theorem dX12_days_0 : decode cX12_days 0 = .ok (.iload_n 1, 1) := by decide +kernel
theorem dX12_days_1 : decode cX12_days 1 = .ok (.iconst 1, 1) := by decide +kernel
theorem dX12_days_2 : decode cX12_days 2 = .ok (.bipush 60, 2) := by decide +kernel
theorem dX12_days_4 : decode cX12_days 4 = .ok (.invokestatic 52, 3) := by decide +kernel
theorem dX12_days_7 : decode cX12_days 7 = .ok (.ifCond .ne 9, 3) := by decide +kernel
theorem dX12_days_10 : decode cX12_days 10 = .ok (.aload_n 0, 1) := by decide +kernel
theorem dX12_days_11 : decode cX12_days 11 = .ok (.iconst 0, 1) := by decide +kernel
theorem dX12_days_12 : decode cX12_days 12 = .ok (.invokevirtual 112, 3) := by decide +kernel
theorem dX12_days_15 : decode cX12_days 15 = .ok (.ireturn, 1) := by decide +kernel
theorem dX12_days_16 : decode cX12_days 16 = .ok (.aload_n 0, 1) := by decide +kernel
theorem dX12_days_17 : decode cX12_days 17 = .ok (.getfield 9, 3) := by decide +kernel
theorem dX12_days_20 : decode cX12_days 20 = .ok (.iconst 0, 1) := by decide +kernel
theorem dX12_days_21 : decode cX12_days 21 = .ok (.iaload, 1) := by decide +kernel
theorem dX12_days_22 : decode cX12_days 22 = .ok (.iload_n 1, 1) := by decide +kernel
theorem dX12_days_23 : decode cX12_days 23 = .ok (.iadd, 1) := by decide +kernel
theorem dX12_days_24 : decode cX12_days 24 = .ok (.sipush 9999, 3) := by decide +kernel
theorem dX12_days_27 : decode cX12_days 27 = .ok (.if_icmp .le 9, 3) := by decide +kernel
theorem dX12_days_30 : decode cX12_days 30 = .ok (.aload_n 0, 1) := by decide +kernel
theorem dX12_days_31 : decode cX12_days 31 = .ok (.iconst 4, 1) := by decide +kernel
theorem dX12_days_32 : decode cX12_days 32 = .ok (.invokevirtual 112, 3) := by decide +kernel
theorem dX12_days_35 : decode cX12_days 35 = .ok (.ireturn, 1) := by decide +kernel
theorem dX12_days_36 : decode cX12_days 36 = .ok (.aload_n 0, 1) := by decide +kernel
theorem dX12_days_37 : decode cX12_days 37 = .ok (.iload_n 1, 1) := by decide +kernel
theorem dX12_days_38 : decode cX12_days 38 = .ok (.invokevirtual 139, 3) := by decide +kernel
theorem dX12_days_41 : decode cX12_days 41 = .ok (.iconst 1, 1) := by decide +kernel
theorem dX12_days_42 : decode cX12_days 42 = .ok (.aload_n 0, 1) := by decide +kernel
theorem dX12_days_43 : decode cX12_days 43 = .ok (.getfield 9, 3) := by decide +kernel
theorem dX12_days_46 : decode cX12_days 46 = .ok (.iconst 2, 1) := by decide +kernel
theorem dX12_days_47 : decode cX12_days 47 = .ok (.iaload, 1) := by decide +kernel
theorem dX12_days_48 : decode cX12_days 48 = .ok (.ishl, 1) := by decide +kernel
theorem dX12_days_49 : decode cX12_days 49 = .ok (.iconst 1, 1) := by decide +kernel
theorem dX12_days_50 : decode cX12_days 50 = .ok (.isub, 1) := by decide +kernel
theorem dX12_days_51 : decode cX12_days 51 = .ok (.aload_n 0, 1) := by decide +kernel
theorem dX12_days_52 : decode cX12_days 52 = .ok (.invokevirtual 142, 3) := by decide +kernel
theorem dX12_days_55 : decode cX12_days 55 = .ok (.iconst (-1), 1) := by decide +kernel
theorem dX12_days_56 : decode cX12_days 56 = .ok (.ixor, 1) := by decide +kernel
theorem dX12_days_57 : decode cX12_days 57 = .ok (.iand, 1) := by decide +kernel
theorem dX12_days_58 : decode cX12_days 58 = .ok (.ireturn, 1) := by decide +kernel
theorem dX12_allJoy_0 : decode cX12_allJoy 0 = .ok (.iconst 0, 1) := by decide +kernel
theorem dX12_allJoy_1 : decode cX12_allJoy 1 = .ok (.istore_n 1, 1) := by decide +kernel
theorem dX12_allJoy_2 : decode cX12_allJoy 2 = .ok (.iconst 0, 1) := by decide +kernel
theorem dX12_allJoy_3 : decode cX12_allJoy 3 = .ok (.istore_n 2, 1) := by decide +kernel
theorem dX12_allJoy_4 : decode cX12_allJoy 4 = .ok (.iload_n 2, 1) := by decide +kernel
theorem dX12_allJoy_5 : decode cX12_allJoy 5 = .ok (.aload_n 0, 1) := by decide +kernel
theorem dX12_allJoy_6 : decode cX12_allJoy 6 = .ok (.getfield 9, 3) := by decide +kernel
theorem dX12_allJoy_9 : decode cX12_allJoy 9 = .ok (.iconst 1, 1) := by decide +kernel
theorem dX12_allJoy_10 : decode cX12_allJoy 10 = .ok (.iaload, 1) := by decide +kernel
theorem dX12_allJoy_11 : decode cX12_allJoy 11 = .ok (.if_icmp .ge 18, 3) := by decide +kernel
theorem dX12_allJoy_14 : decode cX12_allJoy 14 = .ok (.iload_n 1, 1) := by decide +kernel
theorem dX12_allJoy_15 : decode cX12_allJoy 15 = .ok (.aload_n 0, 1) := by decide +kernel
theorem dX12_allJoy_16 : decode cX12_allJoy 16 = .ok (.iload_n 2, 1) := by decide +kernel
theorem dX12_allJoy_17 : decode cX12_allJoy 17 = .ok (.iconst 1, 1) := by decide +kernel
theorem dX12_allJoy_18 : decode cX12_allJoy 18 = .ok (.invokevirtual 64, 3) := by decide +kernel
theorem dX12_allJoy_21 : decode cX12_allJoy 21 = .ok (.iadd, 1) := by decide +kernel
theorem dX12_allJoy_22 : decode cX12_allJoy 22 = .ok (.istore_n 1, 1) := by decide +kernel
theorem dX12_allJoy_23 : decode cX12_allJoy 23 = .ok (.iinc 2 1, 3) := by decide +kernel
theorem dX12_allJoy_26 : decode cX12_allJoy 26 = .ok (.goto (-22), 3) := by decide +kernel
theorem dX12_allJoy_29 : decode cX12_allJoy 29 = .ok (.iload_n 1, 1) := by decide +kernel
theorem dX12_allJoy_30 : decode cX12_allJoy 30 = .ok (.ireturn, 1) := by decide +kernel
theorem dX12_allOf_0 : decode cX12_allOf 0 = .ok (.iconst 0, 1) := by decide +kernel
theorem dX12_allOf_1 : decode cX12_allOf 1 = .ok (.istore_n 3, 1) := by decide +kernel
theorem dX12_allOf_2 : decode cX12_allOf 2 = .ok (.iconst 0, 1) := by decide +kernel
theorem dX12_allOf_3 : decode cX12_allOf 3 = .ok (.istore 4, 2) := by decide +kernel
theorem dX12_allOf_5 : decode cX12_allOf 5 = .ok (.iload 4, 2) := by decide +kernel
theorem dX12_allOf_7 : decode cX12_allOf 7 = .ok (.aload_n 0, 1) := by decide +kernel
theorem dX12_allOf_8 : decode cX12_allOf 8 = .ok (.getfield 9, 3) := by decide +kernel
theorem dX12_allOf_11 : decode cX12_allOf 11 = .ok (.iconst 2, 1) := by decide +kernel
theorem dX12_allOf_12 : decode cX12_allOf 12 = .ok (.iaload, 1) := by decide +kernel
theorem dX12_allOf_13 : decode cX12_allOf 13 = .ok (.if_icmp .ge 38, 3) := by decide +kernel
theorem dX12_allOf_16 : decode cX12_allOf 16 = .ok (.iload_n 3, 1) := by decide +kernel
theorem dX12_allOf_17 : decode cX12_allOf 17 = .ok (.iload_n 2, 1) := by decide +kernel
theorem dX12_allOf_18 : decode cX12_allOf 18 = .ok (.ifCond .eq 14, 3) := by decide +kernel
theorem dX12_allOf_21 : decode cX12_allOf 21 = .ok (.aload_n 0, 1) := by decide +kernel
theorem dX12_allOf_22 : decode cX12_allOf 22 = .ok (.iload 4, 2) := by decide +kernel
theorem dX12_allOf_24 : decode cX12_allOf 24 = .ok (.iconst 3, 1) := by decide +kernel
theorem dX12_allOf_25 : decode cX12_allOf 25 = .ok (.invokevirtual 56, 3) := by decide +kernel
theorem dX12_allOf_28 : decode cX12_allOf 28 = .ok (.iconst 1, 1) := by decide +kernel
theorem dX12_allOf_29 : decode cX12_allOf 29 = .ok (.if_icmp .ne 13, 3) := by decide +kernel
theorem dX12_allOf_32 : decode cX12_allOf 32 = .ok (.aload_n 0, 1) := by decide +kernel
theorem dX12_allOf_33 : decode cX12_allOf 33 = .ok (.iload 4, 2) := by decide +kernel
theorem dX12_allOf_35 : decode cX12_allOf 35 = .ok (.iload_n 1, 1) := by decide +kernel
theorem dX12_allOf_36 : decode cX12_allOf 36 = .ok (.invokevirtual 56, 3) := by decide +kernel
theorem dX12_allOf_39 : decode cX12_allOf 39 = .ok (.goto 4, 3) := by decide +kernel
theorem dX12_allOf_42 : decode cX12_allOf 42 = .ok (.iconst 0, 1) := by decide +kernel
theorem dX12_allOf_43 : decode cX12_allOf 43 = .ok (.iadd, 1) := by decide +kernel
theorem dX12_allOf_44 : decode cX12_allOf 44 = .ok (.istore_n 3, 1) := by decide +kernel
theorem dX12_allOf_45 : decode cX12_allOf 45 = .ok (.iinc 4 1, 3) := by decide +kernel
theorem dX12_allOf_48 : decode cX12_allOf 48 = .ok (.goto (-43), 3) := by decide +kernel
theorem dX12_allOf_51 : decode cX12_allOf 51 = .ok (.iload_n 3, 1) := by decide +kernel
theorem dX12_allOf_52 : decode cX12_allOf 52 = .ok (.ireturn, 1) := by decide +kernel
theorem dX12_now_0 : decode cX12_now 0 = .ok (.iload_n 1, 1) := by decide +kernel
theorem dX12_now_1 : decode cX12_now 1 = .ok (.tableswitch 66 0 4 #[35, 42, 47, 52, 59], 35) := by decide +kernel
theorem dX12_now_36 : decode cX12_now 36 = .ok (.aload_n 0, 1) := by decide +kernel
theorem dX12_now_37 : decode cX12_now 37 = .ok (.getfield 9, 3) := by decide +kernel
theorem dX12_now_40 : decode cX12_now 40 = .ok (.iconst 0, 1) := by decide +kernel
theorem dX12_now_41 : decode cX12_now 41 = .ok (.iaload, 1) := by decide +kernel
theorem dX12_now_42 : decode cX12_now 42 = .ok (.ireturn, 1) := by decide +kernel
theorem dX12_now_43 : decode cX12_now 43 = .ok (.aload_n 0, 1) := by decide +kernel
theorem dX12_now_44 : decode cX12_now 44 = .ok (.invokevirtual 146, 3) := by decide +kernel
theorem dX12_now_47 : decode cX12_now 47 = .ok (.ireturn, 1) := by decide +kernel
theorem dX12_now_48 : decode cX12_now 48 = .ok (.aload_n 0, 1) := by decide +kernel
theorem dX12_now_49 : decode cX12_now 49 = .ok (.invokevirtual 142, 3) := by decide +kernel
theorem dX12_now_52 : decode cX12_now 52 = .ok (.ireturn, 1) := by decide +kernel
theorem dX12_now_53 : decode cX12_now 53 = .ok (.aload_n 0, 1) := by decide +kernel
theorem dX12_now_54 : decode cX12_now 54 = .ok (.iconst 0, 1) := by decide +kernel
theorem dX12_now_55 : decode cX12_now 55 = .ok (.iconst 0, 1) := by decide +kernel
theorem dX12_now_56 : decode cX12_now 56 = .ok (.invokevirtual 149, 3) := by decide +kernel
theorem dX12_now_59 : decode cX12_now 59 = .ok (.ireturn, 1) := by decide +kernel
theorem dX12_now_60 : decode cX12_now 60 = .ok (.aload_n 0, 1) := by decide +kernel
theorem dX12_now_61 : decode cX12_now 61 = .ok (.iconst 1, 1) := by decide +kernel
theorem dX12_now_62 : decode cX12_now 62 = .ok (.iconst 1, 1) := by decide +kernel
theorem dX12_now_63 : decode cX12_now 63 = .ok (.invokevirtual 149, 3) := by decide +kernel
theorem dX12_now_66 : decode cX12_now 66 = .ok (.ireturn, 1) := by decide +kernel
theorem dX12_now_67 : decode cX12_now 67 = .ok (.aload_n 0, 1) := by decide +kernel
theorem dX12_now_68 : decode cX12_now 68 = .ok (.iconst 0, 1) := by decide +kernel
theorem dX12_now_69 : decode cX12_now 69 = .ok (.invokevirtual 112, 3) := by decide +kernel
theorem dX12_now_72 : decode cX12_now 72 = .ok (.ireturn, 1) := by decide +kernel
theorem dX12_isAhead_0 : decode cX12_isAhead 0 = .ok (.iload_n 0, 1) := by decide +kernel
theorem dX12_isAhead_1 : decode cX12_isAhead 1 = .ok (.iconst 0, 1) := by decide +kernel
theorem dX12_isAhead_2 : decode cX12_isAhead 2 = .ok (.bipush 60, 2) := by decide +kernel
theorem dX12_isAhead_4 : decode cX12_isAhead 4 = .ok (.invokestatic 52, 3) := by decide +kernel
theorem dX12_isAhead_7 : decode cX12_isAhead 7 = .ok (.ireturn, 1) := by decide +kernel
theorem dX12_on_0 : decode cX12_on 0 = .ok (.aload_n 0, 1) := by decide +kernel
theorem dX12_on_1 : decode cX12_on 1 = .ok (.iload_n 1, 1) := by decide +kernel
theorem dX12_on_2 : decode cX12_on 2 = .ok (.invokevirtual 127, 3) := by decide +kernel
theorem dX12_on_5 : decode cX12_on 5 = .ok (.ifCond .eq 24, 3) := by decide +kernel
theorem dX12_on_8 : decode cX12_on 8 = .ok (.iload_n 2, 1) := by decide +kernel
theorem dX12_on_9 : decode cX12_on 9 = .ok (.invokestatic 152, 3) := by decide +kernel
theorem dX12_on_12 : decode cX12_on 12 = .ok (.ifCond .eq 17, 3) := by decide +kernel
theorem dX12_on_15 : decode cX12_on 15 = .ok (.iload_n 3, 1) := by decide +kernel
theorem dX12_on_16 : decode cX12_on 16 = .ok (.iconst 0, 1) := by decide +kernel
theorem dX12_on_17 : decode cX12_on 17 = .ok (.iconst 3, 1) := by decide +kernel
theorem dX12_on_18 : decode cX12_on 18 = .ok (.invokestatic 52, 3) := by decide +kernel
theorem dX12_on_21 : decode cX12_on 21 = .ok (.ifCond .eq 8, 3) := by decide +kernel
theorem dX12_on_24 : decode cX12_on 24 = .ok (.iload_n 3, 1) := by decide +kernel
theorem dX12_on_25 : decode cX12_on 25 = .ok (.iconst 1, 1) := by decide +kernel
theorem dX12_on_26 : decode cX12_on 26 = .ok (.if_icmp .ne 9, 3) := by decide +kernel
theorem dX12_on_29 : decode cX12_on 29 = .ok (.aload_n 0, 1) := by decide +kernel
theorem dX12_on_30 : decode cX12_on 30 = .ok (.iconst 0, 1) := by decide +kernel
theorem dX12_on_31 : decode cX12_on 31 = .ok (.invokevirtual 112, 3) := by decide +kernel
theorem dX12_on_34 : decode cX12_on 34 = .ok (.ireturn, 1) := by decide +kernel
theorem dX12_on_35 : decode cX12_on 35 = .ok (.aload_n 0, 1) := by decide +kernel
theorem dX12_on_36 : decode cX12_on 36 = .ok (.invokevirtual 155, 3) := by decide +kernel
theorem dX12_on_39 : decode cX12_on 39 = .ok (.aload_n 0, 1) := by decide +kernel
theorem dX12_on_40 : decode cX12_on 40 = .ok (.iload_n 2, 1) := by decide +kernel
theorem dX12_on_41 : decode cX12_on 41 = .ok (.invokevirtual 139, 3) := by decide +kernel
theorem dX12_on_44 : decode cX12_on 44 = .ok (.aload_n 0, 1) := by decide +kernel
theorem dX12_on_45 : decode cX12_on 45 = .ok (.iload_n 1, 1) := by decide +kernel
theorem dX12_on_46 : decode cX12_on 46 = .ok (.iload_n 3, 1) := by decide +kernel
theorem dX12_on_47 : decode cX12_on 47 = .ok (.invokevirtual 56, 3) := by decide +kernel
theorem dX12_on_50 : decode cX12_on 50 = .ok (.istore 4, 2) := by decide +kernel
theorem dX12_on_52 : decode cX12_on 52 = .ok (.aload_n 0, 1) := by decide +kernel
theorem dX12_on_53 : decode cX12_on 53 = .ok (.invokevirtual 158, 3) := by decide +kernel
theorem dX12_on_56 : decode cX12_on 56 = .ok (.iload 4, 2) := by decide +kernel
theorem dX12_on_58 : decode cX12_on 58 = .ok (.ireturn, 1) := by decide +kernel
theorem dX12_joyOn_0 : decode cX12_joyOn 0 = .ok (.aload_n 0, 1) := by decide +kernel
theorem dX12_joyOn_1 : decode cX12_joyOn 1 = .ok (.iload_n 1, 1) := by decide +kernel
theorem dX12_joyOn_2 : decode cX12_joyOn 2 = .ok (.invokevirtual 119, 3) := by decide +kernel
theorem dX12_joyOn_5 : decode cX12_joyOn 5 = .ok (.ifCond .eq 10, 3) := by decide +kernel
theorem dX12_joyOn_8 : decode cX12_joyOn 8 = .ok (.iload_n 2, 1) := by decide +kernel
theorem dX12_joyOn_9 : decode cX12_joyOn 9 = .ok (.invokestatic 152, 3) := by decide +kernel
theorem dX12_joyOn_12 : decode cX12_joyOn 12 = .ok (.ifCond .ne 9, 3) := by decide +kernel
theorem dX12_joyOn_15 : decode cX12_joyOn 15 = .ok (.aload_n 0, 1) := by decide +kernel
theorem dX12_joyOn_16 : decode cX12_joyOn 16 = .ok (.iconst 0, 1) := by decide +kernel
theorem dX12_joyOn_17 : decode cX12_joyOn 17 = .ok (.invokevirtual 112, 3) := by decide +kernel
theorem dX12_joyOn_20 : decode cX12_joyOn 20 = .ok (.ireturn, 1) := by decide +kernel
theorem dX12_joyOn_21 : decode cX12_joyOn 21 = .ok (.aload_n 0, 1) := by decide +kernel
theorem dX12_joyOn_22 : decode cX12_joyOn 22 = .ok (.invokevirtual 155, 3) := by decide +kernel
theorem dX12_joyOn_25 : decode cX12_joyOn 25 = .ok (.aload_n 0, 1) := by decide +kernel
theorem dX12_joyOn_26 : decode cX12_joyOn 26 = .ok (.iload_n 2, 1) := by decide +kernel
theorem dX12_joyOn_27 : decode cX12_joyOn 27 = .ok (.invokevirtual 139, 3) := by decide +kernel
theorem dX12_joyOn_30 : decode cX12_joyOn 30 = .ok (.aload_n 0, 1) := by decide +kernel
theorem dX12_joyOn_31 : decode cX12_joyOn 31 = .ok (.iload_n 1, 1) := by decide +kernel
theorem dX12_joyOn_32 : decode cX12_joyOn 32 = .ok (.iconst 1, 1) := by decide +kernel
theorem dX12_joyOn_33 : decode cX12_joyOn 33 = .ok (.invokevirtual 64, 3) := by decide +kernel
theorem dX12_joyOn_36 : decode cX12_joyOn 36 = .ok (.istore_n 3, 1) := by decide +kernel
theorem dX12_joyOn_37 : decode cX12_joyOn 37 = .ok (.aload_n 0, 1) := by decide +kernel
theorem dX12_joyOn_38 : decode cX12_joyOn 38 = .ok (.invokevirtual 158, 3) := by decide +kernel
theorem dX12_joyOn_41 : decode cX12_joyOn 41 = .ok (.iload_n 3, 1) := by decide +kernel
theorem dX12_joyOn_42 : decode cX12_joyOn 42 = .ok (.ireturn, 1) := by decide +kernel
theorem dX12_firstBy_0 : decode cX12_firstBy 0 = .ok (.aload_n 0, 1) := by decide +kernel
theorem dX12_firstBy_1 : decode cX12_firstBy 1 = .ok (.invokevirtual 155, 3) := by decide +kernel
theorem dX12_firstBy_4 : decode cX12_firstBy 4 = .ok (.iconst 0, 1) := by decide +kernel
theorem dX12_firstBy_5 : decode cX12_firstBy 5 = .ok (.istore 4, 2) := by decide +kernel
theorem dX12_firstBy_7 : decode cX12_firstBy 7 = .ok (.iload 4, 2) := by decide +kernel
theorem dX12_firstBy_9 : decode cX12_firstBy 9 = .ok (.bipush 60, 2) := by decide +kernel
theorem dX12_firstBy_11 : decode cX12_firstBy 11 = .ok (.if_icmp .gt 23, 3) := by decide +kernel
theorem dX12_firstBy_14 : decode cX12_firstBy 14 = .ok (.aload_n 0, 1) := by decide +kernel
theorem dX12_firstBy_15 : decode cX12_firstBy 15 = .ok (.iload_n 1, 1) := by decide +kernel
theorem dX12_firstBy_16 : decode cX12_firstBy 16 = .ok (.iload_n 2, 1) := by decide +kernel
theorem dX12_firstBy_17 : decode cX12_firstBy 17 = .ok (.invokevirtual 56, 3) := by decide +kernel
theorem dX12_firstBy_20 : decode cX12_firstBy 20 = .ok (.iload_n 3, 1) := by decide +kernel
theorem dX12_firstBy_21 : decode cX12_firstBy 21 = .ok (.if_icmp .eq 13, 3) := by decide +kernel
theorem dX12_firstBy_24 : decode cX12_firstBy 24 = .ok (.aload_n 0, 1) := by decide +kernel
theorem dX12_firstBy_25 : decode cX12_firstBy 25 = .ok (.invokevirtual 109, 3) := by decide +kernel
theorem dX12_firstBy_28 : decode cX12_firstBy 28 = .ok (.iinc 4 1, 3) := by decide +kernel
theorem dX12_firstBy_31 : decode cX12_firstBy 31 = .ok (.goto (-24), 3) := by decide +kernel
theorem dX12_firstBy_34 : decode cX12_firstBy 34 = .ok (.aload_n 0, 1) := by decide +kernel
theorem dX12_firstBy_35 : decode cX12_firstBy 35 = .ok (.invokevirtual 158, 3) := by decide +kernel
theorem dX12_firstBy_38 : decode cX12_firstBy 38 = .ok (.iload 4, 2) := by decide +kernel
theorem dX12_firstBy_40 : decode cX12_firstBy 40 = .ok (.bipush 60, 2) := by decide +kernel
theorem dX12_firstBy_42 : decode cX12_firstBy 42 = .ok (.if_icmp .le 11, 3) := by decide +kernel
theorem dX12_firstBy_45 : decode cX12_firstBy 45 = .ok (.aload_n 0, 1) := by decide +kernel
theorem dX12_firstBy_46 : decode cX12_firstBy 46 = .ok (.iconst 3, 1) := by decide +kernel
theorem dX12_firstBy_47 : decode cX12_firstBy 47 = .ok (.invokevirtual 112, 3) := by decide +kernel
theorem dX12_firstBy_50 : decode cX12_firstBy 50 = .ok (.goto 5, 3) := by decide +kernel
theorem dX12_firstBy_53 : decode cX12_firstBy 53 = .ok (.iload 4, 2) := by decide +kernel
theorem dX12_firstBy_55 : decode cX12_firstBy 55 = .ok (.ireturn, 1) := by decide +kernel
theorem dX12_found_0 : decode cX12_found 0 = .ok (.aload_n 0, 1) := by decide +kernel
theorem dX12_found_1 : decode cX12_found 1 = .ok (.iload_n 1, 1) := by decide +kernel
theorem dX12_found_2 : decode cX12_found 2 = .ok (.invokevirtual 127, 3) := by decide +kernel
theorem dX12_found_5 : decode cX12_found 5 = .ok (.ifCond .eq 13, 3) := by decide +kernel
theorem dX12_found_8 : decode cX12_found 8 = .ok (.aload_n 0, 1) := by decide +kernel
theorem dX12_found_9 : decode cX12_found 9 = .ok (.iload_n 1, 1) := by decide +kernel
theorem dX12_found_10 : decode cX12_found 10 = .ok (.iconst 3, 1) := by decide +kernel
theorem dX12_found_11 : decode cX12_found 11 = .ok (.iconst 1, 1) := by decide +kernel
theorem dX12_found_12 : decode cX12_found 12 = .ok (.invokevirtual 161, 3) := by decide +kernel
theorem dX12_found_15 : decode cX12_found 15 = .ok (.goto 8, 3) := by decide +kernel
theorem dX12_found_18 : decode cX12_found 18 = .ok (.aload_n 0, 1) := by decide +kernel
theorem dX12_found_19 : decode cX12_found 19 = .ok (.iconst 0, 1) := by decide +kernel
theorem dX12_found_20 : decode cX12_found 20 = .ok (.invokevirtual 112, 3) := by decide +kernel
theorem dX12_found_23 : decode cX12_found 23 = .ok (.ireturn, 1) := by decide +kernel
theorem dX12_comes_0 : decode cX12_comes 0 = .ok (.aload_n 0, 1) := by decide +kernel
theorem dX12_comes_1 : decode cX12_comes 1 = .ok (.iload_n 1, 1) := by decide +kernel
theorem dX12_comes_2 : decode cX12_comes 2 = .ok (.invokevirtual 127, 3) := by decide +kernel
theorem dX12_comes_5 : decode cX12_comes 5 = .ok (.ifCond .eq 21, 3) := by decide +kernel
theorem dX12_comes_8 : decode cX12_comes 8 = .ok (.aload_n 0, 1) := by decide +kernel
theorem dX12_comes_9 : decode cX12_comes 9 = .ok (.iload_n 2, 1) := by decide +kernel
theorem dX12_comes_10 : decode cX12_comes 10 = .ok (.invokevirtual 119, 3) := by decide +kernel
theorem dX12_comes_13 : decode cX12_comes 13 = .ok (.ifCond .eq 13, 3) := by decide +kernel
theorem dX12_comes_16 : decode cX12_comes 16 = .ok (.aload_n 0, 1) := by decide +kernel
theorem dX12_comes_17 : decode cX12_comes 17 = .ok (.iload_n 1, 1) := by decide +kernel
theorem dX12_comes_18 : decode cX12_comes 18 = .ok (.iconst 2, 1) := by decide +kernel
theorem dX12_comes_19 : decode cX12_comes 19 = .ok (.iload_n 2, 1) := by decide +kernel
theorem dX12_comes_20 : decode cX12_comes 20 = .ok (.invokevirtual 161, 3) := by decide +kernel
theorem dX12_comes_23 : decode cX12_comes 23 = .ok (.goto 8, 3) := by decide +kernel
theorem dX12_comes_26 : decode cX12_comes 26 = .ok (.aload_n 0, 1) := by decide +kernel
theorem dX12_comes_27 : decode cX12_comes 27 = .ok (.iconst 0, 1) := by decide +kernel
theorem dX12_comes_28 : decode cX12_comes 28 = .ok (.invokevirtual 112, 3) := by decide +kernel
theorem dX12_comes_31 : decode cX12_comes 31 = .ok (.ireturn, 1) := by decide +kernel
theorem dX12_isSoon_0 : decode cX12_isSoon 0 = .ok (.iload_n 0, 1) := by decide +kernel
theorem dX12_isSoon_1 : decode cX12_isSoon 1 = .ok (.iconst 1, 1) := by decide +kernel
theorem dX12_isSoon_2 : decode cX12_isSoon 2 = .ok (.bipush 30, 2) := by decide +kernel
theorem dX12_isSoon_4 : decode cX12_isSoon 4 = .ok (.invokestatic 52, 3) := by decide +kernel
theorem dX12_isSoon_7 : decode cX12_isSoon 7 = .ok (.ireturn, 1) := by decide +kernel
theorem dX12_joyThen_0 : decode cX12_joyThen 0 = .ok (.aload_n 0, 1) := by decide +kernel
theorem dX12_joyThen_1 : decode cX12_joyThen 1 = .ok (.iload_n 2, 1) := by decide +kernel
theorem dX12_joyThen_2 : decode cX12_joyThen 2 = .ok (.invokevirtual 139, 3) := by decide +kernel
theorem dX12_joyThen_5 : decode cX12_joyThen 5 = .ok (.iload_n 1, 1) := by decide +kernel
theorem dX12_joyThen_6 : decode cX12_joyThen 6 = .ok (.ifCond .ge 10, 3) := by decide +kernel
theorem dX12_joyThen_9 : decode cX12_joyThen 9 = .ok (.aload_n 0, 1) := by decide +kernel
theorem dX12_joyThen_10 : decode cX12_joyThen 10 = .ok (.invokevirtual 146, 3) := by decide +kernel
theorem dX12_joyThen_13 : decode cX12_joyThen 13 = .ok (.goto 9, 3) := by decide +kernel
theorem dX12_joyThen_16 : decode cX12_joyThen 16 = .ok (.aload_n 0, 1) := by decide +kernel
theorem dX12_joyThen_17 : decode cX12_joyThen 17 = .ok (.iload_n 1, 1) := by decide +kernel
theorem dX12_joyThen_18 : decode cX12_joyThen 18 = .ok (.iconst 1, 1) := by decide +kernel
theorem dX12_joyThen_19 : decode cX12_joyThen 19 = .ok (.invokevirtual 64, 3) := by decide +kernel
theorem dX12_joyThen_22 : decode cX12_joyThen 22 = .ok (.istore_n 3, 1) := by decide +kernel
theorem dX12_joyThen_23 : decode cX12_joyThen 23 = .ok (.aload_n 0, 1) := by decide +kernel
theorem dX12_joyThen_24 : decode cX12_joyThen 24 = .ok (.invokevirtual 158, 3) := by decide +kernel
theorem dX12_joyThen_27 : decode cX12_joyThen 27 = .ok (.iload_n 3, 1) := by decide +kernel
theorem dX12_joyThen_28 : decode cX12_joyThen 28 = .ok (.ireturn, 1) := by decide +kernel
theorem dX12_best_0 : decode cX12_best 0 = .ok (.aload_n 0, 1) := by decide +kernel
theorem dX12_best_1 : decode cX12_best 1 = .ok (.iload_n 1, 1) := by decide +kernel
theorem dX12_best_2 : decode cX12_best 2 = .ok (.invokevirtual 127, 3) := by decide +kernel
theorem dX12_best_5 : decode cX12_best 5 = .ok (.ifCond .eq 18, 3) := by decide +kernel
theorem dX12_best_8 : decode cX12_best 8 = .ok (.iload_n 2, 1) := by decide +kernel
theorem dX12_best_9 : decode cX12_best 9 = .ok (.invokestatic 165, 3) := by decide +kernel
theorem dX12_best_12 : decode cX12_best 12 = .ok (.ifCond .eq 11, 3) := by decide +kernel
theorem dX12_best_15 : decode cX12_best 15 = .ok (.aload_n 0, 1) := by decide +kernel
theorem dX12_best_16 : decode cX12_best 16 = .ok (.iload_n 1, 1) := by decide +kernel
theorem dX12_best_17 : decode cX12_best 17 = .ok (.invokevirtual 136, 3) := by decide +kernel
theorem dX12_best_20 : decode cX12_best 20 = .ok (.goto 4, 3) := by decide +kernel
theorem dX12_best_23 : decode cX12_best 23 = .ok (.iconst 0, 1) := by decide +kernel
theorem dX12_best_24 : decode cX12_best 24 = .ok (.istore_n 3, 1) := by decide +kernel
theorem dX12_best_25 : decode cX12_best 25 = .ok (.iload_n 3, 1) := by decide +kernel
theorem dX12_best_26 : decode cX12_best 26 = .ok (.ifCond .lt 9, 3) := by decide +kernel
theorem dX12_best_29 : decode cX12_best 29 = .ok (.aload_n 0, 1) := by decide +kernel
theorem dX12_best_30 : decode cX12_best 30 = .ok (.iload_n 3, 1) := by decide +kernel
theorem dX12_best_31 : decode cX12_best 31 = .ok (.invokevirtual 112, 3) := by decide +kernel
theorem dX12_best_34 : decode cX12_best 34 = .ok (.ireturn, 1) := by decide +kernel
theorem dX12_best_35 : decode cX12_best 35 = .ok (.iconst 0, 1) := by decide +kernel
theorem dX12_best_36 : decode cX12_best 36 = .ok (.istore 4, 2) := by decide +kernel
theorem dX12_best_38 : decode cX12_best 38 = .ok (.iconst (-1), 1) := by decide +kernel
theorem dX12_best_39 : decode cX12_best 39 = .ok (.istore 5, 2) := by decide +kernel
theorem dX12_best_41 : decode cX12_best 41 = .ok (.iconst 0, 1) := by decide +kernel
theorem dX12_best_42 : decode cX12_best 42 = .ok (.istore 6, 2) := by decide +kernel
theorem dX12_best_44 : decode cX12_best 44 = .ok (.iload 6, 2) := by decide +kernel
theorem dX12_best_46 : decode cX12_best 46 = .ok (.iconst 4, 1) := by decide +kernel
theorem dX12_best_47 : decode cX12_best 47 = .ok (.if_icmp .ge 60, 3) := by decide +kernel
theorem dX12_best_50 : decode cX12_best 50 = .ok (.aload_n 0, 1) := by decide +kernel
theorem dX12_best_51 : decode cX12_best 51 = .ok (.invokevirtual 155, 3) := by decide +kernel
theorem dX12_best_54 : decode cX12_best 54 = .ok (.aload_n 0, 1) := by decide +kernel
theorem dX12_best_55 : decode cX12_best 55 = .ok (.iload_n 1, 1) := by decide +kernel
theorem dX12_best_56 : decode cX12_best 56 = .ok (.iload 6, 2) := by decide +kernel
theorem dX12_best_58 : decode cX12_best 58 = .ok (.invokevirtual 100, 3) := by decide +kernel
theorem dX12_best_61 : decode cX12_best 61 = .ok (.aload_n 0, 1) := by decide +kernel
theorem dX12_best_62 : decode cX12_best 62 = .ok (.iconst (-1), 1) := by decide +kernel
theorem dX12_best_63 : decode cX12_best 63 = .ok (.iload_n 2, 1) := by decide +kernel
theorem dX12_best_64 : decode cX12_best 64 = .ok (.invokevirtual 168, 3) := by decide +kernel
theorem dX12_best_67 : decode cX12_best 67 = .ok (.istore 7, 2) := by decide +kernel
theorem dX12_best_69 : decode cX12_best 69 = .ok (.iload 7, 2) := by decide +kernel
theorem dX12_best_71 : decode cX12_best 71 = .ok (.iload 5, 2) := by decide +kernel
theorem dX12_best_73 : decode cX12_best 73 = .ok (.if_icmp .le 8, 3) := by decide +kernel
theorem dX12_best_76 : decode cX12_best 76 = .ok (.iload 6, 2) := by decide +kernel
theorem dX12_best_78 : decode cX12_best 78 = .ok (.goto 5, 3) := by decide +kernel
theorem dX12_best_81 : decode cX12_best 81 = .ok (.iload 4, 2) := by decide +kernel
theorem dX12_best_83 : decode cX12_best 83 = .ok (.istore 4, 2) := by decide +kernel
theorem dX12_best_85 : decode cX12_best 85 = .ok (.iload 7, 2) := by decide +kernel
theorem dX12_best_87 : decode cX12_best 87 = .ok (.iload 5, 2) := by decide +kernel
theorem dX12_best_89 : decode cX12_best 89 = .ok (.if_icmp .le 8, 3) := by decide +kernel
theorem dX12_best_92 : decode cX12_best 92 = .ok (.iload 7, 2) := by decide +kernel
theorem dX12_best_94 : decode cX12_best 94 = .ok (.goto 5, 3) := by decide +kernel
theorem dX12_best_97 : decode cX12_best 97 = .ok (.iload 5, 2) := by decide +kernel
theorem dX12_best_99 : decode cX12_best 99 = .ok (.istore 5, 2) := by decide +kernel
theorem dX12_best_101 : decode cX12_best 101 = .ok (.iinc 6 1, 3) := by decide +kernel
theorem dX12_best_104 : decode cX12_best 104 = .ok (.goto (-60), 3) := by decide +kernel
theorem dX12_best_107 : decode cX12_best 107 = .ok (.iload 4, 2) := by decide +kernel
theorem dX12_best_109 : decode cX12_best 109 = .ok (.ireturn, 1) := by decide +kernel
theorem dX12_give_0 : decode cX12_give 0 = .ok (.aload_n 0, 1) := by decide +kernel
theorem dX12_give_1 : decode cX12_give 1 = .ok (.iload_n 1, 1) := by decide +kernel
theorem dX12_give_2 : decode cX12_give 2 = .ok (.invokevirtual 127, 3) := by decide +kernel
theorem dX12_give_5 : decode cX12_give 5 = .ok (.ifCond .eq 10, 3) := by decide +kernel
theorem dX12_give_8 : decode cX12_give 8 = .ok (.iload_n 2, 1) := by decide +kernel
theorem dX12_give_9 : decode cX12_give 9 = .ok (.invokestatic 165, 3) := by decide +kernel
theorem dX12_give_12 : decode cX12_give 12 = .ok (.ifCond .ne 9, 3) := by decide +kernel
theorem dX12_give_15 : decode cX12_give 15 = .ok (.aload_n 0, 1) := by decide +kernel
theorem dX12_give_16 : decode cX12_give 16 = .ok (.iconst 0, 1) := by decide +kernel
theorem dX12_give_17 : decode cX12_give 17 = .ok (.invokevirtual 112, 3) := by decide +kernel
theorem dX12_give_20 : decode cX12_give 20 = .ok (.ireturn, 1) := by decide +kernel
theorem dX12_give_21 : decode cX12_give 21 = .ok (.iconst 0, 1) := by decide +kernel
theorem dX12_give_22 : decode cX12_give 22 = .ok (.istore_n 3, 1) := by decide +kernel
theorem dX12_give_23 : decode cX12_give 23 = .ok (.iconst (-1), 1) := by decide +kernel
theorem dX12_give_24 : decode cX12_give 24 = .ok (.istore 4, 2) := by decide +kernel
theorem dX12_give_26 : decode cX12_give 26 = .ok (.iconst 0, 1) := by decide +kernel
theorem dX12_give_27 : decode cX12_give 27 = .ok (.istore 5, 2) := by decide +kernel
theorem dX12_give_29 : decode cX12_give 29 = .ok (.iload 5, 2) := by decide +kernel
theorem dX12_give_31 : decode cX12_give 31 = .ok (.aload_n 0, 1) := by decide +kernel
theorem dX12_give_32 : decode cX12_give 32 = .ok (.getfield 9, 3) := by decide +kernel
theorem dX12_give_35 : decode cX12_give 35 = .ok (.iconst 1, 1) := by decide +kernel
theorem dX12_give_36 : decode cX12_give 36 = .ok (.iaload, 1) := by decide +kernel
theorem dX12_give_37 : decode cX12_give 37 = .ok (.if_icmp .ge 59, 3) := by decide +kernel
theorem dX12_give_40 : decode cX12_give 40 = .ok (.aload_n 0, 1) := by decide +kernel
theorem dX12_give_41 : decode cX12_give 41 = .ok (.invokevirtual 155, 3) := by decide +kernel
theorem dX12_give_44 : decode cX12_give 44 = .ok (.aload_n 0, 1) := by decide +kernel
theorem dX12_give_45 : decode cX12_give 45 = .ok (.iload_n 1, 1) := by decide +kernel
theorem dX12_give_46 : decode cX12_give 46 = .ok (.iconst 2, 1) := by decide +kernel
theorem dX12_give_47 : decode cX12_give 47 = .ok (.iload 5, 2) := by decide +kernel
theorem dX12_give_49 : decode cX12_give 49 = .ok (.invokevirtual 60, 3) := by decide +kernel
theorem dX12_give_52 : decode cX12_give 52 = .ok (.aload_n 0, 1) := by decide +kernel
theorem dX12_give_53 : decode cX12_give 53 = .ok (.iconst (-1), 1) := by decide +kernel
theorem dX12_give_54 : decode cX12_give 54 = .ok (.iload_n 2, 1) := by decide +kernel
theorem dX12_give_55 : decode cX12_give 55 = .ok (.invokevirtual 168, 3) := by decide +kernel
theorem dX12_give_58 : decode cX12_give 58 = .ok (.istore 6, 2) := by decide +kernel
theorem dX12_give_60 : decode cX12_give 60 = .ok (.iload 6, 2) := by decide +kernel
theorem dX12_give_62 : decode cX12_give 62 = .ok (.iload 4, 2) := by decide +kernel
theorem dX12_give_64 : decode cX12_give 64 = .ok (.if_icmp .le 8, 3) := by decide +kernel
theorem dX12_give_67 : decode cX12_give 67 = .ok (.iload 5, 2) := by decide +kernel
theorem dX12_give_69 : decode cX12_give 69 = .ok (.goto 4, 3) := by decide +kernel
theorem dX12_give_72 : decode cX12_give 72 = .ok (.iload_n 3, 1) := by decide +kernel
theorem dX12_give_73 : decode cX12_give 73 = .ok (.istore_n 3, 1) := by decide +kernel
theorem dX12_give_74 : decode cX12_give 74 = .ok (.iload 6, 2) := by decide +kernel
theorem dX12_give_76 : decode cX12_give 76 = .ok (.iload 4, 2) := by decide +kernel
theorem dX12_give_78 : decode cX12_give 78 = .ok (.if_icmp .le 8, 3) := by decide +kernel
theorem dX12_give_81 : decode cX12_give 81 = .ok (.iload 6, 2) := by decide +kernel
theorem dX12_give_83 : decode cX12_give 83 = .ok (.goto 5, 3) := by decide +kernel
theorem dX12_give_86 : decode cX12_give 86 = .ok (.iload 4, 2) := by decide +kernel
theorem dX12_give_88 : decode cX12_give 88 = .ok (.istore 4, 2) := by decide +kernel
theorem dX12_give_90 : decode cX12_give 90 = .ok (.iinc 5 1, 3) := by decide +kernel
theorem dX12_give_93 : decode cX12_give 93 = .ok (.goto (-64), 3) := by decide +kernel
theorem dX12_give_96 : decode cX12_give 96 = .ok (.iload_n 3, 1) := by decide +kernel
theorem dX12_give_97 : decode cX12_give 97 = .ok (.ireturn, 1) := by decide +kernel
theorem dX12_kind_0 : decode cX12_kind 0 = .ok (.aload_n 0, 1) := by decide +kernel
theorem dX12_kind_1 : decode cX12_kind 1 = .ok (.iload_n 1, 1) := by decide +kernel
theorem dX12_kind_2 : decode cX12_kind 2 = .ok (.invokevirtual 119, 3) := by decide +kernel
theorem dX12_kind_5 : decode cX12_kind 5 = .ok (.ifCond .eq 10, 3) := by decide +kernel
theorem dX12_kind_8 : decode cX12_kind 8 = .ok (.iload_n 2, 1) := by decide +kernel
theorem dX12_kind_9 : decode cX12_kind 9 = .ok (.invokestatic 165, 3) := by decide +kernel
theorem dX12_kind_12 : decode cX12_kind 12 = .ok (.ifCond .ne 9, 3) := by decide +kernel
theorem dX12_kind_15 : decode cX12_kind 15 = .ok (.aload_n 0, 1) := by decide +kernel
theorem dX12_kind_16 : decode cX12_kind 16 = .ok (.iconst 0, 1) := by decide +kernel
theorem dX12_kind_17 : decode cX12_kind 17 = .ok (.invokevirtual 112, 3) := by decide +kernel
theorem dX12_kind_20 : decode cX12_kind 20 = .ok (.ireturn, 1) := by decide +kernel
theorem dX12_kind_21 : decode cX12_kind 21 = .ok (.iconst 0, 1) := by decide +kernel
theorem dX12_kind_22 : decode cX12_kind 22 = .ok (.istore_n 3, 1) := by decide +kernel
theorem dX12_kind_23 : decode cX12_kind 23 = .ok (.iconst (-1), 1) := by decide +kernel
theorem dX12_kind_24 : decode cX12_kind 24 = .ok (.istore 4, 2) := by decide +kernel
theorem dX12_kind_26 : decode cX12_kind 26 = .ok (.iconst 0, 1) := by decide +kernel
theorem dX12_kind_27 : decode cX12_kind 27 = .ok (.istore 5, 2) := by decide +kernel
theorem dX12_kind_29 : decode cX12_kind 29 = .ok (.iload 5, 2) := by decide +kernel
theorem dX12_kind_31 : decode cX12_kind 31 = .ok (.bipush 6, 2) := by decide +kernel
theorem dX12_kind_33 : decode cX12_kind 33 = .ok (.if_icmp .ge 59, 3) := by decide +kernel
theorem dX12_kind_36 : decode cX12_kind 36 = .ok (.aload_n 0, 1) := by decide +kernel
theorem dX12_kind_37 : decode cX12_kind 37 = .ok (.invokevirtual 155, 3) := by decide +kernel
theorem dX12_kind_40 : decode cX12_kind 40 = .ok (.aload_n 0, 1) := by decide +kernel
theorem dX12_kind_41 : decode cX12_kind 41 = .ok (.iload_n 1, 1) := by decide +kernel
theorem dX12_kind_42 : decode cX12_kind 42 = .ok (.iconst 0, 1) := by decide +kernel
theorem dX12_kind_43 : decode cX12_kind 43 = .ok (.iload 5, 2) := by decide +kernel
theorem dX12_kind_45 : decode cX12_kind 45 = .ok (.invokevirtual 74, 3) := by decide +kernel
theorem dX12_kind_48 : decode cX12_kind 48 = .ok (.aload_n 0, 1) := by decide +kernel
theorem dX12_kind_49 : decode cX12_kind 49 = .ok (.iload_n 1, 1) := by decide +kernel
theorem dX12_kind_50 : decode cX12_kind 50 = .ok (.iload_n 2, 1) := by decide +kernel
theorem dX12_kind_51 : decode cX12_kind 51 = .ok (.invokevirtual 168, 3) := by decide +kernel
theorem dX12_kind_54 : decode cX12_kind 54 = .ok (.istore 6, 2) := by decide +kernel
theorem dX12_kind_56 : decode cX12_kind 56 = .ok (.iload 6, 2) := by decide +kernel
theorem dX12_kind_58 : decode cX12_kind 58 = .ok (.iload 4, 2) := by decide +kernel
theorem dX12_kind_60 : decode cX12_kind 60 = .ok (.if_icmp .le 8, 3) := by decide +kernel
theorem dX12_kind_63 : decode cX12_kind 63 = .ok (.iload 5, 2) := by decide +kernel
theorem dX12_kind_65 : decode cX12_kind 65 = .ok (.goto 4, 3) := by decide +kernel
theorem dX12_kind_68 : decode cX12_kind 68 = .ok (.iload_n 3, 1) := by decide +kernel
theorem dX12_kind_69 : decode cX12_kind 69 = .ok (.istore_n 3, 1) := by decide +kernel
theorem dX12_kind_70 : decode cX12_kind 70 = .ok (.iload 6, 2) := by decide +kernel
theorem dX12_kind_72 : decode cX12_kind 72 = .ok (.iload 4, 2) := by decide +kernel
theorem dX12_kind_74 : decode cX12_kind 74 = .ok (.if_icmp .le 8, 3) := by decide +kernel
theorem dX12_kind_77 : decode cX12_kind 77 = .ok (.iload 6, 2) := by decide +kernel
theorem dX12_kind_79 : decode cX12_kind 79 = .ok (.goto 5, 3) := by decide +kernel
theorem dX12_kind_82 : decode cX12_kind 82 = .ok (.iload 4, 2) := by decide +kernel
theorem dX12_kind_84 : decode cX12_kind 84 = .ok (.istore 4, 2) := by decide +kernel
theorem dX12_kind_86 : decode cX12_kind 86 = .ok (.iinc 5 1, 3) := by decide +kernel
theorem dX12_kind_89 : decode cX12_kind 89 = .ok (.goto (-60), 3) := by decide +kernel
theorem dX12_kind_92 : decode cX12_kind 92 = .ok (.iload_n 3, 1) := by decide +kernel
theorem dX12_kind_93 : decode cX12_kind 93 = .ok (.ireturn, 1) := by decide +kernel
theorem dX12_least_0 : decode cX12_least 0 = .ok (.aload_n 0, 1) := by decide +kernel
theorem dX12_least_1 : decode cX12_least 1 = .ok (.iload_n 1, 1) := by decide +kernel
theorem dX12_least_2 : decode cX12_least 2 = .ok (.invokevirtual 127, 3) := by decide +kernel
theorem dX12_least_5 : decode cX12_least 5 = .ok (.ifCond .eq 30, 3) := by decide +kernel
theorem dX12_least_8 : decode cX12_least 8 = .ok (.aload_n 0, 1) := by decide +kernel
theorem dX12_least_9 : decode cX12_least 9 = .ok (.iload_n 2, 1) := by decide +kernel
theorem dX12_least_10 : decode cX12_least 10 = .ok (.invokevirtual 119, 3) := by decide +kernel
theorem dX12_least_13 : decode cX12_least 13 = .ok (.ifCond .eq 22, 3) := by decide +kernel
theorem dX12_least_16 : decode cX12_least 16 = .ok (.iload_n 3, 1) := by decide +kernel
theorem dX12_least_17 : decode cX12_least 17 = .ok (.invokestatic 165, 3) := by decide +kernel
theorem dX12_least_20 : decode cX12_least 20 = .ok (.ifCond .eq 15, 3) := by decide +kernel
theorem dX12_least_23 : decode cX12_least 23 = .ok (.iload 4, 2) := by decide +kernel
theorem dX12_least_25 : decode cX12_least 25 = .ok (.iconst 0, 1) := by decide +kernel
theorem dX12_least_26 : decode cX12_least 26 = .ok (.sipush 9999, 3) := by decide +kernel
theorem dX12_least_29 : decode cX12_least 29 = .ok (.invokestatic 52, 3) := by decide +kernel
theorem dX12_least_32 : decode cX12_least 32 = .ok (.ifCond .ne 9, 3) := by decide +kernel
theorem dX12_least_35 : decode cX12_least 35 = .ok (.aload_n 0, 1) := by decide +kernel
theorem dX12_least_36 : decode cX12_least 36 = .ok (.iconst 0, 1) := by decide +kernel
theorem dX12_least_37 : decode cX12_least 37 = .ok (.invokevirtual 112, 3) := by decide +kernel
theorem dX12_least_40 : decode cX12_least 40 = .ok (.ireturn, 1) := by decide +kernel
theorem dX12_least_41 : decode cX12_least 41 = .ok (.iconst 0, 1) := by decide +kernel
theorem dX12_least_42 : decode cX12_least 42 = .ok (.istore 5, 2) := by decide +kernel
theorem dX12_least_44 : decode cX12_least 44 = .ok (.iload 5, 2) := by decide +kernel
theorem dX12_least_46 : decode cX12_least 46 = .ok (.bipush 99, 2) := by decide +kernel
theorem dX12_least_48 : decode cX12_least 48 = .ok (.if_icmp .gt 35, 3) := by decide +kernel
theorem dX12_least_51 : decode cX12_least 51 = .ok (.aload_n 0, 1) := by decide +kernel
theorem dX12_least_52 : decode cX12_least 52 = .ok (.invokevirtual 155, 3) := by decide +kernel
theorem dX12_least_55 : decode cX12_least 55 = .ok (.aload_n 0, 1) := by decide +kernel
theorem dX12_least_56 : decode cX12_least 56 = .ok (.iload_n 1, 1) := by decide +kernel
theorem dX12_least_57 : decode cX12_least 57 = .ok (.iconst 1, 1) := by decide +kernel
theorem dX12_least_58 : decode cX12_least 58 = .ok (.iload 5, 2) := by decide +kernel
theorem dX12_least_60 : decode cX12_least 60 = .ok (.invokevirtual 60, 3) := by decide +kernel
theorem dX12_least_63 : decode cX12_least 63 = .ok (.aload_n 0, 1) := by decide +kernel
theorem dX12_least_64 : decode cX12_least 64 = .ok (.iload_n 2, 1) := by decide +kernel
theorem dX12_least_65 : decode cX12_least 65 = .ok (.iload_n 3, 1) := by decide +kernel
theorem dX12_least_66 : decode cX12_least 66 = .ok (.invokevirtual 168, 3) := by decide +kernel
theorem dX12_least_69 : decode cX12_least 69 = .ok (.iload 4, 2) := by decide +kernel
theorem dX12_least_71 : decode cX12_least 71 = .ok (.if_icmp .lt 6, 3) := by decide +kernel
theorem dX12_least_74 : decode cX12_least 74 = .ok (.iload 5, 2) := by decide +kernel
theorem dX12_least_76 : decode cX12_least 76 = .ok (.ireturn, 1) := by decide +kernel
theorem dX12_least_77 : decode cX12_least 77 = .ok (.iinc 5 1, 3) := by decide +kernel
theorem dX12_least_80 : decode cX12_least 80 = .ok (.goto (-36), 3) := by decide +kernel
theorem dX12_least_83 : decode cX12_least 83 = .ok (.aload_n 0, 1) := by decide +kernel
theorem dX12_least_84 : decode cX12_least 84 = .ok (.iconst 3, 1) := by decide +kernel
theorem dX12_least_85 : decode cX12_least 85 = .ok (.invokevirtual 112, 3) := by decide +kernel
theorem dX12_least_88 : decode cX12_least 88 = .ok (.ireturn, 1) := by decide +kernel
theorem dX12_isOrder_0 : decode cX12_isOrder 0 = .ok (.iconst 0, 1) := by decide +kernel
theorem dX12_isOrder_1 : decode cX12_isOrder 1 = .ok (.istore_n 3, 1) := by decide +kernel
theorem dX12_isOrder_2 : decode cX12_isOrder 2 = .ok (.iload_n 3, 1) := by decide +kernel
theorem dX12_isOrder_3 : decode cX12_isOrder 3 = .ok (.iconst 5, 1) := by decide +kernel
theorem dX12_isOrder_4 : decode cX12_isOrder 4 = .ok (.if_icmp .ge 16, 3) := by decide +kernel
theorem dX12_isOrder_7 : decode cX12_isOrder 7 = .ok (.aload_n 0, 1) := by decide +kernel
theorem dX12_isOrder_8 : decode cX12_isOrder 8 = .ok (.getfield 22, 3) := by decide +kernel
theorem dX12_isOrder_11 : decode cX12_isOrder 11 = .ok (.iload_n 3, 1) := by decide +kernel
theorem dX12_isOrder_12 : decode cX12_isOrder 12 = .ok (.iconst 0, 1) := by decide +kernel
theorem dX12_isOrder_13 : decode cX12_isOrder 13 = .ok (.iastore, 1) := by decide +kernel
theorem dX12_isOrder_14 : decode cX12_isOrder 14 = .ok (.iinc 3 1, 3) := by decide +kernel
theorem dX12_isOrder_17 : decode cX12_isOrder 17 = .ok (.goto (-15), 3) := by decide +kernel
theorem dX12_isOrder_20 : decode cX12_isOrder 20 = .ok (.iconst 0, 1) := by decide +kernel
theorem dX12_isOrder_21 : decode cX12_isOrder 21 = .ok (.istore_n 3, 1) := by decide +kernel
theorem dX12_isOrder_22 : decode cX12_isOrder 22 = .ok (.iload_n 3, 1) := by decide +kernel
theorem dX12_isOrder_23 : decode cX12_isOrder 23 = .ok (.aload_n 0, 1) := by decide +kernel
theorem dX12_isOrder_24 : decode cX12_isOrder 24 = .ok (.iload_n 1, 1) := by decide +kernel
theorem dX12_isOrder_25 : decode cX12_isOrder 25 = .ok (.iconst 0, 1) := by decide +kernel
theorem dX12_isOrder_26 : decode cX12_isOrder 26 = .ok (.invokevirtual 56, 3) := by decide +kernel
theorem dX12_isOrder_29 : decode cX12_isOrder 29 = .ok (.if_icmp .ge 28, 3) := by decide +kernel
theorem dX12_isOrder_32 : decode cX12_isOrder 32 = .ok (.aload_n 0, 1) := by decide +kernel
theorem dX12_isOrder_33 : decode cX12_isOrder 33 = .ok (.getfield 22, 3) := by decide +kernel
theorem dX12_isOrder_36 : decode cX12_isOrder 36 = .ok (.iconst 1, 1) := by decide +kernel
theorem dX12_isOrder_37 : decode cX12_isOrder 37 = .ok (.aload_n 0, 1) := by decide +kernel
theorem dX12_isOrder_38 : decode cX12_isOrder 38 = .ok (.iload_n 1, 1) := by decide +kernel
theorem dX12_isOrder_39 : decode cX12_isOrder 39 = .ok (.iconst 4, 1) := by decide +kernel
theorem dX12_isOrder_40 : decode cX12_isOrder 40 = .ok (.iload_n 3, 1) := by decide +kernel
theorem dX12_isOrder_41 : decode cX12_isOrder 41 = .ok (.iadd, 1) := by decide +kernel
theorem dX12_isOrder_42 : decode cX12_isOrder 42 = .ok (.invokevirtual 56, 3) := by decide +kernel
theorem dX12_isOrder_45 : decode cX12_isOrder 45 = .ok (.iadd, 1) := by decide +kernel
theorem dX12_isOrder_46 : decode cX12_isOrder 46 = .ok (.dup2, 1) := by decide +kernel
theorem dX12_isOrder_47 : decode cX12_isOrder 47 = .ok (.iaload, 1) := by decide +kernel
theorem dX12_isOrder_48 : decode cX12_isOrder 48 = .ok (.iconst 1, 1) := by decide +kernel
theorem dX12_isOrder_49 : decode cX12_isOrder 49 = .ok (.iadd, 1) := by decide +kernel
theorem dX12_isOrder_50 : decode cX12_isOrder 50 = .ok (.iastore, 1) := by decide +kernel
theorem dX12_isOrder_51 : decode cX12_isOrder 51 = .ok (.iinc 3 1, 3) := by decide +kernel
theorem dX12_isOrder_54 : decode cX12_isOrder 54 = .ok (.goto (-32), 3) := by decide +kernel
theorem dX12_isOrder_57 : decode cX12_isOrder 57 = .ok (.iconst 1, 1) := by decide +kernel
theorem dX12_isOrder_58 : decode cX12_isOrder 58 = .ok (.istore_n 3, 1) := by decide +kernel
theorem dX12_isOrder_59 : decode cX12_isOrder 59 = .ok (.iload_n 2, 1) := by decide +kernel
theorem dX12_isOrder_60 : decode cX12_isOrder 60 = .ok (.istore 4, 2) := by decide +kernel
theorem dX12_isOrder_62 : decode cX12_isOrder 62 = .ok (.iload 4, 2) := by decide +kernel
theorem dX12_isOrder_64 : decode cX12_isOrder 64 = .ok (.ifCond .le 71, 3) := by decide +kernel
theorem dX12_isOrder_67 : decode cX12_isOrder 67 = .ok (.iload_n 3, 1) := by decide +kernel
theorem dX12_isOrder_68 : decode cX12_isOrder 68 = .ok (.ifCond .eq 67, 3) := by decide +kernel
theorem dX12_isOrder_71 : decode cX12_isOrder 71 = .ok (.iload 4, 2) := by decide +kernel
theorem dX12_isOrder_73 : decode cX12_isOrder 73 = .ok (.bipush 10, 2) := by decide +kernel
theorem dX12_isOrder_75 : decode cX12_isOrder 75 = .ok (.irem, 1) := by decide +kernel
theorem dX12_isOrder_76 : decode cX12_isOrder 76 = .ok (.iconst 1, 1) := by decide +kernel
theorem dX12_isOrder_77 : decode cX12_isOrder 77 = .ok (.iconst 4, 1) := by decide +kernel
theorem dX12_isOrder_78 : decode cX12_isOrder 78 = .ok (.invokestatic 52, 3) := by decide +kernel
theorem dX12_isOrder_81 : decode cX12_isOrder 81 = .ok (.ifCond .eq 20, 3) := by decide +kernel
theorem dX12_isOrder_84 : decode cX12_isOrder 84 = .ok (.aload_n 0, 1) := by decide +kernel
theorem dX12_isOrder_85 : decode cX12_isOrder 85 = .ok (.getfield 22, 3) := by decide +kernel
theorem dX12_isOrder_88 : decode cX12_isOrder 88 = .ok (.iload 4, 2) := by decide +kernel
theorem dX12_isOrder_90 : decode cX12_isOrder 90 = .ok (.bipush 10, 2) := by decide +kernel
theorem dX12_isOrder_92 : decode cX12_isOrder 92 = .ok (.irem, 1) := by decide +kernel
theorem dX12_isOrder_93 : decode cX12_isOrder 93 = .ok (.iaload, 1) := by decide +kernel
theorem dX12_isOrder_94 : decode cX12_isOrder 94 = .ok (.ifCond .le 7, 3) := by decide +kernel
theorem dX12_isOrder_97 : decode cX12_isOrder 97 = .ok (.iconst 1, 1) := by decide +kernel
theorem dX12_isOrder_98 : decode cX12_isOrder 98 = .ok (.goto 4, 3) := by decide +kernel
theorem dX12_isOrder_101 : decode cX12_isOrder 101 = .ok (.iconst 0, 1) := by decide +kernel
theorem dX12_isOrder_102 : decode cX12_isOrder 102 = .ok (.istore_n 3, 1) := by decide +kernel
theorem dX12_isOrder_103 : decode cX12_isOrder 103 = .ok (.aload_n 0, 1) := by decide +kernel
theorem dX12_isOrder_104 : decode cX12_isOrder 104 = .ok (.getfield 22, 3) := by decide +kernel
theorem dX12_isOrder_107 : decode cX12_isOrder 107 = .ok (.iload_n 3, 1) := by decide +kernel
theorem dX12_isOrder_108 : decode cX12_isOrder 108 = .ok (.ifCond .eq 11, 3) := by decide +kernel
theorem dX12_isOrder_111 : decode cX12_isOrder 111 = .ok (.iload 4, 2) := by decide +kernel
theorem dX12_isOrder_113 : decode cX12_isOrder 113 = .ok (.bipush 10, 2) := by decide +kernel
theorem dX12_isOrder_115 : decode cX12_isOrder 115 = .ok (.irem, 1) := by decide +kernel
theorem dX12_isOrder_116 : decode cX12_isOrder 116 = .ok (.goto 4, 3) := by decide +kernel
theorem dX12_isOrder_119 : decode cX12_isOrder 119 = .ok (.iconst 0, 1) := by decide +kernel
theorem dX12_isOrder_120 : decode cX12_isOrder 120 = .ok (.dup2, 1) := by decide +kernel
theorem dX12_isOrder_121 : decode cX12_isOrder 121 = .ok (.iaload, 1) := by decide +kernel
theorem dX12_isOrder_122 : decode cX12_isOrder 122 = .ok (.iconst 1, 1) := by decide +kernel
theorem dX12_isOrder_123 : decode cX12_isOrder 123 = .ok (.isub, 1) := by decide +kernel
theorem dX12_isOrder_124 : decode cX12_isOrder 124 = .ok (.iastore, 1) := by decide +kernel
theorem dX12_isOrder_125 : decode cX12_isOrder 125 = .ok (.iload 4, 2) := by decide +kernel
theorem dX12_isOrder_127 : decode cX12_isOrder 127 = .ok (.bipush 10, 2) := by decide +kernel
theorem dX12_isOrder_129 : decode cX12_isOrder 129 = .ok (.idiv, 1) := by decide +kernel
theorem dX12_isOrder_130 : decode cX12_isOrder 130 = .ok (.istore 4, 2) := by decide +kernel
theorem dX12_isOrder_132 : decode cX12_isOrder 132 = .ok (.goto (-70), 3) := by decide +kernel
theorem dX12_isOrder_135 : decode cX12_isOrder 135 = .ok (.iload_n 3, 1) := by decide +kernel
theorem dX12_isOrder_136 : decode cX12_isOrder 136 = .ok (.ireturn, 1) := by decide +kernel
theorem dX12_joyBy_0 : decode cX12_joyBy 0 = .ok (.aload_n 0, 1) := by decide +kernel
theorem dX12_joyBy_1 : decode cX12_joyBy 1 = .ok (.invokevirtual 155, 3) := by decide +kernel
theorem dX12_joyBy_4 : decode cX12_joyBy 4 = .ok (.aload_n 0, 1) := by decide +kernel
theorem dX12_joyBy_5 : decode cX12_joyBy 5 = .ok (.iload_n 1, 1) := by decide +kernel
theorem dX12_joyBy_6 : decode cX12_joyBy 6 = .ok (.iconst 0, 1) := by decide +kernel
theorem dX12_joyBy_7 : decode cX12_joyBy 7 = .ok (.invokevirtual 56, 3) := by decide +kernel
theorem dX12_joyBy_10 : decode cX12_joyBy 10 = .ok (.iconst 1, 1) := by decide +kernel
theorem dX12_joyBy_11 : decode cX12_joyBy 11 = .ok (.isub, 1) := by decide +kernel
theorem dX12_joyBy_12 : decode cX12_joyBy 12 = .ok (.istore 4, 2) := by decide +kernel
theorem dX12_joyBy_14 : decode cX12_joyBy 14 = .ok (.iload_n 2, 1) := by decide +kernel
theorem dX12_joyBy_15 : decode cX12_joyBy 15 = .ok (.istore 5, 2) := by decide +kernel
theorem dX12_joyBy_17 : decode cX12_joyBy 17 = .ok (.iload 5, 2) := by decide +kernel
theorem dX12_joyBy_19 : decode cX12_joyBy 19 = .ok (.ifCond .le 32, 3) := by decide +kernel
theorem dX12_joyBy_22 : decode cX12_joyBy 22 = .ok (.aload_n 0, 1) := by decide +kernel
theorem dX12_joyBy_23 : decode cX12_joyBy 23 = .ok (.iload_n 1, 1) := by decide +kernel
theorem dX12_joyBy_24 : decode cX12_joyBy 24 = .ok (.iconst 4, 1) := by decide +kernel
theorem dX12_joyBy_25 : decode cX12_joyBy 25 = .ok (.iload 4, 2) := by decide +kernel
theorem dX12_joyBy_27 : decode cX12_joyBy 27 = .ok (.iadd, 1) := by decide +kernel
theorem dX12_joyBy_28 : decode cX12_joyBy 28 = .ok (.iload 5, 2) := by decide +kernel
theorem dX12_joyBy_30 : decode cX12_joyBy 30 = .ok (.bipush 10, 2) := by decide +kernel
theorem dX12_joyBy_32 : decode cX12_joyBy 32 = .ok (.irem, 1) := by decide +kernel
theorem dX12_joyBy_33 : decode cX12_joyBy 33 = .ok (.iconst 1, 1) := by decide +kernel
theorem dX12_joyBy_34 : decode cX12_joyBy 34 = .ok (.isub, 1) := by decide +kernel
theorem dX12_joyBy_35 : decode cX12_joyBy 35 = .ok (.invokevirtual 60, 3) := by decide +kernel
theorem dX12_joyBy_38 : decode cX12_joyBy 38 = .ok (.iinc 4 (-1), 3) := by decide +kernel
theorem dX12_joyBy_41 : decode cX12_joyBy 41 = .ok (.iload 5, 2) := by decide +kernel
theorem dX12_joyBy_43 : decode cX12_joyBy 43 = .ok (.bipush 10, 2) := by decide +kernel
theorem dX12_joyBy_45 : decode cX12_joyBy 45 = .ok (.idiv, 1) := by decide +kernel
theorem dX12_joyBy_46 : decode cX12_joyBy 46 = .ok (.istore 5, 2) := by decide +kernel
theorem dX12_joyBy_48 : decode cX12_joyBy 48 = .ok (.goto (-31), 3) := by decide +kernel
theorem dX12_joyBy_51 : decode cX12_joyBy 51 = .ok (.aload_n 0, 1) := by decide +kernel
theorem dX12_joyBy_52 : decode cX12_joyBy 52 = .ok (.iconst (-1), 1) := by decide +kernel
theorem dX12_joyBy_53 : decode cX12_joyBy 53 = .ok (.iload_n 3, 1) := by decide +kernel
theorem dX12_joyBy_54 : decode cX12_joyBy 54 = .ok (.invokevirtual 168, 3) := by decide +kernel
theorem dX12_joyBy_57 : decode cX12_joyBy 57 = .ok (.ireturn, 1) := by decide +kernel
theorem dX12_order_0 : decode cX12_order 0 = .ok (.aload_n 0, 1) := by decide +kernel
theorem dX12_order_1 : decode cX12_order 1 = .ok (.iload_n 1, 1) := by decide +kernel
theorem dX12_order_2 : decode cX12_order 2 = .ok (.invokevirtual 127, 3) := by decide +kernel
theorem dX12_order_5 : decode cX12_order 5 = .ok (.ifCond .eq 13, 3) := by decide +kernel
theorem dX12_order_8 : decode cX12_order 8 = .ok (.iload_n 2, 1) := by decide +kernel
theorem dX12_order_9 : decode cX12_order 9 = .ok (.iconst 1, 1) := by decide +kernel
theorem dX12_order_10 : decode cX12_order 10 = .ok (.bipush 10, 2) := by decide +kernel
theorem dX12_order_12 : decode cX12_order 12 = .ok (.invokestatic 52, 3) := by decide +kernel
theorem dX12_order_15 : decode cX12_order 15 = .ok (.ifCond .ne 9, 3) := by decide +kernel
theorem dX12_order_18 : decode cX12_order 18 = .ok (.aload_n 0, 1) := by decide +kernel
theorem dX12_order_19 : decode cX12_order 19 = .ok (.iconst 0, 1) := by decide +kernel
theorem dX12_order_20 : decode cX12_order 20 = .ok (.invokevirtual 112, 3) := by decide +kernel
theorem dX12_order_23 : decode cX12_order 23 = .ok (.ireturn, 1) := by decide +kernel
theorem dX12_order_24 : decode cX12_order 24 = .ok (.aload_n 0, 1) := by decide +kernel
theorem dX12_order_25 : decode cX12_order 25 = .ok (.iload_n 1, 1) := by decide +kernel
theorem dX12_order_26 : decode cX12_order 26 = .ok (.iconst 0, 1) := by decide +kernel
theorem dX12_order_27 : decode cX12_order 27 = .ok (.invokevirtual 56, 3) := by decide +kernel
theorem dX12_order_30 : decode cX12_order 30 = .ok (.istore_n 3, 1) := by decide +kernel
theorem dX12_order_31 : decode cX12_order 31 = .ok (.iload_n 3, 1) := by decide +kernel
theorem dX12_order_32 : decode cX12_order 32 = .ok (.ifCond .ne 9, 3) := by decide +kernel
theorem dX12_order_35 : decode cX12_order 35 = .ok (.aload_n 0, 1) := by decide +kernel
theorem dX12_order_36 : decode cX12_order 36 = .ok (.iconst 3, 1) := by decide +kernel
theorem dX12_order_37 : decode cX12_order 37 = .ok (.invokevirtual 112, 3) := by decide +kernel
theorem dX12_order_40 : decode cX12_order 40 = .ok (.ireturn, 1) := by decide +kernel
theorem dX12_order_41 : decode cX12_order 41 = .ok (.iload_n 3, 1) := by decide +kernel
theorem dX12_order_42 : decode cX12_order 42 = .ok (.iconst 5, 1) := by decide +kernel
theorem dX12_order_43 : decode cX12_order 43 = .ok (.if_icmp .le 10, 3) := by decide +kernel
theorem dX12_order_46 : decode cX12_order 46 = .ok (.aload_n 0, 1) := by decide +kernel
theorem dX12_order_47 : decode cX12_order 47 = .ok (.bipush 6, 2) := by decide +kernel
theorem dX12_order_49 : decode cX12_order 49 = .ok (.invokevirtual 112, 3) := by decide +kernel
theorem dX12_order_52 : decode cX12_order 52 = .ok (.ireturn, 1) := by decide +kernel
theorem dX12_order_53 : decode cX12_order 53 = .ok (.iconst 1, 1) := by decide +kernel
theorem dX12_order_54 : decode cX12_order 54 = .ok (.istore 4, 2) := by decide +kernel
theorem dX12_order_56 : decode cX12_order 56 = .ok (.iconst 1, 1) := by decide +kernel
theorem dX12_order_57 : decode cX12_order 57 = .ok (.istore 5, 2) := by decide +kernel
theorem dX12_order_59 : decode cX12_order 59 = .ok (.iload 5, 2) := by decide +kernel
theorem dX12_order_61 : decode cX12_order 61 = .ok (.iload_n 3, 1) := by decide +kernel
theorem dX12_order_62 : decode cX12_order 62 = .ok (.if_icmp .ge 18, 3) := by decide +kernel
theorem dX12_order_65 : decode cX12_order 65 = .ok (.bipush 10, 2) := by decide +kernel
theorem dX12_order_67 : decode cX12_order 67 = .ok (.iload 4, 2) := by decide +kernel
theorem dX12_order_69 : decode cX12_order 69 = .ok (.imul, 1) := by decide +kernel
theorem dX12_order_70 : decode cX12_order 70 = .ok (.iconst 1, 1) := by decide +kernel
theorem dX12_order_71 : decode cX12_order 71 = .ok (.iadd, 1) := by decide +kernel
theorem dX12_order_72 : decode cX12_order 72 = .ok (.istore 4, 2) := by decide +kernel
theorem dX12_order_74 : decode cX12_order 74 = .ok (.iinc 5 1, 3) := by decide +kernel
theorem dX12_order_77 : decode cX12_order 77 = .ok (.goto (-18), 3) := by decide +kernel
theorem dX12_order_80 : decode cX12_order 80 = .ok (.iconst 0, 1) := by decide +kernel
theorem dX12_order_81 : decode cX12_order 81 = .ok (.istore 5, 2) := by decide +kernel
theorem dX12_order_83 : decode cX12_order 83 = .ok (.iconst (-1), 1) := by decide +kernel
theorem dX12_order_84 : decode cX12_order 84 = .ok (.istore 6, 2) := by decide +kernel
theorem dX12_order_86 : decode cX12_order 86 = .ok (.iload 4, 2) := by decide +kernel
theorem dX12_order_88 : decode cX12_order 88 = .ok (.istore 7, 2) := by decide +kernel
theorem dX12_order_90 : decode cX12_order 90 = .ok (.iload 7, 2) := by decide +kernel
theorem dX12_order_92 : decode cX12_order 92 = .ok (.iconst 4, 1) := by decide +kernel
theorem dX12_order_93 : decode cX12_order 93 = .ok (.iload 4, 2) := by decide +kernel
theorem dX12_order_95 : decode cX12_order 95 = .ok (.imul, 1) := by decide +kernel
theorem dX12_order_96 : decode cX12_order 96 = .ok (.if_icmp .gt 65, 3) := by decide +kernel
theorem dX12_order_99 : decode cX12_order 99 = .ok (.aload_n 0, 1) := by decide +kernel
theorem dX12_order_100 : decode cX12_order 100 = .ok (.iload_n 1, 1) := by decide +kernel
theorem dX12_order_101 : decode cX12_order 101 = .ok (.iload 7, 2) := by decide +kernel
theorem dX12_order_103 : decode cX12_order 103 = .ok (.invokevirtual 171, 3) := by decide +kernel
theorem dX12_order_106 : decode cX12_order 106 = .ok (.ifCond .eq 14, 3) := by decide +kernel
theorem dX12_order_109 : decode cX12_order 109 = .ok (.aload_n 0, 1) := by decide +kernel
theorem dX12_order_110 : decode cX12_order 110 = .ok (.iload_n 1, 1) := by decide +kernel
theorem dX12_order_111 : decode cX12_order 111 = .ok (.iload 7, 2) := by decide +kernel
theorem dX12_order_113 : decode cX12_order 113 = .ok (.iload_n 2, 1) := by decide +kernel
theorem dX12_order_114 : decode cX12_order 114 = .ok (.invokevirtual 175, 3) := by decide +kernel
theorem dX12_order_117 : decode cX12_order 117 = .ok (.goto 4, 3) := by decide +kernel
theorem dX12_order_120 : decode cX12_order 120 = .ok (.iconst (-1), 1) := by decide +kernel
theorem dX12_order_121 : decode cX12_order 121 = .ok (.istore 8, 2) := by decide +kernel
theorem dX12_order_123 : decode cX12_order 123 = .ok (.iload 8, 2) := by decide +kernel
theorem dX12_order_125 : decode cX12_order 125 = .ok (.iload 6, 2) := by decide +kernel
theorem dX12_order_127 : decode cX12_order 127 = .ok (.if_icmp .le 8, 3) := by decide +kernel
theorem dX12_order_130 : decode cX12_order 130 = .ok (.iload 7, 2) := by decide +kernel
theorem dX12_order_132 : decode cX12_order 132 = .ok (.goto 5, 3) := by decide +kernel
theorem dX12_order_135 : decode cX12_order 135 = .ok (.iload 5, 2) := by decide +kernel
theorem dX12_order_137 : decode cX12_order 137 = .ok (.istore 5, 2) := by decide +kernel
theorem dX12_order_139 : decode cX12_order 139 = .ok (.iload 8, 2) := by decide +kernel
theorem dX12_order_141 : decode cX12_order 141 = .ok (.iload 6, 2) := by decide +kernel
theorem dX12_order_143 : decode cX12_order 143 = .ok (.if_icmp .le 8, 3) := by decide +kernel
theorem dX12_order_146 : decode cX12_order 146 = .ok (.iload 8, 2) := by decide +kernel
theorem dX12_order_148 : decode cX12_order 148 = .ok (.goto 5, 3) := by decide +kernel
theorem dX12_order_151 : decode cX12_order 151 = .ok (.iload 6, 2) := by decide +kernel
theorem dX12_order_153 : decode cX12_order 153 = .ok (.istore 6, 2) := by decide +kernel
theorem dX12_order_155 : decode cX12_order 155 = .ok (.iinc 7 1, 3) := by decide +kernel
theorem dX12_order_158 : decode cX12_order 158 = .ok (.goto (-68), 3) := by decide +kernel
theorem dX12_order_161 : decode cX12_order 161 = .ok (.iload 5, 2) := by decide +kernel
theorem dX12_order_163 : decode cX12_order 163 = .ok (.ireturn, 1) := by decide +kernel
theorem dX12_happiest_0 : decode cX12_happiest 0 = .ok (.iload_n 1, 1) := by decide +kernel
theorem dX12_happiest_1 : decode cX12_happiest 1 = .ok (.invokestatic 152, 3) := by decide +kernel
theorem dX12_happiest_4 : decode cX12_happiest 4 = .ok (.ifCond .ne 9, 3) := by decide +kernel
theorem dX12_happiest_7 : decode cX12_happiest 7 = .ok (.aload_n 0, 1) := by decide +kernel
theorem dX12_happiest_8 : decode cX12_happiest 8 = .ok (.iconst 0, 1) := by decide +kernel
theorem dX12_happiest_9 : decode cX12_happiest 9 = .ok (.invokevirtual 112, 3) := by decide +kernel
theorem dX12_happiest_12 : decode cX12_happiest 12 = .ok (.ireturn, 1) := by decide +kernel
theorem dX12_happiest_13 : decode cX12_happiest 13 = .ok (.aload_n 0, 1) := by decide +kernel
theorem dX12_happiest_14 : decode cX12_happiest 14 = .ok (.getfield 9, 3) := by decide +kernel
theorem dX12_happiest_17 : decode cX12_happiest 17 = .ok (.iconst 1, 1) := by decide +kernel
theorem dX12_happiest_18 : decode cX12_happiest 18 = .ok (.iaload, 1) := by decide +kernel
theorem dX12_happiest_19 : decode cX12_happiest 19 = .ok (.ifCond .ne 9, 3) := by decide +kernel
theorem dX12_happiest_22 : decode cX12_happiest 22 = .ok (.aload_n 0, 1) := by decide +kernel
theorem dX12_happiest_23 : decode cX12_happiest 23 = .ok (.iconst 3, 1) := by decide +kernel
theorem dX12_happiest_24 : decode cX12_happiest 24 = .ok (.invokevirtual 112, 3) := by decide +kernel
theorem dX12_happiest_27 : decode cX12_happiest 27 = .ok (.ireturn, 1) := by decide +kernel
theorem dX12_happiest_28 : decode cX12_happiest 28 = .ok (.aload_n 0, 1) := by decide +kernel
theorem dX12_happiest_29 : decode cX12_happiest 29 = .ok (.invokevirtual 155, 3) := by decide +kernel
theorem dX12_happiest_32 : decode cX12_happiest 32 = .ok (.aload_n 0, 1) := by decide +kernel
theorem dX12_happiest_33 : decode cX12_happiest 33 = .ok (.iload_n 1, 1) := by decide +kernel
theorem dX12_happiest_34 : decode cX12_happiest 34 = .ok (.invokevirtual 139, 3) := by decide +kernel
theorem dX12_happiest_37 : decode cX12_happiest 37 = .ok (.iconst 0, 1) := by decide +kernel
theorem dX12_happiest_38 : decode cX12_happiest 38 = .ok (.istore_n 2, 1) := by decide +kernel
theorem dX12_happiest_39 : decode cX12_happiest 39 = .ok (.iconst 1, 1) := by decide +kernel
theorem dX12_happiest_40 : decode cX12_happiest 40 = .ok (.istore_n 3, 1) := by decide +kernel
theorem dX12_happiest_41 : decode cX12_happiest 41 = .ok (.iload_n 3, 1) := by decide +kernel
theorem dX12_happiest_42 : decode cX12_happiest 42 = .ok (.aload_n 0, 1) := by decide +kernel
theorem dX12_happiest_43 : decode cX12_happiest 43 = .ok (.getfield 9, 3) := by decide +kernel
theorem dX12_happiest_46 : decode cX12_happiest 46 = .ok (.iconst 1, 1) := by decide +kernel
theorem dX12_happiest_47 : decode cX12_happiest 47 = .ok (.iaload, 1) := by decide +kernel
theorem dX12_happiest_48 : decode cX12_happiest 48 = .ok (.if_icmp .ge 30, 3) := by decide +kernel
theorem dX12_happiest_51 : decode cX12_happiest 51 = .ok (.aload_n 0, 1) := by decide +kernel
theorem dX12_happiest_52 : decode cX12_happiest 52 = .ok (.iload_n 3, 1) := by decide +kernel
theorem dX12_happiest_53 : decode cX12_happiest 53 = .ok (.iconst 1, 1) := by decide +kernel
theorem dX12_happiest_54 : decode cX12_happiest 54 = .ok (.invokevirtual 64, 3) := by decide +kernel
theorem dX12_happiest_57 : decode cX12_happiest 57 = .ok (.aload_n 0, 1) := by decide +kernel
theorem dX12_happiest_58 : decode cX12_happiest 58 = .ok (.iload_n 2, 1) := by decide +kernel
theorem dX12_happiest_59 : decode cX12_happiest 59 = .ok (.iconst 1, 1) := by decide +kernel
theorem dX12_happiest_60 : decode cX12_happiest 60 = .ok (.invokevirtual 64, 3) := by decide +kernel
theorem dX12_happiest_63 : decode cX12_happiest 63 = .ok (.if_icmp .le 7, 3) := by decide +kernel
theorem dX12_happiest_66 : decode cX12_happiest 66 = .ok (.iload_n 3, 1) := by decide +kernel
theorem dX12_happiest_67 : decode cX12_happiest 67 = .ok (.goto 4, 3) := by decide +kernel
theorem dX12_happiest_70 : decode cX12_happiest 70 = .ok (.iload_n 2, 1) := by decide +kernel
theorem dX12_happiest_71 : decode cX12_happiest 71 = .ok (.istore_n 2, 1) := by decide +kernel
theorem dX12_happiest_72 : decode cX12_happiest 72 = .ok (.iinc 3 1, 3) := by decide +kernel
theorem dX12_happiest_75 : decode cX12_happiest 75 = .ok (.goto (-34), 3) := by decide +kernel
theorem dX12_happiest_78 : decode cX12_happiest 78 = .ok (.aload_n 0, 1) := by decide +kernel
theorem dX12_happiest_79 : decode cX12_happiest 79 = .ok (.invokevirtual 158, 3) := by decide +kernel
theorem dX12_happiest_82 : decode cX12_happiest 82 = .ok (.iload_n 2, 1) := by decide +kernel
theorem dX12_happiest_83 : decode cX12_happiest 83 = .ok (.ireturn, 1) := by decide +kernel
theorem dX12_isHiddenBy_0 : decode cX12_isHiddenBy 0 = .ok (.aload_n 0, 1) := by decide +kernel
theorem dX12_isHiddenBy_1 : decode cX12_isHiddenBy 1 = .ok (.invokevirtual 155, 3) := by decide +kernel
theorem dX12_isHiddenBy_4 : decode cX12_isHiddenBy 4 = .ok (.iconst 0, 1) := by decide +kernel
theorem dX12_isHiddenBy_5 : decode cX12_isHiddenBy 5 = .ok (.istore 5, 2) := by decide +kernel
theorem dX12_isHiddenBy_7 : decode cX12_isHiddenBy 7 = .ok (.iload 5, 2) := by decide +kernel
theorem dX12_isHiddenBy_9 : decode cX12_isHiddenBy 9 = .ok (.iload_n 3, 1) := by decide +kernel
theorem dX12_isHiddenBy_10 : decode cX12_isHiddenBy 10 = .ok (.if_icmp .ge 15, 3) := by decide +kernel
theorem dX12_isHiddenBy_13 : decode cX12_isHiddenBy 13 = .ok (.aload_n 0, 1) := by decide +kernel
theorem dX12_isHiddenBy_14 : decode cX12_isHiddenBy 14 = .ok (.iload_n 1, 1) := by decide +kernel
theorem dX12_isHiddenBy_15 : decode cX12_isHiddenBy 15 = .ok (.iload_n 2, 1) := by decide +kernel
theorem dX12_isHiddenBy_16 : decode cX12_isHiddenBy 16 = .ok (.invokevirtual 100, 3) := by decide +kernel
theorem dX12_isHiddenBy_19 : decode cX12_isHiddenBy 19 = .ok (.iinc 5 1, 3) := by decide +kernel
theorem dX12_isHiddenBy_22 : decode cX12_isHiddenBy 22 = .ok (.goto (-15), 3) := by decide +kernel
theorem dX12_isHiddenBy_25 : decode cX12_isHiddenBy 25 = .ok (.aload_n 0, 1) := by decide +kernel
theorem dX12_isHiddenBy_26 : decode cX12_isHiddenBy 26 = .ok (.iload 4, 2) := by decide +kernel
theorem dX12_isHiddenBy_28 : decode cX12_isHiddenBy 28 = .ok (.invokevirtual 139, 3) := by decide +kernel
theorem dX12_isHiddenBy_31 : decode cX12_isHiddenBy 31 = .ok (.aload_n 0, 1) := by decide +kernel
theorem dX12_isHiddenBy_32 : decode cX12_isHiddenBy 32 = .ok (.iload_n 1, 1) := by decide +kernel
theorem dX12_isHiddenBy_33 : decode cX12_isHiddenBy 33 = .ok (.iconst 3, 1) := by decide +kernel
theorem dX12_isHiddenBy_34 : decode cX12_isHiddenBy 34 = .ok (.invokevirtual 56, 3) := by decide +kernel
theorem dX12_isHiddenBy_37 : decode cX12_isHiddenBy 37 = .ok (.ifCond .ne 7, 3) := by decide +kernel
theorem dX12_isHiddenBy_40 : decode cX12_isHiddenBy 40 = .ok (.iconst 1, 1) := by decide +kernel
theorem dX12_isHiddenBy_41 : decode cX12_isHiddenBy 41 = .ok (.goto 4, 3) := by decide +kernel
theorem dX12_isHiddenBy_44 : decode cX12_isHiddenBy 44 = .ok (.iconst 0, 1) := by decide +kernel
theorem dX12_isHiddenBy_45 : decode cX12_isHiddenBy 45 = .ok (.istore 5, 2) := by decide +kernel
theorem dX12_isHiddenBy_47 : decode cX12_isHiddenBy 47 = .ok (.aload_n 0, 1) := by decide +kernel
theorem dX12_isHiddenBy_48 : decode cX12_isHiddenBy 48 = .ok (.invokevirtual 158, 3) := by decide +kernel
theorem dX12_isHiddenBy_51 : decode cX12_isHiddenBy 51 = .ok (.iload 5, 2) := by decide +kernel
theorem dX12_isHiddenBy_53 : decode cX12_isHiddenBy 53 = .ok (.ireturn, 1) := by decide +kernel
theorem dX12_enough_0 : decode cX12_enough 0 = .ok (.aload_n 0, 1) := by decide +kernel
theorem dX12_enough_1 : decode cX12_enough 1 = .ok (.iload_n 1, 1) := by decide +kernel
theorem dX12_enough_2 : decode cX12_enough 2 = .ok (.invokevirtual 127, 3) := by decide +kernel
theorem dX12_enough_5 : decode cX12_enough 5 = .ok (.ifCond .eq 17, 3) := by decide +kernel
theorem dX12_enough_8 : decode cX12_enough 8 = .ok (.iload_n 2, 1) := by decide +kernel
theorem dX12_enough_9 : decode cX12_enough 9 = .ok (.invokestatic 133, 3) := by decide +kernel
theorem dX12_enough_12 : decode cX12_enough 12 = .ok (.ifCond .eq 10, 3) := by decide +kernel
theorem dX12_enough_15 : decode cX12_enough 15 = .ok (.iload_n 3, 1) := by decide +kernel
theorem dX12_enough_16 : decode cX12_enough 16 = .ok (.invokestatic 165, 3) := by decide +kernel
theorem dX12_enough_19 : decode cX12_enough 19 = .ok (.ifCond .ne 9, 3) := by decide +kernel
theorem dX12_enough_22 : decode cX12_enough 22 = .ok (.aload_n 0, 1) := by decide +kernel
theorem dX12_enough_23 : decode cX12_enough 23 = .ok (.iconst 0, 1) := by decide +kernel
theorem dX12_enough_24 : decode cX12_enough 24 = .ok (.invokevirtual 112, 3) := by decide +kernel
theorem dX12_enough_27 : decode cX12_enough 27 = .ok (.ireturn, 1) := by decide +kernel
theorem dX12_enough_28 : decode cX12_enough 28 = .ok (.aload_n 0, 1) := by decide +kernel
theorem dX12_enough_29 : decode cX12_enough 29 = .ok (.iload_n 1, 1) := by decide +kernel
theorem dX12_enough_30 : decode cX12_enough 30 = .ok (.iconst 3, 1) := by decide +kernel
theorem dX12_enough_31 : decode cX12_enough 31 = .ok (.invokevirtual 56, 3) := by decide +kernel
theorem dX12_enough_34 : decode cX12_enough 34 = .ok (.iconst 1, 1) := by decide +kernel
theorem dX12_enough_35 : decode cX12_enough 35 = .ok (.if_icmp .ne 9, 3) := by decide +kernel
theorem dX12_enough_38 : decode cX12_enough 38 = .ok (.aload_n 0, 1) := by decide +kernel
theorem dX12_enough_39 : decode cX12_enough 39 = .ok (.iconst 4, 1) := by decide +kernel
theorem dX12_enough_40 : decode cX12_enough 40 = .ok (.invokevirtual 112, 3) := by decide +kernel
theorem dX12_enough_43 : decode cX12_enough 43 = .ok (.ireturn, 1) := by decide +kernel
theorem dX12_enough_44 : decode cX12_enough 44 = .ok (.iconst 0, 1) := by decide +kernel
theorem dX12_enough_45 : decode cX12_enough 45 = .ok (.istore 4, 2) := by decide +kernel
theorem dX12_enough_47 : decode cX12_enough 47 = .ok (.iload 4, 2) := by decide +kernel
theorem dX12_enough_49 : decode cX12_enough 49 = .ok (.bipush 6, 2) := by decide +kernel
theorem dX12_enough_51 : decode cX12_enough 51 = .ok (.aload_n 0, 1) := by decide +kernel
theorem dX12_enough_52 : decode cX12_enough 52 = .ok (.iload_n 1, 1) := by decide +kernel
theorem dX12_enough_53 : decode cX12_enough 53 = .ok (.iconst 0, 1) := by decide +kernel
theorem dX12_enough_54 : decode cX12_enough 54 = .ok (.invokevirtual 56, 3) := by decide +kernel
theorem dX12_enough_57 : decode cX12_enough 57 = .ok (.isub, 1) := by decide +kernel
theorem dX12_enough_58 : decode cX12_enough 58 = .ok (.if_icmp .gt 24, 3) := by decide +kernel
theorem dX12_enough_61 : decode cX12_enough 61 = .ok (.aload_n 0, 1) := by decide +kernel
theorem dX12_enough_62 : decode cX12_enough 62 = .ok (.iload_n 1, 1) := by decide +kernel
theorem dX12_enough_63 : decode cX12_enough 63 = .ok (.iload_n 2, 1) := by decide +kernel
theorem dX12_enough_64 : decode cX12_enough 64 = .ok (.iload 4, 2) := by decide +kernel
theorem dX12_enough_66 : decode cX12_enough 66 = .ok (.iload_n 3, 1) := by decide +kernel
theorem dX12_enough_67 : decode cX12_enough 67 = .ok (.invokevirtual 178, 3) := by decide +kernel
theorem dX12_enough_70 : decode cX12_enough 70 = .ok (.ifCond .eq 6, 3) := by decide +kernel
theorem dX12_enough_73 : decode cX12_enough 73 = .ok (.iload 4, 2) := by decide +kernel
theorem dX12_enough_75 : decode cX12_enough 75 = .ok (.ireturn, 1) := by decide +kernel
theorem dX12_enough_76 : decode cX12_enough 76 = .ok (.iinc 4 1, 3) := by decide +kernel
theorem dX12_enough_79 : decode cX12_enough 79 = .ok (.goto (-32), 3) := by decide +kernel
theorem dX12_enough_82 : decode cX12_enough 82 = .ok (.aload_n 0, 1) := by decide +kernel
theorem dX12_enough_83 : decode cX12_enough 83 = .ok (.iconst 3, 1) := by decide +kernel
theorem dX12_enough_84 : decode cX12_enough 84 = .ok (.invokevirtual 112, 3) := by decide +kernel
theorem dX12_enough_87 : decode cX12_enough 87 = .ok (.ireturn, 1) := by decide +kernel
theorem dX12_feed_0 : decode cX12_feed 0 = .ok (.iload_n 2, 1) := by decide +kernel
theorem dX12_feed_1 : decode cX12_feed 1 = .ok (.iconst 1, 1) := by decide +kernel
theorem dX12_feed_2 : decode cX12_feed 2 = .ok (.iconst 4, 1) := by decide +kernel
theorem dX12_feed_3 : decode cX12_feed 3 = .ok (.invokestatic 52, 3) := by decide +kernel
theorem dX12_feed_6 : decode cX12_feed 6 = .ok (.ifCond .ne 9, 3) := by decide +kernel
theorem dX12_feed_9 : decode cX12_feed 9 = .ok (.aload_n 0, 1) := by decide +kernel
theorem dX12_feed_10 : decode cX12_feed 10 = .ok (.iconst 0, 1) := by decide +kernel
theorem dX12_feed_11 : decode cX12_feed 11 = .ok (.invokevirtual 112, 3) := by decide +kernel
theorem dX12_feed_14 : decode cX12_feed 14 = .ok (.ireturn, 1) := by decide +kernel
theorem dX12_feed_15 : decode cX12_feed 15 = .ok (.aload_n 0, 1) := by decide +kernel
theorem dX12_feed_16 : decode cX12_feed 16 = .ok (.getfield 182, 3) := by decide +kernel
theorem dX12_feed_19 : decode cX12_feed 19 = .ok (.iload_n 2, 1) := by decide +kernel
theorem dX12_feed_20 : decode cX12_feed 20 = .ok (.iadd, 1) := by decide +kernel
theorem dX12_feed_21 : decode cX12_feed 21 = .ok (.bipush 120, 2) := by decide +kernel
theorem dX12_feed_23 : decode cX12_feed 23 = .ok (.if_icmp .le 9, 3) := by decide +kernel
theorem dX12_feed_26 : decode cX12_feed 26 = .ok (.aload_n 0, 1) := by decide +kernel
theorem dX12_feed_27 : decode cX12_feed 27 = .ok (.iconst 1, 1) := by decide +kernel
theorem dX12_feed_28 : decode cX12_feed 28 = .ok (.invokevirtual 112, 3) := by decide +kernel
theorem dX12_feed_31 : decode cX12_feed 31 = .ok (.ireturn, 1) := by decide +kernel
theorem dX12_feed_32 : decode cX12_feed 32 = .ok (.iload_n 2, 1) := by decide +kernel
theorem dX12_feed_33 : decode cX12_feed 33 = .ok (.iconst 1, 1) := by decide +kernel
theorem dX12_feed_34 : decode cX12_feed 34 = .ok (.isub, 1) := by decide +kernel
theorem dX12_feed_35 : decode cX12_feed 35 = .ok (.istore_n 3, 1) := by decide +kernel
theorem dX12_feed_36 : decode cX12_feed 36 = .ok (.iload_n 3, 1) := by decide +kernel
theorem dX12_feed_37 : decode cX12_feed 37 = .ok (.ifCond .lt 38, 3) := by decide +kernel
theorem dX12_feed_40 : decode cX12_feed 40 = .ok (.aload_n 0, 1) := by decide +kernel
theorem dX12_feed_41 : decode cX12_feed 41 = .ok (.getfield 25, 3) := by decide +kernel
theorem dX12_feed_44 : decode cX12_feed 44 = .ok (.aload_n 0, 1) := by decide +kernel
theorem dX12_feed_45 : decode cX12_feed 45 = .ok (.getfield 182, 3) := by decide +kernel
theorem dX12_feed_48 : decode cX12_feed 48 = .ok (.iload_n 1, 1) := by decide +kernel
theorem dX12_feed_49 : decode cX12_feed 49 = .ok (.bipush 8, 2) := by decide +kernel
theorem dX12_feed_51 : decode cX12_feed 51 = .ok (.iload_n 3, 1) := by decide +kernel
theorem dX12_feed_52 : decode cX12_feed 52 = .ok (.imul, 1) := by decide +kernel
theorem dX12_feed_53 : decode cX12_feed 53 = .ok (.ishr, 1) := by decide +kernel
theorem dX12_feed_54 : decode cX12_feed 54 = .ok (.sipush 255, 3) := by decide +kernel
theorem dX12_feed_57 : decode cX12_feed 57 = .ok (.iand, 1) := by decide +kernel
theorem dX12_feed_58 : decode cX12_feed 58 = .ok (.iastore, 1) := by decide +kernel
theorem dX12_feed_59 : decode cX12_feed 59 = .ok (.aload_n 0, 1) := by decide +kernel
theorem dX12_feed_60 : decode cX12_feed 60 = .ok (.dup, 1) := by decide +kernel
theorem dX12_feed_61 : decode cX12_feed 61 = .ok (.getfield 182, 3) := by decide +kernel
theorem dX12_feed_64 : decode cX12_feed 64 = .ok (.iconst 1, 1) := by decide +kernel
theorem dX12_feed_65 : decode cX12_feed 65 = .ok (.iadd, 1) := by decide +kernel
theorem dX12_feed_66 : decode cX12_feed 66 = .ok (.putfield 182, 3) := by decide +kernel
theorem dX12_feed_69 : decode cX12_feed 69 = .ok (.iinc 3 (-1), 3) := by decide +kernel
theorem dX12_feed_72 : decode cX12_feed 72 = .ok (.goto (-36), 3) := by decide +kernel
theorem dX12_feed_75 : decode cX12_feed 75 = .ok (.aload_n 0, 1) := by decide +kernel
theorem dX12_feed_76 : decode cX12_feed 76 = .ok (.getfield 182, 3) := by decide +kernel
theorem dX12_feed_79 : decode cX12_feed 79 = .ok (.ireturn, 1) := by decide +kernel
theorem dX12_wipe_0 : decode cX12_wipe 0 = .ok (.aload_n 0, 1) := by decide +kernel
theorem dX12_wipe_1 : decode cX12_wipe 1 = .ok (.getfield 182, 3) := by decide +kernel
theorem dX12_wipe_4 : decode cX12_wipe 4 = .ok (.istore_n 1, 1) := by decide +kernel
theorem dX12_wipe_5 : decode cX12_wipe 5 = .ok (.aload_n 0, 1) := by decide +kernel
theorem dX12_wipe_6 : decode cX12_wipe 6 = .ok (.iconst 0, 1) := by decide +kernel
theorem dX12_wipe_7 : decode cX12_wipe 7 = .ok (.putfield 182, 3) := by decide +kernel
theorem dX12_wipe_10 : decode cX12_wipe 10 = .ok (.iload_n 1, 1) := by decide +kernel
theorem dX12_wipe_11 : decode cX12_wipe 11 = .ok (.ireturn, 1) := by decide +kernel
theorem dX12_isLetter_0 : decode cX12_isLetter 0 = .ok (.iload_n 0, 1) := by decide +kernel
theorem dX12_isLetter_1 : decode cX12_isLetter 1 = .ok (.bipush 97, 2) := by decide +kernel
theorem dX12_isLetter_3 : decode cX12_isLetter 3 = .ok (.bipush 122, 2) := by decide +kernel
theorem dX12_isLetter_5 : decode cX12_isLetter 5 = .ok (.invokestatic 52, 3) := by decide +kernel
theorem dX12_isLetter_8 : decode cX12_isLetter 8 = .ok (.ireturn, 1) := by decide +kernel
theorem dX12_isDigit_0 : decode cX12_isDigit 0 = .ok (.iload_n 0, 1) := by decide +kernel
theorem dX12_isDigit_1 : decode cX12_isDigit 1 = .ok (.bipush 48, 2) := by decide +kernel
theorem dX12_isDigit_3 : decode cX12_isDigit 3 = .ok (.bipush 57, 2) := by decide +kernel
theorem dX12_isDigit_5 : decode cX12_isDigit 5 = .ok (.invokestatic 52, 3) := by decide +kernel
theorem dX12_isDigit_8 : decode cX12_isDigit 8 = .ok (.ireturn, 1) := by decide +kernel
theorem dX12_nextToken_0 : decode cX12_nextToken 0 = .ok (.aload_n 0, 1) := by decide +kernel
theorem dX12_nextToken_1 : decode cX12_nextToken 1 = .ok (.aload_n 0, 1) := by decide +kernel
theorem dX12_nextToken_2 : decode cX12_nextToken 2 = .ok (.getfield 185, 3) := by decide +kernel
theorem dX12_nextToken_5 : decode cX12_nextToken 5 = .ok (.putfield 188, 3) := by decide +kernel
theorem dX12_nextToken_8 : decode cX12_nextToken 8 = .ok (.aload_n 0, 1) := by decide +kernel
theorem dX12_nextToken_9 : decode cX12_nextToken 9 = .ok (.getfield 188, 3) := by decide +kernel
theorem dX12_nextToken_12 : decode cX12_nextToken 12 = .ok (.aload_n 0, 1) := by decide +kernel
theorem dX12_nextToken_13 : decode cX12_nextToken 13 = .ok (.getfield 182, 3) := by decide +kernel
theorem dX12_nextToken_16 : decode cX12_nextToken 16 = .ok (.if_icmp .ge 30, 3) := by decide +kernel
theorem dX12_nextToken_19 : decode cX12_nextToken 19 = .ok (.aload_n 0, 1) := by decide +kernel
theorem dX12_nextToken_20 : decode cX12_nextToken 20 = .ok (.getfield 25, 3) := by decide +kernel
theorem dX12_nextToken_23 : decode cX12_nextToken 23 = .ok (.aload_n 0, 1) := by decide +kernel
theorem dX12_nextToken_24 : decode cX12_nextToken 24 = .ok (.getfield 188, 3) := by decide +kernel
theorem dX12_nextToken_27 : decode cX12_nextToken 27 = .ok (.iaload, 1) := by decide +kernel
theorem dX12_nextToken_28 : decode cX12_nextToken 28 = .ok (.bipush 32, 2) := by decide +kernel
theorem dX12_nextToken_30 : decode cX12_nextToken 30 = .ok (.if_icmp .ne 16, 3) := by decide +kernel
theorem dX12_nextToken_33 : decode cX12_nextToken 33 = .ok (.aload_n 0, 1) := by decide +kernel
theorem dX12_nextToken_34 : decode cX12_nextToken 34 = .ok (.dup, 1) := by decide +kernel
theorem dX12_nextToken_35 : decode cX12_nextToken 35 = .ok (.getfield 188, 3) := by decide +kernel
theorem dX12_nextToken_38 : decode cX12_nextToken 38 = .ok (.iconst 1, 1) := by decide +kernel
theorem dX12_nextToken_39 : decode cX12_nextToken 39 = .ok (.iadd, 1) := by decide +kernel
theorem dX12_nextToken_40 : decode cX12_nextToken 40 = .ok (.putfield 188, 3) := by decide +kernel
theorem dX12_nextToken_43 : decode cX12_nextToken 43 = .ok (.goto (-35), 3) := by decide +kernel
theorem dX12_nextToken_46 : decode cX12_nextToken 46 = .ok (.aload_n 0, 1) := by decide +kernel
theorem dX12_nextToken_47 : decode cX12_nextToken 47 = .ok (.aload_n 0, 1) := by decide +kernel
theorem dX12_nextToken_48 : decode cX12_nextToken 48 = .ok (.getfield 188, 3) := by decide +kernel
theorem dX12_nextToken_51 : decode cX12_nextToken 51 = .ok (.putfield 185, 3) := by decide +kernel
theorem dX12_nextToken_54 : decode cX12_nextToken 54 = .ok (.aload_n 0, 1) := by decide +kernel
theorem dX12_nextToken_55 : decode cX12_nextToken 55 = .ok (.lconst 0, 1) := by decide +kernel
theorem dX12_nextToken_56 : decode cX12_nextToken 56 = .ok (.putfield 191, 3) := by decide +kernel
theorem dX12_nextToken_59 : decode cX12_nextToken 59 = .ok (.aload_n 0, 1) := by decide +kernel
theorem dX12_nextToken_60 : decode cX12_nextToken 60 = .ok (.getfield 188, 3) := by decide +kernel
theorem dX12_nextToken_63 : decode cX12_nextToken 63 = .ok (.aload_n 0, 1) := by decide +kernel
theorem dX12_nextToken_64 : decode cX12_nextToken 64 = .ok (.getfield 182, 3) := by decide +kernel
theorem dX12_nextToken_67 : decode cX12_nextToken 67 = .ok (.if_icmp .ne 11, 3) := by decide +kernel
theorem dX12_nextToken_70 : decode cX12_nextToken 70 = .ok (.aload_n 0, 1) := by decide +kernel
theorem dX12_nextToken_71 : decode cX12_nextToken 71 = .ok (.iconst 0, 1) := by decide +kernel
theorem dX12_nextToken_72 : decode cX12_nextToken 72 = .ok (.putfield 195, 3) := by decide +kernel
theorem dX12_nextToken_75 : decode cX12_nextToken 75 = .ok (.goto 262, 3) := by decide +kernel
theorem dX12_nextToken_78 : decode cX12_nextToken 78 = .ok (.aload_n 0, 1) := by decide +kernel
theorem dX12_nextToken_79 : decode cX12_nextToken 79 = .ok (.getfield 25, 3) := by decide +kernel
theorem dX12_nextToken_82 : decode cX12_nextToken 82 = .ok (.aload_n 0, 1) := by decide +kernel
theorem dX12_nextToken_83 : decode cX12_nextToken 83 = .ok (.getfield 188, 3) := by decide +kernel
theorem dX12_nextToken_86 : decode cX12_nextToken 86 = .ok (.iaload, 1) := by decide +kernel
theorem dX12_nextToken_87 : decode cX12_nextToken 87 = .ok (.invokestatic 198, 3) := by decide +kernel
theorem dX12_nextToken_90 : decode cX12_nextToken 90 = .ok (.ifCond .eq 92, 3) := by decide +kernel
theorem dX12_nextToken_93 : decode cX12_nextToken 93 = .ok (.aload_n 0, 1) := by decide +kernel
theorem dX12_nextToken_94 : decode cX12_nextToken 94 = .ok (.iconst 1, 1) := by decide +kernel
theorem dX12_nextToken_95 : decode cX12_nextToken 95 = .ok (.putfield 195, 3) := by decide +kernel
theorem dX12_nextToken_98 : decode cX12_nextToken 98 = .ok (.aload_n 0, 1) := by decide +kernel
theorem dX12_nextToken_99 : decode cX12_nextToken 99 = .ok (.getfield 185, 3) := by decide +kernel
theorem dX12_nextToken_102 : decode cX12_nextToken 102 = .ok (.aload_n 0, 1) := by decide +kernel
theorem dX12_nextToken_103 : decode cX12_nextToken 103 = .ok (.getfield 182, 3) := by decide +kernel
theorem dX12_nextToken_106 : decode cX12_nextToken 106 = .ok (.if_icmp .ge 231, 3) := by decide +kernel
theorem dX12_nextToken_109 : decode cX12_nextToken 109 = .ok (.aload_n 0, 1) := by decide +kernel
theorem dX12_nextToken_110 : decode cX12_nextToken 110 = .ok (.getfield 25, 3) := by decide +kernel
theorem dX12_nextToken_113 : decode cX12_nextToken 113 = .ok (.aload_n 0, 1) := by decide +kernel
theorem dX12_nextToken_114 : decode cX12_nextToken 114 = .ok (.getfield 185, 3) := by decide +kernel
theorem dX12_nextToken_117 : decode cX12_nextToken 117 = .ok (.iaload, 1) := by decide +kernel
theorem dX12_nextToken_118 : decode cX12_nextToken 118 = .ok (.invokestatic 198, 3) := by decide +kernel
theorem dX12_nextToken_121 : decode cX12_nextToken 121 = .ok (.ifCond .eq 216, 3) := by decide +kernel
theorem dX12_nextToken_124 : decode cX12_nextToken 124 = .ok (.aload_n 0, 1) := by decide +kernel
theorem dX12_nextToken_125 : decode cX12_nextToken 125 = .ok (.aload_n 0, 1) := by decide +kernel
theorem dX12_nextToken_126 : decode cX12_nextToken 126 = .ok (.getfield 191, 3) := by decide +kernel
theorem dX12_nextToken_129 : decode cX12_nextToken 129 = .ok (.ldc2_w 201, 3) := by decide +kernel
theorem dX12_nextToken_132 : decode cX12_nextToken 132 = .ok (.lcmp, 1) := by decide +kernel
theorem dX12_nextToken_133 : decode cX12_nextToken 133 = .ok (.ifCond .le 10, 3) := by decide +kernel
theorem dX12_nextToken_136 : decode cX12_nextToken 136 = .ok (.aload_n 0, 1) := by decide +kernel
theorem dX12_nextToken_137 : decode cX12_nextToken 137 = .ok (.getfield 191, 3) := by decide +kernel
theorem dX12_nextToken_140 : decode cX12_nextToken 140 = .ok (.goto 26, 3) := by decide +kernel
theorem dX12_nextToken_143 : decode cX12_nextToken 143 = .ok (.aload_n 0, 1) := by decide +kernel
theorem dX12_nextToken_144 : decode cX12_nextToken 144 = .ok (.getfield 191, 3) := by decide +kernel
theorem dX12_nextToken_147 : decode cX12_nextToken 147 = .ok (.ldc2_w 203, 3) := by decide +kernel
theorem dX12_nextToken_150 : decode cX12_nextToken 150 = .ok (.lmul, 1) := by decide +kernel
theorem dX12_nextToken_151 : decode cX12_nextToken 151 = .ok (.aload_n 0, 1) := by decide +kernel
theorem dX12_nextToken_152 : decode cX12_nextToken 152 = .ok (.getfield 25, 3) := by decide +kernel
theorem dX12_nextToken_155 : decode cX12_nextToken 155 = .ok (.aload_n 0, 1) := by decide +kernel
theorem dX12_nextToken_156 : decode cX12_nextToken 156 = .ok (.getfield 185, 3) := by decide +kernel
theorem dX12_nextToken_159 : decode cX12_nextToken 159 = .ok (.iaload, 1) := by decide +kernel
theorem dX12_nextToken_160 : decode cX12_nextToken 160 = .ok (.i2l, 1) := by decide +kernel
theorem dX12_nextToken_161 : decode cX12_nextToken 161 = .ok (.ladd, 1) := by decide +kernel
theorem dX12_nextToken_162 : decode cX12_nextToken 162 = .ok (.ldc2_w 205, 3) := by decide +kernel
theorem dX12_nextToken_165 : decode cX12_nextToken 165 = .ok (.lsub, 1) := by decide +kernel
theorem dX12_nextToken_166 : decode cX12_nextToken 166 = .ok (.putfield 191, 3) := by decide +kernel
theorem dX12_nextToken_169 : decode cX12_nextToken 169 = .ok (.aload_n 0, 1) := by decide +kernel
theorem dX12_nextToken_170 : decode cX12_nextToken 170 = .ok (.dup, 1) := by decide +kernel
theorem dX12_nextToken_171 : decode cX12_nextToken 171 = .ok (.getfield 185, 3) := by decide +kernel
theorem dX12_nextToken_174 : decode cX12_nextToken 174 = .ok (.iconst 1, 1) := by decide +kernel
theorem dX12_nextToken_175 : decode cX12_nextToken 175 = .ok (.iadd, 1) := by decide +kernel
theorem dX12_nextToken_176 : decode cX12_nextToken 176 = .ok (.putfield 185, 3) := by decide +kernel
theorem dX12_nextToken_179 : decode cX12_nextToken 179 = .ok (.goto (-81), 3) := by decide +kernel
theorem dX12_nextToken_182 : decode cX12_nextToken 182 = .ok (.aload_n 0, 1) := by decide +kernel
theorem dX12_nextToken_183 : decode cX12_nextToken 183 = .ok (.getfield 25, 3) := by decide +kernel
theorem dX12_nextToken_186 : decode cX12_nextToken 186 = .ok (.aload_n 0, 1) := by decide +kernel
theorem dX12_nextToken_187 : decode cX12_nextToken 187 = .ok (.getfield 188, 3) := by decide +kernel
theorem dX12_nextToken_190 : decode cX12_nextToken 190 = .ok (.iaload, 1) := by decide +kernel
theorem dX12_nextToken_191 : decode cX12_nextToken 191 = .ok (.invokestatic 207, 3) := by decide +kernel
theorem dX12_nextToken_194 : decode cX12_nextToken 194 = .ok (.ifCond .eq 110, 3) := by decide +kernel
theorem dX12_nextToken_197 : decode cX12_nextToken 197 = .ok (.aload_n 0, 1) := by decide +kernel
theorem dX12_nextToken_198 : decode cX12_nextToken 198 = .ok (.getfield 185, 3) := by decide +kernel
theorem dX12_nextToken_201 : decode cX12_nextToken 201 = .ok (.aload_n 0, 1) := by decide +kernel
theorem dX12_nextToken_202 : decode cX12_nextToken 202 = .ok (.getfield 182, 3) := by decide +kernel
theorem dX12_nextToken_205 : decode cX12_nextToken 205 = .ok (.if_icmp .ge 76, 3) := by decide +kernel
theorem dX12_nextToken_208 : decode cX12_nextToken 208 = .ok (.aload_n 0, 1) := by decide +kernel
theorem dX12_nextToken_209 : decode cX12_nextToken 209 = .ok (.getfield 25, 3) := by decide +kernel
theorem dX12_nextToken_212 : decode cX12_nextToken 212 = .ok (.aload_n 0, 1) := by decide +kernel
theorem dX12_nextToken_213 : decode cX12_nextToken 213 = .ok (.getfield 185, 3) := by decide +kernel
theorem dX12_nextToken_216 : decode cX12_nextToken 216 = .ok (.iaload, 1) := by decide +kernel
theorem dX12_nextToken_217 : decode cX12_nextToken 217 = .ok (.invokestatic 207, 3) := by decide +kernel
theorem dX12_nextToken_220 : decode cX12_nextToken 220 = .ok (.ifCond .eq 61, 3) := by decide +kernel
theorem dX12_nextToken_223 : decode cX12_nextToken 223 = .ok (.aload_n 0, 1) := by decide +kernel
theorem dX12_nextToken_224 : decode cX12_nextToken 224 = .ok (.aload_n 0, 1) := by decide +kernel
theorem dX12_nextToken_225 : decode cX12_nextToken 225 = .ok (.getfield 191, 3) := by decide +kernel
theorem dX12_nextToken_228 : decode cX12_nextToken 228 = .ok (.ldc2_w 210, 3) := by decide +kernel
theorem dX12_nextToken_231 : decode cX12_nextToken 231 = .ok (.lcmp, 1) := by decide +kernel
theorem dX12_nextToken_232 : decode cX12_nextToken 232 = .ok (.ifCond .le 10, 3) := by decide +kernel
theorem dX12_nextToken_235 : decode cX12_nextToken 235 = .ok (.aload_n 0, 1) := by decide +kernel
theorem dX12_nextToken_236 : decode cX12_nextToken 236 = .ok (.getfield 191, 3) := by decide +kernel
theorem dX12_nextToken_239 : decode cX12_nextToken 239 = .ok (.goto 26, 3) := by decide +kernel
theorem dX12_nextToken_242 : decode cX12_nextToken 242 = .ok (.aload_n 0, 1) := by decide +kernel
theorem dX12_nextToken_243 : decode cX12_nextToken 243 = .ok (.getfield 191, 3) := by decide +kernel
theorem dX12_nextToken_246 : decode cX12_nextToken 246 = .ok (.ldc2_w 212, 3) := by decide +kernel
theorem dX12_nextToken_249 : decode cX12_nextToken 249 = .ok (.lmul, 1) := by decide +kernel
theorem dX12_nextToken_250 : decode cX12_nextToken 250 = .ok (.aload_n 0, 1) := by decide +kernel
theorem dX12_nextToken_251 : decode cX12_nextToken 251 = .ok (.getfield 25, 3) := by decide +kernel
theorem dX12_nextToken_254 : decode cX12_nextToken 254 = .ok (.aload_n 0, 1) := by decide +kernel
theorem dX12_nextToken_255 : decode cX12_nextToken 255 = .ok (.getfield 185, 3) := by decide +kernel
theorem dX12_nextToken_258 : decode cX12_nextToken 258 = .ok (.iaload, 1) := by decide +kernel
theorem dX12_nextToken_259 : decode cX12_nextToken 259 = .ok (.i2l, 1) := by decide +kernel
theorem dX12_nextToken_260 : decode cX12_nextToken 260 = .ok (.ladd, 1) := by decide +kernel
theorem dX12_nextToken_261 : decode cX12_nextToken 261 = .ok (.ldc2_w 214, 3) := by decide +kernel
theorem dX12_nextToken_264 : decode cX12_nextToken 264 = .ok (.lsub, 1) := by decide +kernel
theorem dX12_nextToken_265 : decode cX12_nextToken 265 = .ok (.putfield 191, 3) := by decide +kernel
theorem dX12_nextToken_268 : decode cX12_nextToken 268 = .ok (.aload_n 0, 1) := by decide +kernel
theorem dX12_nextToken_269 : decode cX12_nextToken 269 = .ok (.dup, 1) := by decide +kernel
theorem dX12_nextToken_270 : decode cX12_nextToken 270 = .ok (.getfield 185, 3) := by decide +kernel
theorem dX12_nextToken_273 : decode cX12_nextToken 273 = .ok (.iconst 1, 1) := by decide +kernel
theorem dX12_nextToken_274 : decode cX12_nextToken 274 = .ok (.iadd, 1) := by decide +kernel
theorem dX12_nextToken_275 : decode cX12_nextToken 275 = .ok (.putfield 185, 3) := by decide +kernel
theorem dX12_nextToken_278 : decode cX12_nextToken 278 = .ok (.goto (-81), 3) := by decide +kernel
theorem dX12_nextToken_281 : decode cX12_nextToken 281 = .ok (.aload_n 0, 1) := by decide +kernel
theorem dX12_nextToken_282 : decode cX12_nextToken 282 = .ok (.aload_n 0, 1) := by decide +kernel
theorem dX12_nextToken_283 : decode cX12_nextToken 283 = .ok (.getfield 191, 3) := by decide +kernel
theorem dX12_nextToken_286 : decode cX12_nextToken 286 = .ok (.ldc2_w 210, 3) := by decide +kernel
theorem dX12_nextToken_289 : decode cX12_nextToken 289 = .ok (.lcmp, 1) := by decide +kernel
theorem dX12_nextToken_290 : decode cX12_nextToken 290 = .ok (.ifCond .le 7, 3) := by decide +kernel
theorem dX12_nextToken_293 : decode cX12_nextToken 293 = .ok (.iconst 4, 1) := by decide +kernel
theorem dX12_nextToken_294 : decode cX12_nextToken 294 = .ok (.goto 4, 3) := by decide +kernel
theorem dX12_nextToken_297 : decode cX12_nextToken 297 = .ok (.iconst 2, 1) := by decide +kernel
theorem dX12_nextToken_298 : decode cX12_nextToken 298 = .ok (.putfield 195, 3) := by decide +kernel
theorem dX12_nextToken_301 : decode cX12_nextToken 301 = .ok (.goto 36, 3) := by decide +kernel
theorem dX12_nextToken_304 : decode cX12_nextToken 304 = .ok (.aload_n 0, 1) := by decide +kernel
theorem dX12_nextToken_305 : decode cX12_nextToken 305 = .ok (.aload_n 0, 1) := by decide +kernel
theorem dX12_nextToken_306 : decode cX12_nextToken 306 = .ok (.getfield 25, 3) := by decide +kernel
theorem dX12_nextToken_309 : decode cX12_nextToken 309 = .ok (.aload_n 0, 1) := by decide +kernel
theorem dX12_nextToken_310 : decode cX12_nextToken 310 = .ok (.getfield 188, 3) := by decide +kernel
theorem dX12_nextToken_313 : decode cX12_nextToken 313 = .ok (.iaload, 1) := by decide +kernel
theorem dX12_nextToken_314 : decode cX12_nextToken 314 = .ok (.bipush 59, 2) := by decide +kernel
theorem dX12_nextToken_316 : decode cX12_nextToken 316 = .ok (.if_icmp .ne 7, 3) := by decide +kernel
theorem dX12_nextToken_319 : decode cX12_nextToken 319 = .ok (.iconst 3, 1) := by decide +kernel
theorem dX12_nextToken_320 : decode cX12_nextToken 320 = .ok (.goto 4, 3) := by decide +kernel
theorem dX12_nextToken_323 : decode cX12_nextToken 323 = .ok (.iconst 4, 1) := by decide +kernel
theorem dX12_nextToken_324 : decode cX12_nextToken 324 = .ok (.putfield 195, 3) := by decide +kernel
theorem dX12_nextToken_327 : decode cX12_nextToken 327 = .ok (.aload_n 0, 1) := by decide +kernel
theorem dX12_nextToken_328 : decode cX12_nextToken 328 = .ok (.dup, 1) := by decide +kernel
theorem dX12_nextToken_329 : decode cX12_nextToken 329 = .ok (.getfield 185, 3) := by decide +kernel
theorem dX12_nextToken_332 : decode cX12_nextToken 332 = .ok (.iconst 1, 1) := by decide +kernel
theorem dX12_nextToken_333 : decode cX12_nextToken 333 = .ok (.iadd, 1) := by decide +kernel
theorem dX12_nextToken_334 : decode cX12_nextToken 334 = .ok (.putfield 185, 3) := by decide +kernel
theorem dX12_nextToken_337 : decode cX12_nextToken 337 = .ok (.return_, 1) := by decide +kernel
theorem dX12_wordOf_0 : decode cX12_wordOf 0 = .ok (.iconst (-1), 1) := by decide +kernel
theorem dX12_wordOf_1 : decode cX12_wordOf 1 = .ok (.istore_n 2, 1) := by decide +kernel
theorem dX12_wordOf_2 : decode cX12_wordOf 2 = .ok (.iconst 0, 1) := by decide +kernel
theorem dX12_wordOf_3 : decode cX12_wordOf 3 = .ok (.istore_n 3, 1) := by decide +kernel
theorem dX12_wordOf_4 : decode cX12_wordOf 4 = .ok (.iload_n 3, 1) := by decide +kernel
theorem dX12_wordOf_5 : decode cX12_wordOf 5 = .ok (.aload_n 1, 1) := by decide +kernel
theorem dX12_wordOf_6 : decode cX12_wordOf 6 = .ok (.arraylength, 1) := by decide +kernel
theorem dX12_wordOf_7 : decode cX12_wordOf 7 = .ok (.bipush 8, 2) := by decide +kernel
theorem dX12_wordOf_9 : decode cX12_wordOf 9 = .ok (.idiv, 1) := by decide +kernel
theorem dX12_wordOf_10 : decode cX12_wordOf 10 = .ok (.if_icmp .ge 94, 3) := by decide +kernel
theorem dX12_wordOf_13 : decode cX12_wordOf 13 = .ok (.aload_n 0, 1) := by decide +kernel
theorem dX12_wordOf_14 : decode cX12_wordOf 14 = .ok (.getfield 195, 3) := by decide +kernel
theorem dX12_wordOf_17 : decode cX12_wordOf 17 = .ok (.iconst 1, 1) := by decide +kernel
theorem dX12_wordOf_18 : decode cX12_wordOf 18 = .ok (.if_icmp .ne 86, 3) := by decide +kernel
theorem dX12_wordOf_21 : decode cX12_wordOf 21 = .ok (.lconst 0, 1) := by decide +kernel
theorem dX12_wordOf_22 : decode cX12_wordOf 22 = .ok (.lstore 4, 2) := by decide +kernel
theorem dX12_wordOf_24 : decode cX12_wordOf 24 = .ok (.iconst 0, 1) := by decide +kernel
theorem dX12_wordOf_25 : decode cX12_wordOf 25 = .ok (.istore 6, 2) := by decide +kernel
theorem dX12_wordOf_27 : decode cX12_wordOf 27 = .ok (.iload 6, 2) := by decide +kernel
theorem dX12_wordOf_29 : decode cX12_wordOf 29 = .ok (.bipush 8, 2) := by decide +kernel
theorem dX12_wordOf_31 : decode cX12_wordOf 31 = .ok (.if_icmp .ge 51, 3) := by decide +kernel
theorem dX12_wordOf_34 : decode cX12_wordOf 34 = .ok (.aload_n 1, 1) := by decide +kernel
theorem dX12_wordOf_35 : decode cX12_wordOf 35 = .ok (.bipush 8, 2) := by decide +kernel
theorem dX12_wordOf_37 : decode cX12_wordOf 37 = .ok (.iload_n 3, 1) := by decide +kernel
theorem dX12_wordOf_38 : decode cX12_wordOf 38 = .ok (.imul, 1) := by decide +kernel
theorem dX12_wordOf_39 : decode cX12_wordOf 39 = .ok (.iload 6, 2) := by decide +kernel
theorem dX12_wordOf_41 : decode cX12_wordOf 41 = .ok (.iadd, 1) := by decide +kernel
theorem dX12_wordOf_42 : decode cX12_wordOf 42 = .ok (.caload, 1) := by decide +kernel
theorem dX12_wordOf_43 : decode cX12_wordOf 43 = .ok (.bipush 32, 2) := by decide +kernel
theorem dX12_wordOf_45 : decode cX12_wordOf 45 = .ok (.if_icmp .ne 8, 3) := by decide +kernel
theorem dX12_wordOf_48 : decode cX12_wordOf 48 = .ok (.lload 4, 2) := by decide +kernel
theorem dX12_wordOf_50 : decode cX12_wordOf 50 = .ok (.goto 24, 3) := by decide +kernel
theorem dX12_wordOf_53 : decode cX12_wordOf 53 = .ok (.lload 4, 2) := by decide +kernel
theorem dX12_wordOf_55 : decode cX12_wordOf 55 = .ok (.ldc2_w 203, 3) := by decide +kernel
theorem dX12_wordOf_58 : decode cX12_wordOf 58 = .ok (.lmul, 1) := by decide +kernel
theorem dX12_wordOf_59 : decode cX12_wordOf 59 = .ok (.aload_n 1, 1) := by decide +kernel
theorem dX12_wordOf_60 : decode cX12_wordOf 60 = .ok (.bipush 8, 2) := by decide +kernel
theorem dX12_wordOf_62 : decode cX12_wordOf 62 = .ok (.iload_n 3, 1) := by decide +kernel
theorem dX12_wordOf_63 : decode cX12_wordOf 63 = .ok (.imul, 1) := by decide +kernel
theorem dX12_wordOf_64 : decode cX12_wordOf 64 = .ok (.iload 6, 2) := by decide +kernel
theorem dX12_wordOf_66 : decode cX12_wordOf 66 = .ok (.iadd, 1) := by decide +kernel
theorem dX12_wordOf_67 : decode cX12_wordOf 67 = .ok (.caload, 1) := by decide +kernel
theorem dX12_wordOf_68 : decode cX12_wordOf 68 = .ok (.i2l, 1) := by decide +kernel
theorem dX12_wordOf_69 : decode cX12_wordOf 69 = .ok (.ladd, 1) := by decide +kernel
theorem dX12_wordOf_70 : decode cX12_wordOf 70 = .ok (.ldc2_w 205, 3) := by decide +kernel
theorem dX12_wordOf_73 : decode cX12_wordOf 73 = .ok (.lsub, 1) := by decide +kernel
theorem dX12_wordOf_74 : decode cX12_wordOf 74 = .ok (.lstore 4, 2) := by decide +kernel
theorem dX12_wordOf_76 : decode cX12_wordOf 76 = .ok (.iinc 6 1, 3) := by decide +kernel
theorem dX12_wordOf_79 : decode cX12_wordOf 79 = .ok (.goto (-52), 3) := by decide +kernel
theorem dX12_wordOf_82 : decode cX12_wordOf 82 = .ok (.lload 4, 2) := by decide +kernel
theorem dX12_wordOf_84 : decode cX12_wordOf 84 = .ok (.aload_n 0, 1) := by decide +kernel
theorem dX12_wordOf_85 : decode cX12_wordOf 85 = .ok (.getfield 191, 3) := by decide +kernel
theorem dX12_wordOf_88 : decode cX12_wordOf 88 = .ok (.lcmp, 1) := by decide +kernel
theorem dX12_wordOf_89 : decode cX12_wordOf 89 = .ok (.ifCond .ne 7, 3) := by decide +kernel
theorem dX12_wordOf_92 : decode cX12_wordOf 92 = .ok (.iload_n 3, 1) := by decide +kernel
theorem dX12_wordOf_93 : decode cX12_wordOf 93 = .ok (.goto 4, 3) := by decide +kernel
theorem dX12_wordOf_96 : decode cX12_wordOf 96 = .ok (.iload_n 2, 1) := by decide +kernel
theorem dX12_wordOf_97 : decode cX12_wordOf 97 = .ok (.istore_n 2, 1) := by decide +kernel
theorem dX12_wordOf_98 : decode cX12_wordOf 98 = .ok (.iinc 3 1, 3) := by decide +kernel
theorem dX12_wordOf_101 : decode cX12_wordOf 101 = .ok (.goto (-97), 3) := by decide +kernel
theorem dX12_wordOf_104 : decode cX12_wordOf 104 = .ok (.iload_n 2, 1) := by decide +kernel
theorem dX12_wordOf_105 : decode cX12_wordOf 105 = .ok (.ireturn, 1) := by decide +kernel
theorem dX12_takesNumber_0 : decode cX12_takesNumber 0 = .ok (.aload_n 0, 1) := by decide +kernel
theorem dX12_takesNumber_1 : decode cX12_takesNumber 1 = .ok (.getfield 195, 3) := by decide +kernel
theorem dX12_takesNumber_4 : decode cX12_takesNumber 4 = .ok (.iconst 2, 1) := by decide +kernel
theorem dX12_takesNumber_5 : decode cX12_takesNumber 5 = .ok (.if_icmp .ne 24, 3) := by decide +kernel
theorem dX12_takesNumber_8 : decode cX12_takesNumber 8 = .ok (.aload_n 0, 1) := by decide +kernel
theorem dX12_takesNumber_9 : decode cX12_takesNumber 9 = .ok (.getfield 191, 3) := by decide +kernel
theorem dX12_takesNumber_12 : decode cX12_takesNumber 12 = .ok (.l2i, 1) := by decide +kernel
theorem dX12_takesNumber_13 : decode cX12_takesNumber 13 = .ok (.iload_n 1, 1) := by decide +kernel
theorem dX12_takesNumber_14 : decode cX12_takesNumber 14 = .ok (.iload_n 2, 1) := by decide +kernel
theorem dX12_takesNumber_15 : decode cX12_takesNumber 15 = .ok (.invokestatic 52, 3) := by decide +kernel
theorem dX12_takesNumber_18 : decode cX12_takesNumber 18 = .ok (.ifCond .eq 11, 3) := by decide +kernel
theorem dX12_takesNumber_21 : decode cX12_takesNumber 21 = .ok (.aload_n 0, 1) := by decide +kernel
theorem dX12_takesNumber_22 : decode cX12_takesNumber 22 = .ok (.getfield 191, 3) := by decide +kernel
theorem dX12_takesNumber_25 : decode cX12_takesNumber 25 = .ok (.l2i, 1) := by decide +kernel
theorem dX12_takesNumber_26 : decode cX12_takesNumber 26 = .ok (.goto 4, 3) := by decide +kernel
theorem dX12_takesNumber_29 : decode cX12_takesNumber 29 = .ok (.iconst (-1), 1) := by decide +kernel
theorem dX12_takesNumber_30 : decode cX12_takesNumber 30 = .ok (.istore_n 3, 1) := by decide +kernel
theorem dX12_takesNumber_31 : decode cX12_takesNumber 31 = .ok (.iload_n 3, 1) := by decide +kernel
theorem dX12_takesNumber_32 : decode cX12_takesNumber 32 = .ok (.ifCond .lt 7, 3) := by decide +kernel
theorem dX12_takesNumber_35 : decode cX12_takesNumber 35 = .ok (.aload_n 0, 1) := by decide +kernel
theorem dX12_takesNumber_36 : decode cX12_takesNumber 36 = .ok (.invokevirtual 216, 3) := by decide +kernel
theorem dX12_takesNumber_39 : decode cX12_takesNumber 39 = .ok (.iload_n 3, 1) := by decide +kernel
theorem dX12_takesNumber_40 : decode cX12_takesNumber 40 = .ok (.ireturn, 1) := by decide +kernel
theorem dX12_readsPresent_0 : decode cX12_readsPresent 0 = .ok (.aload_n 0, 1) := by decide +kernel
theorem dX12_readsPresent_1 : decode cX12_readsPresent 1 = .ok (.getfield 9, 3) := by decide +kernel
theorem dX12_readsPresent_4 : decode cX12_readsPresent 4 = .ok (.iconst 2, 1) := by decide +kernel
theorem dX12_readsPresent_5 : decode cX12_readsPresent 5 = .ok (.iaload, 1) := by decide +kernel
theorem dX12_readsPresent_6 : decode cX12_readsPresent 6 = .ok (.bipush 8, 2) := by decide +kernel
theorem dX12_readsPresent_8 : decode cX12_readsPresent 8 = .ok (.if_icmp .ne 5, 3) := by decide +kernel
theorem dX12_readsPresent_11 : decode cX12_readsPresent 11 = .ok (.iconst 0, 1) := by decide +kernel
theorem dX12_readsPresent_12 : decode cX12_readsPresent 12 = .ok (.ireturn, 1) := by decide +kernel
theorem dX12_readsPresent_13 : decode cX12_readsPresent 13 = .ok (.aload_n 0, 1) := by decide +kernel
theorem dX12_readsPresent_14 : decode cX12_readsPresent 14 = .ok (.invokevirtual 216, 3) := by decide +kernel
theorem dX12_readsPresent_17 : decode cX12_readsPresent 17 = .ok (.aload_n 0, 1) := by decide +kernel
theorem dX12_readsPresent_18 : decode cX12_readsPresent 18 = .ok (.iconst 0, 1) := by decide +kernel
theorem dX12_readsPresent_19 : decode cX12_readsPresent 19 = .ok (.aload_n 0, 1) := by decide +kernel
theorem dX12_readsPresent_20 : decode cX12_readsPresent 20 = .ok (.getfield 9, 3) := by decide +kernel
theorem dX12_readsPresent_23 : decode cX12_readsPresent 23 = .ok (.iconst 1, 1) := by decide +kernel
theorem dX12_readsPresent_24 : decode cX12_readsPresent 24 = .ok (.iaload, 1) := by decide +kernel
theorem dX12_readsPresent_25 : decode cX12_readsPresent 25 = .ok (.iconst 1, 1) := by decide +kernel
theorem dX12_readsPresent_26 : decode cX12_readsPresent 26 = .ok (.isub, 1) := by decide +kernel
theorem dX12_readsPresent_27 : decode cX12_readsPresent 27 = .ok (.invokevirtual 219, 3) := by decide +kernel
theorem dX12_readsPresent_30 : decode cX12_readsPresent 30 = .ok (.istore_n 1, 1) := by decide +kernel
theorem dX12_readsPresent_31 : decode cX12_readsPresent 31 = .ok (.iload_n 1, 1) := by decide +kernel
theorem dX12_readsPresent_32 : decode cX12_readsPresent 32 = .ok (.ifCond .ge 5, 3) := by decide +kernel
theorem dX12_readsPresent_35 : decode cX12_readsPresent 35 = .ok (.iconst 0, 1) := by decide +kernel
theorem dX12_readsPresent_36 : decode cX12_readsPresent 36 = .ok (.ireturn, 1) := by decide +kernel
theorem dX12_readsPresent_37 : decode cX12_readsPresent 37 = .ok (.aload_n 0, 1) := by decide +kernel
theorem dX12_readsPresent_38 : decode cX12_readsPresent 38 = .ok (.getfield 9, 3) := by decide +kernel
theorem dX12_readsPresent_41 : decode cX12_readsPresent 41 = .ok (.iconst 2, 1) := by decide +kernel
theorem dX12_readsPresent_42 : decode cX12_readsPresent 42 = .ok (.iaload, 1) := by decide +kernel
theorem dX12_readsPresent_43 : decode cX12_readsPresent 43 = .ok (.istore_n 2, 1) := by decide +kernel
theorem dX12_readsPresent_44 : decode cX12_readsPresent 44 = .ok (.aload_n 0, 1) := by decide +kernel
theorem dX12_readsPresent_45 : decode cX12_readsPresent 45 = .ok (.iload_n 1, 1) := by decide +kernel
theorem dX12_readsPresent_46 : decode cX12_readsPresent 46 = .ok (.iconst 0, 1) := by decide +kernel
theorem dX12_readsPresent_47 : decode cX12_readsPresent 47 = .ok (.invokevirtual 130, 3) := by decide +kernel
theorem dX12_readsPresent_50 : decode cX12_readsPresent 50 = .ok (.aload_n 0, 1) := by decide +kernel
theorem dX12_readsPresent_51 : decode cX12_readsPresent 51 = .ok (.aload_n 0, 1) := by decide +kernel
theorem dX12_readsPresent_52 : decode cX12_readsPresent 52 = .ok (.getfield 32, 3) := by decide +kernel
theorem dX12_readsPresent_55 : decode cX12_readsPresent 55 = .ok (.invokevirtual 222, 3) := by decide +kernel
theorem dX12_readsPresent_58 : decode cX12_readsPresent 58 = .ok (.iconst 1, 1) := by decide +kernel
theorem dX12_readsPresent_59 : decode cX12_readsPresent 59 = .ok (.if_icmp .ne 28, 3) := by decide +kernel
theorem dX12_readsPresent_62 : decode cX12_readsPresent 62 = .ok (.aload_n 0, 1) := by decide +kernel
theorem dX12_readsPresent_63 : decode cX12_readsPresent 63 = .ok (.invokevirtual 216, 3) := by decide +kernel
theorem dX12_readsPresent_66 : decode cX12_readsPresent 66 = .ok (.aload_n 0, 1) := by decide +kernel
theorem dX12_readsPresent_67 : decode cX12_readsPresent 67 = .ok (.iconst 0, 1) := by decide +kernel
theorem dX12_readsPresent_68 : decode cX12_readsPresent 68 = .ok (.bipush 99, 2) := by decide +kernel
theorem dX12_readsPresent_70 : decode cX12_readsPresent 70 = .ok (.invokevirtual 219, 3) := by decide +kernel
theorem dX12_readsPresent_73 : decode cX12_readsPresent 73 = .ok (.istore_n 3, 1) := by decide +kernel
theorem dX12_readsPresent_74 : decode cX12_readsPresent 74 = .ok (.iload_n 3, 1) := by decide +kernel
theorem dX12_readsPresent_75 : decode cX12_readsPresent 75 = .ok (.ifCond .ge 5, 3) := by decide +kernel
theorem dX12_readsPresent_78 : decode cX12_readsPresent 78 = .ok (.iconst 0, 1) := by decide +kernel
theorem dX12_readsPresent_79 : decode cX12_readsPresent 79 = .ok (.ireturn, 1) := by decide +kernel
theorem dX12_readsPresent_80 : decode cX12_readsPresent 80 = .ok (.aload_n 0, 1) := by decide +kernel
theorem dX12_readsPresent_81 : decode cX12_readsPresent 81 = .ok (.iload_n 2, 1) := by decide +kernel
theorem dX12_readsPresent_82 : decode cX12_readsPresent 82 = .ok (.iconst 1, 1) := by decide +kernel
theorem dX12_readsPresent_83 : decode cX12_readsPresent 83 = .ok (.iload_n 3, 1) := by decide +kernel
theorem dX12_readsPresent_84 : decode cX12_readsPresent 84 = .ok (.invokevirtual 60, 3) := by decide +kernel
theorem dX12_readsPresent_87 : decode cX12_readsPresent 87 = .ok (.aload_n 0, 1) := by decide +kernel
theorem dX12_readsPresent_88 : decode cX12_readsPresent 88 = .ok (.aload_n 0, 1) := by decide +kernel
theorem dX12_readsPresent_89 : decode cX12_readsPresent 89 = .ok (.getfield 35, 3) := by decide +kernel
theorem dX12_readsPresent_92 : decode cX12_readsPresent 92 = .ok (.invokevirtual 222, 3) := by decide +kernel
theorem dX12_readsPresent_95 : decode cX12_readsPresent 95 = .ok (.istore_n 3, 1) := by decide +kernel
theorem dX12_readsPresent_96 : decode cX12_readsPresent 96 = .ok (.iload_n 3, 1) := by decide +kernel
theorem dX12_readsPresent_97 : decode cX12_readsPresent 97 = .ok (.ifCond .lt 60, 3) := by decide +kernel
theorem dX12_readsPresent_100 : decode cX12_readsPresent 100 = .ok (.aload_n 0, 1) := by decide +kernel
theorem dX12_readsPresent_101 : decode cX12_readsPresent 101 = .ok (.iload_n 2, 1) := by decide +kernel
theorem dX12_readsPresent_102 : decode cX12_readsPresent 102 = .ok (.iconst 0, 1) := by decide +kernel
theorem dX12_readsPresent_103 : decode cX12_readsPresent 103 = .ok (.invokevirtual 56, 3) := by decide +kernel
theorem dX12_readsPresent_106 : decode cX12_readsPresent 106 = .ok (.bipush 6, 2) := by decide +kernel
theorem dX12_readsPresent_108 : decode cX12_readsPresent 108 = .ok (.if_icmp .ne 5, 3) := by decide +kernel
